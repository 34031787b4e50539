/-! the text of a part -/
def sm_tx0 (m : Int → Int) (p : Int) : List Int := ((((([] ++ sp_dg p) ++ [40]) ++ sp_dg (m (5 + 26 * p))) ++ [47]) ++ sp_dg (m (6 + 26 * p))) ++ [41]
def sm_tx1 (m : Int → Int) (p : Int) : List Int := if m (7 + 26 * p) = -1 then sm_tx0 m p else (sm_tx0 m p ++ [62]) ++ sp_dg (m (7 + 26 * p))
def sm_txn (P L : Int → Int) (t : List Int) : Nat → List Int
  | 0 => t
  | k + 1 => (((sm_txn P L t k ++ [32]) ++ (if P k = -1 then [45] else sp_dg (P k))) ++ [42]) ++ sp_dg (L k)
def sm_tx (m : Int → Int) (p : Int) : List Int := sm_txn (sm_pf m p) (sm_lf m p) (sm_tx1 m p) (sm_n m p).toNat
theorem sm_txn_y {P L : Int → Int} {t : List Int} {k : Nat} (h : P k = -1) : sm_txn P L t (k + 1) = (((sm_txn P L t k ++ [32]) ++ [45]) ++ [42]) ++ sp_dg (L k) := by
  show (((sm_txn P L t k ++ [32]) ++ (if P k = -1 then [45] else sp_dg (P k))) ++ [42]) ++ sp_dg (L k) = _
  rw [if_pos h]
theorem sm_txn_n {P L : Int → Int} {t : List Int} {k : Nat} (h : ¬ P k = -1) : sm_txn P L t (k + 1) = (((sm_txn P L t k ++ [32]) ++ sp_dg (P k)) ++ [42]) ++ sp_dg (L k) := by
  show (((sm_txn P L t k ++ [32]) ++ (if P k = -1 then [45] else sp_dg (P k))) ++ [42]) ++ sp_dg (L k) = _
  rw [if_neg h]
theorem qt_l1 (t : List Int) (x : Int) : (t ++ [x]).length = t.length + 1 := by rw [List.length_append]; rfl
theorem qt_l2 (t : List Int) (x : Int) : (t ++ sp_dg x).length ≤ t.length + 2 ∧ (x ≤ 9 → (t ++ sp_dg x).length = t.length + 1) := by
  rw [List.length_append, sp_dg_len]
  split <;> omega
def sM_L (h : qa_H) (μ : Nat) (F : Nat → Int) (t : List Int) : Prop := h μ = some (qa_MoF μ (sN_put F 19 (t.length : Int))) ∧ ∃ li : Int → Int, h (μ + 7) = some (qa_ia 120 li) ∧ ∀ j : Nat, j < t.length → t[j]? = some (li j)
theorem c_M_sign {E : qa_V} {σ : qa_S} {μ : Nat} {F : Nat → Int} {t : List Int} {x : Int} (hlo : E.1 ≤ μ) (hL : sM_L σ.1 μ F t) (hl : t.length < 120) : qa_T E qm_M_sign 0 0 [.ref μ, .int (qa_i x)] σ (fun o9 τ => o9 = .inl none ∧ τ.2 = σ.2 ∧ sM_L τ.1 μ F (t ++ [x]) ∧ ∀ q, (q ≠ μ ∧ q ≠ μ + 7) → τ.1 q = σ.1 q) := by
  refine qa_enterQ (by decide) rfl qm_M_sign_ok rfl rfl (fun Q9 hQ => ?_)
  obtain ⟨hM, li, hli, hg⟩ := hL
  have e0 : σ.2 = σ.2 := rfl
  have fr : ∀ q, (q ≠ μ ∧ q ≠ μ + 7) → σ.1 q = σ.1 q := fun _ _ => rfl
  refine qa_aload_n (pc' := 1) ⟨rfl, rfl⟩ rfl ?_
  refine qa_getf (pc' := 4) ⟨rfl, rfl⟩ qg_10_38 (by assumption) rfl ?_
  refine qa_aload_n (pc' := 5) ⟨rfl, rfl⟩ rfl ?_
  refine qa_getf (v := .int (qa_i (t.length : Int))) (pc' := 8) ⟨rfl, rfl⟩ qg_10_245 (by assumption) rfl ?_
  refine qa_iload_n (pc' := 9) ⟨rfl, rfl⟩ rfl ?_
  refine qa_iastore (pc' := 10) ⟨rfl, rfl⟩ hli (by omega) (by omega) ?_
  refine qa_gz (fun τ1 e1 w1 f1 => ?_)
  replace hM := (f1 _ (by omega)).trans hM
  replace fr := fun q hq => (f1 q (by have := hq; omega)).trans (fr q hq)
  replace e0 := e1.trans e0
  have hli := w1
  refine qa_aload_n (pc' := 11) ⟨rfl, rfl⟩ rfl ?_
  refine qa_dup (pc' := 12) ⟨rfl, rfl⟩ rfl ?_
  refine qa_getf (v := .int (qa_i (t.length : Int))) (pc' := 15) ⟨rfl, rfl⟩ qg_10_245 (by assumption) rfl ?_
  refine qa_iconst (pc' := 16) ⟨rfl, rfl⟩ ?_
  refine qa_iadd (z := ((t.length + 1 : Nat) : Int)) (pc' := 17) ⟨rfl, rfl⟩ (by omega) ?_
  refine qa_putf (fs' := [_, _, _, _, _, _, _, _, _, _, _, _, _, _, _, _, _, _, _, _, _, _, _, _, _, _, _]) (pc' := 20) ⟨rfl, rfl⟩ qg_10_245 qw_9 hM (by omega) rfl (fun r hr => by cases hr; exact ⟨rfl, Or.inl rfl⟩) rfl rfl ?_
  refine qa_gz (fun τ2 e2 w2 f2 => ?_)
  replace hli := (f2 _ (by omega)).trans hli
  replace fr := fun q hq => (f2 q (by have := hq; omega)).trans (fr q hq)
  replace e0 := e2.trans e0
  have hM : τ2.1 μ = some (qa_MoF μ (sN_put F 19 (((t ++ [x]).length : Nat) : Int))) := by rw [qt_l1]; exact w2
  refine qa_return rfl rfl (hQ _ _ ⟨rfl, e0, ⟨hM, _, hli, sB_add hg⟩, fr⟩)
theorem c_M_writesNumber {E : qa_V} {σ : qa_S} {μ : Nat} {F : Nat → Int} {t : List Int} {x : Int} (hlo : E.1 ≤ μ) (hL : sM_L σ.1 μ F t) (hx : 0 ≤ x ∧ x ≤ 99) (hl : t.length < 118) : qa_T E qm_M_writesNumber 0 0 [.ref μ, .int (qa_i x)] σ (fun o9 τ => o9 = .inl none ∧ τ.2 = σ.2 ∧ sM_L τ.1 μ F (t ++ sp_dg x) ∧ ∀ q, (q ≠ μ ∧ q ≠ μ + 7) → τ.1 q = σ.1 q) := by
  refine qa_enterQ (by decide) rfl qm_M_writesNumber_ok rfl rfl (fun Q9 hQ => ?_)
  have hM := hL.1
  refine qa_iload_n (pc' := 1) ⟨rfl, rfl⟩ rfl ?_
  refine qa_bipush (z := 9) (pc' := 3) ⟨rfl, rfl⟩ rfl ?_
  refine qa_icmp_le (pc' := 6) (tgt := 17) ⟨rfl, rfl⟩ rfl (by omega) (by omega) (fun hc1 => ?_) (fun hc1 => ?_)
  · refine qa_aload_n (pc' := 18) ⟨rfl, rfl⟩ rfl ?_
    refine qa_bipush (z := 48) (pc' := 20) ⟨rfl, rfl⟩ rfl ?_
    refine qa_iload_n (pc' := 21) ⟨rfl, rfl⟩ rfl ?_
    refine qa_bipush (z := 10) (pc' := 23) ⟨rfl, rfl⟩ rfl ?_
    refine qa_irem (pc' := 24) ⟨rfl, rfl⟩ (by omega) (by omega) (by omega) (by omega) rfl ?_
    refine qa_iadd (z := 48 + x) (pc' := 25) ⟨rfl, rfl⟩ (by omega) ?_
    refine qa_callV rfl qf_M_sign ql_10_248 (c_M_sign (E := E) hlo hL (by omega)) hM rfl rfl rfl (qa_lt9 rfl) (qa_le9 rfl) (qa_le9 rfl) (qa_le9 rfl) (fun o9 τ9 hq9 => ?_)
    obtain ⟨rfl, e1, hL1, f1⟩ := hq9
    refine qa_nx (pc' := 28) (st' := []) rfl rfl rfl rfl ?_
    refine qa_return rfl rfl (hQ _ _ ⟨rfl, e1, by rw [show sp_dg x = [48 + x] from if_pos hc1]; exact hL1, f1⟩)
  · refine qa_aload_n (pc' := 7) ⟨rfl, rfl⟩ rfl ?_
    refine qa_bipush (z := 48) (pc' := 9) ⟨rfl, rfl⟩ rfl ?_
    refine qa_iload_n (pc' := 10) ⟨rfl, rfl⟩ rfl ?_
    refine qa_bipush (z := 10) (pc' := 12) ⟨rfl, rfl⟩ rfl ?_
    refine qa_idiv (pc' := 13) ⟨rfl, rfl⟩ (by omega) (by omega) (by omega) (by omega) rfl ?_
    refine qa_iadd (pc' := 14) ⟨rfl, rfl⟩ rfl ?_
    refine qa_callV rfl qf_M_sign ql_10_248 (c_M_sign (E := E) hlo hL (by omega)) hM rfl rfl rfl (qa_lt9 rfl) (qa_le9 rfl) (qa_le9 rfl) (qa_le9 rfl) (fun o9 τ9 hq9 => ?_)
    obtain ⟨rfl, e1, hL1, f1⟩ := hq9
    refine qa_nx (pc' := 17) (st' := []) rfl rfl rfl rfl ?_
    have hM1 := hL1.1
    have l1 := qt_l1 t (48 + x / 10)
    refine qa_aload_n (pc' := 18) ⟨rfl, rfl⟩ rfl ?_
    refine qa_bipush (z := 48) (pc' := 20) ⟨rfl, rfl⟩ rfl ?_
    refine qa_iload_n (pc' := 21) ⟨rfl, rfl⟩ rfl ?_
    refine qa_bipush (z := 10) (pc' := 23) ⟨rfl, rfl⟩ rfl ?_
    refine qa_irem (pc' := 24) ⟨rfl, rfl⟩ (by omega) (by omega) (by omega) (by omega) rfl ?_
    refine qa_iadd (pc' := 25) ⟨rfl, rfl⟩ rfl ?_
    refine qa_callV rfl qf_M_sign ql_10_248 (c_M_sign (E := E) hlo hL1 (by omega)) hM1 rfl rfl rfl (qa_lt9 rfl) (qa_le9 rfl) (qa_le9 rfl) (qa_le9 rfl) (fun o9 τ9 hq9 => ?_)
    obtain ⟨rfl, e2, hL2, f2⟩ := hq9
    refine qa_nx (pc' := 28) (st' := []) rfl rfl rfl rfl ?_
    refine qa_return rfl rfl (hQ _ _ ⟨rfl, e2.trans e1, by rw [show sp_dg x = [48 + x / 10, 48 + x % 10] from if_neg (by omega)]; rw [List.append_assoc] at hL2; exact hL2, fun q hq => (f2 q hq).trans (f1 q hq)⟩)
theorem c_M_writePart {E : qa_V} {σ : qa_S} {μ : Nat} {f : Nat → Int} {m sv ps ip li : Int → Int} {B : Int} {p : Int} (hlo : E.1 ≤ μ) (hR : sR_M σ.1 μ f m sv ps ip li) (hk : sm_ok m B) (hp : qa_in p) : qa_T E qm_M_writePart 0 0 [.ref μ, .int (qa_i p)] σ (fun o9 τ => τ.2 = σ.2 ∧ (∀ q, (q < μ ∨ μ + 11 ≤ q) → τ.1 q = σ.1 q) ∧ ((¬ sm_is m p ∧ (∃ v : Int, o9 = .inl (some (.int (qa_i v)))) ∧ sR_M τ.1 μ (sN_put f 12 1) m sv ps ip li) ∨ (sm_is m p ∧ o9 = .inl (some (.int (qa_i ((sm_tx m p).length : Int)))) ∧ ∃ li1 : Int → Int, sR_M τ.1 μ (sN_put (sN_put f 12 0) 19 ((sm_tx m p).length : Int)) m sv ps ip li1 ∧ ∀ j : Nat, j < (sm_tx m p).length → (sm_tx m p)[j]? = some (li1 j)))) := by
  refine qa_enterQ (by decide) rfl qm_M_writePart_ok rfl rfl (fun Q9 hQ => ?_)
  obtain ⟨k0, k1, k2, k3, k4, k5, k6, k7, k8⟩ := id hk
  have hR9 := hR
  obtain ⟨⟨hM, hm⟩, ⟨as, ha⟩, hsv, hps, hip, ⟨tb, htb⟩, hli, hlt, hbg, cm, hcm⟩ := hR
  have e0 : σ.2 = σ.2 := rfl
  have fr : ∀ q, q ≠ μ → σ.1 q = σ.1 q := fun _ _ => rfl
  refine qa_aload_n (pc' := 1) ⟨rfl, rfl⟩ rfl ?_
  refine qa_iconst (pc' := 2) ⟨rfl, rfl⟩ ?_
  refine qa_putf (fs' := [_, _, _, _, _, _, _, _, _, _, _, _, _, _, _, _, _, _, _, _, _, _, _, _, _, _, _]) (pc' := 5) ⟨rfl, rfl⟩ qg_10_51 qw_9 hM (by omega) rfl (fun r hr => by cases hr; exact ⟨rfl, Or.inl rfl⟩) rfl rfl ?_
  refine qa_gz (fun τ1 e1 w1 f1 => ?_)
  replace hm := (f1 _ (by omega)).trans hm
  replace fr := fun q hq => (f1 q (by have := hq; omega)).trans (fr q hq)
  replace e0 := e1.trans e0
  have hM : τ1.1 μ = some (qa_MoF μ (sN_put f 12 0)) := w1
  refine qa_aload_n (pc' := 6) ⟨rfl, rfl⟩ rfl ?_
  refine qa_iload_n (pc' := 7) ⟨rfl, rfl⟩ rfl ?_
  refine qa_callV rfl qf_M_isPart ql_10_111 (c_M_isPart (E := E) hM hm hk (by omega)) hM rfl rfl rfl (qa_lt9 rfl) (qa_le9 rfl) (qa_le9 rfl) (qa_le9 rfl) (fun o9 τ9 hq9 => ?_)
  obtain ⟨rfl, hq9⟩ := hq9
  replace hq9 := hq9.symm; subst hq9
  refine qa_nx (pc' := 10) (st' := [_]) rfl rfl rfl rfl ?_
  by_cases hp9 : 0 ≤ p ∧ p < m 0
  · rw [if_pos hp9]
    refine qa_if_ne (pc' := 13) (tgt := 19) ⟨rfl, rfl⟩ rfl (by omega) (fun hp99 => ?_) (fun hp99 => ?_)
    · have tp := k5 p (by omega) (by omega)
      have kk := k4 p (by omega) (by omega)
      have kn := kk.1
      refine qa_iload_n (pc' := 20) ⟨rfl, rfl⟩ rfl ?_
      refine qa_callS rfl qf_M_partAt rfl ql_10_74 (c_M_partAt (E := E)) rfl rfl (qa_lt9 rfl) (qa_le9 rfl) (qa_le9 rfl) (qa_le9 rfl) (fun o9 τ9 hq9 => ?_)
      obtain ⟨rfl, hq9⟩ := hq9
      replace hq9 := hq9.symm; subst hq9
      refine qa_nx (pc' := 23) (st' := [_]) rfl rfl rfl rfl ?_
      refine qa_istore_n (L' := [(0, _), (1, _), (2, _)]) (pc' := 24) ⟨rfl, rfl⟩ rfl rfl ?_
      refine qa_aload_n (pc' := 25) ⟨rfl, rfl⟩ rfl ?_
      refine qa_iconst (pc' := 26) ⟨rfl, rfl⟩ ?_
      refine qa_putf (fs' := [_, _, _, _, _, _, _, _, _, _, _, _, _, _, _, _, _, _, _, _, _, _, _, _, _, _, _]) (pc' := 29) ⟨rfl, rfl⟩ qg_10_245 qw_9 hM (by omega) rfl (fun r hr => by cases hr; exact ⟨rfl, Or.inl rfl⟩) rfl rfl ?_
      refine qa_gz (fun τ2 e2 w2 f2 => ?_)
      replace hm := (f2 _ (by omega)).trans hm
      replace fr := fun q hq => (f2 q (by have := hq; omega)).trans (fr q hq)
      replace e0 := e2.trans e0
      have hM : τ2.1 μ = some (qa_MoF μ (sN_put (sN_put f 12 0) 19 0)) := w2
      have hL : sM_L τ2.1 μ (sN_put f 12 0) [] := ⟨hM, li, (fr _ (by omega)).trans hli, fun j hj => absurd hj (Nat.not_lt_zero _)⟩
      replace fr : ∀ q, (q ≠ μ ∧ q ≠ μ + 7) → τ2.1 q = σ.1 q := fun q hq => fr q (by omega)
      have T1 : ∀ (f9 : Nat) (τ : qa_S) (k : Nat) (t : List Int), ((k : Int) + f9 = sm_n m p ∧ t = sm_txn (sm_pf m p) (sm_lf m p) (sm_tx1 m p) k ∧ t.length ≤ 10 + 6 * k ∧ τ.2 = σ.2 ∧ sM_L τ.1 μ (sN_put f 12 0) t ∧ τ.1 (μ + 1) = some (qa_ia 146 m) ∧ (∀ q, (q ≠ μ ∧ q ≠ μ + 7) → τ.1 q = σ.1 q)) → qa_W E qm_M_writePart Q9 0 0 108 [(0, .ref μ), (1, .int (qa_i p)), (2, .int (qa_i (4 + 26 * p))), (3, .int (qa_i k))] [] τ := by
        clear hM hm hL e0 fr
        intro f9
        induction f9 with
        | zero =>
          intro τ k t ⟨hkf, htk, htl, e0, hL, hm, fr⟩
          have hM := hL.1
          refine qa_iload_n (pc' := 109) ⟨rfl, rfl⟩ rfl ?_
          refine qa_aload_n (pc' := 110) ⟨rfl, rfl⟩ rfl ?_
          refine qa_iload_n (pc' := 111) ⟨rfl, rfl⟩ rfl ?_
          refine qa_callV rfl qf_M_notes ql_10_77 (c_M_notes (E := E) hM hm ⟨by omega, by omega⟩) hM rfl rfl rfl (qa_lt9 rfl) (qa_le9 rfl) (qa_le9 rfl) (qa_le9 rfl) (fun o9 τ9 hq9 => ?_)
          obtain ⟨rfl, hq9⟩ := hq9
          replace hq9 := hq9.symm; subst hq9
          refine qa_nx (pc' := 114) (st' := [_, _]) rfl rfl rfl rfl ?_
          refine qa_icmp_ge (pc' := 117) (tgt := 174) ⟨rfl, rfl⟩ rfl (by omega) (by omega) (fun hc1 => ?_) (fun hc1 => ?_)
          · have eN : t = sm_tx m p := by rw [htk]; unfold sm_tx; rw [show (sm_n m p).toNat = k by omega]
            refine qa_aload_n (pc' := 175) ⟨rfl, rfl⟩ rfl ?_
            refine qa_getf (v := .int (qa_i (t.length : Int))) (pc' := 178) ⟨rfl, rfl⟩ qg_10_245 hM rfl ?_
            obtain ⟨hMx, li1, hli1, hg1⟩ := hL
            subst eN
            refine qa_ireturn rfl rfl rfl (hQ _ _ ⟨e0, fun q hq => fr q (by omega), Or.inr ⟨by omega, rfl, li1, ⟨⟨hM, hm⟩, ⟨as, (fr _ (by omega)).trans ha⟩, (fr _ (by omega)).trans hsv, (fr _ (by omega)).trans hps, (fr _ (by omega)).trans hip, ⟨tb, (fr _ (by omega)).trans htb⟩, hli1, (fr _ (by omega)).trans hlt, (fr _ (by omega)).trans hbg, cm, (fr _ (by omega)).trans hcm⟩, hg1⟩⟩)
          · exact absurd hc1 (by omega)
        | succ f9 iT1 =>
          intro τ k t ⟨hkf, htk, htl, e0, hL, hm, fr⟩
          have hM := hL.1
          refine qa_iload_n (pc' := 109) ⟨rfl, rfl⟩ rfl ?_
          refine qa_aload_n (pc' := 110) ⟨rfl, rfl⟩ rfl ?_
          refine qa_iload_n (pc' := 111) ⟨rfl, rfl⟩ rfl ?_
          refine qa_callV rfl qf_M_notes ql_10_77 (c_M_notes (E := E) hM hm ⟨by omega, by omega⟩) hM rfl rfl rfl (qa_lt9 rfl) (qa_le9 rfl) (qa_le9 rfl) (qa_le9 rfl) (fun o9 τ9 hq9 => ?_)
          obtain ⟨rfl, hq9⟩ := hq9
          replace hq9 := hq9.symm; subst hq9
          refine qa_nx (pc' := 114) (st' := [_, _]) rfl rfl rfl rfl ?_
          refine qa_icmp_ge (pc' := 117) (tgt := 174) ⟨rfl, rfl⟩ rfl (by omega) (by omega) (fun hc1 => ?_) (fun hc1 => ?_)
          · exact absurd hc1 (by omega)
          · have kp := kk.2.1 k (by omega) (by omega)
            have kl := kk.2.2 k (by omega) (by omega)
            refine qa_aload_n (pc' := 118) ⟨rfl, rfl⟩ rfl ?_
            refine qa_bipush (z := 32) (pc' := 120) ⟨rfl, rfl⟩ rfl ?_
            refine qa_callV rfl qf_M_sign ql_10_248 (c_M_sign (E := E) hlo hL (by omega)) hM rfl rfl rfl (qa_lt9 rfl) (qa_le9 rfl) (qa_le9 rfl) (qa_le9 rfl) (fun o9 τ9 hq9 => ?_)
            obtain ⟨rfl, e9, hL9, f9⟩ := hq9
            refine qa_nx (pc' := 123) (st' := []) rfl rfl rfl rfl ?_
            replace hm := (f9 _ (by omega)).trans hm
            replace fr := fun q hq => (f9 q (by have := hq; omega)).trans (fr q hq)
            replace e0 := e9.trans e0
            replace hL := hL9
            replace hM := hL.1
            obtain ⟨t1, hd1⟩ : ∃ y9 : List Int, y9 = t ++ [32] := ⟨_, rfl⟩
            rw [← hd1] at hL hM
            have l1 : t1.length = _ := (congrArg List.length hd1).trans (qt_l1 _ _)
            refine qa_aload_n (pc' := 124) ⟨rfl, rfl⟩ rfl ?_
            refine qa_iload_n (pc' := 125) ⟨rfl, rfl⟩ rfl ?_
            refine qa_iload_n (pc' := 126) ⟨rfl, rfl⟩ rfl ?_
            refine qa_callV rfl qf_M_pitch ql_10_90 (c_M_pitch (E := E) hM hm ⟨by omega, by omega⟩ ⟨by omega, by omega⟩) hM rfl rfl rfl (qa_lt9 rfl) (qa_le9 rfl) (qa_le9 rfl) (qa_le9 rfl) (fun o9 τ9 hq9 => ?_)
            obtain ⟨rfl, hq9⟩ := hq9
            replace hq9 := hq9.symm; subst hq9
            refine qa_nx (pc' := 129) (st' := [_]) rfl rfl rfl rfl ?_
            refine qa_iconst (pc' := 130) ⟨rfl, rfl⟩ ?_
            refine qa_icmp_ne (pc' := 133) (tgt := 142) ⟨rfl, rfl⟩ rfl (by omega) (by omega) (fun hc2 => ?_) (fun hc2 => ?_)
            · refine qa_aload_n (pc' := 143) ⟨rfl, rfl⟩ rfl ?_
              refine qa_aload_n (pc' := 144) ⟨rfl, rfl⟩ rfl ?_
              refine qa_iload_n (pc' := 145) ⟨rfl, rfl⟩ rfl ?_
              refine qa_iload_n (pc' := 146) ⟨rfl, rfl⟩ rfl ?_
              refine qa_callV rfl qf_M_pitch ql_10_90 (c_M_pitch (E := E) hM hm ⟨by omega, by omega⟩ ⟨by omega, by omega⟩) hM rfl rfl rfl (qa_lt9 rfl) (qa_le9 rfl) (qa_le9 rfl) (qa_le9 rfl) (fun o9 τ9 hq9 => ?_)
              obtain ⟨rfl, hq9⟩ := hq9
              replace hq9 := hq9.symm; subst hq9
              refine qa_nx (pc' := 149) (st' := [_, _]) rfl rfl rfl rfl ?_
              refine qa_callV rfl qf_M_writesNumber ql_10_252 (c_M_writesNumber (E := E) hlo hL (by omega) (by omega)) hM rfl rfl rfl (qa_lt9 rfl) (qa_le9 rfl) (qa_le9 rfl) (qa_le9 rfl) (fun o9 τ9 hq9 => ?_)
              obtain ⟨rfl, e9, hL9, f9⟩ := hq9
              refine qa_nx (pc' := 152) (st' := []) rfl rfl rfl rfl ?_
              replace hm := (f9 _ (by omega)).trans hm
              replace fr := fun q hq => (f9 q (by have := hq; omega)).trans (fr q hq)
              replace e0 := e9.trans e0
              replace hL := hL9
              replace hM := hL.1
              obtain ⟨t2, hd2⟩ : ∃ y9 : List Int, y9 = t1 ++ sp_dg (sm_pf m p k) := ⟨_, rfl⟩
              rw [← hd2] at hL hM
              have l2 : t2.length ≤ _ := Nat.le_trans (Nat.le_of_eq (congrArg List.length hd2)) (qt_l2 _ _).1
              refine qa_aload_n (pc' := 153) ⟨rfl, rfl⟩ rfl ?_
              refine qa_bipush (z := 42) (pc' := 155) ⟨rfl, rfl⟩ rfl ?_
              refine qa_callV rfl qf_M_sign ql_10_248 (c_M_sign (E := E) hlo hL (by omega)) hM rfl rfl rfl (qa_lt9 rfl) (qa_le9 rfl) (qa_le9 rfl) (qa_le9 rfl) (fun o9 τ9 hq9 => ?_)
              obtain ⟨rfl, e9, hL9, f9⟩ := hq9
              refine qa_nx (pc' := 158) (st' := []) rfl rfl rfl rfl ?_
              replace hm := (f9 _ (by omega)).trans hm
              replace fr := fun q hq => (f9 q (by have := hq; omega)).trans (fr q hq)
              replace e0 := e9.trans e0
              replace hL := hL9
              replace hM := hL.1
              obtain ⟨t3, hd3⟩ : ∃ y9 : List Int, y9 = t2 ++ [42] := ⟨_, rfl⟩
              rw [← hd3] at hL hM
              have l3 : t3.length = _ := (congrArg List.length hd3).trans (qt_l1 _ _)
              refine qa_aload_n (pc' := 159) ⟨rfl, rfl⟩ rfl ?_
              refine qa_aload_n (pc' := 160) ⟨rfl, rfl⟩ rfl ?_
              refine qa_iload_n (pc' := 161) ⟨rfl, rfl⟩ rfl ?_
              refine qa_iload_n (pc' := 162) ⟨rfl, rfl⟩ rfl ?_
              refine qa_callV rfl qf_M_ticks ql_10_80 (c_M_ticks (E := E) hM hm ⟨by omega, by omega⟩ ⟨by omega, by omega⟩) hM rfl rfl rfl (qa_lt9 rfl) (qa_le9 rfl) (qa_le9 rfl) (qa_le9 rfl) (fun o9 τ9 hq9 => ?_)
              obtain ⟨rfl, hq9⟩ := hq9
              replace hq9 := hq9.symm; subst hq9
              refine qa_nx (pc' := 165) (st' := [_, _]) rfl rfl rfl rfl ?_
              refine qa_callV rfl qf_M_writesNumber ql_10_252 (c_M_writesNumber (E := E) hlo hL (by omega) (by omega)) hM rfl rfl rfl (qa_lt9 rfl) (qa_le9 rfl) (qa_le9 rfl) (qa_le9 rfl) (fun o9 τ9 hq9 => ?_)
              obtain ⟨rfl, e9, hL9, f9⟩ := hq9
              refine qa_nx (pc' := 168) (st' := []) rfl rfl rfl rfl ?_
              replace hm := (f9 _ (by omega)).trans hm
              replace fr := fun q hq => (f9 q (by have := hq; omega)).trans (fr q hq)
              replace e0 := e9.trans e0
              replace hL := hL9
              replace hM := hL.1
              obtain ⟨t4, hd4⟩ : ∃ y9 : List Int, y9 = t3 ++ sp_dg (sm_lf m p k) := ⟨_, rfl⟩
              rw [← hd4] at hL hM
              have l4 : t4.length ≤ _ := Nat.le_trans (Nat.le_of_eq (congrArg List.length hd4)) (qt_l2 _ _).1
              refine qa_iinc (L' := [(0, _), (1, _), (2, _), (3, _)]) (z := ((k + 1 : Nat) : Int)) (pc' := 171) ⟨rfl, rfl⟩ rfl (by omega) rfl rfl ?_
              refine qa_goto (pc' := 174) (tgt := 108) ⟨rfl, rfl⟩ rfl ?_
              exact iT1 _ (k + 1) t4 ⟨by omega, by rw [hd4, hd3, hd2, hd1, htk, sm_txn_n hc2], by omega, e0, hL, hm, fr⟩
            · refine qa_aload_n (pc' := 134) ⟨rfl, rfl⟩ rfl ?_
              refine qa_bipush (z := 45) (pc' := 136) ⟨rfl, rfl⟩ rfl ?_
              refine qa_callV rfl qf_M_sign ql_10_248 (c_M_sign (E := E) hlo hL (by omega)) hM rfl rfl rfl (qa_lt9 rfl) (qa_le9 rfl) (qa_le9 rfl) (qa_le9 rfl) (fun o9 τ9 hq9 => ?_)
              obtain ⟨rfl, e9, hL9, f9⟩ := hq9
              refine qa_nx (pc' := 139) (st' := []) rfl rfl rfl rfl ?_
              replace hm := (f9 _ (by omega)).trans hm
              replace fr := fun q hq => (f9 q (by have := hq; omega)).trans (fr q hq)
              replace e0 := e9.trans e0
              replace hL := hL9
              replace hM := hL.1
              obtain ⟨t5, hd5⟩ : ∃ y9 : List Int, y9 = t1 ++ [45] := ⟨_, rfl⟩
              rw [← hd5] at hL hM
              have l5 : t5.length = _ := (congrArg List.length hd5).trans (qt_l1 _ _)
              refine qa_goto (pc' := 142) (tgt := 152) ⟨rfl, rfl⟩ rfl ?_
              refine qa_aload_n (pc' := 153) ⟨rfl, rfl⟩ rfl ?_
              refine qa_bipush (z := 42) (pc' := 155) ⟨rfl, rfl⟩ rfl ?_
              refine qa_callV rfl qf_M_sign ql_10_248 (c_M_sign (E := E) hlo hL (by omega)) hM rfl rfl rfl (qa_lt9 rfl) (qa_le9 rfl) (qa_le9 rfl) (qa_le9 rfl) (fun o9 τ9 hq9 => ?_)
              obtain ⟨rfl, e9, hL9, f9⟩ := hq9
              refine qa_nx (pc' := 158) (st' := []) rfl rfl rfl rfl ?_
              replace hm := (f9 _ (by omega)).trans hm
              replace fr := fun q hq => (f9 q (by have := hq; omega)).trans (fr q hq)
              replace e0 := e9.trans e0
              replace hL := hL9
              replace hM := hL.1
              obtain ⟨t6, hd6⟩ : ∃ y9 : List Int, y9 = t5 ++ [42] := ⟨_, rfl⟩
              rw [← hd6] at hL hM
              have l6 : t6.length = _ := (congrArg List.length hd6).trans (qt_l1 _ _)
              refine qa_aload_n (pc' := 159) ⟨rfl, rfl⟩ rfl ?_
              refine qa_aload_n (pc' := 160) ⟨rfl, rfl⟩ rfl ?_
              refine qa_iload_n (pc' := 161) ⟨rfl, rfl⟩ rfl ?_
              refine qa_iload_n (pc' := 162) ⟨rfl, rfl⟩ rfl ?_
              refine qa_callV rfl qf_M_ticks ql_10_80 (c_M_ticks (E := E) hM hm ⟨by omega, by omega⟩ ⟨by omega, by omega⟩) hM rfl rfl rfl (qa_lt9 rfl) (qa_le9 rfl) (qa_le9 rfl) (qa_le9 rfl) (fun o9 τ9 hq9 => ?_)
              obtain ⟨rfl, hq9⟩ := hq9
              replace hq9 := hq9.symm; subst hq9
              refine qa_nx (pc' := 165) (st' := [_, _]) rfl rfl rfl rfl ?_
              refine qa_callV rfl qf_M_writesNumber ql_10_252 (c_M_writesNumber (E := E) hlo hL (by omega) (by omega)) hM rfl rfl rfl (qa_lt9 rfl) (qa_le9 rfl) (qa_le9 rfl) (qa_le9 rfl) (fun o9 τ9 hq9 => ?_)
              obtain ⟨rfl, e9, hL9, f9⟩ := hq9
              refine qa_nx (pc' := 168) (st' := []) rfl rfl rfl rfl ?_
              replace hm := (f9 _ (by omega)).trans hm
              replace fr := fun q hq => (f9 q (by have := hq; omega)).trans (fr q hq)
              replace e0 := e9.trans e0
              replace hL := hL9
              replace hM := hL.1
              obtain ⟨t7, hd7⟩ : ∃ y9 : List Int, y9 = t6 ++ sp_dg (sm_lf m p k) := ⟨_, rfl⟩
              rw [← hd7] at hL hM
              have l7 : t7.length ≤ _ := Nat.le_trans (Nat.le_of_eq (congrArg List.length hd7)) (qt_l2 _ _).1
              refine qa_iinc (L' := [(0, _), (1, _), (2, _), (3, _)]) (z := ((k + 1 : Nat) : Int)) (pc' := 171) ⟨rfl, rfl⟩ rfl (by omega) rfl rfl ?_
              refine qa_goto (pc' := 174) (tgt := 108) ⟨rfl, rfl⟩ rfl ?_
              exact iT1 _ (k + 1) t7 ⟨by omega, by rw [hd7, hd6, hd5, hd1, htk, sm_txn_y hc2], by omega, e0, hL, hm, fr⟩
      have l0 : ([] : List Int).length = 0 := rfl
      refine qa_aload_n (pc' := 30) ⟨rfl, rfl⟩ rfl ?_
      refine qa_iload_n (pc' := 31) ⟨rfl, rfl⟩ rfl ?_
      refine qa_callV rfl qf_M_writesNumber ql_10_252 (c_M_writesNumber (E := E) hlo hL (by omega) (by omega)) hM rfl rfl rfl (qa_lt9 rfl) (qa_le9 rfl) (qa_le9 rfl) (qa_le9 rfl) (fun o9 τ9 hq9 => ?_)
      obtain ⟨rfl, e9, hL9, f9⟩ := hq9
      refine qa_nx (pc' := 34) (st' := []) rfl rfl rfl rfl ?_
      replace hm := (f9 _ (by omega)).trans hm
      replace fr := fun q hq => (f9 q (by have := hq; omega)).trans (fr q hq)
      replace e0 := e9.trans e0
      replace hL := hL9
      replace hM := hL.1
      obtain ⟨t8, hd8⟩ : ∃ y9 : List Int, y9 = [] ++ sp_dg p := ⟨_, rfl⟩
      rw [← hd8] at hL hM
      have l8 : t8.length ≤ _ := Nat.le_trans (Nat.le_of_eq (congrArg List.length hd8)) (qt_l2 _ _).1
      have m8 : t8.length = _ := (congrArg List.length hd8).trans ((qt_l2 _ _).2 (by omega))
      refine qa_aload_n (pc' := 35) ⟨rfl, rfl⟩ rfl ?_
      refine qa_bipush (z := 40) (pc' := 37) ⟨rfl, rfl⟩ rfl ?_
      refine qa_callV rfl qf_M_sign ql_10_248 (c_M_sign (E := E) hlo hL (by omega)) hM rfl rfl rfl (qa_lt9 rfl) (qa_le9 rfl) (qa_le9 rfl) (qa_le9 rfl) (fun o9 τ9 hq9 => ?_)
      obtain ⟨rfl, e9, hL9, f9⟩ := hq9
      refine qa_nx (pc' := 40) (st' := []) rfl rfl rfl rfl ?_
      replace hm := (f9 _ (by omega)).trans hm
      replace fr := fun q hq => (f9 q (by have := hq; omega)).trans (fr q hq)
      replace e0 := e9.trans e0
      replace hL := hL9
      replace hM := hL.1
      obtain ⟨t9, hd9⟩ : ∃ y9 : List Int, y9 = t8 ++ [40] := ⟨_, rfl⟩
      rw [← hd9] at hL hM
      have l9 : t9.length = _ := (congrArg List.length hd9).trans (qt_l1 _ _)
      refine qa_aload_n (pc' := 41) ⟨rfl, rfl⟩ rfl ?_
      refine qa_aload_n (pc' := 42) ⟨rfl, rfl⟩ rfl ?_
      refine qa_getf (pc' := 45) ⟨rfl, rfl⟩ qg_10_9 hM rfl ?_
      refine qa_iload_n (pc' := 46) ⟨rfl, rfl⟩ rfl ?_
      refine qa_iconst (pc' := 47) ⟨rfl, rfl⟩ ?_
      refine qa_iadd (z := 5 + 26 * p) (pc' := 48) ⟨rfl, rfl⟩ (by omega) ?_
      refine qa_iaload (pc' := 49) ⟨rfl, rfl⟩ (by assumption) (by omega) ?_
      refine qa_callV rfl qf_M_writesNumber ql_10_252 (c_M_writesNumber (E := E) hlo hL (by omega) (by omega)) hM rfl rfl rfl (qa_lt9 rfl) (qa_le9 rfl) (qa_le9 rfl) (qa_le9 rfl) (fun o9 τ9 hq9 => ?_)
      obtain ⟨rfl, e9, hL9, f9⟩ := hq9
      refine qa_nx (pc' := 52) (st' := []) rfl rfl rfl rfl ?_
      replace hm := (f9 _ (by omega)).trans hm
      replace fr := fun q hq => (f9 q (by have := hq; omega)).trans (fr q hq)
      replace e0 := e9.trans e0
      replace hL := hL9
      replace hM := hL.1
      obtain ⟨t10, hd10⟩ : ∃ y9 : List Int, y9 = t9 ++ sp_dg (m (5 + 26 * p)) := ⟨_, rfl⟩
      rw [← hd10] at hL hM
      have l10 : t10.length ≤ _ := Nat.le_trans (Nat.le_of_eq (congrArg List.length hd10)) (qt_l2 _ _).1
      refine qa_aload_n (pc' := 53) ⟨rfl, rfl⟩ rfl ?_
      refine qa_bipush (z := 47) (pc' := 55) ⟨rfl, rfl⟩ rfl ?_
      refine qa_callV rfl qf_M_sign ql_10_248 (c_M_sign (E := E) hlo hL (by omega)) hM rfl rfl rfl (qa_lt9 rfl) (qa_le9 rfl) (qa_le9 rfl) (qa_le9 rfl) (fun o9 τ9 hq9 => ?_)
      obtain ⟨rfl, e9, hL9, f9⟩ := hq9
      refine qa_nx (pc' := 58) (st' := []) rfl rfl rfl rfl ?_
      replace hm := (f9 _ (by omega)).trans hm
      replace fr := fun q hq => (f9 q (by have := hq; omega)).trans (fr q hq)
      replace e0 := e9.trans e0
      replace hL := hL9
      replace hM := hL.1
      obtain ⟨t11, hd11⟩ : ∃ y9 : List Int, y9 = t10 ++ [47] := ⟨_, rfl⟩
      rw [← hd11] at hL hM
      have l11 : t11.length = _ := (congrArg List.length hd11).trans (qt_l1 _ _)
      refine qa_aload_n (pc' := 59) ⟨rfl, rfl⟩ rfl ?_
      refine qa_aload_n (pc' := 60) ⟨rfl, rfl⟩ rfl ?_
      refine qa_getf (pc' := 63) ⟨rfl, rfl⟩ qg_10_9 hM rfl ?_
      refine qa_iload_n (pc' := 64) ⟨rfl, rfl⟩ rfl ?_
      refine qa_iconst (pc' := 65) ⟨rfl, rfl⟩ ?_
      refine qa_iadd (z := 6 + 26 * p) (pc' := 66) ⟨rfl, rfl⟩ (by omega) ?_
      refine qa_iaload (pc' := 67) ⟨rfl, rfl⟩ (by assumption) (by omega) ?_
      refine qa_callV rfl qf_M_writesNumber ql_10_252 (c_M_writesNumber (E := E) hlo hL (by omega) (by omega)) hM rfl rfl rfl (qa_lt9 rfl) (qa_le9 rfl) (qa_le9 rfl) (qa_le9 rfl) (fun o9 τ9 hq9 => ?_)
      obtain ⟨rfl, e9, hL9, f9⟩ := hq9
      refine qa_nx (pc' := 70) (st' := []) rfl rfl rfl rfl ?_
      replace hm := (f9 _ (by omega)).trans hm
      replace fr := fun q hq => (f9 q (by have := hq; omega)).trans (fr q hq)
      replace e0 := e9.trans e0
      replace hL := hL9
      replace hM := hL.1
      obtain ⟨t12, hd12⟩ : ∃ y9 : List Int, y9 = t11 ++ sp_dg (m (6 + 26 * p)) := ⟨_, rfl⟩
      rw [← hd12] at hL hM
      have l12 : t12.length ≤ _ := Nat.le_trans (Nat.le_of_eq (congrArg List.length hd12)) (qt_l2 _ _).1
      refine qa_aload_n (pc' := 71) ⟨rfl, rfl⟩ rfl ?_
      refine qa_bipush (z := 41) (pc' := 73) ⟨rfl, rfl⟩ rfl ?_
      refine qa_callV rfl qf_M_sign ql_10_248 (c_M_sign (E := E) hlo hL (by omega)) hM rfl rfl rfl (qa_lt9 rfl) (qa_le9 rfl) (qa_le9 rfl) (qa_le9 rfl) (fun o9 τ9 hq9 => ?_)
      obtain ⟨rfl, e9, hL9, f9⟩ := hq9
      refine qa_nx (pc' := 76) (st' := []) rfl rfl rfl rfl ?_
      replace hm := (f9 _ (by omega)).trans hm
      replace fr := fun q hq => (f9 q (by have := hq; omega)).trans (fr q hq)
      replace e0 := e9.trans e0
      replace hL := hL9
      replace hM := hL.1
      obtain ⟨t13, hd13⟩ : ∃ y9 : List Int, y9 = t12 ++ [41] := ⟨_, rfl⟩
      rw [← hd13] at hL hM
      have l13 : t13.length = _ := (congrArg List.length hd13).trans (qt_l1 _ _)
      have hx0 : t13 = sm_tx0 m p := by rw [hd13, hd12, hd11, hd10, hd9, hd8]; rfl
      refine qa_aload_n (pc' := 77) ⟨rfl, rfl⟩ rfl ?_
      refine qa_getf (pc' := 80) ⟨rfl, rfl⟩ qg_10_9 hM rfl ?_
      refine qa_iload_n (pc' := 81) ⟨rfl, rfl⟩ rfl ?_
      refine qa_iconst (pc' := 82) ⟨rfl, rfl⟩ ?_
      refine qa_iadd (z := 7 + 26 * p) (pc' := 83) ⟨rfl, rfl⟩ (by omega) ?_
      refine qa_iaload (pc' := 84) ⟨rfl, rfl⟩ (by assumption) (by omega) ?_
      refine qa_iconst (pc' := 85) ⟨rfl, rfl⟩ ?_
      refine qa_icmp_eq (pc' := 88) (tgt := 106) ⟨rfl, rfl⟩ rfl (by omega) (by omega) (fun hc3 => ?_) (fun hc3 => ?_)
      · refine qa_iconst (pc' := 107) ⟨rfl, rfl⟩ ?_
        refine qa_istore_n (L' := [(0, _), (1, _), (2, _), (3, _)]) (pc' := 108) ⟨rfl, rfl⟩ rfl rfl ?_
        exact T1 (sm_n m p).toNat _ 0 t13 ⟨by omega, by rw [hx0]; exact (if_pos hc3).symm, by omega, e0, hL, hm, fr⟩
      · refine qa_aload_n (pc' := 89) ⟨rfl, rfl⟩ rfl ?_
        refine qa_bipush (z := 62) (pc' := 91) ⟨rfl, rfl⟩ rfl ?_
        refine qa_callV rfl qf_M_sign ql_10_248 (c_M_sign (E := E) hlo hL (by omega)) hM rfl rfl rfl (qa_lt9 rfl) (qa_le9 rfl) (qa_le9 rfl) (qa_le9 rfl) (fun o9 τ9 hq9 => ?_)
        obtain ⟨rfl, e9, hL9, f9⟩ := hq9
        refine qa_nx (pc' := 94) (st' := []) rfl rfl rfl rfl ?_
        replace hm := (f9 _ (by omega)).trans hm
        replace fr := fun q hq => (f9 q (by have := hq; omega)).trans (fr q hq)
        replace e0 := e9.trans e0
        replace hL := hL9
        replace hM := hL.1
        obtain ⟨t14, hd14⟩ : ∃ y9 : List Int, y9 = t13 ++ [62] := ⟨_, rfl⟩
        rw [← hd14] at hL hM
        have l14 : t14.length = _ := (congrArg List.length hd14).trans (qt_l1 _ _)
        refine qa_aload_n (pc' := 95) ⟨rfl, rfl⟩ rfl ?_
        refine qa_aload_n (pc' := 96) ⟨rfl, rfl⟩ rfl ?_
        refine qa_getf (pc' := 99) ⟨rfl, rfl⟩ qg_10_9 hM rfl ?_
        refine qa_iload_n (pc' := 100) ⟨rfl, rfl⟩ rfl ?_
        refine qa_iconst (pc' := 101) ⟨rfl, rfl⟩ ?_
        refine qa_iadd (z := 7 + 26 * p) (pc' := 102) ⟨rfl, rfl⟩ (by omega) ?_
        refine qa_iaload (pc' := 103) ⟨rfl, rfl⟩ (by assumption) (by omega) ?_
        refine qa_callV rfl qf_M_writesNumber ql_10_252 (c_M_writesNumber (E := E) hlo hL (by omega) (by omega)) hM rfl rfl rfl (qa_lt9 rfl) (qa_le9 rfl) (qa_le9 rfl) (qa_le9 rfl) (fun o9 τ9 hq9 => ?_)
        obtain ⟨rfl, e9, hL9, f9⟩ := hq9
        refine qa_nx (pc' := 106) (st' := []) rfl rfl rfl rfl ?_
        replace hm := (f9 _ (by omega)).trans hm
        replace fr := fun q hq => (f9 q (by have := hq; omega)).trans (fr q hq)
        replace e0 := e9.trans e0
        replace hL := hL9
        replace hM := hL.1
        obtain ⟨t15, hd15⟩ : ∃ y9 : List Int, y9 = t14 ++ sp_dg (m (7 + 26 * p)) := ⟨_, rfl⟩
        rw [← hd15] at hL hM
        have l15 : t15.length ≤ _ := Nat.le_trans (Nat.le_of_eq (congrArg List.length hd15)) (qt_l2 _ _).1
        have m15 : t15.length = _ := (congrArg List.length hd15).trans ((qt_l2 _ _).2 (by omega))
        refine qa_iconst (pc' := 107) ⟨rfl, rfl⟩ ?_
        refine qa_istore_n (L' := [(0, _), (1, _), (2, _), (3, _)]) (pc' := 108) ⟨rfl, rfl⟩ rfl rfl ?_
        exact T1 (sm_n m p).toNat _ 0 t15 ⟨by omega, by rw [hd15, hd14, hx0]; exact (if_neg hc3).symm, by omega, e0, hL, hm, fr⟩
    · exact absurd hp99 (by omega)
  · rw [if_neg hp9]
    refine qa_if_ne (pc' := 13) (tgt := 19) ⟨rfl, rfl⟩ rfl (by omega) (fun hp99 => ?_) (fun hp99 => ?_)
    · exact absurd hp99 (by omega)
    · refine qa_aload_n (pc' := 14) ⟨rfl, rfl⟩ rfl ?_
      refine qa_iconst (pc' := 15) ⟨rfl, rfl⟩ ?_
      refine qa_callV rfl qf_M_throwing ql_10_60 (c_M_throwing (E := E) (f := sN_put f 12 0) (v := 1) hlo hM) hM rfl rfl rfl (qa_lt9 rfl) (qa_le9 rfl) (qa_le9 rfl) (qa_le9 rfl) (fun o9 τ9 hq9 => ?_)
      obtain ⟨rfl, e9, hM, f9⟩ := hq9
      refine qa_nx (pc' := 18) (st' := [_]) rfl rfl rfl rfl ?_
      rw [sN_pp] at hM
      refine qa_ireturn rfl rfl rfl (hQ _ _ ⟨e9.trans e0, fun q hq => (f9 q (by omega)).trans (fr q (by omega)), Or.inl ⟨hp9, ⟨_, rfl⟩, hR9.setF (fun q hq => (f9 q hq).trans (fr q hq)) hM⟩⟩)
theorem qt_G {σ τ : qa_S} {b v v1 : Nat} (h : b < σ.2 ∧ v < σ.2) (G : sB_G σ τ b v v1) : b < τ.2 ∧ v1 < τ.2 := by
  obtain ⟨g1, g2, g3⟩ := G
  omega
theorem qt_Gv {lo : Nat} {σ τ : qa_S} {b v v1 : Nat} (h : lo ≤ b) (hv : lo ≤ v) (hb : b < σ.2) (G : sB_G σ τ b v v1) : lo ≤ v1 := by
  obtain ⟨g1, g2, g3⟩ := G
  omega
theorem c_P_writeNotes {E : qa_V} {σ : qa_S} {b w v : Nat} {m : Int → Int} {i : Int} {t : List Int} {Z : Nat → Nat} (hz : qa_Sb E) (hZ : qa_St E Z σ.1) (hlo : E.1 ≤ w) (hlo1 : E.1 ≤ v) (hlt0 : w < σ.2 ∧ v < σ.2) (hP : sR_P σ.1 b m i) (hk : sm_okp m i) (hbw : b + 3 ≤ w) (hbv : v < b ∨ b + 3 ≤ v) (hB : sR_B σ.1 w v t) (hl : t.length ≤ 10) : qa_T E qm_P_writeNotes 40 6000 [.ref b, .ref w] σ (fun o9 τ => o9 = .inl none ∧ ∃ v1 : Nat, sB_G σ τ w v v1 ∧ sR_B τ.1 w v1 (sm_txn (sm_pf m i) (sm_lf m i) t (sm_n m i).toNat)) := by
  refine qa_enterQ (by decide) rfl qm_P_writeNotes_ok rfl rfl (fun Q9 hQ => ?_)
  obtain ⟨p, l, u, d, h1, h2, h3, h4, h5, h6⟩ := hP
  have kn := hk.1
  have hlo2 := hlo1
  have hlw := hlt0.1
  refine qa_iconst (pc' := 1) ⟨rfl, rfl⟩ ?_
  refine qa_istore_n (L' := [(0, _), (1, _), (2, _)]) (pc' := 2) ⟨rfl, rfl⟩ rfl rfl ?_
  have lp : ∀ (f : Nat) (τ : qa_S) (k : Nat) (t0 : List Int) (v0 : Nat), ((k : Int) + f = sm_n m i ∧ t0 = sm_txn (sm_pf m i) (sm_lf m i) t k ∧ t0.length ≤ 10 + 6 * k ∧ sB_G σ τ w v v0 ∧ sR_B τ.1 w v0 t0) → qa_W E qm_P_writeNotes Q9 (4 * f) (600 * f) 2 [(0, .ref b), (1, .ref w), (2, .int (qa_i k))] [] τ := by
    intro f
    induction f with
    | zero =>
      intro τ k t0 v0 ⟨hkf, htk, htl, G, hB⟩
      have h1c := (G.2.1 b (by omega) (by omega) (by omega)).trans h1
      refine qa_iload_n (pc' := 3) ⟨rfl, rfl⟩ rfl ?_
      refine qa_aload_n (pc' := 4) ⟨rfl, rfl⟩ rfl ?_
      refine qa_getf (pc' := 7) ⟨rfl, rfl⟩ qg_3_31 h1c rfl ?_
      refine qa_icmp_ge (pc' := 10) (tgt := 70) ⟨rfl, rfl⟩ rfl (by omega) (by omega) (fun hc1 => ?_) (fun hc1 => ?_)
      · refine qa_return rfl rfl (hQ _ _ ⟨rfl, v0, G, by rw [show (sm_n m i).toNat = k by omega, ← htk]; exact hB⟩)
      · exact absurd hc1 (by omega)
    | succ f ih =>
      intro τ k t0 v0 ⟨hkf, htk, htl, G, hB⟩
      have g1 := G.1
      have g3 := G.2.2
      have hlt := qt_G hlt0 G
      have hlo1 := qt_Gv hlo hlo2 hlw G
      have h1c := (G.2.1 b (by omega) (by omega) (by omega)).trans h1
      have h2c := (G.2.1 (b + 1) (by omega) (by omega) (by omega)).trans h2
      have h3c := (G.2.1 (b + 2) (by omega) (by omega) (by omega)).trans h3
      refine qa_iload_n (pc' := 3) ⟨rfl, rfl⟩ rfl ?_
      refine qa_aload_n (pc' := 4) ⟨rfl, rfl⟩ rfl ?_
      refine qa_getf (pc' := 7) ⟨rfl, rfl⟩ qg_3_31 h1c rfl ?_
      refine qa_icmp_ge (pc' := 10) (tgt := 70) ⟨rfl, rfl⟩ rfl (by omega) (by omega) (fun hc1 => ?_) (fun hc1 => ?_)
      · exact absurd hc1 (by omega)
      · have kp := hk.2.1 k (by omega) (by omega)
        have kl := hk.2.2 k (by omega) (by omega)
        obtain ⟨k6, k7⟩ := h6 k (by omega) (by omega)
        rw [← k6] at kp
        rw [← k7] at kl
        refine qa_aload_n (pc' := 11) ⟨rfl, rfl⟩ rfl ?_
        refine qa_bipush (z := 32) (pc' := 13) ⟨rfl, rfl⟩ rfl ?_
        obtain ⟨ml1, cap1, ff1, hb, -⟩ := id hB
        refine qa_callV rfl qf_SB_append_3 ql_3_51 (c_SB_appendC (E := E) hz hlo hlo1 hlt hB (by omega) (by omega)) hb rfl rfl rfl (qa_lt9 rfl) (qa_le9 rfl) (by omega) (by omega) (fun o9 τ9 hq9 => ?_)
        obtain ⟨rfl, v1, G9, B9⟩ := hq9
        refine qa_nx (pc' := 16) (st' := [_]) rfl rfl rfl rfl ?_
        replace G := G.tr G9
        replace hB := B9
        clear hb
        clear g1 g3 hlt h1c h2c h3c
        obtain ⟨t1, hd1⟩ : ∃ y9 : List Int, y9 = t0 ++ [32] := ⟨_, rfl⟩
        rw [← hd1] at hB
        have g1 := G.1
        have g3 := G.2.2
        replace hlt := qt_G hlt0 G
        replace hlo1 := qt_Gv hlo hlo2 hlw G
        have hZc := hZ.to (fun q hq => G.2.1 q (by omega) (by omega) (by omega))
        have h1c := (G.2.1 b (by omega) (by omega) (by omega)).trans h1
        have h2c := (G.2.1 (b + 1) (by omega) (by omega) (by omega)).trans h2
        have h3c := (G.2.1 (b + 2) (by omega) (by omega) (by omega)).trans h3
        have l1 : t1.length = _ := (congrArg List.length hd1).trans (qt_l1 _ _)
        refine qa_pop (pc' := 17) ⟨rfl, rfl⟩ rfl ?_
        refine qa_aload_n (pc' := 18) ⟨rfl, rfl⟩ rfl ?_
        refine qa_getf (pc' := 21) ⟨rfl, rfl⟩ qg_3_9 h1c rfl ?_
        refine qa_iload_n (pc' := 22) ⟨rfl, rfl⟩ rfl ?_
        refine qa_iaload (pc' := 23) ⟨rfl, rfl⟩ h2c (by omega) ?_
        refine qa_iconst (pc' := 24) ⟨rfl, rfl⟩ ?_
        refine qa_icmp_ne (pc' := 27) (tgt := 37) ⟨rfl, rfl⟩ rfl (by omega) (by omega) (fun hc2 => ?_) (fun hc2 => ?_)
        · refine qa_aload_n (pc' := 38) ⟨rfl, rfl⟩ rfl ?_
          refine qa_aload_n (pc' := 39) ⟨rfl, rfl⟩ rfl ?_
          refine qa_getf (pc' := 42) ⟨rfl, rfl⟩ qg_3_9 h1c rfl ?_
          refine qa_iload_n (pc' := 43) ⟨rfl, rfl⟩ rfl ?_
          refine qa_iaload (pc' := 44) ⟨rfl, rfl⟩ h2c (by omega) ?_
          obtain ⟨ml2, cap2, ff2, hb, -⟩ := id hB
          refine qa_callV rfl qf_SB_append_2 ql_3_57 (c_SB_appendI (E := E) hz hZc hlo hlo1 hlt hB (by omega) (by omega)) hb rfl rfl rfl (qa_lt9 rfl) (qa_le9 rfl) (by omega) (by omega) (fun o9 τ9 hq9 => ?_)
          obtain ⟨rfl, v2, G9, B9⟩ := hq9
          refine qa_nx (pc' := 47) (st' := [_]) rfl rfl rfl rfl ?_
          replace G := G.tr G9
          replace hB := B9
          clear hb
          clear g1 g3 hlt h1c h2c h3c
          obtain ⟨t2, hd2⟩ : ∃ y9 : List Int, y9 = t1 ++ sp_dg (p k) := ⟨_, rfl⟩
          rw [← hd2] at hB
          have g1 := G.1
          have g3 := G.2.2
          replace hlt := qt_G hlt0 G
          replace hlo1 := qt_Gv hlo hlo2 hlw G
          have hZc := hZ.to (fun q hq => G.2.1 q (by omega) (by omega) (by omega))
          have h1c := (G.2.1 b (by omega) (by omega) (by omega)).trans h1
          have h2c := (G.2.1 (b + 1) (by omega) (by omega) (by omega)).trans h2
          have h3c := (G.2.1 (b + 2) (by omega) (by omega) (by omega)).trans h3
          have l2 : t2.length ≤ _ := Nat.le_trans (Nat.le_of_eq (congrArg List.length hd2)) (qt_l2 _ _).1
          refine qa_pop (pc' := 48) ⟨rfl, rfl⟩ rfl ?_
          refine qa_aload_n (pc' := 49) ⟨rfl, rfl⟩ rfl ?_
          refine qa_bipush (z := 42) (pc' := 51) ⟨rfl, rfl⟩ rfl ?_
          obtain ⟨ml3, cap3, ff3, hb, -⟩ := id hB
          refine qa_callV rfl qf_SB_append_3 ql_3_51 (c_SB_appendC (E := E) hz hlo hlo1 hlt hB (by omega) (by omega)) hb rfl rfl rfl (qa_lt9 rfl) (qa_le9 rfl) (by omega) (by omega) (fun o9 τ9 hq9 => ?_)
          obtain ⟨rfl, v3, G9, B9⟩ := hq9
          refine qa_nx (pc' := 54) (st' := [_]) rfl rfl rfl rfl ?_
          replace G := G.tr G9
          replace hB := B9
          clear hb
          clear g1 g3 hlt h1c h2c h3c
          obtain ⟨t3, hd3⟩ : ∃ y9 : List Int, y9 = t2 ++ [42] := ⟨_, rfl⟩
          rw [← hd3] at hB
          have g1 := G.1
          have g3 := G.2.2
          replace hlt := qt_G hlt0 G
          replace hlo1 := qt_Gv hlo hlo2 hlw G
          have hZc := hZ.to (fun q hq => G.2.1 q (by omega) (by omega) (by omega))
          have h1c := (G.2.1 b (by omega) (by omega) (by omega)).trans h1
          have h2c := (G.2.1 (b + 1) (by omega) (by omega) (by omega)).trans h2
          have h3c := (G.2.1 (b + 2) (by omega) (by omega) (by omega)).trans h3
          have l3 : t3.length = _ := (congrArg List.length hd3).trans (qt_l1 _ _)
          refine qa_aload_n (pc' := 55) ⟨rfl, rfl⟩ rfl ?_
          refine qa_getf (pc' := 58) ⟨rfl, rfl⟩ qg_3_15 h1c rfl ?_
          refine qa_iload_n (pc' := 59) ⟨rfl, rfl⟩ rfl ?_
          refine qa_iaload (pc' := 60) ⟨rfl, rfl⟩ h3c (by omega) ?_
          obtain ⟨ml4, cap4, ff4, hb, -⟩ := id hB
          refine qa_callV rfl qf_SB_append_2 ql_3_57 (c_SB_appendI (E := E) hz hZc hlo hlo1 hlt hB (by omega) (by omega)) hb rfl rfl rfl (qa_lt9 rfl) (qa_le9 rfl) (by omega) (by omega) (fun o9 τ9 hq9 => ?_)
          obtain ⟨rfl, v4, G9, B9⟩ := hq9
          refine qa_nx (pc' := 63) (st' := [_]) rfl rfl rfl rfl ?_
          replace G := G.tr G9
          replace hB := B9
          clear hb
          clear g1 g3 hlt h1c h2c h3c
          obtain ⟨t4, hd4⟩ : ∃ y9 : List Int, y9 = t3 ++ sp_dg (l k) := ⟨_, rfl⟩
          rw [← hd4] at hB
          have g1 := G.1
          have g3 := G.2.2
          replace hlt := qt_G hlt0 G
          replace hlo1 := qt_Gv hlo hlo2 hlw G
          have hZc := hZ.to (fun q hq => G.2.1 q (by omega) (by omega) (by omega))
          have h1c := (G.2.1 b (by omega) (by omega) (by omega)).trans h1
          have h2c := (G.2.1 (b + 1) (by omega) (by omega) (by omega)).trans h2
          have h3c := (G.2.1 (b + 2) (by omega) (by omega) (by omega)).trans h3
          have l4 : t4.length ≤ _ := Nat.le_trans (Nat.le_of_eq (congrArg List.length hd4)) (qt_l2 _ _).1
          refine qa_pop (pc' := 64) ⟨rfl, rfl⟩ rfl ?_
          refine qa_iinc (L' := [(0, _), (1, _), (2, _)]) (z := ((k + 1 : Nat) : Int)) (pc' := 67) ⟨rfl, rfl⟩ rfl (by omega) rfl rfl ?_
          refine qa_goto (pc' := 70) (tgt := 2) ⟨rfl, rfl⟩ rfl ?_
          refine qa_less (kc' := 4 * f) (ks' := 600 * f) (by omega) (by omega) ?_
          exact ih _ (k + 1) t4 _ ⟨by omega, by rw [hd4, hd3, hd2, hd1, htk, sm_txn_n (show ¬ sm_pf m i k = -1 by omega), k7, k6], by omega, G, hB⟩
        · refine qa_aload_n (pc' := 28) ⟨rfl, rfl⟩ rfl ?_
          refine qa_bipush (z := 45) (pc' := 30) ⟨rfl, rfl⟩ rfl ?_
          obtain ⟨ml5, cap5, ff5, hb, -⟩ := id hB
          refine qa_callV rfl qf_SB_append_3 ql_3_51 (c_SB_appendC (E := E) hz hlo hlo1 hlt hB (by omega) (by omega)) hb rfl rfl rfl (qa_lt9 rfl) (qa_le9 rfl) (by omega) (by omega) (fun o9 τ9 hq9 => ?_)
          obtain ⟨rfl, v5, G9, B9⟩ := hq9
          refine qa_nx (pc' := 33) (st' := [_]) rfl rfl rfl rfl ?_
          replace G := G.tr G9
          replace hB := B9
          clear hb
          clear g1 g3 hlt h1c h2c h3c
          obtain ⟨t5, hd5⟩ : ∃ y9 : List Int, y9 = t1 ++ [45] := ⟨_, rfl⟩
          rw [← hd5] at hB
          have g1 := G.1
          have g3 := G.2.2
          replace hlt := qt_G hlt0 G
          replace hlo1 := qt_Gv hlo hlo2 hlw G
          have hZc := hZ.to (fun q hq => G.2.1 q (by omega) (by omega) (by omega))
          have h1c := (G.2.1 b (by omega) (by omega) (by omega)).trans h1
          have h2c := (G.2.1 (b + 1) (by omega) (by omega) (by omega)).trans h2
          have h3c := (G.2.1 (b + 2) (by omega) (by omega) (by omega)).trans h3
          have l5 : t5.length = _ := (congrArg List.length hd5).trans (qt_l1 _ _)
          refine qa_pop (pc' := 34) ⟨rfl, rfl⟩ rfl ?_
          refine qa_goto (pc' := 37) (tgt := 48) ⟨rfl, rfl⟩ rfl ?_
          refine qa_aload_n (pc' := 49) ⟨rfl, rfl⟩ rfl ?_
          refine qa_bipush (z := 42) (pc' := 51) ⟨rfl, rfl⟩ rfl ?_
          obtain ⟨ml6, cap6, ff6, hb, -⟩ := id hB
          refine qa_callV rfl qf_SB_append_3 ql_3_51 (c_SB_appendC (E := E) hz hlo hlo1 hlt hB (by omega) (by omega)) hb rfl rfl rfl (qa_lt9 rfl) (qa_le9 rfl) (by omega) (by omega) (fun o9 τ9 hq9 => ?_)
          obtain ⟨rfl, v6, G9, B9⟩ := hq9
          refine qa_nx (pc' := 54) (st' := [_]) rfl rfl rfl rfl ?_
          replace G := G.tr G9
          replace hB := B9
          clear hb
          clear g1 g3 hlt h1c h2c h3c
          obtain ⟨t6, hd6⟩ : ∃ y9 : List Int, y9 = t5 ++ [42] := ⟨_, rfl⟩
          rw [← hd6] at hB
          have g1 := G.1
          have g3 := G.2.2
          replace hlt := qt_G hlt0 G
          replace hlo1 := qt_Gv hlo hlo2 hlw G
          have hZc := hZ.to (fun q hq => G.2.1 q (by omega) (by omega) (by omega))
          have h1c := (G.2.1 b (by omega) (by omega) (by omega)).trans h1
          have h2c := (G.2.1 (b + 1) (by omega) (by omega) (by omega)).trans h2
          have h3c := (G.2.1 (b + 2) (by omega) (by omega) (by omega)).trans h3
          have l6 : t6.length = _ := (congrArg List.length hd6).trans (qt_l1 _ _)
          refine qa_aload_n (pc' := 55) ⟨rfl, rfl⟩ rfl ?_
          refine qa_getf (pc' := 58) ⟨rfl, rfl⟩ qg_3_15 h1c rfl ?_
          refine qa_iload_n (pc' := 59) ⟨rfl, rfl⟩ rfl ?_
          refine qa_iaload (pc' := 60) ⟨rfl, rfl⟩ h3c (by omega) ?_
          obtain ⟨ml7, cap7, ff7, hb, -⟩ := id hB
          refine qa_callV rfl qf_SB_append_2 ql_3_57 (c_SB_appendI (E := E) hz hZc hlo hlo1 hlt hB (by omega) (by omega)) hb rfl rfl rfl (qa_lt9 rfl) (qa_le9 rfl) (by omega) (by omega) (fun o9 τ9 hq9 => ?_)
          obtain ⟨rfl, v7, G9, B9⟩ := hq9
          refine qa_nx (pc' := 63) (st' := [_]) rfl rfl rfl rfl ?_
          replace G := G.tr G9
          replace hB := B9
          clear hb
          clear g1 g3 hlt h1c h2c h3c
          obtain ⟨t7, hd7⟩ : ∃ y9 : List Int, y9 = t6 ++ sp_dg (l k) := ⟨_, rfl⟩
          rw [← hd7] at hB
          have g1 := G.1
          have g3 := G.2.2
          replace hlt := qt_G hlt0 G
          replace hlo1 := qt_Gv hlo hlo2 hlw G
          have hZc := hZ.to (fun q hq => G.2.1 q (by omega) (by omega) (by omega))
          have h1c := (G.2.1 b (by omega) (by omega) (by omega)).trans h1
          have h2c := (G.2.1 (b + 1) (by omega) (by omega) (by omega)).trans h2
          have h3c := (G.2.1 (b + 2) (by omega) (by omega) (by omega)).trans h3
          have l7 : t7.length ≤ _ := Nat.le_trans (Nat.le_of_eq (congrArg List.length hd7)) (qt_l2 _ _).1
          refine qa_pop (pc' := 64) ⟨rfl, rfl⟩ rfl ?_
          refine qa_iinc (L' := [(0, _), (1, _), (2, _)]) (z := ((k + 1 : Nat) : Int)) (pc' := 67) ⟨rfl, rfl⟩ rfl (by omega) rfl rfl ?_
          refine qa_goto (pc' := 70) (tgt := 2) ⟨rfl, rfl⟩ rfl ?_
          refine qa_less (kc' := 4 * f) (ks' := 600 * f) (by omega) (by omega) ?_
          exact ih _ (k + 1) t7 _ ⟨by omega, by rw [hd7, hd6, hd5, hd1, htk, sm_txn_y (show sm_pf m i k = -1 by omega), k7], by omega, G, hB⟩
  refine qa_less (kc' := 4 * (sm_n m i).toNat) (ks' := 600 * (sm_n m i).toNat) (by omega) (by omega) ?_
  exact lp (sm_n m i).toNat σ 0 t v ⟨by omega, rfl, by omega, sB_G.rf _ _ _, hB⟩
theorem c_C_writePart {E : qa_V} {σ : qa_S} {c vi vo : Nat} {Z : Nat → Nat} {B : Int} {m msn : Int → Int} {mh : Int → Int → Int} {sp ct : Int} {t u : List Int} {cs : sc_C} {n : Nat → Int} {p : Int} (hZ : qa_St E Z σ.1) (hz : qa_Sb E) (hlo : E.1 ≤ c) (hC : sR_C σ.1 c vi vo Z B m msn mh sp ct t u cs n) (hsz : c + 277 ≤ σ.2 ∧ vi < σ.2 ∧ vo < σ.2) (hB9 : B ≤ 900000000) (hp : qa_in p) : qa_T E qm_C_writePart 64 8000 [.ref c, .int (qa_i p)] σ (fun o9 τ => o9 = qa_out [0] (fo_of m p ((sm_tx m p).length : Int)) ∧ sC_F σ τ c vi vo ∧ ∃ vo1 : Nat, (vo1 < τ.2 ∧ (vo1 = vo ∨ σ.2 ≤ vo1)) ∧ sR_C τ.1 c vi vo1 Z B m msn mh sp ct t (if sm_is m p then sm_tx m p else u) cs n) := by
  refine qa_enterQ (by decide) rfl qm_C_writePart_ok rfl rfl (fun Q9 hQ => ?_)
  have hC9 := hC
  obtain ⟨⟨hc, hn0, hn1, hn4⟩, ⟨⟨rf, hS⟩, hk⟩, ⟨⟨rf2, hSn⟩, hkn⟩, hH, hX, hR, hBb, hv1, hv2, hv3⟩ := hC
  have hk9 := hk
  have hS9 := hS
  obtain ⟨k0, k1, k2, k3, k4, k5, k6, k7, k8⟩ := hk9
  obtain ⟨hs, hpa, hcq, htq, hpp⟩ := hS9
  obtain ⟨src, mw, q1c, q2c, q3c, q4c⟩ := hcq
  refine qa_aload_n (pc' := 1) ⟨rfl, rfl⟩ rfl ?_
  refine qa_iload_n (pc' := 2) ⟨rfl, rfl⟩ rfl ?_
  refine qa_callV rfl qf_C_partOf ql_1_76 (c_C_partOf (E := E) hc hS hk hp) hc rfl rfl rfl (qa_lt9 rfl) (qa_le9 rfl) (qa_le9 rfl) (qa_le9 rfl) (fun o9 τ9 hq9 => ?_)
  rcases hq9 with ⟨ok9, rfl, hq9⟩ | ⟨no9, rfl, hh9, hn9⟩
  · replace hq9 := hq9.symm; subst hq9
    refine qa_nx (pc' := 5) (st' := [_]) rfl rfl rfl rfl ?_
    have tp := k5 p ok9.1 ok9.2
    have kk := k4 p ok9.1 (by omega)
    have kn := kk.1
    have hP := hpp p ok9.1 (by omega)
    have hP9 := hP
    obtain ⟨p9, l9, u9, d9, h1, h2, h3, h4, h5, h6⟩ := hP
    obtain ⟨rfl, rfl⟩ := h4 ok9.2
    have kp : c + 9 ≤ sm_pa (c + 1) p ∧ sm_pa (c + 1) p + 3 ≤ c + 24 := by unfold sm_pa; omega
    have hlo9 := hlo
    have hlt0 : c + 275 < σ.2 ∧ vo < σ.2 := by omega
    have hlo2 : E.1 ≤ vo := by omega
    have hlw := hlt0.1
    have hlo1 := hlo2
    obtain ⟨ml, cap, ff, hb, -⟩ := id hBb
    refine qa_astore_n (L' := [(0, _), (1, _), (2, _)]) (pc' := 6) ⟨rfl, rfl⟩ rfl rfl ?_
    refine qa_aload_n (pc' := 7) ⟨rfl, rfl⟩ rfl ?_
    refine qa_getf (pc' := 10) ⟨rfl, rfl⟩ qg_1_43 (by assumption) rfl ?_
    refine qa_iconst (pc' := 11) ⟨rfl, rfl⟩ ?_
    refine qa_callV rfl qf_SB_setLength ql_1_277 (c_SB_setLength (E := E) hz (by omega) hlo1 hlt0 hBb) hb rfl rfl rfl (qa_lt9 rfl) (qa_le9 rfl) (qa_le9 rfl) (qa_le9 rfl) (fun o9 τ9 hq9 => ?_)
    obtain ⟨rfl, s1, s2, hB⟩ := hq9
    refine qa_nx (pc' := 14) (st' := []) rfl rfl rfl rfl ?_
    have G : sB_G σ τ9 (c + 275) vo vo := ⟨s1, fun q qa _ qb => s2 q qa qb, Or.inl rfl⟩
    clear hb
    replace hlo : E.1 ≤ c + 275 := by omega
    have hlt := hlt0
    have g1 := G.1
    have g3 := G.2.2
    replace hlt := qt_G hlt0 G
    replace hlo1 := qt_Gv hlo hlo2 hlw G
    have hZc := hZ.to (fun q hq => G.2.1 q (by omega) (by omega) (by omega))
    have hcc := (G.2.1 c (by omega) (by omega) (by omega)).trans hc
    have h1c := (G.2.1 (sm_pa (c + 1) p) (by omega) (by omega) (by omega)).trans h1
    have l0 : ([] : List Int).length = 0 := rfl
    refine qa_aload_n (pc' := 15) ⟨rfl, rfl⟩ rfl ?_
    refine qa_getf (pc' := 18) ⟨rfl, rfl⟩ qg_1_43 hcc rfl ?_
    refine qa_iload_n (pc' := 19) ⟨rfl, rfl⟩ rfl ?_
    obtain ⟨ml8, cap8, ff8, hb, -⟩ := id hB
    refine qa_callV rfl qf_SB_append_2 ql_1_280 (c_SB_appendI (E := E) hz hZc hlo hlo1 hlt hB (by omega) (by omega)) hb rfl rfl rfl (qa_lt9 rfl) (qa_le9 rfl) (qa_le9 rfl) (qa_le9 rfl) (fun o9 τ9 hq9 => ?_)
    obtain ⟨rfl, v8, G9, B9⟩ := hq9
    refine qa_nx (pc' := 22) (st' := [_]) rfl rfl rfl rfl ?_
    replace G := G.tr G9
    replace hB := B9
    clear hb
    clear g1 g3 hcc h1c
    obtain ⟨t8, hd8⟩ : ∃ y9 : List Int, y9 = [] ++ sp_dg p := ⟨_, rfl⟩
    rw [← hd8] at hB
    have g1 := G.1
    have g3 := G.2.2
    replace hlt := qt_G hlt0 G
    replace hlo1 := qt_Gv hlo hlo2 hlw G
    have hZc := hZ.to (fun q hq => G.2.1 q (by omega) (by omega) (by omega))
    have hcc := (G.2.1 c (by omega) (by omega) (by omega)).trans hc
    have h1c := (G.2.1 (sm_pa (c + 1) p) (by omega) (by omega) (by omega)).trans h1
    have l8 : t8.length ≤ _ := Nat.le_trans (Nat.le_of_eq (congrArg List.length hd8)) (qt_l2 _ _).1
    have m8 : t8.length = _ := (congrArg List.length hd8).trans ((qt_l2 _ _).2 (by omega))
    refine qa_bipush (z := 40) (pc' := 24) ⟨rfl, rfl⟩ rfl ?_
    obtain ⟨ml9, cap9, ff9, hb, -⟩ := id hB
    refine qa_callV rfl qf_SB_append_3 ql_1_284 (c_SB_appendC (E := E) hz hlo hlo1 hlt hB (by omega) (by omega)) hb rfl rfl rfl (qa_lt9 rfl) (qa_le9 rfl) (qa_le9 rfl) (qa_le9 rfl) (fun o9 τ9 hq9 => ?_)
    obtain ⟨rfl, v9, G9, B9⟩ := hq9
    refine qa_nx (pc' := 27) (st' := [_]) rfl rfl rfl rfl ?_
    replace G := G.tr G9
    replace hB := B9
    clear hb
    clear g1 g3 hcc h1c
    obtain ⟨t9, hd9⟩ : ∃ y9 : List Int, y9 = t8 ++ [40] := ⟨_, rfl⟩
    rw [← hd9] at hB
    have g1 := G.1
    have g3 := G.2.2
    replace hlt := qt_G hlt0 G
    replace hlo1 := qt_Gv hlo hlo2 hlw G
    have hZc := hZ.to (fun q hq => G.2.1 q (by omega) (by omega) (by omega))
    have hcc := (G.2.1 c (by omega) (by omega) (by omega)).trans hc
    have h1c := (G.2.1 (sm_pa (c + 1) p) (by omega) (by omega) (by omega)).trans h1
    have l9 : t9.length = _ := (congrArg List.length hd9).trans (qt_l1 _ _)
    refine qa_aload_n (pc' := 28) ⟨rfl, rfl⟩ rfl ?_
    refine qa_getf (pc' := 31) ⟨rfl, rfl⟩ qg_1_152 h1c rfl ?_
    obtain ⟨ml10, cap10, ff10, hb, -⟩ := id hB
    refine qa_callV rfl qf_SB_append_2 ql_1_280 (c_SB_appendI (E := E) hz hZc hlo hlo1 hlt hB (by omega) (by omega)) hb rfl rfl rfl (qa_lt9 rfl) (qa_le9 rfl) (qa_le9 rfl) (qa_le9 rfl) (fun o9 τ9 hq9 => ?_)
    obtain ⟨rfl, v10, G9, B9⟩ := hq9
    refine qa_nx (pc' := 34) (st' := [_]) rfl rfl rfl rfl ?_
    replace G := G.tr G9
    replace hB := B9
    clear hb
    clear g1 g3 hcc h1c
    obtain ⟨t10, hd10⟩ : ∃ y9 : List Int, y9 = t9 ++ sp_dg (m (5 + 26 * p)) := ⟨_, rfl⟩
    rw [← hd10] at hB
    have g1 := G.1
    have g3 := G.2.2
    replace hlt := qt_G hlt0 G
    replace hlo1 := qt_Gv hlo hlo2 hlw G
    have hZc := hZ.to (fun q hq => G.2.1 q (by omega) (by omega) (by omega))
    have hcc := (G.2.1 c (by omega) (by omega) (by omega)).trans hc
    have h1c := (G.2.1 (sm_pa (c + 1) p) (by omega) (by omega) (by omega)).trans h1
    have l10 : t10.length ≤ _ := Nat.le_trans (Nat.le_of_eq (congrArg List.length hd10)) (qt_l2 _ _).1
    refine qa_bipush (z := 47) (pc' := 36) ⟨rfl, rfl⟩ rfl ?_
    obtain ⟨ml11, cap11, ff11, hb, -⟩ := id hB
    refine qa_callV rfl qf_SB_append_3 ql_1_284 (c_SB_appendC (E := E) hz hlo hlo1 hlt hB (by omega) (by omega)) hb rfl rfl rfl (qa_lt9 rfl) (qa_le9 rfl) (qa_le9 rfl) (qa_le9 rfl) (fun o9 τ9 hq9 => ?_)
    obtain ⟨rfl, v11, G9, B9⟩ := hq9
    refine qa_nx (pc' := 39) (st' := [_]) rfl rfl rfl rfl ?_
    replace G := G.tr G9
    replace hB := B9
    clear hb
    clear g1 g3 hcc h1c
    obtain ⟨t11, hd11⟩ : ∃ y9 : List Int, y9 = t10 ++ [47] := ⟨_, rfl⟩
    rw [← hd11] at hB
    have g1 := G.1
    have g3 := G.2.2
    replace hlt := qt_G hlt0 G
    replace hlo1 := qt_Gv hlo hlo2 hlw G
    have hZc := hZ.to (fun q hq => G.2.1 q (by omega) (by omega) (by omega))
    have hcc := (G.2.1 c (by omega) (by omega) (by omega)).trans hc
    have h1c := (G.2.1 (sm_pa (c + 1) p) (by omega) (by omega) (by omega)).trans h1
    have l11 : t11.length = _ := (congrArg List.length hd11).trans (qt_l1 _ _)
    refine qa_aload_n (pc' := 40) ⟨rfl, rfl⟩ rfl ?_
    refine qa_getf (pc' := 43) ⟨rfl, rfl⟩ qg_1_155 h1c rfl ?_
    obtain ⟨ml12, cap12, ff12, hb, -⟩ := id hB
    refine qa_callV rfl qf_SB_append_2 ql_1_280 (c_SB_appendI (E := E) hz hZc hlo hlo1 hlt hB (by omega) (by omega)) hb rfl rfl rfl (qa_lt9 rfl) (qa_le9 rfl) (qa_le9 rfl) (qa_le9 rfl) (fun o9 τ9 hq9 => ?_)
    obtain ⟨rfl, v12, G9, B9⟩ := hq9
    refine qa_nx (pc' := 46) (st' := [_]) rfl rfl rfl rfl ?_
    replace G := G.tr G9
    replace hB := B9
    clear hb
    clear g1 g3 hcc h1c
    obtain ⟨t12, hd12⟩ : ∃ y9 : List Int, y9 = t11 ++ sp_dg (m (6 + 26 * p)) := ⟨_, rfl⟩
    rw [← hd12] at hB
    have g1 := G.1
    have g3 := G.2.2
    replace hlt := qt_G hlt0 G
    replace hlo1 := qt_Gv hlo hlo2 hlw G
    have hZc := hZ.to (fun q hq => G.2.1 q (by omega) (by omega) (by omega))
    have hcc := (G.2.1 c (by omega) (by omega) (by omega)).trans hc
    have h1c := (G.2.1 (sm_pa (c + 1) p) (by omega) (by omega) (by omega)).trans h1
    have l12 : t12.length ≤ _ := Nat.le_trans (Nat.le_of_eq (congrArg List.length hd12)) (qt_l2 _ _).1
    refine qa_bipush (z := 41) (pc' := 48) ⟨rfl, rfl⟩ rfl ?_
    obtain ⟨ml13, cap13, ff13, hb, -⟩ := id hB
    refine qa_callV rfl qf_SB_append_3 ql_1_284 (c_SB_appendC (E := E) hz hlo hlo1 hlt hB (by omega) (by omega)) hb rfl rfl rfl (qa_lt9 rfl) (qa_le9 rfl) (qa_le9 rfl) (qa_le9 rfl) (fun o9 τ9 hq9 => ?_)
    obtain ⟨rfl, v13, G9, B9⟩ := hq9
    refine qa_nx (pc' := 51) (st' := [_]) rfl rfl rfl rfl ?_
    replace G := G.tr G9
    replace hB := B9
    clear hb
    clear g1 g3 hcc h1c
    obtain ⟨t13, hd13⟩ : ∃ y9 : List Int, y9 = t12 ++ [41] := ⟨_, rfl⟩
    rw [← hd13] at hB
    have g1 := G.1
    have g3 := G.2.2
    replace hlt := qt_G hlt0 G
    replace hlo1 := qt_Gv hlo hlo2 hlw G
    have hZc := hZ.to (fun q hq => G.2.1 q (by omega) (by omega) (by omega))
    have hcc := (G.2.1 c (by omega) (by omega) (by omega)).trans hc
    have h1c := (G.2.1 (sm_pa (c + 1) p) (by omega) (by omega) (by omega)).trans h1
    have l13 : t13.length = _ := (congrArg List.length hd13).trans (qt_l1 _ _)
    have hx0 : t13 = sm_tx0 m p := by rw [hd13, hd12, hd11, hd10, hd9, hd8]; rfl
    have hsc := (G.2.1 (c + 1) (by omega) (by omega) (by omega)).trans hs
    have q1d := (G.2.1 (c + 1 + 2) (by omega) (by omega) (by omega)).trans q1c
    have q2d := (G.2.1 (c + 1 + 2 + 1) (by omega) (by omega) (by omega)).trans q2c
    refine qa_pop (pc' := 52) ⟨rfl, rfl⟩ rfl ?_
    refine qa_aload_n (pc' := 53) ⟨rfl, rfl⟩ rfl ?_
    refine qa_getf (pc' := 56) ⟨rfl, rfl⟩ qg_1_10 hcc rfl ?_
    refine qa_getf (pc' := 59) ⟨rfl, rfl⟩ qg_1_187 hsc rfl ?_
    refine qa_iload_n (pc' := 60) ⟨rfl, rfl⟩ rfl ?_
    refine qa_callV rfl qf_Q_after ql_1_191 (c_Q_after (E := E) q1d q2d (by omega)) q1d rfl rfl rfl (qa_lt9 rfl) (qa_le9 rfl) (qa_le9 rfl) (qa_le9 rfl) (fun o9 τ9 hq9 => ?_)
    obtain ⟨rfl, hq9⟩ := hq9
    replace hq9 := hq9.symm; subst hq9
    refine qa_nx (pc' := 63) (st' := [_]) rfl rfl rfl rfl ?_
    rw [sp_af_src hk q4c]
    have e9 : sp_af (sm_src m) p = m (7 + 26 * p) := by unfold sp_af sm_src; rw [if_pos (by omega), if_pos (by omega)]
    rw [e9]
    refine qa_istore_n (L' := [(0, _), (1, _), (2, _), (3, _)]) (pc' := 64) ⟨rfl, rfl⟩ rfl rfl ?_
    refine qa_iload_n (pc' := 65) ⟨rfl, rfl⟩ rfl ?_
    refine qa_iconst (pc' := 66) ⟨rfl, rfl⟩ ?_
    refine qa_icmp_eq (pc' := 69) (tgt := 83) ⟨rfl, rfl⟩ rfl (by omega) (by omega) (fun hc3 => ?_) (fun hc3 => ?_)
    · refine qa_aload_n (pc' := 84) ⟨rfl, rfl⟩ rfl ?_
      refine qa_aload_n (pc' := 85) ⟨rfl, rfl⟩ rfl ?_
      refine qa_getf (pc' := 88) ⟨rfl, rfl⟩ qg_1_43 hcc rfl ?_
      have hP1 := hP9.to (m' := m) (fun q qa qb => G.2.1 q (by omega) (by omega) (by omega)) (fun _ _ _ => rfl) kn (Or.inl Iff.rfl)
      refine qa_callV rfl qf_P_writeNotes ql_1_287 (c_P_writeNotes (E := E) hz hZc hlo hlo1 hlt hP1 kk (by omega) (by omega) hB (by omega)) h1c rfl rfl rfl (qa_lt9 rfl) (qa_le9 rfl) (qa_le9 rfl) (qa_le9 rfl) (fun o9 τ9 hq9 => ?_)
      obtain ⟨rfl, v9, G9, B9⟩ := hq9
      refine qa_nx (pc' := 91) (st' := []) rfl rfl rfl rfl ?_
      replace G := G.tr G9
      clear g1 g3 hcc
      have g1 := G.1
      have g3 := G.2.2
      have hcc := (G.2.1 c (by omega) (by omega) (by omega)).trans hc
      obtain ⟨mlz, capz, ffz, hb, -⟩ := id B9
      have eT : sm_txn (sm_pf m p) (sm_lf m p) t13 (sm_n m p).toNat = sm_tx m p := by unfold sm_tx; rw [hx0, show sm_tx1 m p = sm_tx0 m p from if_pos hc3]
      rw [eT] at B9 hb
      refine qa_aload_n (pc' := 92) ⟨rfl, rfl⟩ rfl ?_
      refine qa_getf (pc' := 95) ⟨rfl, rfl⟩ qg_1_43 hcc rfl ?_
      refine qa_callV rfl qf_SB_length ql_1_291 (c_SB_length (E := E) B9) hb rfl rfl rfl (qa_lt9 rfl) (qa_le9 rfl) (qa_le9 rfl) (qa_le9 rfl) (fun o9 τ9 hq9 => ?_)
      obtain ⟨rfl, hq9⟩ := hq9
      replace hq9 := hq9.symm; subst hq9
      refine qa_nx (pc' := 98) (st' := [_]) rfl rfl rfl rfl ?_
      rw [if_pos ok9] at hQ
      refine qa_ireturn rfl rfl rfl (hQ _ _ ⟨by unfold fo_of; rw [if_pos ok9]; rfl, ⟨g1, fun q qa qb qc qd => G.2.1 q (by omega) (by omega) qd⟩, v9, ⟨by omega, by omega⟩, hC9.setB (fun q hq => G.2.1 q (by omega) (by omega) (by omega)) B9 (by omega)⟩)
    · refine qa_aload_n (pc' := 70) ⟨rfl, rfl⟩ rfl ?_
      refine qa_getf (pc' := 73) ⟨rfl, rfl⟩ qg_1_43 hcc rfl ?_
      refine qa_bipush (z := 62) (pc' := 75) ⟨rfl, rfl⟩ rfl ?_
      obtain ⟨ml14, cap14, ff14, hb, -⟩ := id hB
      refine qa_callV rfl qf_SB_append_3 ql_1_284 (c_SB_appendC (E := E) hz hlo hlo1 hlt hB (by omega) (by omega)) hb rfl rfl rfl (qa_lt9 rfl) (qa_le9 rfl) (qa_le9 rfl) (qa_le9 rfl) (fun o9 τ9 hq9 => ?_)
      obtain ⟨rfl, v14, G9, B9⟩ := hq9
      refine qa_nx (pc' := 78) (st' := [_]) rfl rfl rfl rfl ?_
      replace G := G.tr G9
      replace hB := B9
      clear hb
      clear g1 g3 hcc h1c
      obtain ⟨t14, hd14⟩ : ∃ y9 : List Int, y9 = t13 ++ [62] := ⟨_, rfl⟩
      rw [← hd14] at hB
      have g1 := G.1
      have g3 := G.2.2
      replace hlt := qt_G hlt0 G
      replace hlo1 := qt_Gv hlo hlo2 hlw G
      have hZc := hZ.to (fun q hq => G.2.1 q (by omega) (by omega) (by omega))
      have hcc := (G.2.1 c (by omega) (by omega) (by omega)).trans hc
      have h1c := (G.2.1 (sm_pa (c + 1) p) (by omega) (by omega) (by omega)).trans h1
      have l14 : t14.length = _ := (congrArg List.length hd14).trans (qt_l1 _ _)
      refine qa_iload_n (pc' := 79) ⟨rfl, rfl⟩ rfl ?_
      obtain ⟨ml15, cap15, ff15, hb, -⟩ := id hB
      refine qa_callV rfl qf_SB_append_2 ql_1_280 (c_SB_appendI (E := E) hz hZc hlo hlo1 hlt hB (by omega) (by omega)) hb rfl rfl rfl (qa_lt9 rfl) (qa_le9 rfl) (qa_le9 rfl) (qa_le9 rfl) (fun o9 τ9 hq9 => ?_)
      obtain ⟨rfl, v15, G9, B9⟩ := hq9
      refine qa_nx (pc' := 82) (st' := [_]) rfl rfl rfl rfl ?_
      replace G := G.tr G9
      replace hB := B9
      clear hb
      clear g1 g3 hcc h1c
      obtain ⟨t15, hd15⟩ : ∃ y9 : List Int, y9 = t14 ++ sp_dg (m (7 + 26 * p)) := ⟨_, rfl⟩
      rw [← hd15] at hB
      have g1 := G.1
      have g3 := G.2.2
      replace hlt := qt_G hlt0 G
      replace hlo1 := qt_Gv hlo hlo2 hlw G
      have hZc := hZ.to (fun q hq => G.2.1 q (by omega) (by omega) (by omega))
      have hcc := (G.2.1 c (by omega) (by omega) (by omega)).trans hc
      have h1c := (G.2.1 (sm_pa (c + 1) p) (by omega) (by omega) (by omega)).trans h1
      have l15 : t15.length ≤ _ := Nat.le_trans (Nat.le_of_eq (congrArg List.length hd15)) (qt_l2 _ _).1
      have m15 : t15.length = _ := (congrArg List.length hd15).trans ((qt_l2 _ _).2 (by omega))
      have hx1 : t15 = sm_tx1 m p := by rw [hd15, hd14, hx0]; exact (if_neg hc3).symm
      refine qa_pop (pc' := 83) ⟨rfl, rfl⟩ rfl ?_
      refine qa_aload_n (pc' := 84) ⟨rfl, rfl⟩ rfl ?_
      refine qa_aload_n (pc' := 85) ⟨rfl, rfl⟩ rfl ?_
      refine qa_getf (pc' := 88) ⟨rfl, rfl⟩ qg_1_43 hcc rfl ?_
      have hP1 := hP9.to (m' := m) (fun q qa qb => G.2.1 q (by omega) (by omega) (by omega)) (fun _ _ _ => rfl) kn (Or.inl Iff.rfl)
      refine qa_callV rfl qf_P_writeNotes ql_1_287 (c_P_writeNotes (E := E) hz hZc hlo hlo1 hlt hP1 kk (by omega) (by omega) hB (by omega)) h1c rfl rfl rfl (qa_lt9 rfl) (qa_le9 rfl) (qa_le9 rfl) (qa_le9 rfl) (fun o9 τ9 hq9 => ?_)
      obtain ⟨rfl, v9, G9, B9⟩ := hq9
      refine qa_nx (pc' := 91) (st' := []) rfl rfl rfl rfl ?_
      replace G := G.tr G9
      clear g1 g3 hcc
      have g1 := G.1
      have g3 := G.2.2
      have hcc := (G.2.1 c (by omega) (by omega) (by omega)).trans hc
      obtain ⟨mlz, capz, ffz, hb, -⟩ := id B9
      have eT : sm_txn (sm_pf m p) (sm_lf m p) t15 (sm_n m p).toNat = sm_tx m p := by unfold sm_tx; rw [hx1]
      rw [eT] at B9 hb
      refine qa_aload_n (pc' := 92) ⟨rfl, rfl⟩ rfl ?_
      refine qa_getf (pc' := 95) ⟨rfl, rfl⟩ qg_1_43 hcc rfl ?_
      refine qa_callV rfl qf_SB_length ql_1_291 (c_SB_length (E := E) B9) hb rfl rfl rfl (qa_lt9 rfl) (qa_le9 rfl) (qa_le9 rfl) (qa_le9 rfl) (fun o9 τ9 hq9 => ?_)
      obtain ⟨rfl, hq9⟩ := hq9
      replace hq9 := hq9.symm; subst hq9
      refine qa_nx (pc' := 98) (st' := [_]) rfl rfl rfl rfl ?_
      rw [if_pos ok9] at hQ
      refine qa_ireturn rfl rfl rfl (hQ _ _ ⟨by unfold fo_of; rw [if_pos ok9]; rfl, ⟨g1, fun q qa qb qc qd => G.2.1 q (by omega) (by omega) qd⟩, v9, ⟨by omega, by omega⟩, hC9.setB (fun q hq => G.2.1 q (by omega) (by omega) (by omega)) B9 (by omega)⟩)
  · rw [if_neg no9] at hQ
    exact qa_Zout rfl (hQ _ _ ⟨by unfold fo_of; rw [if_neg no9]; rfl, sC_F.rf hh9 hn9, vo, ⟨by omega, Or.inl rfl⟩, hh9 ▸ hC9⟩)
