/-! the nearest fraction: the model's own trying -/
def sp_nb (d W p : Int) : Int := if 0 ≤ p * d - W then p * d - W else -(p * d - W)
def sp_ns (u d q k : Int) (s : Int × Int × Int) : Int × Int × Int := if s.1 = -1 ∨ sp_nb d (u * q) (u * q / d + k) * s.2.2 < s.1 * q then (sp_nb d (u * q) (u * q / d + k), u * q / d + k, q) else s
def sp_nm (u d t b : Int) : Nat → Int × Int × Int
  | 0 => (-1, t, b)
  | j + 1 => sp_ns u d (((j / 2 : Nat) : Int) + 1) ((j % 2 : Nat) : Int) (sp_nm u d t b j)
theorem sp_nm_s (u d t b : Int) (j : Nat) : sp_nm u d t b (j + 1) = sp_ns u d (((j / 2 : Nat) : Int) + 1) ((j % 2 : Nat) : Int) (sp_nm u d t b j) := rfl
theorem sp_nY {W d t X Y k : Int} (hd : 1 ≤ d ∧ d ≤ 99) (hW : 0 ≤ W) (hk : k = 0 ∨ k = 1) (ht : t = W / d) (hX : X = t + k) (hY : Y = X * d) : 0 ≤ t ∧ t ≤ W ∧ W - 99 ≤ Y ∧ Y ≤ W + 99 := by
  have h1 := Int.mul_ediv_add_emod W d
  have h2 := Int.emod_nonneg W (show d ≠ 0 by omega)
  have h3 := Int.emod_lt_of_pos W (show 0 < d by omega)
  have h4 := Int.ediv_nonneg hW (show 0 ≤ d by omega)
  have h5 := Int.ediv_le_self d hW
  rw [← ht] at h1 h4 h5
  have h6 : Y = d * t + k * d := by rw [hY, hX, Int.add_mul, Int.mul_comm t d]
  rcases hk with rfl | rfl <;> omega
def qa_Mn (σ : qa_S) (μ : Nat) (f : Nat → Int) (m sv ps ip li : Int → Int) (k x y : Int) : qa_O → qa_S → Prop := fun o9 τ => (∃ v : Int, o9 = .inl (some (.int (qa_i v)))) ∧ τ.2 = σ.2 ∧ (∀ q, (q < μ ∨ μ + 11 ≤ q) → τ.1 q = σ.1 q) ∧ ∃ f' : Nat → Int, sR_M τ.1 μ f' m sv ps ip li ∧ f' 12 = k ∧ sM_same f f' ∧ (k = 0 → f' 16 = x ∧ f' 17 = y)
theorem c_M_nearest {E : qa_V} {σ : qa_S} {μ : Nat} {f : Nat → Int} {m sv ps ip li : Int → Int} {B : Int} {p x : Int} (hlo : E.1 ≤ μ) (hR : sR_M σ.1 μ f m sv ps ip li) (hk : sm_ok m B) (hp : qa_in p) (hx : qa_in x) : qa_T E qm_M_nearest 0 0 [.ref μ, .int (qa_i p), .int (qa_i x)] σ (qa_Mn σ μ f m sv ps ip li (fo_near m p x 0).1 (sp_nm (m (5 + 26 * p)) (m (6 + 26 * p)) (f 16) (f 17) (2 * x.toNat)).2.1 (sp_nm (m (5 + 26 * p)) (m (6 + 26 * p)) (f 16) (f 17) (2 * x.toNat)).2.2) := by
  refine qa_enterQ (by decide) rfl qm_M_nearest_ok rfl rfl (fun Q9 hQ => ?_)
  obtain ⟨k0, k1, k2, k3, k4, k5, k6, k7, k8⟩ := id hk
  have hR9 := hR
  obtain ⟨⟨hM, hm⟩, ⟨as, ha⟩, hsv, hps, hip, ⟨tb, htb⟩, hli, hlt, hbg, cm, hcm⟩ := hR
  have e0 : σ.2 = σ.2 := rfl
  have fr : ∀ q, q ≠ μ → σ.1 q = σ.1 q := fun _ _ => rfl
  refine qa_aload_n (pc' := 1) ⟨rfl, rfl⟩ rfl ?_
  refine qa_iconst (pc' := 2) ⟨rfl, rfl⟩ ?_
  refine qa_putf (fs' := [_, _, _, _, _, _, _, _, _, _, _, _, _, _, _, _, _, _, _, _, _, _, _, _, _, _, _]) (pc' := 5) ⟨rfl, rfl⟩ qg_10_51 qw_9 hM (by omega) rfl (fun r hr => by cases hr; exact ⟨rfl, Or.inl rfl⟩) rfl rfl ?_
  refine qa_gz (fun τ1 e1 w1 f1 => ?_)
  replace hm := (f1 _ (by omega)).trans hm
  replace fr := fun q hq => (f1 q (by have := hq; omega)).trans (fr q hq)
  replace e0 := e1.trans e0
  have hM : τ1.1 μ = some (qa_MoF μ (sN_put f 12 0)) := w1
  refine qa_aload_n (pc' := 6) ⟨rfl, rfl⟩ rfl ?_
  refine qa_iload_n (pc' := 7) ⟨rfl, rfl⟩ rfl ?_
  refine qa_callV rfl qf_M_isPart ql_10_111 (c_M_isPart (E := E) hM hm hk (by omega)) hM rfl rfl rfl (qa_lt9 rfl) (qa_le9 rfl) (qa_le9 rfl) (qa_le9 rfl) (fun o9 τ9 hq9 => ?_)
  obtain ⟨rfl, hq9⟩ := hq9
  replace hq9 := hq9.symm; subst hq9
  refine qa_nx (pc' := 10) (st' := [_]) rfl rfl rfl rfl ?_
  by_cases hp9 : 0 ≤ p ∧ p < m 0
  · rw [if_pos hp9]
    refine qa_if_ne (pc' := 13) (tgt := 19) ⟨rfl, rfl⟩ rfl (by omega) (fun hp99 => ?_) (fun hp99 => ?_)
    · refine qa_iload_n (pc' := 20) ⟨rfl, rfl⟩ rfl ?_
      refine qa_i2l (pc' := 21) ⟨rfl, rfl⟩ (by omega) ?_
      refine qa_lconst (z := 1) (pc' := 22) ⟨rfl, rfl⟩ rfl ?_
      refine qa_ldc2 (z := 20) (pc' := 25) ⟨rfl, rfl⟩ qk_10_163 ?_
      refine qa_callS rfl qf_M_in rfl ql_10_70 (c_M_in (E := E) (by omega) (by omega) (by omega)) rfl rfl (qa_lt9 rfl) (qa_le9 rfl) (qa_le9 rfl) (qa_le9 rfl) (fun o9 τ9 hq9 => ?_)
      obtain ⟨rfl, hq9⟩ := hq9
      replace hq9 := hq9.symm; subst hq9
      refine qa_nx (pc' := 28) (st' := [_]) rfl rfl rfl rfl ?_
      by_cases hi9 : 1 ≤ x ∧ x ≤ 20
      · rw [if_pos hi9]
        refine qa_if_ne (pc' := 31) (tgt := 37) ⟨rfl, rfl⟩ rfl (by omega) (fun hi99 => ?_) (fun hi99 => ?_)
        · have tp := k5 p (by omega) (by omega)
          obtain ⟨u, hu⟩ : ∃ u, u = m (5 + 26 * p) := ⟨_, rfl⟩
          obtain ⟨d, hd⟩ : ∃ d, d = m (6 + 26 * p) := ⟨_, rfl⟩
          have hu9 : 1 ≤ u ∧ u ≤ 99 := by omega
          have hd9 : 1 ≤ d ∧ d ≤ 99 := by omega
          refine qa_aload_n (pc' := 38) ⟨rfl, rfl⟩ rfl ?_
          refine qa_getf (pc' := 41) ⟨rfl, rfl⟩ qg_10_9 (by assumption) rfl ?_
          refine qa_iload_n (pc' := 42) ⟨rfl, rfl⟩ rfl ?_
          refine qa_callS rfl qf_M_partAt rfl ql_10_74 (c_M_partAt (E := E)) rfl rfl (qa_lt9 rfl) (qa_le9 rfl) (qa_le9 rfl) (qa_le9 rfl) (fun o9 τ9 hq9 => ?_)
          obtain ⟨rfl, hq9⟩ := hq9
          replace hq9 := hq9.symm; subst hq9
          refine qa_nx (pc' := 45) (st' := [_, _]) rfl rfl rfl rfl ?_
          refine qa_iconst (pc' := 46) ⟨rfl, rfl⟩ ?_
          refine qa_iadd (z := 5 + 26 * p) (pc' := 47) ⟨rfl, rfl⟩ (by omega) ?_
          refine qa_iaload (pc' := 48) ⟨rfl, rfl⟩ (by assumption) (by omega) ?_
          refine qa_istore_n (L' := [(0, _), (1, _), (2, _), (3, _)]) (pc' := 49) ⟨rfl, rfl⟩ rfl rfl ?_
          refine qa_aload_n (pc' := 50) ⟨rfl, rfl⟩ rfl ?_
          refine qa_getf (pc' := 53) ⟨rfl, rfl⟩ qg_10_9 (by assumption) rfl ?_
          refine qa_iload_n (pc' := 54) ⟨rfl, rfl⟩ rfl ?_
          refine qa_callS rfl qf_M_partAt rfl ql_10_74 (c_M_partAt (E := E)) rfl rfl (qa_lt9 rfl) (qa_le9 rfl) (qa_le9 rfl) (qa_le9 rfl) (fun o9 τ9 hq9 => ?_)
          obtain ⟨rfl, hq9⟩ := hq9
          replace hq9 := hq9.symm; subst hq9
          refine qa_nx (pc' := 57) (st' := [_, _]) rfl rfl rfl rfl ?_
          refine qa_iconst (pc' := 58) ⟨rfl, rfl⟩ ?_
          refine qa_iadd (z := 6 + 26 * p) (pc' := 59) ⟨rfl, rfl⟩ (by omega) ?_
          refine qa_iaload (pc' := 60) ⟨rfl, rfl⟩ (by assumption) (by omega) ?_
          refine qa_istore (L' := [(0, _), (1, _), (2, _), (3, _), (4, _)]) (pc' := 62) ⟨rfl, rfl⟩ rfl rfl ?_
          refine qa_iconst (pc' := 63) ⟨rfl, rfl⟩ ?_
          refine qa_istore (L' := [(0, _), (1, _), (2, _), (3, _), (4, _), (5, _)]) (pc' := 65) ⟨rfl, rfl⟩ rfl rfl ?_
          refine qa_iconst (pc' := 66) ⟨rfl, rfl⟩ ?_
          refine qa_istore (L' := [(0, _), (1, _), (2, _), (3, _), (4, _), (5, _), (6, _)]) (pc' := 68) ⟨rfl, rfl⟩ rfl rfl ?_
          rw [← hu, ← hd]
          have T1 : ∀ (f9 : Nat) (τ : qa_S) (i : Nat) (F : Nat → Int) (fa to bo : Int), ((i : Int) + f9 = x ∧ sp_nm u d (f 16) (f 17) (2 * i) = (fa, to, bo) ∧ ((2 * i = 0 ∧ fa = -1) ∨ (0 ≤ fa ∧ fa ≤ 99 ∧ 1 ≤ bo ∧ bo ≤ 20)) ∧ τ.2 = σ.2 ∧ τ.1 μ = some (qa_MoF μ F) ∧ τ.1 (μ + 1) = some (qa_ia 146 m) ∧ (∀ q, q ≠ μ → τ.1 q = σ.1 q) ∧ F 12 = 0 ∧ sM_same f F ∧ F 16 = to ∧ F 17 = bo) → qa_W E qm_M_nearest Q9 0 0 68 [(0, .ref μ), (1, .int (qa_i p)), (2, .int (qa_i x)), (3, .int (qa_i u)), (4, .int (qa_i d)), (5, .int (qa_i fa)), (6, .int (qa_i ((i : Int) + 1)))] [] τ := by
            clear hM hm e0 fr
            intro f9
            induction f9 with
            | zero =>
              intro τ i F fa to bo ⟨hif, hS, hbd, e0, hM, hm, fr, hF, hsm, h16, h17⟩
              refine qa_iload (pc' := 70) ⟨rfl, rfl⟩ rfl ?_
              refine qa_iload_n (pc' := 71) ⟨rfl, rfl⟩ rfl ?_
              refine qa_icmp_gt (pc' := 74) (tgt := 159) ⟨rfl, rfl⟩ rfl (by omega) (by omega) (fun hc1 => ?_) (fun hc1 => ?_)
              · refine qa_iconst (pc' := 160) ⟨rfl, rfl⟩ ?_
                have hkn : (fo_near m p x 0).1 = 0 := by unfold fo_near; repeat (first | rw [if_pos (by omega)] | rw [if_neg (by omega)])
                have hfin : (sp_nm (m (5 + 26 * p)) (m (6 + 26 * p)) (f 16) (f 17) (2 * x.toNat)) = (fa, to, bo) := by rw [← hu, ← hd, show x.toNat = i by omega]; exact hS
                refine qa_ireturn rfl rfl rfl (hQ _ _ ⟨⟨_, rfl⟩, e0, fun q hq => fr q (by omega), F, hR9.setF fr hM, hF.trans hkn.symm, hsm, fun _ => ⟨by rw [hfin]; exact h16, by rw [hfin]; exact h17⟩⟩)
              · exact absurd hc1 (by omega)
            | succ f9 iT1 =>
              intro τ i F fa to bo ⟨hif, hS, hbd, e0, hM, hm, fr, hF, hsm, h16, h17⟩
              refine qa_iload (pc' := 70) ⟨rfl, rfl⟩ rfl ?_
              refine qa_iload_n (pc' := 71) ⟨rfl, rfl⟩ rfl ?_
              refine qa_icmp_gt (pc' := 74) (tgt := 159) ⟨rfl, rfl⟩ rfl (by omega) (by omega) (fun hc1 => ?_) (fun hc1 => ?_)
              · exact absurd hc1 (by omega)
              · refine qa_iconst (pc' := 75) ⟨rfl, rfl⟩ ?_
                refine qa_istore (L' := [(0, _), (1, _), (2, _), (3, _), (4, _), (5, _), (6, _), (7, _)]) (pc' := 77) ⟨rfl, rfl⟩ rfl rfl ?_
                obtain ⟨q, hq⟩ : ∃ q : Int, q = (i : Int) + 1 := ⟨_, rfl⟩
                rw [← hq]
                have hW9 := sp_mb (a := u) (b := q) (A := 99) (B := 20) (by omega) (by omega)
                obtain ⟨W, hW⟩ : ∃ W, W = u * q := ⟨_, rfl⟩
                rw [← hW] at hW9
                obtain ⟨t, ht⟩ : ∃ t, t = W / d := ⟨_, rfl⟩
                have T2 : ∀ (f2 : Nat) (τ : qa_S) (k : Nat) (F : Nat → Int) (fa to bo : Int), (k + f2 = 2 ∧ sp_nm u d (f 16) (f 17) (2 * i + k) = (fa, to, bo) ∧ ((2 * i + k = 0 ∧ fa = -1) ∨ (0 ≤ fa ∧ fa ≤ 99 ∧ 1 ≤ bo ∧ bo ≤ 20)) ∧ τ.2 = σ.2 ∧ τ.1 μ = some (qa_MoF μ F) ∧ τ.1 (μ + 1) = some (qa_ia 146 m) ∧ (∀ q, q ≠ μ → τ.1 q = σ.1 q) ∧ F 12 = 0 ∧ sM_same f F ∧ F 16 = to ∧ F 17 = bo) → qa_W E qm_M_nearest Q9 0 0 77 [(0, .ref μ), (1, .int (qa_i p)), (2, .int (qa_i x)), (3, .int (qa_i u)), (4, .int (qa_i d)), (5, .int (qa_i fa)), (6, .int (qa_i q)), (7, .int (qa_i k))] [] τ := by
                  clear hM hm e0 fr hF hsm h16 h17 hS hbd
                  intro f2
                  induction f2 with
                  | zero =>
                    intro τ k F fa to bo ⟨hkf, hS, hbd, e0, hM, hm, fr, hF, hsm, h16, h17⟩
                    refine qa_iload (pc' := 79) ⟨rfl, rfl⟩ rfl ?_
                    refine qa_iconst (pc' := 80) ⟨rfl, rfl⟩ ?_
                    refine qa_icmp_ge (pc' := 83) (tgt := 153) ⟨rfl, rfl⟩ rfl (by omega) (by omega) (fun hc2 => ?_) (fun hc2 => ?_)
                    · refine qa_iinc (L' := [(0, _), (1, _), (2, _), (3, _), (4, _), (5, _), (6, _), (7, _)]) (z := ((i + 1 : Nat) : Int) + 1) (pc' := 156) ⟨rfl, rfl⟩ rfl (by omega) rfl rfl ?_
                      refine qa_goto (pc' := 159) (tgt := 68) ⟨rfl, rfl⟩ rfl ?_
                      refine qa_sub (ks' := [0, 1, 2, 3, 4, 5, 6]) (L' := [(0, _), (1, _), (2, _), (3, _), (4, _), (5, _), (6, _)]) rfl ?_
                      refine iT1 _ (i + 1) F fa to bo ⟨by omega, ?_, by omega, e0, hM, hm, fr, hF, hsm, h16, h17⟩
                      rw [show 2 * (i + 1) = 2 * i + k by omega]; exact hS
                    · exact absurd hc2 (by omega)
                  | succ f2 iT2 =>
                    intro τ k F fa to bo ⟨hkf, hS, hbd, e0, hM, hm, fr, hF, hsm, h16, h17⟩
                    refine qa_iload (pc' := 79) ⟨rfl, rfl⟩ rfl ?_
                    refine qa_iconst (pc' := 80) ⟨rfl, rfl⟩ ?_
                    refine qa_icmp_ge (pc' := 83) (tgt := 153) ⟨rfl, rfl⟩ rfl (by omega) (by omega) (fun hc2 => ?_) (fun hc2 => ?_)
                    · exact absurd hc2 (by omega)
                    · obtain ⟨X, hX⟩ : ∃ X : Int, X = t + k := ⟨_, rfl⟩
                      obtain ⟨Y, hY⟩ : ∃ Y, Y = X * d := ⟨_, rfl⟩
                      have hYb := sp_nY hd9 (by omega) (show (k : Int) = 0 ∨ (k : Int) = 1 by omega) ht hX hY
                      obtain ⟨g9, hg9⟩ : ∃ g9, g9 = if 0 ≤ Y - W then Y - W else -(Y - W) := ⟨_, rfl⟩
                      have hgb : 0 ≤ g9 ∧ g9 ≤ 99 := by rw [hg9]; split <;> omega
                      have hst : sp_nm u d (f 16) (f 17) (2 * i + (k + 1)) = if fa = -1 ∨ g9 * bo < fa * q then (g9, X, q) else (fa, to, bo) := by
                        rw [← Nat.add_assoc, sp_nm_s, show (2 * i + k) / 2 = i by omega, show (2 * i + k) % 2 = k by omega, hS, ← hq, hg9, hY, hX, ht, hW]
                        rfl
                      refine qa_iload_n (pc' := 84) ⟨rfl, rfl⟩ rfl ?_
                      refine qa_iload (pc' := 86) ⟨rfl, rfl⟩ rfl ?_
                      refine qa_imul (z := W) (pc' := 87) ⟨rfl, rfl⟩ hW.symm ?_
                      refine qa_iload (pc' := 89) ⟨rfl, rfl⟩ rfl ?_
                      refine qa_idiv (z := t) (pc' := 90) ⟨rfl, rfl⟩ (by omega) (by omega) (by omega) (by omega) ht.symm ?_
                      refine qa_iload (pc' := 92) ⟨rfl, rfl⟩ rfl ?_
                      refine qa_iadd (z := X) (pc' := 93) ⟨rfl, rfl⟩ hX.symm ?_
                      refine qa_istore (L' := [(0, _), (1, _), (2, _), (3, _), (4, _), (5, _), (6, _), (7, _), (8, _)]) (pc' := 95) ⟨rfl, rfl⟩ rfl rfl ?_
                      refine qa_iload (pc' := 97) ⟨rfl, rfl⟩ rfl ?_
                      refine qa_iload (pc' := 99) ⟨rfl, rfl⟩ rfl ?_
                      refine qa_imul (z := Y) (pc' := 100) ⟨rfl, rfl⟩ hY.symm ?_
                      refine qa_iload_n (pc' := 101) ⟨rfl, rfl⟩ rfl ?_
                      refine qa_iload (pc' := 103) ⟨rfl, rfl⟩ rfl ?_
                      refine qa_imul (z := W) (pc' := 104) ⟨rfl, rfl⟩ hW.symm ?_
                      refine qa_isub (pc' := 105) ⟨rfl, rfl⟩ rfl ?_
                      refine qa_callS rfl qf_MA_abs rfl ql_10_203 (c_MA_abs (E := E) (by omega)) rfl rfl (qa_lt9 rfl) (qa_le9 rfl) (qa_le9 rfl) (qa_le9 rfl) (fun o9 τ9 hq9 => ?_)
                      obtain ⟨rfl, hq9⟩ := hq9
                      replace hq9 := hq9.symm; subst hq9
                      refine qa_nx (pc' := 108) (st' := [_]) rfl rfl rfl rfl ?_
                      rw [← hg9]
                      refine qa_istore (L' := [(0, _), (1, _), (2, _), (3, _), (4, _), (5, _), (6, _), (7, _), (8, _), (9, _)]) (pc' := 110) ⟨rfl, rfl⟩ rfl rfl ?_
                      refine qa_iload (pc' := 112) ⟨rfl, rfl⟩ rfl ?_
                      refine qa_iconst (pc' := 113) ⟨rfl, rfl⟩ ?_
                      refine qa_icmp_eq (pc' := 116) (tgt := 131) ⟨rfl, rfl⟩ rfl (by omega) (by omega) (fun hc3 => ?_) (fun hc3 => ?_)
                      · refine qa_iload (pc' := 133) ⟨rfl, rfl⟩ rfl ?_
                        refine qa_istore (L' := [(0, _), (1, _), (2, _), (3, _), (4, _), (5, _), (6, _), (7, _), (8, _), (9, _)]) (pc' := 135) ⟨rfl, rfl⟩ rfl rfl ?_
                        refine qa_aload_n (pc' := 136) ⟨rfl, rfl⟩ rfl ?_
                        refine qa_iload (pc' := 138) ⟨rfl, rfl⟩ rfl ?_
                        refine qa_putf (fs' := [_, _, _, _, _, _, _, _, _, _, _, _, _, _, _, _, _, _, _, _, _, _, _, _, _, _, _]) (pc' := 141) ⟨rfl, rfl⟩ qg_10_209 qw_9 hM (by omega) rfl (fun r hr => by cases hr; exact ⟨rfl, Or.inl rfl⟩) rfl rfl ?_
                        refine qa_gz (fun τ61 e61 w61 f61 => ?_)
                        replace hm := (f61 _ (by omega)).trans hm
                        replace fr := fun q hq => (f61 q (by have := hq; omega)).trans (fr q hq)
                        replace e0 := e61.trans e0
                        have hM : τ61.1 μ = some (qa_MoF μ (sN_put F 16 X)) := w61
                        refine qa_aload_n (pc' := 142) ⟨rfl, rfl⟩ rfl ?_
                        refine qa_iload (pc' := 144) ⟨rfl, rfl⟩ rfl ?_
                        refine qa_putf (fs' := [_, _, _, _, _, _, _, _, _, _, _, _, _, _, _, _, _, _, _, _, _, _, _, _, _, _, _]) (pc' := 147) ⟨rfl, rfl⟩ qg_10_206 qw_9 hM (by omega) rfl (fun r hr => by cases hr; exact ⟨rfl, Or.inl rfl⟩) rfl rfl ?_
                        refine qa_gz (fun τ62 e62 w62 f62 => ?_)
                        replace hm := (f62 _ (by omega)).trans hm
                        replace fr := fun q hq => (f62 q (by have := hq; omega)).trans (fr q hq)
                        replace e0 := e62.trans e0
                        have hM : τ62.1 μ = some (qa_MoF μ (sN_put (sN_put F 16 X) 17 q)) := w62
                        refine qa_iinc (L' := [(0, _), (1, _), (2, _), (3, _), (4, _), (5, _), (6, _), (7, _), (8, _), (9, _)]) (z := ((k + 1 : Nat) : Int)) (pc' := 150) ⟨rfl, rfl⟩ rfl (by omega) rfl rfl ?_
                        refine qa_goto (pc' := 153) (tgt := 77) ⟨rfl, rfl⟩ rfl ?_
                        refine qa_sub (ks' := [0, 1, 2, 3, 4, 5, 6, 7]) (L' := [(0, _), (1, _), (2, _), (3, _), (4, _), (5, _), (6, _), (7, _)]) rfl ?_
                        refine iT2 _ (k + 1) _ g9 X q ⟨by omega, ?_, by omega, e0, hM, hm, fr, hF, hsm, rfl, rfl⟩
                        rw [hst, if_pos (Or.inl hc3)]
                      · have m1 := sp_mb (a := g9) (b := bo) (A := 99) (B := 20) (by omega) (by omega)
                        have m2 := sp_mb (a := fa) (b := q) (A := 99) (B := 20) (by omega) (by omega)
                        refine qa_iload (pc' := 118) ⟨rfl, rfl⟩ rfl ?_
                        refine qa_aload_n (pc' := 119) ⟨rfl, rfl⟩ rfl ?_
                        refine qa_getf (v := .int (qa_i (F 17))) (pc' := 122) ⟨rfl, rfl⟩ qg_10_206 (by assumption) rfl ?_
                        refine qa_imul (z := g9 * bo) (pc' := 123) ⟨rfl, rfl⟩ (by rw [h17]) ?_
                        refine qa_iload (pc' := 125) ⟨rfl, rfl⟩ rfl ?_
                        refine qa_iload (pc' := 127) ⟨rfl, rfl⟩ rfl ?_
                        refine qa_imul (z := fa * q) (pc' := 128) ⟨rfl, rfl⟩ (by omega) ?_
                        refine qa_icmp_ge (pc' := 131) (tgt := 147) ⟨rfl, rfl⟩ rfl (by omega) (by omega) (fun hc4 => ?_) (fun hc4 => ?_)
                        · refine qa_iinc (L' := [(0, _), (1, _), (2, _), (3, _), (4, _), (5, _), (6, _), (7, _), (8, _), (9, _)]) (z := ((k + 1 : Nat) : Int)) (pc' := 150) ⟨rfl, rfl⟩ rfl (by omega) rfl rfl ?_
                          refine qa_goto (pc' := 153) (tgt := 77) ⟨rfl, rfl⟩ rfl ?_
                          refine qa_sub (ks' := [0, 1, 2, 3, 4, 5, 6, 7]) (L' := [(0, _), (1, _), (2, _), (3, _), (4, _), (5, _), (6, _), (7, _)]) rfl ?_
                          refine iT2 _ (k + 1) F fa to bo ⟨by omega, ?_, by omega, e0, hM, hm, fr, hF, hsm, h16, h17⟩
                          rw [hst, if_neg (by omega)]
                        · refine qa_iload (pc' := 133) ⟨rfl, rfl⟩ rfl ?_
                          refine qa_istore (L' := [(0, _), (1, _), (2, _), (3, _), (4, _), (5, _), (6, _), (7, _), (8, _), (9, _)]) (pc' := 135) ⟨rfl, rfl⟩ rfl rfl ?_
                          refine qa_aload_n (pc' := 136) ⟨rfl, rfl⟩ rfl ?_
                          refine qa_iload (pc' := 138) ⟨rfl, rfl⟩ rfl ?_
                          refine qa_putf (fs' := [_, _, _, _, _, _, _, _, _, _, _, _, _, _, _, _, _, _, _, _, _, _, _, _, _, _, _]) (pc' := 141) ⟨rfl, rfl⟩ qg_10_209 qw_9 hM (by omega) rfl (fun r hr => by cases hr; exact ⟨rfl, Or.inl rfl⟩) rfl rfl ?_
                          refine qa_gz (fun τ61 e61 w61 f61 => ?_)
                          replace hm := (f61 _ (by omega)).trans hm
                          replace fr := fun q hq => (f61 q (by have := hq; omega)).trans (fr q hq)
                          replace e0 := e61.trans e0
                          have hM : τ61.1 μ = some (qa_MoF μ (sN_put F 16 X)) := w61
                          refine qa_aload_n (pc' := 142) ⟨rfl, rfl⟩ rfl ?_
                          refine qa_iload (pc' := 144) ⟨rfl, rfl⟩ rfl ?_
                          refine qa_putf (fs' := [_, _, _, _, _, _, _, _, _, _, _, _, _, _, _, _, _, _, _, _, _, _, _, _, _, _, _]) (pc' := 147) ⟨rfl, rfl⟩ qg_10_206 qw_9 hM (by omega) rfl (fun r hr => by cases hr; exact ⟨rfl, Or.inl rfl⟩) rfl rfl ?_
                          refine qa_gz (fun τ62 e62 w62 f62 => ?_)
                          replace hm := (f62 _ (by omega)).trans hm
                          replace fr := fun q hq => (f62 q (by have := hq; omega)).trans (fr q hq)
                          replace e0 := e62.trans e0
                          have hM : τ62.1 μ = some (qa_MoF μ (sN_put (sN_put F 16 X) 17 q)) := w62
                          refine qa_iinc (L' := [(0, _), (1, _), (2, _), (3, _), (4, _), (5, _), (6, _), (7, _), (8, _), (9, _)]) (z := ((k + 1 : Nat) : Int)) (pc' := 150) ⟨rfl, rfl⟩ rfl (by omega) rfl rfl ?_
                          refine qa_goto (pc' := 153) (tgt := 77) ⟨rfl, rfl⟩ rfl ?_
                          refine qa_sub (ks' := [0, 1, 2, 3, 4, 5, 6, 7]) (L' := [(0, _), (1, _), (2, _), (3, _), (4, _), (5, _), (6, _), (7, _)]) rfl ?_
                          refine iT2 _ (k + 1) _ g9 X q ⟨by omega, ?_, by omega, e0, hM, hm, fr, hF, hsm, rfl, rfl⟩
                          rw [hst, if_pos (Or.inr hc4)]
                exact T2 2 _ 0 F fa to bo ⟨rfl, hS, hbd, e0, hM, hm, fr, hF, hsm, h16, h17⟩
          exact T1 x.toNat _ 0 (sN_put f 12 0) (-1) (f 16) (f 17) ⟨by omega, rfl, Or.inl ⟨rfl, rfl⟩, e0, hM, hm, fr, rfl, sM_same.put, rfl, rfl⟩
        · exact absurd hi99 (by omega)
      · rw [if_neg hi9]
        refine qa_if_ne (pc' := 31) (tgt := 37) ⟨rfl, rfl⟩ rfl (by omega) (fun hi99 => ?_) (fun hi99 => ?_)
        · exact absurd hi99 (by omega)
        · refine qa_aload_n (pc' := 32) ⟨rfl, rfl⟩ rfl ?_
          refine qa_iconst (pc' := 33) ⟨rfl, rfl⟩ ?_
          refine qa_callV rfl qf_M_throwing ql_10_60 (c_M_throwing (E := E) (f := sN_put f 12 0) (v := 2) hlo hM) hM rfl rfl rfl (qa_lt9 rfl) (qa_le9 rfl) (qa_le9 rfl) (qa_le9 rfl) (fun o9 τ9 hq9 => ?_)
          obtain ⟨rfl, e9, hM, f9⟩ := hq9
          refine qa_nx (pc' := 36) (st' := [_]) rfl rfl rfl rfl ?_
          rw [sN_pp] at hM
          have hkn : (fo_near m p x 0).1 = 2 := by unfold fo_near; repeat (first | rw [if_pos (by omega)] | rw [if_neg (by omega)])
          refine qa_ireturn rfl rfl rfl (hQ _ _ ⟨⟨_, rfl⟩, e9.trans e0, fun q hq => (f9 q (by omega)).trans (fr q (by omega)), _, hR9.setF (fun q hq => (f9 q hq).trans (fr q hq)) hM, hkn.symm, sM_same.put, fun h => absurd (hkn.symm.trans h) (by decide)⟩)
    · exact absurd hp99 (by omega)
  · rw [if_neg hp9]
    refine qa_if_ne (pc' := 13) (tgt := 19) ⟨rfl, rfl⟩ rfl (by omega) (fun hp99 => ?_) (fun hp99 => ?_)
    · exact absurd hp99 (by omega)
    · refine qa_aload_n (pc' := 14) ⟨rfl, rfl⟩ rfl ?_
      refine qa_iconst (pc' := 15) ⟨rfl, rfl⟩ ?_
      refine qa_callV rfl qf_M_throwing ql_10_60 (c_M_throwing (E := E) (f := sN_put f 12 0) (v := 1) hlo hM) hM rfl rfl rfl (qa_lt9 rfl) (qa_le9 rfl) (qa_le9 rfl) (qa_le9 rfl) (fun o9 τ9 hq9 => ?_)
      obtain ⟨rfl, e9, hM, f9⟩ := hq9
      refine qa_nx (pc' := 18) (st' := [_]) rfl rfl rfl rfl ?_
      rw [sN_pp] at hM
      have hkn : (fo_near m p x 0).1 = 1 := by unfold fo_near; repeat (first | rw [if_pos (by omega)] | rw [if_neg (by omega)])
      refine qa_ireturn rfl rfl rfl (hQ _ _ ⟨⟨_, rfl⟩, e9.trans e0, fun q hq => (f9 q (by omega)).trans (fr q (by omega)), _, hR9.setF (fun q hq => (f9 q hq).trans (fr q hq)) hM, hkn.symm, sM_same.put, fun h => absurd (hkn.symm.trans h) (by decide)⟩)
theorem c_M_nearestNumerator {E : qa_V} {σ : qa_S} {μ : Nat} {f : Nat → Int} {m sv ps ip li : Int → Int} {B : Int} {p x : Int} (hlo : E.1 ≤ μ) (hR : sR_M σ.1 μ f m sv ps ip li) (hk : sm_ok m B) (hp : qa_in p) (hx : qa_in x) : qa_T E qm_M_nearestNumerator 0 0 [.ref μ, .int (qa_i p), .int (qa_i x)] σ (qa_Ms σ μ f m sv ps ip li (fo_near m p x (sp_nm (m (5 + 26 * p)) (m (6 + 26 * p)) (f 16) (f 17) (2 * x.toNat)).2.1)) := by
  refine qa_enterQ (by decide) rfl qm_M_nearestNumerator_ok rfl rfl (fun Q9 hQ => ?_)
  obtain ⟨k0, k1, k2, k3, k4, k5, k6, k7, k8⟩ := id hk
  have hR9 := hR
  obtain ⟨⟨hM, hm⟩, ⟨as, ha⟩, hsv, hps, hip, ⟨tb, htb⟩, hli, hlt, hbg, cm, hcm⟩ := hR
  refine qa_aload_n (pc' := 1) ⟨rfl, rfl⟩ rfl ?_
  refine qa_iload_n (pc' := 2) ⟨rfl, rfl⟩ rfl ?_
  refine qa_iload_n (pc' := 3) ⟨rfl, rfl⟩ rfl ?_
  refine qa_callV rfl qf_M_nearest ql_10_212 (c_M_nearest (E := E) hlo hR9 hk hp hx) hM rfl rfl rfl (qa_lt9 rfl) (qa_le9 rfl) (qa_le9 rfl) (qa_le9 rfl) (fun o9 τ9 hq9 => ?_)
  obtain ⟨⟨v9, rfl⟩, e0, fr, F, hR, hF, hsm, hv⟩ := hq9
  refine qa_nx (pc' := 6) (st' := [_]) rfl rfl rfl rfl ?_
  obtain ⟨⟨hM, hm⟩, hr⟩ := id hR
  have hkb : 0 ≤ (fo_near m p x 0).1 ∧ (fo_near m p x 0).1 ≤ 2 := by unfold fo_near; split <;> (try split) <;> decide
  refine qa_pop (pc' := 7) ⟨rfl, rfl⟩ rfl ?_
  refine qa_aload_n (pc' := 8) ⟨rfl, rfl⟩ rfl ?_
  refine qa_getf (v := .int (qa_i (F 12))) (pc' := 11) ⟨rfl, rfl⟩ qg_10_51 hM rfl ?_
  refine qa_if_le (pc' := 14) (tgt := 18) ⟨rfl, rfl⟩ rfl (by omega) (fun hc1 => ?_) (fun hc1 => ?_)
  · have hk0 : (fo_near m p x 0).1 = 0 := by omega
    have hv9 := (hv hk0).1
    have hsp : fo_near m p x (sp_nm (m (5 + 26 * p)) (m (6 + 26 * p)) (f 16) (f 17) (2 * x.toNat)).2.1 = ((fo_near m p x 0).1, (sp_nm (m (5 + 26 * p)) (m (6 + 26 * p)) (f 16) (f 17) (2 * x.toNat)).2.1) := by
      unfold fo_near at hk0 ⊢; split at hk0
      · split at hk0
        · rw [if_pos (by assumption), if_pos (by assumption), if_pos (by assumption), if_pos (by assumption)]
        · exact absurd hk0 (by decide)
      · exact absurd hk0 (by decide)
    refine qa_aload_n (pc' := 19) ⟨rfl, rfl⟩ rfl ?_
    refine qa_getf (v := .int (qa_i (F 16))) (pc' := 22) ⟨rfl, rfl⟩ qg_10_209 hM rfl ?_
    rw [hv9]
    refine qa_ireturn rfl rfl rfl (hQ _ _ (qa_Ms.mk hsp (fun _ => rfl) e0 fr hR hF hsm))
  · refine qa_iconst (pc' := 15) ⟨rfl, rfl⟩ ?_
    refine qa_goto (pc' := 18) (tgt := 22) ⟨rfl, rfl⟩ rfl ?_
    have hsp : ∃ w, fo_near m p x (sp_nm (m (5 + 26 * p)) (m (6 + 26 * p)) (f 16) (f 17) (2 * x.toNat)).2.1 = ((fo_near m p x 0).1, w) := by unfold fo_near; split <;> (try split) <;> exact ⟨_, rfl⟩
    obtain ⟨w9, hw9⟩ := hsp
    refine qa_ireturn rfl rfl rfl (hQ _ _ (qa_Ms.mk hw9 (fun h => absurd h (by omega)) e0 fr hR hF hsm))
theorem c_M_nearestDenominator {E : qa_V} {σ : qa_S} {μ : Nat} {f : Nat → Int} {m sv ps ip li : Int → Int} {B : Int} {p x : Int} (hlo : E.1 ≤ μ) (hR : sR_M σ.1 μ f m sv ps ip li) (hk : sm_ok m B) (hp : qa_in p) (hx : qa_in x) : qa_T E qm_M_nearestDenominator 0 0 [.ref μ, .int (qa_i p), .int (qa_i x)] σ (qa_Ms σ μ f m sv ps ip li (fo_near m p x (sp_nm (m (5 + 26 * p)) (m (6 + 26 * p)) (f 16) (f 17) (2 * x.toNat)).2.2)) := by
  refine qa_enterQ (by decide) rfl qm_M_nearestDenominator_ok rfl rfl (fun Q9 hQ => ?_)
  obtain ⟨k0, k1, k2, k3, k4, k5, k6, k7, k8⟩ := id hk
  have hR9 := hR
  obtain ⟨⟨hM, hm⟩, ⟨as, ha⟩, hsv, hps, hip, ⟨tb, htb⟩, hli, hlt, hbg, cm, hcm⟩ := hR
  refine qa_aload_n (pc' := 1) ⟨rfl, rfl⟩ rfl ?_
  refine qa_iload_n (pc' := 2) ⟨rfl, rfl⟩ rfl ?_
  refine qa_iload_n (pc' := 3) ⟨rfl, rfl⟩ rfl ?_
  refine qa_callV rfl qf_M_nearest ql_10_212 (c_M_nearest (E := E) hlo hR9 hk hp hx) hM rfl rfl rfl (qa_lt9 rfl) (qa_le9 rfl) (qa_le9 rfl) (qa_le9 rfl) (fun o9 τ9 hq9 => ?_)
  obtain ⟨⟨v9, rfl⟩, e0, fr, F, hR, hF, hsm, hv⟩ := hq9
  refine qa_nx (pc' := 6) (st' := [_]) rfl rfl rfl rfl ?_
  obtain ⟨⟨hM, hm⟩, hr⟩ := id hR
  have hkb : 0 ≤ (fo_near m p x 0).1 ∧ (fo_near m p x 0).1 ≤ 2 := by unfold fo_near; split <;> (try split) <;> decide
  refine qa_pop (pc' := 7) ⟨rfl, rfl⟩ rfl ?_
  refine qa_aload_n (pc' := 8) ⟨rfl, rfl⟩ rfl ?_
  refine qa_getf (v := .int (qa_i (F 12))) (pc' := 11) ⟨rfl, rfl⟩ qg_10_51 hM rfl ?_
  refine qa_if_le (pc' := 14) (tgt := 18) ⟨rfl, rfl⟩ rfl (by omega) (fun hc1 => ?_) (fun hc1 => ?_)
  · have hk0 : (fo_near m p x 0).1 = 0 := by omega
    have hv9 := (hv hk0).2
    have hsp : fo_near m p x (sp_nm (m (5 + 26 * p)) (m (6 + 26 * p)) (f 16) (f 17) (2 * x.toNat)).2.2 = ((fo_near m p x 0).1, (sp_nm (m (5 + 26 * p)) (m (6 + 26 * p)) (f 16) (f 17) (2 * x.toNat)).2.2) := by
      unfold fo_near at hk0 ⊢; split at hk0
      · split at hk0
        · rw [if_pos (by assumption), if_pos (by assumption), if_pos (by assumption), if_pos (by assumption)]
        · exact absurd hk0 (by decide)
      · exact absurd hk0 (by decide)
    refine qa_aload_n (pc' := 19) ⟨rfl, rfl⟩ rfl ?_
    refine qa_getf (v := .int (qa_i (F 17))) (pc' := 22) ⟨rfl, rfl⟩ qg_10_206 hM rfl ?_
    rw [hv9]
    refine qa_ireturn rfl rfl rfl (hQ _ _ (qa_Ms.mk hsp (fun _ => rfl) e0 fr hR hF hsm))
  · refine qa_iconst (pc' := 15) ⟨rfl, rfl⟩ ?_
    refine qa_goto (pc' := 18) (tgt := 22) ⟨rfl, rfl⟩ rfl ?_
    have hsp : ∃ w, fo_near m p x (sp_nm (m (5 + 26 * p)) (m (6 + 26 * p)) (f 16) (f 17) (2 * x.toNat)).2.2 = ((fo_near m p x 0).1, w) := by unfold fo_near; split <;> (try split) <;> exact ⟨_, rfl⟩
    obtain ⟨w9, hw9⟩ := hsp
    refine qa_ireturn rfl rfl rfl (hQ _ _ (qa_Ms.mk hw9 (fun h => absurd h (by omega)) e0 fr hR hF hsm))
theorem c_M_nearestDenominatorByTrying {E : qa_V} {σ : qa_S} {μ : Nat} {f : Nat → Int} {m sv ps ip li : Int → Int} {B : Int} {p x : Int} (hlo : E.1 ≤ μ) (hR : sR_M σ.1 μ f m sv ps ip li) (hk : sm_ok m B) (hp : qa_in p) (hx : qa_in x) : qa_T E qm_M_nearestDenominatorByTrying 0 0 [.ref μ, .int (qa_i p), .int (qa_i x)] σ (qa_Ms σ μ f m sv ps ip li (fo_near m p x (sp_nm (m (5 + 26 * p)) (m (6 + 26 * p)) (f 16) (f 17) (2 * x.toNat)).2.2)) := by
  refine qa_enterQ (by decide) rfl qm_M_nearestDenominatorByTrying_ok rfl rfl (fun Q9 hQ => ?_)
  obtain ⟨k0, k1, k2, k3, k4, k5, k6, k7, k8⟩ := id hk
  have hR9 := hR
  obtain ⟨⟨hM, hm⟩, ⟨as, ha⟩, hsv, hps, hip, ⟨tb, htb⟩, hli, hlt, hbg, cm, hcm⟩ := hR
  refine qa_aload_n (pc' := 1) ⟨rfl, rfl⟩ rfl ?_
  refine qa_iload_n (pc' := 2) ⟨rfl, rfl⟩ rfl ?_
  refine qa_iload_n (pc' := 3) ⟨rfl, rfl⟩ rfl ?_
  refine qa_callV rfl qf_M_nearestDenominator ql_10_215 (c_M_nearestDenominator (E := E) hlo hR9 hk hp hx) hM rfl rfl rfl (qa_lt9 rfl) (qa_le9 rfl) (qa_le9 rfl) (qa_le9 rfl) (fun o9 τ9 hq9 => ?_)
  obtain ⟨⟨v9, rfl, hv9⟩, hq9⟩ := hq9
  refine qa_nx (pc' := 6) (st' := [_]) rfl rfl rfl rfl ?_
  refine qa_ireturn rfl rfl rfl (hQ _ _ ⟨⟨v9, rfl, hv9⟩, hq9⟩)
