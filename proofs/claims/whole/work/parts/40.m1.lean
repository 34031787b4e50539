/-! the model: its object at μ, its arrays behind it -/
def qa_MoF (b : Nat) (f : Nat → Int) : qa_E := .inl (9, [.ref (b + 1), .ref (b + 2), .ref (b + 3), .int (qa_i (f 3)), .ref (b + 4), .int (qa_i (f 5)), .int (qa_i (f 6)), .int (qa_i (f 7)), .int (qa_i (f 8)), .int (qa_i (f 9)), .int (qa_i (f 10)), .int (qa_i (f 11)), .int (qa_i (f 12)), .ref (b + 5), .int (qa_i (f 14)), .ref (b + 6), .int (qa_i (f 16)), .int (qa_i (f 17)), .ref (b + 7), .int (qa_i (f 19)), .ref (b + 8), .ref (b + 9), .ref (b + 10), .int (qa_i (f 23)), .int (qa_i (f 24)), .int (qa_i (f 25)), .int (qa_i (f 26))])
/-- a call of the model that writes its own fields alone -/
def qa_Mq (σ : qa_S) (μ : Nat) (f' : Nat → Int) (v : Option Value) : qa_O → qa_S → Prop := fun o9 τ => o9 = .inl v ∧ τ.2 = σ.2 ∧ τ.1 μ = some (qa_MoF μ f') ∧ ∀ q, q ≠ μ → τ.1 q = σ.1 q
theorem sp_nI_in {l : Int → Int} : ∀ {n i : Nat} {r : Int}, sp_nI l n i r = -1 → 0 ≤ r → sp_su l i + r < sp_su l (i + n) → False
  | 0, i, r, h, h0, h1 => by
    have h2 : sp_su l i + r < sp_su l i := h1
    omega
  | n + 1, i, r, h, h0, h1 => by
    unfold sp_nI at h
    by_cases hc : r < l i
    · rw [if_pos hc] at h
      omega
    · rw [if_neg hc] at h
      refine sp_nI_in (n := n) (i := i + 1) (r := r - l i) h (by omega) ?_
      show sp_su l i + l i + (r - l i) < _
      rw [show i + 1 + n = i + (n + 1) by omega]
      omega
theorem c_M_in {E : qa_V} {σ : qa_S} {v lo hi : Int} (hv : qa_ln v) (hlo : qa_ln lo) (hhi : qa_ln hi) : qa_T E qm_M_in 0 0 [.long (qa_l v), .long (qa_l lo), .long (qa_l hi)] σ (fun o9 τ => o9 = .inl (some (.int (qa_i (if lo ≤ v ∧ v ≤ hi then 1 else 0)))) ∧ τ = σ) := by
  refine qa_enterQ (by decide) rfl qm_M_in_ok rfl rfl (fun Q9 hQ => ?_)
  have s1 := @qa_sg_lt v lo
  have s2 := @qa_sg_gt v hi
  refine qa_lload_n (pc' := 1) ⟨rfl, rfl⟩ rfl ?_
  refine qa_lload_n (pc' := 2) ⟨rfl, rfl⟩ rfl ?_
  refine qa_lcmp (pc' := 3) ⟨rfl, rfl⟩ hv hlo ?_
  refine qa_if_lt (pc' := 6) (tgt := 17) ⟨rfl, rfl⟩ rfl (qa_sg_in _ _) (fun hc1 => ?_) (fun hc1 => ?_)
  · refine qa_iconst (pc' := 18) ⟨rfl, rfl⟩ ?_
    refine qa_ireturn rfl rfl rfl (hQ _ _ ⟨by first | rfl | (repeat (first | rw [if_pos (by omega)] | rw [if_neg (by omega)])), rfl⟩)
  · refine qa_lload_n (pc' := 7) ⟨rfl, rfl⟩ rfl ?_
    refine qa_lload (pc' := 9) ⟨rfl, rfl⟩ rfl ?_
    refine qa_lcmp (pc' := 10) ⟨rfl, rfl⟩ hv hhi ?_
    refine qa_if_gt (pc' := 13) (tgt := 17) ⟨rfl, rfl⟩ rfl (qa_sg_in _ _) (fun hc2 => ?_) (fun hc2 => ?_)
    · refine qa_iconst (pc' := 18) ⟨rfl, rfl⟩ ?_
      refine qa_ireturn rfl rfl rfl (hQ _ _ ⟨by first | rfl | (repeat (first | rw [if_pos (by omega)] | rw [if_neg (by omega)])), rfl⟩)
    · refine qa_iconst (pc' := 14) ⟨rfl, rfl⟩ ?_
      refine qa_goto (pc' := 17) (tgt := 18) ⟨rfl, rfl⟩ rfl ?_
      refine qa_ireturn rfl rfl rfl (hQ _ _ ⟨by first | rfl | (repeat (first | rw [if_pos (by omega)] | rw [if_neg (by omega)])), rfl⟩)
theorem c_M_throwing {E : qa_V} {σ : qa_S} {μ : Nat} {f : Nat → Int} {v : Int} (hlo : E.1 ≤ μ) (hM : σ.1 μ = some (qa_MoF μ f)) : qa_T E qm_M_throwing 0 0 [.ref μ, .int (qa_i v)] σ (qa_Mq σ μ (sN_put f 12 v) (some (.int (qa_i (-1))))) := by
  refine qa_enterQ (by decide) rfl qm_M_throwing_ok rfl rfl (fun Q9 hQ => ?_)
  have e0 : σ.2 = σ.2 := rfl
  have fr : ∀ q, q ≠ μ → σ.1 q = σ.1 q := fun _ _ => rfl
  refine qa_aload_n (pc' := 1) ⟨rfl, rfl⟩ rfl ?_
  refine qa_iload_n (pc' := 2) ⟨rfl, rfl⟩ rfl ?_
  refine qa_putf (fs' := [_, _, _, _, _, _, _, _, _, _, _, _, _, _, _, _, _, _, _, _, _, _, _, _, _, _, _]) (pc' := 5) ⟨rfl, rfl⟩ qg_10_51 qw_9 (by assumption) (by omega) rfl (fun r hr => by cases hr; exact ⟨rfl, Or.inl rfl⟩) rfl rfl ?_
  refine qa_gz (fun τ1 e1 w1 f1 => ?_)
  replace fr := fun q hq => (f1 q (by have := hq; omega)).trans (fr q hq)
  replace e0 := e1.trans e0
  refine qa_iconst (pc' := 6) ⟨rfl, rfl⟩ ?_
  refine qa_ireturn rfl rfl rfl (hQ _ _ ⟨rfl, e0, w1, fr⟩)
theorem c_M_rejects {E : qa_V} {σ : qa_S} {μ : Nat} {f : Nat → Int} {p y x : Int} (hlo : E.1 ≤ μ) (hM : σ.1 μ = some (qa_MoF μ f)) : qa_T E qm_M_rejects 0 0 [.ref μ, .int (qa_i p), .int (qa_i y), .int (qa_i x)] σ (qa_Mq σ μ (sN_put (sN_put (sN_put f 10 y) 11 x) 12 p) (some (.int (qa_i (-1))))) := by
  refine qa_enterQ (by decide) rfl qm_M_rejects_ok rfl rfl (fun Q9 hQ => ?_)
  have e0 : σ.2 = σ.2 := rfl
  have fr : ∀ q, q ≠ μ → σ.1 q = σ.1 q := fun _ _ => rfl
  refine qa_aload_n (pc' := 1) ⟨rfl, rfl⟩ rfl ?_
  refine qa_iload_n (pc' := 2) ⟨rfl, rfl⟩ rfl ?_
  refine qa_putf (fs' := [_, _, _, _, _, _, _, _, _, _, _, _, _, _, _, _, _, _, _, _, _, _, _, _, _, _, _]) (pc' := 5) ⟨rfl, rfl⟩ qg_10_54 qw_9 (by assumption) (by omega) rfl (fun r hr => by cases hr; exact ⟨rfl, Or.inl rfl⟩) rfl rfl ?_
  refine qa_gz (fun τ1 e1 w1 f1 => ?_)
  replace fr := fun q hq => (f1 q (by have := hq; omega)).trans (fr q hq)
  replace e0 := e1.trans e0
  refine qa_aload_n (pc' := 6) ⟨rfl, rfl⟩ rfl ?_
  refine qa_iload_n (pc' := 7) ⟨rfl, rfl⟩ rfl ?_
  refine qa_putf (fs' := [_, _, _, _, _, _, _, _, _, _, _, _, _, _, _, _, _, _, _, _, _, _, _, _, _, _, _]) (pc' := 10) ⟨rfl, rfl⟩ qg_10_57 qw_9 (by assumption) (by omega) rfl (fun r hr => by cases hr; exact ⟨rfl, Or.inl rfl⟩) rfl rfl ?_
  refine qa_gz (fun τ2 e2 w2 f2 => ?_)
  replace fr := fun q hq => (f2 q (by have := hq; omega)).trans (fr q hq)
  replace e0 := e2.trans e0
  refine qa_aload_n (pc' := 11) ⟨rfl, rfl⟩ rfl ?_
  refine qa_iload_n (pc' := 12) ⟨rfl, rfl⟩ rfl ?_
  refine qa_callV rfl qf_M_throwing ql_10_60 (c_M_throwing (E := E) (f := sN_put (sN_put f 10 y) 11 x) hlo w2) w2 rfl rfl rfl (qa_lt9 rfl) (qa_le9 rfl) (qa_le9 rfl) (qa_le9 rfl) (fun o9 τ9 hq9 => ?_)
  obtain ⟨rfl, e3, w3, f3⟩ := hq9
  refine qa_nx (pc' := 15) (st' := [_]) rfl rfl rfl rfl ?_
  refine qa_ireturn rfl rfl rfl (hQ _ _ ⟨rfl, e3.trans e0, w3, fun q hq => (f3 q hq).trans (fr q hq)⟩)
theorem c_M_thrown {E : qa_V} {σ : qa_S} {μ : Nat} {f : Nat → Int} (hM : σ.1 μ = some (qa_MoF μ f)) : qa_T E qm_M_thrown 0 0 [.ref μ] σ (fun o9 τ => o9 = .inl (some (.int (qa_i (f 12)))) ∧ τ = σ) := by
  refine qa_enterQ (by decide) rfl qm_M_thrown_ok rfl rfl (fun Q9 hQ => ?_)
  refine qa_aload_n (pc' := 1) ⟨rfl, rfl⟩ rfl ?_
  refine qa_getf (pc' := 4) ⟨rfl, rfl⟩ qg_10_51 (by assumption) rfl ?_
  refine qa_ireturn rfl rfl rfl (hQ _ _ ⟨rfl, rfl⟩)
theorem c_M_partAt {E : qa_V} {σ : qa_S} {p : Int} : qa_T E qm_M_partAt 0 0 [.int (qa_i p)] σ (fun o9 τ => o9 = .inl (some (.int (qa_i (4 + 26 * p)))) ∧ τ = σ) := by
  refine qa_enterQ (by decide) rfl qm_M_partAt_ok rfl rfl (fun Q9 hQ => ?_)
  refine qa_iconst (pc' := 1) ⟨rfl, rfl⟩ ?_
  refine qa_bipush (z := 26) (pc' := 3) ⟨rfl, rfl⟩ rfl ?_
  refine qa_iload_n (pc' := 4) ⟨rfl, rfl⟩ rfl ?_
  refine qa_imul (pc' := 5) ⟨rfl, rfl⟩ rfl ?_
  refine qa_iadd (pc' := 6) ⟨rfl, rfl⟩ rfl ?_
  refine qa_ireturn rfl rfl rfl (hQ _ _ ⟨rfl, rfl⟩)
theorem c_M_isPart {E : qa_V} {σ : qa_S} {μ : Nat} {f : Nat → Int} {m : Int → Int} {B : Int} {p : Int} (hM : σ.1 μ = some (qa_MoF μ f)) (hm : σ.1 (μ + 1) = some (qa_ia 146 m)) (hk : sm_ok m B) (hp : qa_in p) : qa_T E qm_M_isPart 0 0 [.ref μ, .int (qa_i p)] σ (fun o9 τ => o9 = .inl (some (.int (qa_i (if 0 ≤ p ∧ p < m 0 then 1 else 0)))) ∧ τ = σ) := by
  refine qa_enterQ (by decide) rfl qm_M_isPart_ok rfl rfl (fun Q9 hQ => ?_)
  obtain ⟨k0, k1, k2, k3, k4, k5, k6, k7, k8⟩ := id hk
  refine qa_iload_n (pc' := 1) ⟨rfl, rfl⟩ rfl ?_
  refine qa_i2l (pc' := 2) ⟨rfl, rfl⟩ (by omega) ?_
  refine qa_lconst (z := 0) (pc' := 3) ⟨rfl, rfl⟩ rfl ?_
  refine qa_aload_n (pc' := 4) ⟨rfl, rfl⟩ rfl ?_
  refine qa_getf (pc' := 7) ⟨rfl, rfl⟩ qg_10_9 (by assumption) rfl ?_
  refine qa_iconst (pc' := 8) ⟨rfl, rfl⟩ ?_
  refine qa_iaload (pc' := 9) ⟨rfl, rfl⟩ (by assumption) (by omega) ?_
  refine qa_iconst (pc' := 10) ⟨rfl, rfl⟩ ?_
  refine qa_isub (pc' := 11) ⟨rfl, rfl⟩ rfl ?_
  refine qa_i2l (pc' := 12) ⟨rfl, rfl⟩ (by omega) ?_
  refine qa_callS rfl qf_M_in rfl ql_10_70 (c_M_in (E := E) (by omega) (by omega) (by omega)) rfl rfl (qa_lt9 rfl) (qa_le9 rfl) (qa_le9 rfl) (qa_le9 rfl) (fun o9 τ9 hq9 => ?_)
  obtain ⟨rfl, hq9⟩ := hq9
  replace hq9 := hq9.symm; subst hq9
  refine qa_nx (pc' := 15) (st' := [_]) rfl rfl rfl rfl ?_
  by_cases hw : 0 ≤ p ∧ p ≤ m 0 - 1
  · rw [if_pos hw]
    refine qa_ireturn rfl rfl rfl (hQ _ _ ⟨by rw [if_pos (by omega)], rfl⟩)
  · rw [if_neg hw]
    refine qa_ireturn rfl rfl rfl (hQ _ _ ⟨by rw [if_neg (by omega)], rfl⟩)
theorem c_M_pitch {E : qa_V} {σ : qa_S} {μ : Nat} {f : Nat → Int} {m : Int → Int} {p j : Int} (hM : σ.1 μ = some (qa_MoF μ f)) (hm : σ.1 (μ + 1) = some (qa_ia 146 m)) (hp : 0 ≤ p ∧ p ≤ 4) (hj : 0 ≤ j ∧ j ≤ 10) : qa_T E qm_M_pitch 0 0 [.ref μ, .int (qa_i p), .int (qa_i j)] σ (fun o9 τ => o9 = .inl (some (.int (qa_i (sm_pf m p j)))) ∧ τ = σ) := by
  refine qa_enterQ (by decide) rfl qm_M_pitch_ok rfl rfl (fun Q9 hQ => ?_)
  refine qa_aload_n (pc' := 1) ⟨rfl, rfl⟩ rfl ?_
  refine qa_getf (pc' := 4) ⟨rfl, rfl⟩ qg_10_9 (by assumption) rfl ?_
  refine qa_iload_n (pc' := 5) ⟨rfl, rfl⟩ rfl ?_
  refine qa_callS rfl qf_M_partAt rfl ql_10_74 (c_M_partAt (E := E)) rfl rfl (qa_lt9 rfl) (qa_le9 rfl) (qa_le9 rfl) (qa_le9 rfl) (fun o9 τ9 hq9 => ?_)
  obtain ⟨rfl, hq9⟩ := hq9
  replace hq9 := hq9.symm; subst hq9
  refine qa_nx (pc' := 8) (st' := [_, _]) rfl rfl rfl rfl ?_
  refine qa_bipush (z := 6) (pc' := 10) ⟨rfl, rfl⟩ rfl ?_
  refine qa_iadd (pc' := 11) ⟨rfl, rfl⟩ rfl ?_
  refine qa_iconst (pc' := 12) ⟨rfl, rfl⟩ ?_
  refine qa_iload_n (pc' := 13) ⟨rfl, rfl⟩ rfl ?_
  refine qa_imul (pc' := 14) ⟨rfl, rfl⟩ rfl ?_
  refine qa_iadd (z := 10 + 26 * p + 2 * j) (pc' := 15) ⟨rfl, rfl⟩ (by omega) ?_
  refine qa_iaload (pc' := 16) ⟨rfl, rfl⟩ (by assumption) (by omega) ?_
  refine qa_ireturn rfl rfl rfl (hQ _ _ ⟨rfl, rfl⟩)
theorem c_M_ticks {E : qa_V} {σ : qa_S} {μ : Nat} {f : Nat → Int} {m : Int → Int} {p j : Int} (hM : σ.1 μ = some (qa_MoF μ f)) (hm : σ.1 (μ + 1) = some (qa_ia 146 m)) (hp : 0 ≤ p ∧ p ≤ 4) (hj : 0 ≤ j ∧ j ≤ 10) : qa_T E qm_M_ticks 0 0 [.ref μ, .int (qa_i p), .int (qa_i j)] σ (fun o9 τ => o9 = .inl (some (.int (qa_i (sm_lf m p j)))) ∧ τ = σ) := by
  refine qa_enterQ (by decide) rfl qm_M_ticks_ok rfl rfl (fun Q9 hQ => ?_)
  refine qa_aload_n (pc' := 1) ⟨rfl, rfl⟩ rfl ?_
  refine qa_getf (pc' := 4) ⟨rfl, rfl⟩ qg_10_9 (by assumption) rfl ?_
  refine qa_iload_n (pc' := 5) ⟨rfl, rfl⟩ rfl ?_
  refine qa_callS rfl qf_M_partAt rfl ql_10_74 (c_M_partAt (E := E)) rfl rfl (qa_lt9 rfl) (qa_le9 rfl) (qa_le9 rfl) (qa_le9 rfl) (fun o9 τ9 hq9 => ?_)
  obtain ⟨rfl, hq9⟩ := hq9
  replace hq9 := hq9.symm; subst hq9
  refine qa_nx (pc' := 8) (st' := [_, _]) rfl rfl rfl rfl ?_
  refine qa_bipush (z := 6) (pc' := 10) ⟨rfl, rfl⟩ rfl ?_
  refine qa_iadd (pc' := 11) ⟨rfl, rfl⟩ rfl ?_
  refine qa_iconst (pc' := 12) ⟨rfl, rfl⟩ ?_
  refine qa_iload_n (pc' := 13) ⟨rfl, rfl⟩ rfl ?_
  refine qa_imul (pc' := 14) ⟨rfl, rfl⟩ rfl ?_
  refine qa_iadd (pc' := 15) ⟨rfl, rfl⟩ rfl ?_
  refine qa_iconst (pc' := 16) ⟨rfl, rfl⟩ ?_
  refine qa_iadd (z := 11 + 26 * p + 2 * j) (pc' := 17) ⟨rfl, rfl⟩ (by omega) ?_
  refine qa_iaload (pc' := 18) ⟨rfl, rfl⟩ (by assumption) (by omega) ?_
  refine qa_ireturn rfl rfl rfl (hQ _ _ ⟨rfl, rfl⟩)
theorem c_M_notes {E : qa_V} {σ : qa_S} {μ : Nat} {f : Nat → Int} {m : Int → Int} {p : Int} (hM : σ.1 μ = some (qa_MoF μ f)) (hm : σ.1 (μ + 1) = some (qa_ia 146 m)) (hp : 0 ≤ p ∧ p ≤ 4) : qa_T E qm_M_notes 0 0 [.ref μ, .int (qa_i p)] σ (fun o9 τ => o9 = .inl (some (.int (qa_i (sm_n m p)))) ∧ τ = σ) := by
  refine qa_enterQ (by decide) rfl qm_M_notes_ok rfl rfl (fun Q9 hQ => ?_)
  refine qa_aload_n (pc' := 1) ⟨rfl, rfl⟩ rfl ?_
  refine qa_getf (pc' := 4) ⟨rfl, rfl⟩ qg_10_9 (by assumption) rfl ?_
  refine qa_iload_n (pc' := 5) ⟨rfl, rfl⟩ rfl ?_
  refine qa_callS rfl qf_M_partAt rfl ql_10_74 (c_M_partAt (E := E)) rfl rfl (qa_lt9 rfl) (qa_le9 rfl) (qa_le9 rfl) (qa_le9 rfl) (fun o9 τ9 hq9 => ?_)
  obtain ⟨rfl, hq9⟩ := hq9
  replace hq9 := hq9.symm; subst hq9
  refine qa_nx (pc' := 8) (st' := [_, _]) rfl rfl rfl rfl ?_
  refine qa_iaload (pc' := 9) ⟨rfl, rfl⟩ (by assumption) (by omega) ?_
  refine qa_ireturn rfl rfl rfl (hQ _ _ ⟨rfl, rfl⟩)
theorem c_M_whole {E : qa_V} {σ : qa_S} {μ : Nat} {f : Nat → Int} {m : Int → Int} {B : Int} {p : Int} (hM : σ.1 μ = some (qa_MoF μ f)) (hm : σ.1 (μ + 1) = some (qa_ia 146 m)) (hk : sm_ok m B) (hp : 0 ≤ p ∧ p ≤ 4) : qa_T E qm_M_whole 0 0 [.ref μ, .int (qa_i p)] σ (fun o9 τ => o9 = .inl (some (.int (qa_i (sm_wh m p)))) ∧ τ = σ) := by
  refine qa_enterQ (by decide) rfl qm_M_whole_ok rfl rfl (fun Q9 hQ => ?_)
  obtain ⟨k0, k1, k2, k3, k4, k5, k6, k7, k8⟩ := id hk
  have kk := k4 p (by omega) (by omega)
  have kn := kk.1
  have kw := sm_wh_b kk
  refine qa_iconst (pc' := 1) ⟨rfl, rfl⟩ ?_
  refine qa_istore_n (L' := [(0, _), (1, _), (2, _)]) (pc' := 2) ⟨rfl, rfl⟩ rfl rfl ?_
  refine qa_iconst (pc' := 3) ⟨rfl, rfl⟩ ?_
  refine qa_istore_n (L' := [(0, _), (1, _), (2, _), (3, _)]) (pc' := 4) ⟨rfl, rfl⟩ rfl rfl ?_
  have lp : ∀ (f9 : Nat) (k : Nat) (r : Int), ((k : Int) + f9 = sm_n m p ∧ r = sp_su (sm_lf m p) k) → qa_W E qm_M_whole Q9 0 0 4 [(0, .ref μ), (1, .int (qa_i p)), (2, .int (qa_i r)), (3, .int (qa_i k))] [] σ := by
    intro f9
    induction f9 with
    | zero =>
      intro k r ⟨hkf, hr⟩
      refine qa_iload_n (pc' := 5) ⟨rfl, rfl⟩ rfl ?_
      refine qa_aload_n (pc' := 6) ⟨rfl, rfl⟩ rfl ?_
      refine qa_iload_n (pc' := 7) ⟨rfl, rfl⟩ rfl ?_
      refine qa_callV rfl qf_M_notes ql_10_77 (c_M_notes (E := E) hM hm hp) hM rfl rfl rfl (qa_lt9 rfl) (qa_le9 rfl) (qa_le9 rfl) (qa_le9 rfl) (fun o9 τ9 hq9 => ?_)
      obtain ⟨rfl, hq9⟩ := hq9
      replace hq9 := hq9.symm; subst hq9
      refine qa_nx (pc' := 10) (st' := [_, _]) rfl rfl rfl rfl ?_
      refine qa_icmp_ge (pc' := 13) (tgt := 28) ⟨rfl, rfl⟩ rfl (by omega) (by omega) (fun hc1 => ?_) (fun hc1 => ?_)
      · refine qa_iload_n (pc' := 29) ⟨rfl, rfl⟩ rfl ?_
        refine qa_ireturn rfl rfl rfl (hQ _ _ ⟨by rw [hr]; unfold sm_wh; rw [show (sm_n m p).toNat = k by omega], rfl⟩)
      · exact absurd hc1 (by omega)
    | succ f9 ih =>
      intro k r ⟨hkf, hr⟩
      refine qa_iload_n (pc' := 5) ⟨rfl, rfl⟩ rfl ?_
      refine qa_aload_n (pc' := 6) ⟨rfl, rfl⟩ rfl ?_
      refine qa_iload_n (pc' := 7) ⟨rfl, rfl⟩ rfl ?_
      refine qa_callV rfl qf_M_notes ql_10_77 (c_M_notes (E := E) hM hm hp) hM rfl rfl rfl (qa_lt9 rfl) (qa_le9 rfl) (qa_le9 rfl) (qa_le9 rfl) (fun o9 τ9 hq9 => ?_)
      obtain ⟨rfl, hq9⟩ := hq9
      replace hq9 := hq9.symm; subst hq9
      refine qa_nx (pc' := 10) (st' := [_, _]) rfl rfl rfl rfl ?_
      refine qa_icmp_ge (pc' := 13) (tgt := 28) ⟨rfl, rfl⟩ rfl (by omega) (by omega) (fun hc1 => ?_) (fun hc1 => ?_)
      · exact absurd hc1 (by omega)
      · refine qa_iload_n (pc' := 14) ⟨rfl, rfl⟩ rfl ?_
        refine qa_aload_n (pc' := 15) ⟨rfl, rfl⟩ rfl ?_
        refine qa_iload_n (pc' := 16) ⟨rfl, rfl⟩ rfl ?_
        refine qa_iload_n (pc' := 17) ⟨rfl, rfl⟩ rfl ?_
        refine qa_callV rfl qf_M_ticks ql_10_80 (c_M_ticks (E := E) hM hm hp (by omega)) hM rfl rfl rfl (qa_lt9 rfl) (qa_le9 rfl) (qa_le9 rfl) (qa_le9 rfl) (fun o9 τ9 hq9 => ?_)
        obtain ⟨rfl, hq9⟩ := hq9
        replace hq9 := hq9.symm; subst hq9
        refine qa_nx (pc' := 20) (st' := [_, _]) rfl rfl rfl rfl ?_
        refine qa_iadd (pc' := 21) ⟨rfl, rfl⟩ rfl ?_
        refine qa_istore_n (L' := [(0, _), (1, _), (2, _), (3, _)]) (pc' := 22) ⟨rfl, rfl⟩ rfl rfl ?_
        refine qa_iinc (L' := [(0, _), (1, _), (2, _), (3, _)]) (z := ((k + 1 : Nat) : Int)) (pc' := 25) ⟨rfl, rfl⟩ rfl (by omega) rfl rfl ?_
        refine qa_goto (pc' := 28) (tgt := 4) ⟨rfl, rfl⟩ rfl ?_
        exact ih (k + 1) _ ⟨by omega, by unfold sp_su; rw [hr]⟩
  exact lp (sm_n m p).toNat 0 0 ⟨by omega, rfl⟩
theorem c_M_noteIn {E : qa_V} {σ : qa_S} {μ : Nat} {f : Nat → Int} {m : Int → Int} {B : Int} {p : Int} (hM : σ.1 μ = some (qa_MoF μ f)) (hm : σ.1 (μ + 1) = some (qa_ia 146 m)) (hk : sm_ok m B) (hp : 0 ≤ p ∧ p ≤ 4) {x : Int} (hn : 0 < sm_n m p) (hx : 0 ≤ x ∧ x ≤ 2147483647) : qa_T E qm_M_noteIn 0 0 [.ref μ, .int (qa_i p), .int (qa_i x)] σ (fun o9 τ => o9 = .inl (some (.int (qa_i (sm_ni m p x)))) ∧ τ = σ) := by
  refine qa_enterQ (by decide) rfl qm_M_noteIn_ok rfl rfl (fun Q9 hQ => ?_)
  obtain ⟨k0, k1, k2, k3, k4, k5, k6, k7, k8⟩ := id hk
  have kk := k4 p (by omega) (by omega)
  have kn := kk.1
  have kw := sm_wh_b kk
  have r1 := Int.emod_nonneg x (by omega : sm_wh m p ≠ 0)
  have r2 := Int.emod_lt_of_pos x (by omega : 0 < sm_wh m p)
  refine qa_iload_n (pc' := 1) ⟨rfl, rfl⟩ rfl ?_
  refine qa_aload_n (pc' := 2) ⟨rfl, rfl⟩ rfl ?_
  refine qa_iload_n (pc' := 3) ⟨rfl, rfl⟩ rfl ?_
  refine qa_callV rfl qf_M_whole ql_10_84 (c_M_whole (E := E) hM hm hk hp) hM rfl rfl rfl (qa_lt9 rfl) (qa_le9 rfl) (qa_le9 rfl) (qa_le9 rfl) (fun o9 τ9 hq9 => ?_)
  obtain ⟨rfl, hq9⟩ := hq9
  replace hq9 := hq9.symm; subst hq9
  refine qa_nx (pc' := 6) (st' := [_, _]) rfl rfl rfl rfl ?_
  refine qa_irem (pc' := 7) ⟨rfl, rfl⟩ (by omega) (by omega) (by omega) (by omega) rfl ?_
  refine qa_istore_n (L' := [(0, _), (1, _), (2, _), (3, _)]) (pc' := 8) ⟨rfl, rfl⟩ rfl rfl ?_
  refine qa_iconst (pc' := 9) ⟨rfl, rfl⟩ ?_
  refine qa_istore (L' := [(0, _), (1, _), (2, _), (3, _), (4, _)]) (pc' := 11) ⟨rfl, rfl⟩ rfl rfl ?_
  have e9 : sm_ni m p x = sp_nI (sm_lf m p) (sm_n m p).toNat 0 (x % sm_wh m p) := by unfold sm_ni; rw [if_neg (by omega)]
  have ew : sp_su (sm_lf m p) (sm_n m p).toNat = sm_wh m p := rfl
  have lp : ∀ (f9 : Nat) (k : Nat) (r : Int), ((k : Int) + f9 = sm_n m p ∧ 0 ≤ r ∧ sp_su (sm_lf m p) k + r = x % sm_wh m p ∧ sp_nI (sm_lf m p) f9 k r = sp_nI (sm_lf m p) (sm_n m p).toNat 0 (x % sm_wh m p)) → qa_W E qm_M_noteIn Q9 0 0 11 [(0, .ref μ), (1, .int (qa_i p)), (2, .int (qa_i x)), (3, .int (qa_i r)), (4, .int (qa_i k))] [] σ := by
    intro f9
    induction f9 with
    | zero =>
      intro k r ⟨hkf, hr0, hs, hr⟩
      rw [show k = (sm_n m p).toNat by omega, ew] at hs; omega
    | succ f9 ih =>
      intro k r ⟨hkf, hr0, hs, hr⟩
      have kl := kk.2.2 k (by omega) (by omega)
      have sb := sp_su_b kk.2.2 k (by omega)
      refine qa_iload_n (pc' := 12) ⟨rfl, rfl⟩ rfl ?_
      refine qa_aload_n (pc' := 13) ⟨rfl, rfl⟩ rfl ?_
      refine qa_iload_n (pc' := 14) ⟨rfl, rfl⟩ rfl ?_
      refine qa_iload (pc' := 16) ⟨rfl, rfl⟩ rfl ?_
      refine qa_callV rfl qf_M_ticks ql_10_80 (c_M_ticks (E := E) hM hm hp (by omega)) hM rfl rfl rfl (qa_lt9 rfl) (qa_le9 rfl) (qa_le9 rfl) (qa_le9 rfl) (fun o9 τ9 hq9 => ?_)
      obtain ⟨rfl, hq9⟩ := hq9
      replace hq9 := hq9.symm; subst hq9
      refine qa_nx (pc' := 19) (st' := [_, _]) rfl rfl rfl rfl ?_
      refine qa_icmp_lt (pc' := 22) (tgt := 38) ⟨rfl, rfl⟩ rfl (by omega) (by omega) (fun hc1 => ?_) (fun hc1 => ?_)
      · refine qa_iload (pc' := 40) ⟨rfl, rfl⟩ rfl ?_
        refine qa_ireturn rfl rfl rfl (hQ _ _ ⟨by rw [e9, ← hr]; unfold sp_nI; rw [if_pos hc1], rfl⟩)
      · refine qa_iload_n (pc' := 23) ⟨rfl, rfl⟩ rfl ?_
        refine qa_aload_n (pc' := 24) ⟨rfl, rfl⟩ rfl ?_
        refine qa_iload_n (pc' := 25) ⟨rfl, rfl⟩ rfl ?_
        refine qa_iload (pc' := 27) ⟨rfl, rfl⟩ rfl ?_
        refine qa_callV rfl qf_M_ticks ql_10_80 (c_M_ticks (E := E) hM hm hp (by omega)) hM rfl rfl rfl (qa_lt9 rfl) (qa_le9 rfl) (qa_le9 rfl) (qa_le9 rfl) (fun o9 τ9 hq9 => ?_)
        obtain ⟨rfl, hq9⟩ := hq9
        replace hq9 := hq9.symm; subst hq9
        refine qa_nx (pc' := 30) (st' := [_, _]) rfl rfl rfl rfl ?_
        refine qa_isub (pc' := 31) ⟨rfl, rfl⟩ rfl ?_
        refine qa_istore_n (L' := [(0, _), (1, _), (2, _), (3, _), (4, _)]) (pc' := 32) ⟨rfl, rfl⟩ rfl rfl ?_
        refine qa_iinc (L' := [(0, _), (1, _), (2, _), (3, _), (4, _)]) (z := ((k + 1 : Nat) : Int)) (pc' := 35) ⟨rfl, rfl⟩ rfl (by omega) rfl rfl ?_
        refine qa_goto (pc' := 38) (tgt := 11) ⟨rfl, rfl⟩ rfl ?_
        refine ih (k + 1) _ ⟨by omega, by omega, ?_, ?_⟩
        · show sp_su (sm_lf m p) k + sm_lf m p k + (r - sm_lf m p k) = _; omega
        · rw [← hr]; conv => rhs; unfold sp_nI
          rw [if_neg (by omega)]; rfl
  exact lp (sm_n m p).toNat 0 _ ⟨by omega, r1, by show 0 + _ = _; omega, rfl⟩
theorem c_M_sounds {E : qa_V} {σ : qa_S} {μ : Nat} {f : Nat → Int} {m : Int → Int} {B : Int} {p : Int} (hM : σ.1 μ = some (qa_MoF μ f)) (hm : σ.1 (μ + 1) = some (qa_ia 146 m)) (hk : sm_ok m B) (hp : 0 ≤ p ∧ p ≤ 4) {x : Int} (hx : 0 ≤ x ∧ x ≤ 2147483647) : qa_T E qm_M_sounds 0 0 [.ref μ, .int (qa_i p), .int (qa_i x)] σ (fun o9 τ => o9 = .inl (some (.int (qa_i (if sm_pi m p x = -1 then 0 else 1)))) ∧ τ = σ) := by
  refine qa_enterQ (by decide) rfl qm_M_sounds_ok rfl rfl (fun Q9 hQ => ?_)
  obtain ⟨k0, k1, k2, k3, k4, k5, k6, k7, k8⟩ := id hk
  have kk := k4 p (by omega) (by omega)
  have kn := kk.1
  have kw := sm_wh_b kk
  have nb := sm_ni_b (tick := x) kk
  have pb := sm_pi_b (tick := x) kk
  refine qa_aload_n (pc' := 1) ⟨rfl, rfl⟩ rfl ?_
  refine qa_iload_n (pc' := 2) ⟨rfl, rfl⟩ rfl ?_
  refine qa_callV rfl qf_M_notes ql_10_77 (c_M_notes (E := E) hM hm hp) hM rfl rfl rfl (qa_lt9 rfl) (qa_le9 rfl) (qa_le9 rfl) (qa_le9 rfl) (fun o9 τ9 hq9 => ?_)
  obtain ⟨rfl, hq9⟩ := hq9
  replace hq9 := hq9.symm; subst hq9
  refine qa_nx (pc' := 5) (st' := [_]) rfl rfl rfl rfl ?_
  refine qa_if_le (pc' := 8) (tgt := 27) ⟨rfl, rfl⟩ rfl (by omega) (fun hc1 => ?_) (fun hc1 => ?_)
  · have e9 : sm_ni m p x = -1 := by unfold sm_ni; rw [if_pos (by omega)]
    have e8 : sm_pi m p x = -1 := by unfold sm_pi; rw [e9]; rfl
    refine qa_iconst (pc' := 28) ⟨rfl, rfl⟩ ?_
    refine qa_ireturn rfl rfl rfl (hQ _ _ ⟨by rw [if_pos e8], rfl⟩)
  · refine qa_aload_n (pc' := 9) ⟨rfl, rfl⟩ rfl ?_
    refine qa_iload_n (pc' := 10) ⟨rfl, rfl⟩ rfl ?_
    refine qa_aload_n (pc' := 11) ⟨rfl, rfl⟩ rfl ?_
    refine qa_iload_n (pc' := 12) ⟨rfl, rfl⟩ rfl ?_
    refine qa_iload_n (pc' := 13) ⟨rfl, rfl⟩ rfl ?_
    refine qa_callV rfl qf_M_noteIn ql_10_87 (c_M_noteIn (E := E) hM hm hk hp (by omega) hx) hM rfl rfl rfl (qa_lt9 rfl) (qa_le9 rfl) (qa_le9 rfl) (qa_le9 rfl) (fun o9 τ9 hq9 => ?_)
    obtain ⟨rfl, hq9⟩ := hq9
    replace hq9 := hq9.symm; subst hq9
    refine qa_nx (pc' := 16) (st' := [_, _, _]) rfl rfl rfl rfl ?_
    have n0 : sm_ni m p x ≠ -1 := by
      intro h; unfold sm_ni at h; rw [if_neg (by omega)] at h
      exact sp_nI_in (i := 0) h (Int.emod_nonneg x (by omega)) (by rw [Nat.zero_add]; show 0 + _ < sm_wh m p; have := Int.emod_lt_of_pos x (by omega : 0 < sm_wh m p); omega)
    have e8 : sm_pi m p x = sm_pf m p (sm_ni m p x) := by unfold sm_pi sp_pI; rw [if_neg n0]
    refine qa_callV rfl qf_M_pitch ql_10_90 (c_M_pitch (E := E) hM hm hp (by omega)) hM rfl rfl rfl (qa_lt9 rfl) (qa_le9 rfl) (qa_le9 rfl) (qa_le9 rfl) (fun o9 τ9 hq9 => ?_)
    obtain ⟨rfl, hq9⟩ := hq9
    replace hq9 := hq9.symm; subst hq9
    refine qa_nx (pc' := 19) (st' := [_]) rfl rfl rfl rfl ?_
    rw [← e8]
    refine qa_iconst (pc' := 20) ⟨rfl, rfl⟩ ?_
    refine qa_icmp_eq (pc' := 23) (tgt := 27) ⟨rfl, rfl⟩ rfl (by omega) (by omega) (fun hc2 => ?_) (fun hc2 => ?_)
    · refine qa_iconst (pc' := 28) ⟨rfl, rfl⟩ ?_
      refine qa_ireturn rfl rfl rfl (hQ _ _ ⟨by rw [if_pos hc2], rfl⟩)
    · refine qa_iconst (pc' := 24) ⟨rfl, rfl⟩ ?_
      refine qa_goto (pc' := 27) (tgt := 28) ⟨rfl, rfl⟩ rfl ?_
      refine qa_ireturn rfl rfl rfl (hQ _ _ ⟨by rw [if_neg hc2], rfl⟩)
theorem c_M_isSilent {E : qa_V} {σ : qa_S} {μ : Nat} {f : Nat → Int} {m : Int → Int} {B : Int} (hM : σ.1 μ = some (qa_MoF μ f)) (hm : σ.1 (μ + 1) = some (qa_ia 146 m)) (hk : sm_ok m B) : qa_T E qm_M_isSilent 0 0 [.ref μ] σ (fun o9 τ => o9 = .inl (some (.int (qa_i (if sm_lo m (m 0).toNat = 0 then 1 else 0)))) ∧ τ = σ) := by
  refine qa_enterQ (by decide) rfl qm_M_isSilent_ok rfl rfl (fun Q9 hQ => ?_)
  obtain ⟨k0, k1, k2, k3, k4, k5, k6, k7, k8⟩ := id hk
  refine qa_iconst (pc' := 1) ⟨rfl, rfl⟩ ?_
  refine qa_istore_n (L' := [(0, _), (1, _)]) (pc' := 2) ⟨rfl, rfl⟩ rfl rfl ?_
  refine qa_iconst (pc' := 3) ⟨rfl, rfl⟩ ?_
  refine qa_istore_n (L' := [(0, _), (1, _), (2, _)]) (pc' := 4) ⟨rfl, rfl⟩ rfl rfl ?_
  have lp : ∀ (f9 : Nat) (k : Nat) (r : Int), ((k : Int) + f9 = m 0 ∧ r = if sm_lo m k = 0 then 1 else 0) → qa_W E qm_M_isSilent Q9 0 0 4 [(0, .ref μ), (1, .int (qa_i r)), (2, .int (qa_i k))] [] σ := by
    intro f9
    induction f9 with
    | zero =>
      intro k r ⟨hkf, hr⟩
      have hr2 : r = 0 ∨ r = 1 := by rw [hr]; split <;> omega
      refine qa_iload_n (pc' := 5) ⟨rfl, rfl⟩ rfl ?_
      refine qa_aload_n (pc' := 6) ⟨rfl, rfl⟩ rfl ?_
      refine qa_getf (pc' := 9) ⟨rfl, rfl⟩ qg_10_9 (by assumption) rfl ?_
      refine qa_iconst (pc' := 10) ⟨rfl, rfl⟩ ?_
      refine qa_iaload (pc' := 11) ⟨rfl, rfl⟩ (by assumption) (by omega) ?_
      refine qa_icmp_ge (pc' := 14) (tgt := 38) ⟨rfl, rfl⟩ rfl (by omega) (by omega) (fun hc1 => ?_) (fun hc1 => ?_)
      · refine qa_iload_n (pc' := 39) ⟨rfl, rfl⟩ rfl ?_
        refine qa_ireturn rfl rfl (by rcases hr2 with h | h <;> rw [h] <;> rfl) (hQ _ _ ⟨by rw [hr, show (m 0).toNat = k by omega], rfl⟩)
      · exact absurd hc1 (by omega)
    | succ f9 ih =>
      intro k r ⟨hkf, hr⟩
      have kk := k4 k (by omega) (by omega)
      have kn := kk.1
      have kw := sm_wh_b kk
      have kl := sm_lo_b hk k (by omega)
      have es : sm_lo m (k + 1) = if sm_wh m k ≤ sm_lo m k then sm_lo m k else sm_wh m k := rfl
      refine qa_iload_n (pc' := 5) ⟨rfl, rfl⟩ rfl ?_
      refine qa_aload_n (pc' := 6) ⟨rfl, rfl⟩ rfl ?_
      refine qa_getf (pc' := 9) ⟨rfl, rfl⟩ qg_10_9 (by assumption) rfl ?_
      refine qa_iconst (pc' := 10) ⟨rfl, rfl⟩ ?_
      refine qa_iaload (pc' := 11) ⟨rfl, rfl⟩ (by assumption) (by omega) ?_
      refine qa_icmp_ge (pc' := 14) (tgt := 38) ⟨rfl, rfl⟩ rfl (by omega) (by omega) (fun hc1 => ?_) (fun hc1 => ?_)
      · exact absurd hc1 (by omega)
      · refine qa_iload_n (pc' := 15) ⟨rfl, rfl⟩ rfl ?_
        have hr2 : r = 0 ∨ r = 1 := by rw [hr]; split <;> omega
        have hr3 : r = 1 ↔ sm_lo m k = 0 := by rw [hr]; split <;> omega
        refine qa_if_eq (pc' := 18) (tgt := 30) ⟨rfl, rfl⟩ rfl (by omega) (fun hc2 => ?_) (fun hc2 => ?_)
        · refine qa_iconst (pc' := 31) ⟨rfl, rfl⟩ ?_
          refine qa_istore_n (L' := [(0, _), (1, _), (2, _)]) (pc' := 32) ⟨rfl, rfl⟩ rfl rfl ?_
          refine qa_iinc (L' := [(0, _), (1, _), (2, _)]) (z := ((k + 1 : Nat) : Int)) (pc' := 35) ⟨rfl, rfl⟩ rfl (by omega) rfl rfl ?_
          refine qa_goto (pc' := 38) (tgt := 4) ⟨rfl, rfl⟩ rfl ?_
          refine ih (k + 1) _ ⟨by omega, ?_⟩
          rw [es]; split <;> split <;> first | rfl | omega
        · refine qa_aload_n (pc' := 19) ⟨rfl, rfl⟩ rfl ?_
          refine qa_iload_n (pc' := 20) ⟨rfl, rfl⟩ rfl ?_
          refine qa_callV rfl qf_M_notes ql_10_77 (c_M_notes (E := E) hM hm ⟨by omega, by omega⟩) hM rfl rfl rfl (qa_lt9 rfl) (qa_le9 rfl) (qa_le9 rfl) (qa_le9 rfl) (fun o9 τ9 hq9 => ?_)
          obtain ⟨rfl, hq9⟩ := hq9
          replace hq9 := hq9.symm; subst hq9
          refine qa_nx (pc' := 23) (st' := [_]) rfl rfl rfl rfl ?_
          refine qa_if_ne (pc' := 26) (tgt := 30) ⟨rfl, rfl⟩ rfl (by omega) (fun hc3 => ?_) (fun hc3 => ?_)
          · refine qa_iconst (pc' := 31) ⟨rfl, rfl⟩ ?_
            refine qa_istore_n (L' := [(0, _), (1, _), (2, _)]) (pc' := 32) ⟨rfl, rfl⟩ rfl rfl ?_
            refine qa_iinc (L' := [(0, _), (1, _), (2, _)]) (z := ((k + 1 : Nat) : Int)) (pc' := 35) ⟨rfl, rfl⟩ rfl (by omega) rfl rfl ?_
            refine qa_goto (pc' := 38) (tgt := 4) ⟨rfl, rfl⟩ rfl ?_
            refine ih (k + 1) _ ⟨by omega, ?_⟩
            rw [es]; split <;> split <;> first | rfl | omega
          · refine qa_iconst (pc' := 27) ⟨rfl, rfl⟩ ?_
            refine qa_goto (pc' := 30) (tgt := 31) ⟨rfl, rfl⟩ rfl ?_
            refine qa_istore_n (L' := [(0, _), (1, _), (2, _)]) (pc' := 32) ⟨rfl, rfl⟩ rfl rfl ?_
            refine qa_iinc (L' := [(0, _), (1, _), (2, _)]) (z := ((k + 1 : Nat) : Int)) (pc' := 35) ⟨rfl, rfl⟩ rfl (by omega) rfl rfl ?_
            refine qa_goto (pc' := 38) (tgt := 4) ⟨rfl, rfl⟩ rfl ?_
            refine ih (k + 1) _ ⟨by omega, ?_⟩
            rw [es]; split <;> split <;> first | rfl | omega
  exact lp (m 0).toNat 0 1 ⟨by omega, rfl⟩
theorem c_M_areAlike {E : qa_V} {σ : qa_S} {μ : Nat} {f : Nat → Int} {m : Int → Int} {B : Int} {p j q i : Int} (hM : σ.1 μ = some (qa_MoF μ f)) (hm : σ.1 (μ + 1) = some (qa_ia 146 m)) (hk : sm_ok m B) (hp : 0 ≤ p ∧ p ≤ 4) (hj : 0 ≤ j ∧ j < sm_n m p) (hq : 0 ≤ q ∧ q ≤ 4) (hi : 0 ≤ i ∧ i < sm_n m q) : qa_T E qm_M_areAlike 0 0 [.ref μ, .int (qa_i p), .int (qa_i j), .int (qa_i q), .int (qa_i i)] σ (fun o9 τ => o9 = .inl (some (.int (qa_i (if sm_c m p j = sm_c m q i then 1 else 0)))) ∧ τ = σ) := by
  refine qa_enterQ (by decide) rfl qm_M_areAlike_ok rfl rfl (fun Q9 hQ => ?_)
  obtain ⟨k0, k1, k2, k3, k4, k5, k6, k7, k8⟩ := id hk
  have kk := k4 p (by omega) (by omega)
  have kn := kk.1
  have kk2 := k4 q (by omega) (by omega)
  have kn2 := kk2.1
  have b1 := kk.2.1 j hj.1 hj.2
  have b2 := kk.2.2 j hj.1 hj.2
  have b3 := kk2.2.1 i hi.1 hi.2
  have b4 := kk2.2.2 i hi.1 hi.2
  have e1 : sm_c m p j = 13 * sm_pf m p j + sm_lf m p j := rfl
  have e2 : sm_c m q i = 13 * sm_pf m q i + sm_lf m q i := rfl
  refine qa_aload_n (pc' := 1) ⟨rfl, rfl⟩ rfl ?_
  refine qa_iload_n (pc' := 2) ⟨rfl, rfl⟩ rfl ?_
  refine qa_iload_n (pc' := 3) ⟨rfl, rfl⟩ rfl ?_
  refine qa_callV rfl qf_M_pitch ql_10_90 (c_M_pitch (E := E) hM hm hp (by omega)) hM rfl rfl rfl (qa_lt9 rfl) (qa_le9 rfl) (qa_le9 rfl) (qa_le9 rfl) (fun o9 τ9 hq9 => ?_)
  obtain ⟨rfl, hq9⟩ := hq9
  replace hq9 := hq9.symm; subst hq9
  refine qa_nx (pc' := 6) (st' := [_]) rfl rfl rfl rfl ?_
  refine qa_aload_n (pc' := 7) ⟨rfl, rfl⟩ rfl ?_
  refine qa_iload_n (pc' := 8) ⟨rfl, rfl⟩ rfl ?_
  refine qa_iload (pc' := 10) ⟨rfl, rfl⟩ rfl ?_
  refine qa_callV rfl qf_M_pitch ql_10_90 (c_M_pitch (E := E) hM hm hq (by omega)) hM rfl rfl rfl (qa_lt9 rfl) (qa_le9 rfl) (qa_le9 rfl) (qa_le9 rfl) (fun o9 τ9 hq9 => ?_)
  obtain ⟨rfl, hq9⟩ := hq9
  replace hq9 := hq9.symm; subst hq9
  refine qa_nx (pc' := 13) (st' := [_, _]) rfl rfl rfl rfl ?_
  refine qa_icmp_ne (pc' := 16) (tgt := 36) ⟨rfl, rfl⟩ rfl (by omega) (by omega) (fun hc1 => ?_) (fun hc1 => ?_)
  · refine qa_iconst (pc' := 37) ⟨rfl, rfl⟩ ?_
    refine qa_ireturn rfl rfl rfl (hQ _ _ ⟨by rw [if_neg (by omega)], rfl⟩)
  · refine qa_aload_n (pc' := 17) ⟨rfl, rfl⟩ rfl ?_
    refine qa_iload_n (pc' := 18) ⟨rfl, rfl⟩ rfl ?_
    refine qa_iload_n (pc' := 19) ⟨rfl, rfl⟩ rfl ?_
    refine qa_callV rfl qf_M_ticks ql_10_80 (c_M_ticks (E := E) hM hm hp (by omega)) hM rfl rfl rfl (qa_lt9 rfl) (qa_le9 rfl) (qa_le9 rfl) (qa_le9 rfl) (fun o9 τ9 hq9 => ?_)
    obtain ⟨rfl, hq9⟩ := hq9
    replace hq9 := hq9.symm; subst hq9
    refine qa_nx (pc' := 22) (st' := [_]) rfl rfl rfl rfl ?_
    refine qa_aload_n (pc' := 23) ⟨rfl, rfl⟩ rfl ?_
    refine qa_iload_n (pc' := 24) ⟨rfl, rfl⟩ rfl ?_
    refine qa_iload (pc' := 26) ⟨rfl, rfl⟩ rfl ?_
    refine qa_callV rfl qf_M_ticks ql_10_80 (c_M_ticks (E := E) hM hm hq (by omega)) hM rfl rfl rfl (qa_lt9 rfl) (qa_le9 rfl) (qa_le9 rfl) (qa_le9 rfl) (fun o9 τ9 hq9 => ?_)
    obtain ⟨rfl, hq9⟩ := hq9
    replace hq9 := hq9.symm; subst hq9
    refine qa_nx (pc' := 29) (st' := [_, _]) rfl rfl rfl rfl ?_
    refine qa_icmp_ne (pc' := 32) (tgt := 36) ⟨rfl, rfl⟩ rfl (by omega) (by omega) (fun hc2 => ?_) (fun hc2 => ?_)
    · refine qa_iconst (pc' := 37) ⟨rfl, rfl⟩ ?_
      refine qa_ireturn rfl rfl rfl (hQ _ _ ⟨by rw [if_neg (by omega)], rfl⟩)
    · refine qa_iconst (pc' := 33) ⟨rfl, rfl⟩ ?_
      refine qa_goto (pc' := 36) (tgt := 37) ⟨rfl, rfl⟩ rfl ?_
      refine qa_ireturn rfl rfl rfl (hQ _ _ ⟨by rw [if_pos (by omega)], rfl⟩)
theorem c_M_divisor {E : qa_V} {σ : qa_S} {a b : Int} (ha : 0 ≤ a ∧ a ≤ 2147483647) (hb : 0 ≤ b ∧ b ≤ 2147483647) : qa_T E qm_M_divisor 0 0 [.int (qa_i a), .int (qa_i b)] σ (fun o9 τ => o9 = .inl (some (.int (qa_i (sp_gd 64 a b)))) ∧ τ = σ) := by
  refine qa_enterQ (by decide) rfl qm_M_divisor_ok rfl rfl (fun Q9 hQ => ?_)
  refine qa_iload_n (pc' := 1) ⟨rfl, rfl⟩ rfl ?_
  refine qa_istore_n (L' := [(0, _), (1, _), (2, _)]) (pc' := 2) ⟨rfl, rfl⟩ rfl rfl ?_
  refine qa_iload_n (pc' := 3) ⟨rfl, rfl⟩ rfl ?_
  refine qa_istore_n (L' := [(0, _), (1, _), (2, _), (3, _)]) (pc' := 4) ⟨rfl, rfl⟩ rfl rfl ?_
  rw [sp_gd_all ha.1 hb.1 (by omega)] at hQ
  have lp : ∀ (f : Nat) (x y : Int), y < f ∧ (0 ≤ x ∧ x ≤ 2147483647) ∧ (0 ≤ y ∧ y ≤ 2147483647) ∧ Int.gcd x y = Int.gcd a b → qa_W E qm_M_divisor Q9 0 0 4 [(0, .int (qa_i a)), (1, .int (qa_i b)), (2, .int (qa_i x)), (3, .int (qa_i y))] [] σ := by
    intro f
    induction f with
    | zero =>
      intro x y ⟨hf, hx, hy, hr⟩
      omega
    | succ f ih =>
      intro x y ⟨hf, hx, hy, hr⟩
      refine qa_iload_n (pc' := 5) ⟨rfl, rfl⟩ rfl ?_
      refine qa_if_le (pc' := 8) (tgt := 21) ⟨rfl, rfl⟩ rfl (by omega) (fun hc1 => ?_) (fun hc1 => ?_)
      · refine qa_iload_n (pc' := 22) ⟨rfl, rfl⟩ rfl ?_
        refine qa_ireturn rfl rfl rfl (hQ _ _ ⟨by rw [← hr, show y = 0 by omega, Int.gcd_zero_right, Int.natAbs_of_nonneg hx.1], rfl⟩)
      · have r1 := Int.emod_nonneg x (by omega : y ≠ 0)
        have r2 := Int.emod_lt_of_pos x hc1
        refine qa_iload_n (pc' := 9) ⟨rfl, rfl⟩ rfl ?_
        refine qa_iload_n (pc' := 10) ⟨rfl, rfl⟩ rfl ?_
        refine qa_irem (pc' := 11) ⟨rfl, rfl⟩ (by omega) (by omega) (by omega) (by omega) rfl ?_
        refine qa_istore (L' := [(0, _), (1, _), (2, _), (3, _), (4, _)]) (pc' := 13) ⟨rfl, rfl⟩ rfl rfl ?_
        refine qa_iload_n (pc' := 14) ⟨rfl, rfl⟩ rfl ?_
        refine qa_istore_n (L' := [(0, _), (1, _), (2, _), (3, _), (4, _)]) (pc' := 15) ⟨rfl, rfl⟩ rfl rfl ?_
        refine qa_iload (pc' := 17) ⟨rfl, rfl⟩ rfl ?_
        refine qa_istore_n (L' := [(0, _), (1, _), (2, _), (3, _), (4, _)]) (pc' := 18) ⟨rfl, rfl⟩ rfl rfl ?_
        refine qa_goto (pc' := 21) (tgt := 4) ⟨rfl, rfl⟩ rfl ?_
        refine qa_sub (ks' := [0, 1, 2, 3]) (L' := [(0, _), (1, _), (2, _), (3, _)]) rfl ?_
        exact ih y (x % y) ⟨by omega, by omega, by omega, by rw [sp_gd_step hc1, hr]⟩
  exact lp (b.toNat + 1) a b ⟨by omega, ha, hb, rfl⟩
theorem c_M_cues {E : qa_V} {σ : qa_S} {μ : Nat} {f : Nat → Int} {m : Int → Int} {B : Int} (hM : σ.1 μ = some (qa_MoF μ f)) (hm : σ.1 (μ + 1) = some (qa_ia 146 m)) (hk : sm_ok m B) : qa_T E qm_M_cues 0 0 [.ref μ] σ (fun o9 τ => o9 = .inl (some (.int (qa_i (sm_cu m (m 0).toNat)))) ∧ τ = σ) := by
  refine qa_enterQ (by decide) rfl qm_M_cues_ok rfl rfl (fun Q9 hQ => ?_)
  obtain ⟨k0, k1, k2, k3, k4, k5, k6, k7, k8⟩ := id hk
  refine qa_iconst (pc' := 1) ⟨rfl, rfl⟩ ?_
  refine qa_istore_n (L' := [(0, _), (1, _)]) (pc' := 2) ⟨rfl, rfl⟩ rfl rfl ?_
  refine qa_iconst (pc' := 3) ⟨rfl, rfl⟩ ?_
  refine qa_istore_n (L' := [(0, _), (1, _), (2, _)]) (pc' := 4) ⟨rfl, rfl⟩ rfl rfl ?_
  have lp : ∀ (f9 : Nat) (k : Nat) (r : Int), ((k : Int) + f9 = m 0 ∧ r = sm_cu m k) → qa_W E qm_M_cues Q9 0 0 4 [(0, .ref μ), (1, .int (qa_i r)), (2, .int (qa_i k))] [] σ := by
    intro f9
    induction f9 with
    | zero =>
      intro k r ⟨hkf, hr⟩
      refine qa_iload_n (pc' := 5) ⟨rfl, rfl⟩ rfl ?_
      refine qa_aload_n (pc' := 6) ⟨rfl, rfl⟩ rfl ?_
      refine qa_getf (pc' := 9) ⟨rfl, rfl⟩ qg_10_9 (by assumption) rfl ?_
      refine qa_iconst (pc' := 10) ⟨rfl, rfl⟩ ?_
      refine qa_iaload (pc' := 11) ⟨rfl, rfl⟩ (by assumption) (by omega) ?_
      refine qa_icmp_ge (pc' := 14) (tgt := 43) ⟨rfl, rfl⟩ rfl (by omega) (by omega) (fun hc1 => ?_) (fun hc1 => ?_)
      · refine qa_iload_n (pc' := 44) ⟨rfl, rfl⟩ rfl ?_
        refine qa_ireturn rfl rfl rfl (hQ _ _ ⟨by rw [hr, show (m 0).toNat = k by omega], rfl⟩)
      · exact absurd hc1 (by omega)
    | succ f9 ih =>
      intro k r ⟨hkf, hr⟩
      refine qa_iload_n (pc' := 5) ⟨rfl, rfl⟩ rfl ?_
      refine qa_aload_n (pc' := 6) ⟨rfl, rfl⟩ rfl ?_
      refine qa_getf (pc' := 9) ⟨rfl, rfl⟩ qg_10_9 (by assumption) rfl ?_
      refine qa_iconst (pc' := 10) ⟨rfl, rfl⟩ ?_
      refine qa_iaload (pc' := 11) ⟨rfl, rfl⟩ (by assumption) (by omega) ?_
      refine qa_icmp_ge (pc' := 14) (tgt := 43) ⟨rfl, rfl⟩ rfl (by omega) (by omega) (fun hc1 => ?_) (fun hc1 => ?_)
      · exact absurd hc1 (by omega)
      · refine qa_iload_n (pc' := 15) ⟨rfl, rfl⟩ rfl ?_
        refine qa_aload_n (pc' := 16) ⟨rfl, rfl⟩ rfl ?_
        refine qa_getf (pc' := 19) ⟨rfl, rfl⟩ qg_10_9 (by assumption) rfl ?_
        refine qa_iload_n (pc' := 20) ⟨rfl, rfl⟩ rfl ?_
        refine qa_callS rfl qf_M_partAt rfl ql_10_74 (c_M_partAt (E := E)) rfl rfl (qa_lt9 rfl) (qa_le9 rfl) (qa_le9 rfl) (qa_le9 rfl) (fun o9 τ9 hq9 => ?_)
        obtain ⟨rfl, hq9⟩ := hq9
        replace hq9 := hq9.symm; subst hq9
        refine qa_nx (pc' := 23) (st' := [_, _, _]) rfl rfl rfl rfl ?_
        have cb := k5 k (by omega) (by omega)
        refine qa_iconst (pc' := 24) ⟨rfl, rfl⟩ ?_
        refine qa_iadd (z := 7 + 26 * (k : Int)) (pc' := 25) ⟨rfl, rfl⟩ (by omega) ?_
        refine qa_iaload (pc' := 26) ⟨rfl, rfl⟩ (by assumption) (by omega) ?_
        refine qa_iconst (pc' := 27) ⟨rfl, rfl⟩ ?_
        refine qa_icmp_ne (pc' := 30) (tgt := 34) ⟨rfl, rfl⟩ rfl (by omega) (by omega) (fun hc2 => ?_) (fun hc2 => ?_)
        · refine qa_iconst (pc' := 35) ⟨rfl, rfl⟩ ?_
          refine qa_iadd (pc' := 36) ⟨rfl, rfl⟩ rfl ?_
          refine qa_istore_n (L' := [(0, _), (1, _), (2, _)]) (pc' := 37) ⟨rfl, rfl⟩ rfl rfl ?_
          refine qa_iinc (L' := [(0, _), (1, _), (2, _)]) (z := ((k + 1 : Nat) : Int)) (pc' := 40) ⟨rfl, rfl⟩ rfl (by omega) rfl rfl ?_
          refine qa_goto (pc' := 43) (tgt := 4) ⟨rfl, rfl⟩ rfl ?_
          exact ih (k + 1) _ ⟨by omega, by unfold sm_cu; rw [if_neg hc2, hr]⟩
        · refine qa_iconst (pc' := 31) ⟨rfl, rfl⟩ ?_
          refine qa_goto (pc' := 34) (tgt := 35) ⟨rfl, rfl⟩ rfl ?_
          refine qa_iadd (pc' := 36) ⟨rfl, rfl⟩ rfl ?_
          refine qa_istore_n (L' := [(0, _), (1, _), (2, _)]) (pc' := 37) ⟨rfl, rfl⟩ rfl rfl ?_
          refine qa_iinc (L' := [(0, _), (1, _), (2, _)]) (z := ((k + 1 : Nat) : Int)) (pc' := 40) ⟨rfl, rfl⟩ rfl (by omega) rfl rfl ?_
          refine qa_goto (pc' := 43) (tgt := 4) ⟨rfl, rfl⟩ rfl ?_
          exact ih (k + 1) _ ⟨by omega, by unfold sm_cu; rw [if_pos hc2, hr]⟩
  exact lp (m 0).toNat 0 0 ⟨by omega, rfl⟩
theorem c_M_alone {E : qa_V} {σ : qa_S} {μ : Nat} {f : Nat → Int} {m : Int → Int} {B : Int} {x : Int} (hM : σ.1 μ = some (qa_MoF μ f)) (hm : σ.1 (μ + 1) = some (qa_ia 146 m)) (hk : sm_ok m B) (hx : 0 ≤ x ∧ x ≤ 2147483647) : qa_T E qm_M_alone 0 0 [.ref μ, .int (qa_i x)] σ (fun o9 τ => o9 = .inl (some (.int (qa_i (if sm_so m x (m 0).toNat = 1 then sm_al m x (m 0).toNat else -1)))) ∧ τ = σ) := by
  refine qa_enterQ (by decide) rfl qm_M_alone_ok rfl rfl (fun Q9 hQ => ?_)
  obtain ⟨k0, k1, k2, k3, k4, k5, k6, k7, k8⟩ := id hk
  refine qa_iconst (pc' := 1) ⟨rfl, rfl⟩ ?_
  refine qa_istore_n (L' := [(0, _), (1, _), (2, _)]) (pc' := 2) ⟨rfl, rfl⟩ rfl rfl ?_
  refine qa_iconst (pc' := 3) ⟨rfl, rfl⟩ ?_
  refine qa_istore_n (L' := [(0, _), (1, _), (2, _), (3, _)]) (pc' := 4) ⟨rfl, rfl⟩ rfl rfl ?_
  refine qa_iconst (pc' := 5) ⟨rfl, rfl⟩ ?_
  refine qa_istore (L' := [(0, _), (1, _), (2, _), (3, _), (4, _)]) (pc' := 7) ⟨rfl, rfl⟩ rfl rfl ?_
  have lp : ∀ (f9 : Nat) (k : Nat) (a c : Int), ((k : Int) + f9 = m 0 ∧ c = sm_so m x k ∧ (0 < sm_so m x k → a = sm_al m x k)) → qa_W E qm_M_alone Q9 0 0 7 [(0, .ref μ), (1, .int (qa_i x)), (2, .int (qa_i a)), (3, .int (qa_i c)), (4, .int (qa_i k))] [] σ := by
    intro f9
    induction f9 with
    | zero =>
      intro k a c ⟨hkf, hc, hl⟩
      rw [show (m 0).toNat = k by omega] at hQ
      have hb := sm_so_b m x k
      refine qa_iload (pc' := 9) ⟨rfl, rfl⟩ rfl ?_
      refine qa_aload_n (pc' := 10) ⟨rfl, rfl⟩ rfl ?_
      refine qa_getf (pc' := 13) ⟨rfl, rfl⟩ qg_10_9 (by assumption) rfl ?_
      refine qa_iconst (pc' := 14) ⟨rfl, rfl⟩ ?_
      refine qa_iaload (pc' := 15) ⟨rfl, rfl⟩ (by assumption) (by omega) ?_
      refine qa_icmp_ge (pc' := 18) (tgt := 40) ⟨rfl, rfl⟩ rfl (by omega) (by omega) (fun hc1 => ?_) (fun hc1 => ?_)
      · refine qa_iload_n (pc' := 41) ⟨rfl, rfl⟩ rfl ?_
        refine qa_iconst (pc' := 42) ⟨rfl, rfl⟩ ?_
        refine qa_icmp_ne (pc' := 45) (tgt := 49) ⟨rfl, rfl⟩ rfl (by omega) (by omega) (fun hc2 => ?_) (fun hc2 => ?_)
        · refine qa_iconst (pc' := 50) ⟨rfl, rfl⟩ ?_
          refine qa_ireturn rfl rfl rfl (hQ _ _ ⟨by rw [if_neg (by omega)], rfl⟩)
        · refine qa_iload_n (pc' := 46) ⟨rfl, rfl⟩ rfl ?_
          refine qa_goto (pc' := 49) (tgt := 50) ⟨rfl, rfl⟩ rfl ?_
          refine qa_ireturn rfl rfl rfl (hQ _ _ ⟨by rw [if_pos (by omega), hl (by omega)], rfl⟩)
      · exact absurd hc1 (by omega)
    | succ f9 ih =>
      intro k a c ⟨hkf, hc, hl⟩
      have hb := sm_so_b m x k
      refine qa_iload (pc' := 9) ⟨rfl, rfl⟩ rfl ?_
      refine qa_aload_n (pc' := 10) ⟨rfl, rfl⟩ rfl ?_
      refine qa_getf (pc' := 13) ⟨rfl, rfl⟩ qg_10_9 (by assumption) rfl ?_
      refine qa_iconst (pc' := 14) ⟨rfl, rfl⟩ ?_
      refine qa_iaload (pc' := 15) ⟨rfl, rfl⟩ (by assumption) (by omega) ?_
      refine qa_icmp_ge (pc' := 18) (tgt := 40) ⟨rfl, rfl⟩ rfl (by omega) (by omega) (fun hc1 => ?_) (fun hc1 => ?_)
      · exact absurd hc1 (by omega)
      · refine qa_aload_n (pc' := 19) ⟨rfl, rfl⟩ rfl ?_
        refine qa_iload (pc' := 21) ⟨rfl, rfl⟩ rfl ?_
        refine qa_iload_n (pc' := 22) ⟨rfl, rfl⟩ rfl ?_
        refine qa_callV rfl qf_M_sounds ql_10_93 (c_M_sounds (E := E) hM hm hk ⟨by omega, by omega⟩ hx) hM rfl rfl rfl (qa_lt9 rfl) (qa_le9 rfl) (qa_le9 rfl) (qa_le9 rfl) (fun o9 τ9 hq9 => ?_)
        obtain ⟨rfl, hq9⟩ := hq9
        replace hq9 := hq9.symm; subst hq9
        refine qa_nx (pc' := 25) (st' := [_]) rfl rfl rfl rfl ?_
        by_cases hw : sm_pi m k x = -1
        · rw [if_pos hw]
          refine qa_if_eq (pc' := 28) (tgt := 34) ⟨rfl, rfl⟩ rfl (by omega) (fun hw9 => ?_) (fun hw9 => ?_)
          · refine qa_iinc (L' := [(0, _), (1, _), (2, _), (3, _), (4, _)]) (z := ((k + 1 : Nat) : Int)) (pc' := 37) ⟨rfl, rfl⟩ rfl (by omega) rfl rfl ?_
            refine qa_goto (pc' := 40) (tgt := 7) ⟨rfl, rfl⟩ rfl ?_
            refine ih (k + 1) _ _ ⟨by omega, ?_, ?_⟩
            · unfold sm_so; rw [if_pos hw, hc]; omega
            · intro hz; unfold sm_al; rw [if_pos hw]; exact hl (by unfold sm_so at hz; rw [if_pos hw] at hz; omega)
          · exact absurd hw9 (by omega)
        · rw [if_neg hw]
          refine qa_if_eq (pc' := 28) (tgt := 34) ⟨rfl, rfl⟩ rfl (by omega) (fun hw9 => ?_) (fun hw9 => ?_)
          · exact absurd hw9 (by omega)
          · refine qa_iload (pc' := 30) ⟨rfl, rfl⟩ rfl ?_
            refine qa_istore_n (L' := [(0, _), (1, _), (2, _), (3, _), (4, _)]) (pc' := 31) ⟨rfl, rfl⟩ rfl rfl ?_
            refine qa_iinc (L' := [(0, _), (1, _), (2, _), (3, _), (4, _)]) (z := c + 1) (pc' := 34) ⟨rfl, rfl⟩ rfl rfl rfl rfl ?_
            refine qa_iinc (L' := [(0, _), (1, _), (2, _), (3, _), (4, _)]) (z := ((k + 1 : Nat) : Int)) (pc' := 37) ⟨rfl, rfl⟩ rfl (by omega) rfl rfl ?_
            refine qa_goto (pc' := 40) (tgt := 7) ⟨rfl, rfl⟩ rfl ?_
            refine ih (k + 1) _ _ ⟨by omega, ?_, ?_⟩
            · unfold sm_so; rw [if_neg hw, hc]
            · intro hz; unfold sm_al; rw [if_neg hw]
  exact lp (m 0).toNat 0 (-1) 0 ⟨by omega, rfl, fun h => absurd h (Int.lt_irrefl _)⟩
