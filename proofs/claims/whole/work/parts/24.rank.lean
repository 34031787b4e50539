/-- part i comes ahead of part k -/
def so_ah (m : Int → Int) (i k : Int) : Int :=
  if m (5 + 26 * i) * m (6 + 26 * k) = m (5 + 26 * k) * m (6 + 26 * i) then (if sm_wh m i = sm_wh m k then (if i < k then 1 else 0) else if sm_wh m k < sm_wh m i then 1 else 0)
  else if m (5 + 26 * k) * m (6 + 26 * i) < m (5 + 26 * i) * m (6 + 26 * k) then 1 else 0
def so_an (m : Int → Int) (p : Int) : Nat → Int
  | 0 => 0
  | k + 1 => so_an m p k + if (k : Int) = p then 0 else so_ah m k p
def so_at (m : Int → Int) (ps : Int) : Nat → Int → Int
  | 0, _ => -1
  | f + 1, i => if so_an m i (m 0).toNat = ps then i else so_at m ps f (i + 1)
theorem so_ah_b (m : Int → Int) (i k : Int) : so_ah m i k = 0 ∨ so_ah m i k = 1 := by
  unfold so_ah
  repeat (first | omega | split)
theorem so_an_b (m : Int → Int) (p : Int) : ∀ k : Nat, 0 ≤ so_an m p k ∧ so_an m p k ≤ k
  | 0 => ⟨Int.le_refl _, Int.le_refl _⟩
  | k + 1 => by
    have h1 := so_an_b m p k
    have h2 := so_ah_b m k p
    unfold so_an
    split <;> omega
theorem c_S_comesAhead {E : qa_V} {σ : qa_S} {a : Nat} {m : Int → Int} {rf B : Int} {i k : Int} (hS : sR_S σ.1 a m rf) (hk : sm_ok m B) (hi : 0 ≤ i ∧ i < m 0) (hkk : 0 ≤ k ∧ k < m 0) : qa_T E qm_S_comesAhead 0 0 [.ref a, .int (qa_i i), .int (qa_i k)] σ (fun o9 τ => o9 = .inl (some (.int (qa_i (so_ah m i k)))) ∧ τ = σ) := by
  refine qa_enterQ (by decide) rfl qm_S_comesAhead_ok rfl rfl (fun Q9 hQ => ?_)
  have hS9 := hS
  have hk9 := hk
  obtain ⟨hs, hpa, hcq, htq, hpp⟩ := hS
  obtain ⟨k0, k1, k2, k3, k4, k5, k6, k7, k8⟩ := hk
  obtain ⟨p, l, u, d, q1, q2, q3, q4, q5, q6⟩ := hpp i (by omega) (by omega)
  obtain ⟨rfl, rfl⟩ := q4 hi.2
  obtain ⟨p9, l9, u9, d9, r1, r2, r3, r4, r5, r6⟩ := hpp k (by omega) (by omega)
  obtain ⟨rfl, rfl⟩ := r4 hkk.2
  have b1 := k5 i hi.1 hi.2
  have b2 := k5 k hkk.1 hkk.2
  have w1 := sm_wh_b (k4 i (by omega) (by omega))
  have w2 := sm_wh_b (k4 k (by omega) (by omega))
  have k4i := (k4 i (by omega) (by omega)).1
  have k4k := (k4 k (by omega) (by omega)).1
  have p1 := sp_mb (A := 99) (B := 99) (a := m (5 + 26 * i)) (b := m (6 + 26 * k)) (by omega) (by omega)
  have p2 := sp_mb (A := 99) (B := 99) (a := m (5 + 26 * k)) (b := m (6 + 26 * i)) (by omega) (by omega)
  refine qa_aload_n (pc' := 1) ⟨rfl, rfl⟩ rfl ?_
  refine qa_getf (pc' := 4) ⟨rfl, rfl⟩ qg_2_11 (by assumption) rfl ?_
  refine qa_iload_n (pc' := 5) ⟨rfl, rfl⟩ rfl ?_
  refine qa_aaload (pc' := 6) ⟨rfl, rfl⟩ (by assumption) rfl rfl (by omega) (sm_q5_at (by omega)) ?_
  refine qa_astore_n (L' := [(0, _), (1, _), (2, _), (3, _)]) (pc' := 7) ⟨rfl, rfl⟩ rfl rfl ?_
  refine qa_aload_n (pc' := 8) ⟨rfl, rfl⟩ rfl ?_
  refine qa_getf (pc' := 11) ⟨rfl, rfl⟩ qg_2_11 (by assumption) rfl ?_
  refine qa_iload_n (pc' := 12) ⟨rfl, rfl⟩ rfl ?_
  refine qa_aaload (pc' := 13) ⟨rfl, rfl⟩ (by assumption) rfl rfl (by omega) (sm_q5_at (by omega)) ?_
  refine qa_astore (L' := [(0, _), (1, _), (2, _), (3, _), (4, _)]) (pc' := 15) ⟨rfl, rfl⟩ rfl rfl ?_
  refine qa_aload_n (pc' := 16) ⟨rfl, rfl⟩ rfl ?_
  refine qa_getf (pc' := 19) ⟨rfl, rfl⟩ qg_2_142 q1 rfl ?_
  refine qa_aload (pc' := 21) ⟨rfl, rfl⟩ rfl ?_
  refine qa_getf (pc' := 24) ⟨rfl, rfl⟩ qg_2_145 r1 rfl ?_
  refine qa_imul (pc' := 25) ⟨rfl, rfl⟩ rfl ?_
  refine qa_istore (L' := [(0, _), (1, _), (2, _), (3, _), (4, _), (5, _)]) (pc' := 27) ⟨rfl, rfl⟩ rfl rfl ?_
  refine qa_aload (pc' := 29) ⟨rfl, rfl⟩ rfl ?_
  refine qa_getf (pc' := 32) ⟨rfl, rfl⟩ qg_2_142 r1 rfl ?_
  refine qa_aload_n (pc' := 33) ⟨rfl, rfl⟩ rfl ?_
  refine qa_getf (pc' := 36) ⟨rfl, rfl⟩ qg_2_145 q1 rfl ?_
  refine qa_imul (pc' := 37) ⟨rfl, rfl⟩ rfl ?_
  refine qa_istore (L' := [(0, _), (1, _), (2, _), (3, _), (4, _), (5, _), (6, _)]) (pc' := 39) ⟨rfl, rfl⟩ rfl rfl ?_
  refine qa_iload (pc' := 41) ⟨rfl, rfl⟩ rfl ?_
  refine qa_iload (pc' := 43) ⟨rfl, rfl⟩ rfl ?_
  refine qa_icmp_eq (pc' := 46) (tgt := 59) ⟨rfl, rfl⟩ rfl (by omega) (by omega) (fun hc1 => ?_) (fun hc1 => ?_)
  · refine qa_aload_n (pc' := 60) ⟨rfl, rfl⟩ rfl ?_
    refine qa_getf (pc' := 63) ⟨rfl, rfl⟩ qg_2_117 q1 rfl ?_
    refine qa_aload (pc' := 65) ⟨rfl, rfl⟩ rfl ?_
    refine qa_getf (pc' := 68) ⟨rfl, rfl⟩ qg_2_117 r1 rfl ?_
    refine qa_icmp_eq (pc' := 71) (tgt := 89) ⟨rfl, rfl⟩ rfl (by omega) (by omega) (fun hc2 => ?_) (fun hc2 => ?_)
    · refine qa_iload_n (pc' := 90) ⟨rfl, rfl⟩ rfl ?_
      refine qa_iload_n (pc' := 91) ⟨rfl, rfl⟩ rfl ?_
      refine qa_icmp_ge (pc' := 94) (tgt := 98) ⟨rfl, rfl⟩ rfl (by omega) (by omega) (fun hc3 => ?_) (fun hc3 => ?_)
      · refine qa_iconst (pc' := 99) ⟨rfl, rfl⟩ ?_
        refine qa_ireturn rfl rfl rfl (hQ _ _ ⟨by unfold so_ah; first | rfl | (repeat (first | rw [if_pos (by omega)] | rw [if_neg (by omega)])), rfl⟩)
      · refine qa_iconst (pc' := 95) ⟨rfl, rfl⟩ ?_
        refine qa_goto (pc' := 98) (tgt := 99) ⟨rfl, rfl⟩ rfl ?_
        refine qa_ireturn rfl rfl rfl (hQ _ _ ⟨by unfold so_ah; first | rfl | (repeat (first | rw [if_pos (by omega)] | rw [if_neg (by omega)])), rfl⟩)
    · refine qa_aload_n (pc' := 72) ⟨rfl, rfl⟩ rfl ?_
      refine qa_getf (pc' := 75) ⟨rfl, rfl⟩ qg_2_117 q1 rfl ?_
      refine qa_aload (pc' := 77) ⟨rfl, rfl⟩ rfl ?_
      refine qa_getf (pc' := 80) ⟨rfl, rfl⟩ qg_2_117 r1 rfl ?_
      refine qa_icmp_le (pc' := 83) (tgt := 87) ⟨rfl, rfl⟩ rfl (by omega) (by omega) (fun hc3 => ?_) (fun hc3 => ?_)
      · refine qa_iconst (pc' := 88) ⟨rfl, rfl⟩ ?_
        refine qa_ireturn rfl rfl rfl (hQ _ _ ⟨by unfold so_ah; first | rfl | (repeat (first | rw [if_pos (by omega)] | rw [if_neg (by omega)])), rfl⟩)
      · refine qa_iconst (pc' := 84) ⟨rfl, rfl⟩ ?_
        refine qa_goto (pc' := 87) (tgt := 88) ⟨rfl, rfl⟩ rfl ?_
        refine qa_ireturn rfl rfl rfl (hQ _ _ ⟨by unfold so_ah; first | rfl | (repeat (first | rw [if_pos (by omega)] | rw [if_neg (by omega)])), rfl⟩)
  · refine qa_iload (pc' := 48) ⟨rfl, rfl⟩ rfl ?_
    refine qa_iload (pc' := 50) ⟨rfl, rfl⟩ rfl ?_
    refine qa_icmp_le (pc' := 53) (tgt := 57) ⟨rfl, rfl⟩ rfl (by omega) (by omega) (fun hc2 => ?_) (fun hc2 => ?_)
    · refine qa_iconst (pc' := 58) ⟨rfl, rfl⟩ ?_
      refine qa_ireturn rfl rfl rfl (hQ _ _ ⟨by unfold so_ah; first | rfl | (repeat (first | rw [if_pos (by omega)] | rw [if_neg (by omega)])), rfl⟩)
    · refine qa_iconst (pc' := 54) ⟨rfl, rfl⟩ ?_
      refine qa_goto (pc' := 57) (tgt := 58) ⟨rfl, rfl⟩ rfl ?_
      refine qa_ireturn rfl rfl rfl (hQ _ _ ⟨by unfold so_ah; first | rfl | (repeat (first | rw [if_pos (by omega)] | rw [if_neg (by omega)])), rfl⟩)
theorem c_S_partsAheadOf {E : qa_V} {σ : qa_S} {a : Nat} {m : Int → Int} {rf B : Int} {p : Int} (hS : sR_S σ.1 a m rf) (hk : sm_ok m B) (hp : 0 ≤ p ∧ p < m 0) : qa_T E qm_S_partsAheadOf 0 0 [.ref a, .int (qa_i p)] σ (fun o9 τ => o9 = .inl (some (.int (qa_i (so_an m p (m 0).toNat)))) ∧ τ = σ) := by
  refine qa_enterQ (by decide) rfl qm_S_partsAheadOf_ok rfl rfl (fun Q9 hQ => ?_)
  have hS9 := hS
  have hk9 := hk
  obtain ⟨hs, hpa, hcq, htq, hpp⟩ := hS
  obtain ⟨k0, k1, k2, k3, k4, k5, k6, k7, k8⟩ := hk
  refine qa_iconst (pc' := 1) ⟨rfl, rfl⟩ ?_
  refine qa_istore_n (L' := [(0, _), (1, _), (2, _)]) (pc' := 2) ⟨rfl, rfl⟩ rfl rfl ?_
  refine qa_iconst (pc' := 3) ⟨rfl, rfl⟩ ?_
  refine qa_istore_n (L' := [(0, _), (1, _), (2, _), (3, _)]) (pc' := 4) ⟨rfl, rfl⟩ rfl rfl ?_
  have lp : ∀ (f : Nat) (j : Nat) (r : Int), (j : Int) + f = m 0 ∧ (0 ≤ r ∧ r ≤ j) ∧ r = so_an m p j → qa_W E qm_S_partsAheadOf Q9 0 0 4 [(0, .ref a), (1, .int (qa_i p)), (2, .int (qa_i r)), (3, .int (qa_i j))] [] σ := by
    intro f
    induction f with
    | zero =>
      intro j r ⟨hj, hr0, hr⟩
      refine qa_iload_n (pc' := 5) ⟨rfl, rfl⟩ rfl ?_
      refine qa_aload_n (pc' := 6) ⟨rfl, rfl⟩ rfl ?_
      refine qa_getf (pc' := 9) ⟨rfl, rfl⟩ qg_2_46 (by assumption) rfl ?_
      refine qa_icmp_ge (pc' := 12) (tgt := 35) ⟨rfl, rfl⟩ rfl (by omega) (by omega) (fun hc1 => ?_) (fun hc1 => ?_)
      · refine qa_iload_n (pc' := 36) ⟨rfl, rfl⟩ rfl ?_
        refine qa_ireturn rfl rfl rfl (hQ _ _ ⟨by rw [hr, show j = (m 0).toNat by omega], rfl⟩)
      · exact absurd hc1 (by omega)
    | succ f ih =>
      intro j r ⟨hj, hr0, hr⟩
      refine qa_iload_n (pc' := 5) ⟨rfl, rfl⟩ rfl ?_
      refine qa_aload_n (pc' := 6) ⟨rfl, rfl⟩ rfl ?_
      refine qa_getf (pc' := 9) ⟨rfl, rfl⟩ qg_2_46 (by assumption) rfl ?_
      refine qa_icmp_ge (pc' := 12) (tgt := 35) ⟨rfl, rfl⟩ rfl (by omega) (by omega) (fun hc1 => ?_) (fun hc1 => ?_)
      · exact absurd hc1 (by omega)
      · refine qa_iload_n (pc' := 13) ⟨rfl, rfl⟩ rfl ?_
        refine qa_iload_n (pc' := 14) ⟨rfl, rfl⟩ rfl ?_
        refine qa_icmp_eq (pc' := 17) (tgt := 29) ⟨rfl, rfl⟩ rfl (by omega) (by omega) (fun hc2 => ?_) (fun hc2 => ?_)
        · refine qa_iinc (L' := [(0, _), (1, _), (2, _), (3, _)]) (z := ((j + 1 : Nat) : Int)) (pc' := 32) ⟨rfl, rfl⟩ rfl (by omega) rfl rfl ?_
          refine qa_goto (pc' := 35) (tgt := 4) ⟨rfl, rfl⟩ rfl ?_
          refine ih (j + 1) _ ⟨by omega, by omega, ?_⟩
          unfold so_an; rw [if_pos (by omega), hr]; omega
        · refine qa_aload_n (pc' := 18) ⟨rfl, rfl⟩ rfl ?_
          refine qa_iload_n (pc' := 19) ⟨rfl, rfl⟩ rfl ?_
          refine qa_iload_n (pc' := 20) ⟨rfl, rfl⟩ rfl ?_
          refine qa_callV rfl qf_S_comesAhead ql_2_201 (c_S_comesAhead hS9 hk9 (i := j) (k := p) (by omega) (by omega)) (by assumption) rfl rfl rfl (qa_lt9 rfl) (qa_le9 rfl) (qa_le9 rfl) (qa_le9 rfl) (fun o9 τ9 hq9 => ?_)
          obtain ⟨rfl, hq9⟩ := hq9
          replace hq9 := hq9.symm; subst hq9
          refine qa_nx (pc' := 23) (st' := [_]) rfl rfl rfl rfl ?_
          have hb9 := so_ah_b m j p
          refine qa_if_eq (pc' := 26) (tgt := 29) ⟨rfl, rfl⟩ rfl (by omega) (fun hc3 => ?_) (fun hc3 => ?_)
          · refine qa_iinc (L' := [(0, _), (1, _), (2, _), (3, _)]) (z := ((j + 1 : Nat) : Int)) (pc' := 32) ⟨rfl, rfl⟩ rfl (by omega) rfl rfl ?_
            refine qa_goto (pc' := 35) (tgt := 4) ⟨rfl, rfl⟩ rfl ?_
            refine ih (j + 1) _ ⟨by omega, by omega, ?_⟩
            unfold so_an; rw [if_neg (by omega), hr]; omega
          · refine qa_iinc (L' := [(0, _), (1, _), (2, _), (3, _)]) (pc' := 29) ⟨rfl, rfl⟩ rfl rfl rfl rfl ?_
            refine qa_iinc (L' := [(0, _), (1, _), (2, _), (3, _)]) (z := ((j + 1 : Nat) : Int)) (pc' := 32) ⟨rfl, rfl⟩ rfl (by omega) rfl rfl ?_
            refine qa_goto (pc' := 35) (tgt := 4) ⟨rfl, rfl⟩ rfl ?_
            refine ih (j + 1) _ ⟨by omega, by omega, ?_⟩
            unfold so_an; rw [if_neg (by omega), hr]; omega
  exact lp (m 0).toNat 0 0 ⟨by omega, by omega, rfl⟩
theorem c_S_partAtPosition {E : qa_V} {σ : qa_S} {a : Nat} {m : Int → Int} {rf B : Int} {ps : Int} (hS : sR_S σ.1 a m rf) (hk : sm_ok m B) (hp : qa_in ps) : qa_T E qm_S_partAtPosition 0 0 [.ref a, .int (qa_i ps)] σ (fun o9 τ => o9 = .inl (some (.int (qa_i (so_at m ps (m 0).toNat 0)))) ∧ τ = σ) := by
  refine qa_enterQ (by decide) rfl qm_S_partAtPosition_ok rfl rfl (fun Q9 hQ => ?_)
  have hS9 := hS
  have hk9 := hk
  obtain ⟨hs, hpa, hcq, htq, hpp⟩ := hS
  obtain ⟨k0, k1, k2, k3, k4, k5, k6, k7, k8⟩ := hk
  refine qa_iconst (pc' := 1) ⟨rfl, rfl⟩ ?_
  refine qa_istore_n (L' := [(0, _), (1, _), (2, _)]) (pc' := 2) ⟨rfl, rfl⟩ rfl rfl ?_
  have lp : ∀ (f : Nat) (j : Nat), (j : Int) + f = m 0 ∧ so_at m ps f j = so_at m ps (m 0).toNat 0 → qa_W E qm_S_partAtPosition Q9 0 0 2 [(0, .ref a), (1, .int (qa_i ps)), (2, .int (qa_i j))] [] σ := by
    intro f
    induction f with
    | zero =>
      intro j ⟨hj, hr⟩
      refine qa_iload_n (pc' := 3) ⟨rfl, rfl⟩ rfl ?_
      refine qa_aload_n (pc' := 4) ⟨rfl, rfl⟩ rfl ?_
      refine qa_getf (pc' := 7) ⟨rfl, rfl⟩ qg_2_46 (by assumption) rfl ?_
      refine qa_icmp_ge (pc' := 10) (tgt := 27) ⟨rfl, rfl⟩ rfl (by omega) (by omega) (fun hc1 => ?_) (fun hc1 => ?_)
      · refine qa_iconst (pc' := 28) ⟨rfl, rfl⟩ ?_
        refine qa_ireturn rfl rfl rfl (hQ _ _ ⟨by rw [← hr]; rfl, rfl⟩)
      · exact absurd hc1 (by omega)
    | succ f ih =>
      intro j ⟨hj, hr⟩
      refine qa_iload_n (pc' := 3) ⟨rfl, rfl⟩ rfl ?_
      refine qa_aload_n (pc' := 4) ⟨rfl, rfl⟩ rfl ?_
      refine qa_getf (pc' := 7) ⟨rfl, rfl⟩ qg_2_46 (by assumption) rfl ?_
      refine qa_icmp_ge (pc' := 10) (tgt := 27) ⟨rfl, rfl⟩ rfl (by omega) (by omega) (fun hc1 => ?_) (fun hc1 => ?_)
      · exact absurd hc1 (by omega)
      · refine qa_aload_n (pc' := 11) ⟨rfl, rfl⟩ rfl ?_
        refine qa_iload_n (pc' := 12) ⟨rfl, rfl⟩ rfl ?_
        refine qa_callV rfl qf_S_partsAheadOf ql_2_198 (c_S_partsAheadOf hS9 hk9 (p := j) (by omega)) (by assumption) rfl rfl rfl (qa_lt9 rfl) (qa_le9 rfl) (qa_le9 rfl) (qa_le9 rfl) (fun o9 τ9 hq9 => ?_)
        obtain ⟨rfl, hq9⟩ := hq9
        replace hq9 := hq9.symm; subst hq9
        refine qa_nx (pc' := 15) (st' := [_]) rfl rfl rfl rfl ?_
        have hb9 := so_an_b m j (m 0).toNat
        refine qa_iload_n (pc' := 16) ⟨rfl, rfl⟩ rfl ?_
        refine qa_icmp_ne (pc' := 19) (tgt := 21) ⟨rfl, rfl⟩ rfl (by omega) (by omega) (fun hc2 => ?_) (fun hc2 => ?_)
        · refine qa_iinc (L' := [(0, _), (1, _), (2, _)]) (z := ((j + 1 : Nat) : Int)) (pc' := 24) ⟨rfl, rfl⟩ rfl (by omega) rfl rfl ?_
          refine qa_goto (pc' := 27) (tgt := 2) ⟨rfl, rfl⟩ rfl ?_
          refine ih (j + 1) ⟨by omega, ?_⟩
          rw [← hr]; conv => rhs; unfold so_at
          rw [if_neg hc2]; rfl
        · refine qa_iload_n (pc' := 20) ⟨rfl, rfl⟩ rfl ?_
          refine qa_ireturn rfl rfl rfl (hQ _ _ ⟨by rw [← hr]; unfold so_at; rw [if_pos hc2], rfl⟩)
  exact lp (m 0).toNat 0 ⟨by omega, rfl⟩
