theorem c_MA_min {E : qa_V} {σ : qa_S} {a b : Int} (ha : qa_in a) (hb : qa_in b) : qa_T E qm_MA_min 0 0 [.int (qa_i a), .int (qa_i b)] σ (fun o9 τ => o9 = .inl (some (.int (qa_i (if a ≤ b then a else b)))) ∧ τ = σ) := by
  refine qa_enterF (by decide +kernel) rfl qm_MA_min_ok rfl rfl (fun Q9 hQ => ?_)
  refine qa_iload_n (pc' := 1) ⟨rfl, rfl⟩ rfl ?_
  refine qa_iload_n (pc' := 2) ⟨rfl, rfl⟩ rfl ?_
  refine qa_icmp_gt (pc' := 5) (tgt := 9) ⟨rfl, rfl⟩ rfl (by omega) (by omega) (fun hc1 => ?_) (fun hc1 => ?_)
  · refine qa_iload_n (pc' := 10) ⟨rfl, rfl⟩ rfl ?_
    refine qa_ireturn rfl rfl rfl (hQ _ _ ⟨by first | rfl | (repeat (first | rw [if_pos (by omega)] | rw [if_neg (by omega)])), rfl⟩)
  · refine qa_iload_n (pc' := 6) ⟨rfl, rfl⟩ rfl ?_
    refine qa_goto (pc' := 9) (tgt := 10) ⟨rfl, rfl⟩ rfl ?_
    refine qa_ireturn rfl rfl rfl (hQ _ _ ⟨by first | rfl | (repeat (first | rw [if_pos (by omega)] | rw [if_neg (by omega)])), rfl⟩)
theorem c_MA_max {E : qa_V} {σ : qa_S} {a b : Int} (ha : qa_in a) (hb : qa_in b) : qa_T E qm_MA_max 0 0 [.int (qa_i a), .int (qa_i b)] σ (fun o9 τ => o9 = .inl (some (.int (qa_i (if b ≤ a then a else b)))) ∧ τ = σ) := by
  refine qa_enterF (by decide +kernel) rfl qm_MA_max_ok rfl rfl (fun Q9 hQ => ?_)
  refine qa_iload_n (pc' := 1) ⟨rfl, rfl⟩ rfl ?_
  refine qa_iload_n (pc' := 2) ⟨rfl, rfl⟩ rfl ?_
  refine qa_icmp_lt (pc' := 5) (tgt := 9) ⟨rfl, rfl⟩ rfl (by omega) (by omega) (fun hc1 => ?_) (fun hc1 => ?_)
  · refine qa_iload_n (pc' := 10) ⟨rfl, rfl⟩ rfl ?_
    refine qa_ireturn rfl rfl rfl (hQ _ _ ⟨by first | rfl | (repeat (first | rw [if_pos (by omega)] | rw [if_neg (by omega)])), rfl⟩)
  · refine qa_iload_n (pc' := 6) ⟨rfl, rfl⟩ rfl ?_
    refine qa_goto (pc' := 9) (tgt := 10) ⟨rfl, rfl⟩ rfl ?_
    refine qa_ireturn rfl rfl rfl (hQ _ _ ⟨by first | rfl | (repeat (first | rw [if_pos (by omega)] | rw [if_neg (by omega)])), rfl⟩)
theorem c_MA_abs {E : qa_V} {σ : qa_S} {a : Int} (ha : qa_in a) : qa_T E qm_MA_abs 0 0 [.int (qa_i a)] σ (fun o9 τ => o9 = .inl (some (.int (qa_i (if 0 ≤ a then a else -a)))) ∧ τ = σ) := by
  refine qa_enterF (by decide +kernel) rfl qm_MA_abs_ok rfl rfl (fun Q9 hQ => ?_)
  refine qa_iload_n (pc' := 1) ⟨rfl, rfl⟩ rfl ?_
  refine qa_if_ge (pc' := 4) (tgt := 9) ⟨rfl, rfl⟩ rfl (by omega) (fun hc1 => ?_) (fun hc1 => ?_)
  · refine qa_iload_n (pc' := 10) ⟨rfl, rfl⟩ rfl ?_
    refine qa_ireturn rfl rfl rfl (hQ _ _ ⟨by first | rfl | (repeat (first | rw [if_pos (by omega)] | rw [if_neg (by omega)])), rfl⟩)
  · refine qa_iload_n (pc' := 5) ⟨rfl, rfl⟩ rfl ?_
    refine qa_ineg (pc' := 6) ⟨rfl, rfl⟩ rfl ?_
    refine qa_goto (pc' := 9) (tgt := 10) ⟨rfl, rfl⟩ rfl ?_
    refine qa_ireturn rfl rfl rfl (hQ _ _ ⟨by first | rfl | (repeat (first | rw [if_pos (by omega)] | rw [if_neg (by omega)])), rfl⟩)
theorem c_T_startTempoByTempo {E : qa_V} {σ : qa_S} {c : Nat} {n : Int} {bars vals : Int → Int} {b9 bt : Int} (hc : σ.1 c = some (qa_TeF c n)) (hb : σ.1 (c + 1) = some (qa_ia 6 bars)) (hv : σ.1 (c + 2) = some (qa_ia 6 vals)) (hn : 1 ≤ n ∧ n ≤ 6) (hB : sp_B6 n bars) (hv9 : sp_V6 n vals) (hy : 0 ≤ b9 ∧ b9 ≤ 999) (hbt : 1 ≤ bt ∧ bt ≤ 48) : qa_T E qm_T_startTempoByTempo 0 0 [.ref c, .int (qa_i b9), .int (qa_i bt)] σ (fun o9 τ => o9 = .inl (some (.long (qa_l (sp_sb bars vals n bt b9.toNat)))) ∧ τ = σ) := by
  refine qa_enterQ (by decide) rfl qm_T_startTempoByTempo_ok rfl rfl (fun Q9 hQ => ?_)
  refine qa_lconst (z := 0) (pc' := 1) ⟨rfl, rfl⟩ rfl ?_
  refine qa_lstore_n (L' := [(0, _), (1, _), (2, _), (3, _)]) (pc' := 2) ⟨rfl, rfl⟩ rfl rfl ?_
  refine qa_iconst (pc' := 3) ⟨rfl, rfl⟩ ?_
  refine qa_istore (L' := [(0, _), (1, _), (2, _), (3, _), (5, _)]) (pc' := 5) ⟨rfl, rfl⟩ rfl rfl ?_
  have lp : ∀ (f : Nat) (k : Nat) (q r : Int), (k : Int) + f = n ∧ (0 ≤ k) ∧ r = sp_sb bars vals n bt q.toNat ∧ (0 ≤ q ∧ q ≤ b9 ∧ ((k : Int) < n → q = if bars k ≤ b9 then bars k else b9) ∧ (n ≤ (k : Int) → q = b9)) → qa_W E qm_T_startTempoByTempo Q9 0 0 5 [(0, .ref c), (1, .int (qa_i b9)), (2, .int (qa_i bt)), (3, .long (qa_l r)), (5, .int (qa_i k))] [] σ := by
    intro f
    induction f with
    | zero =>
      intro k q r ⟨hk, hk0, hr, hq0, hq1, hq2, hq3⟩
      refine qa_iload (pc' := 7) ⟨rfl, rfl⟩ rfl ?_
      refine qa_aload_n (pc' := 8) ⟨rfl, rfl⟩ rfl ?_
      refine qa_getf (pc' := 11) ⟨rfl, rfl⟩ qg_5_18 (by assumption) rfl ?_
      refine qa_icmp_ge (pc' := 14) (tgt := 83) ⟨rfl, rfl⟩ rfl (by omega) (by omega) (fun hc1 => ?_) (fun hc1 => ?_)
      · refine qa_lload_n (pc' := 84) ⟨rfl, rfl⟩ rfl ?_
        refine qa_lreturn rfl rfl (hQ _ _ ⟨by rw [hr, show q = b9 by omega], rfl⟩)
      · exact absurd hc1 (by omega)
    | succ f ih =>
      intro k q r ⟨hk, hk0, hr, hq0, hq1, hq2, hq3⟩
      have hbk := hB.2.1 k (by omega) (by omega)
      refine qa_iload (pc' := 7) ⟨rfl, rfl⟩ rfl ?_
      refine qa_aload_n (pc' := 8) ⟨rfl, rfl⟩ rfl ?_
      refine qa_getf (pc' := 11) ⟨rfl, rfl⟩ qg_5_18 (by assumption) rfl ?_
      refine qa_icmp_ge (pc' := 14) (tgt := 83) ⟨rfl, rfl⟩ rfl (by omega) (by omega) (fun hc1 => ?_) (fun hc1 => ?_)
      · exact absurd hc1 (by omega)
      · refine qa_aload_n (pc' := 15) ⟨rfl, rfl⟩ rfl ?_
        refine qa_getf (pc' := 18) ⟨rfl, rfl⟩ qg_5_9 (by assumption) rfl ?_
        refine qa_iload (pc' := 20) ⟨rfl, rfl⟩ rfl ?_
        refine qa_iaload (pc' := 21) ⟨rfl, rfl⟩ (by assumption) (by omega) ?_
        refine qa_iload_n (pc' := 22) ⟨rfl, rfl⟩ rfl ?_
        refine qa_icmp_ge (pc' := 25) (tgt := 83) ⟨rfl, rfl⟩ rfl (by omega) (by omega) (fun hc2 => ?_) (fun hc2 => ?_)
        · refine qa_lload_n (pc' := 84) ⟨rfl, rfl⟩ rfl ?_
          refine qa_lreturn rfl rfl (hQ _ _ ⟨by rw [hr, show q = b9 by omega], rfl⟩)
        · have hq9 : q = bars k := by omega
          refine qa_iload (pc' := 27) ⟨rfl, rfl⟩ rfl ?_
          refine qa_iconst (pc' := 28) ⟨rfl, rfl⟩ ?_
          refine qa_iadd (pc' := 29) ⟨rfl, rfl⟩ rfl ?_
          refine qa_aload_n (pc' := 30) ⟨rfl, rfl⟩ rfl ?_
          refine qa_getf (pc' := 33) ⟨rfl, rfl⟩ qg_5_18 (by assumption) rfl ?_
          refine qa_icmp_ge (pc' := 36) (tgt := 52) ⟨rfl, rfl⟩ rfl (by omega) (by omega) (fun hc3 => ?_) (fun hc3 => ?_)
          · obtain ⟨e9, he9⟩ : ∃ e9, e9 = b9 := ⟨_, rfl⟩
            refine qa_iload_n (pc' := 53) ⟨rfl, rfl⟩ rfl ?_
            refine qa_to (L' := [(0, .ref c), (1, .int (qa_i b9)), (2, .int (qa_i bt)), (3, .long (qa_l r)), (5, .int (qa_i k))]) (st' := [.int (qa_i e9)]) rfl (by rw [he9]) rfl ?_
            have hen : ∀ j : Int, (k : Int) < j → j < n → e9 ≤ bars j := fun j h1 h2 => absurd h2 (by omega)
            have hmin : 0 ≤ e9 ∧ e9 ≤ b9 ∧ (((k + 1 : Nat) : Int) < n → e9 = if bars ((k + 1 : Nat) : Int) ≤ b9 then bars ((k + 1 : Nat) : Int) else b9) ∧ (n ≤ ((k + 1 : Nat) : Int) → e9 = b9) := ⟨by omega, by omega, fun h => absurd h (by omega), fun _ => he9⟩
            refine qa_istore (L' := [(0, _), (1, _), (2, _), (3, _), (5, _), (6, _)]) (pc' := 55) ⟨rfl, rfl⟩ rfl rfl ?_
            refine qa_lload_n (pc' := 56) ⟨rfl, rfl⟩ rfl ?_
            refine qa_iload (pc' := 58) ⟨rfl, rfl⟩ rfl ?_
            refine qa_aload_n (pc' := 59) ⟨rfl, rfl⟩ rfl ?_
            refine qa_getf (pc' := 62) ⟨rfl, rfl⟩ qg_5_9 (by assumption) rfl ?_
            refine qa_iload (pc' := 64) ⟨rfl, rfl⟩ rfl ?_
            refine qa_iaload (pc' := 65) ⟨rfl, rfl⟩ (by assumption) (by omega) ?_
            refine qa_isub (pc' := 66) ⟨rfl, rfl⟩ rfl ?_
            refine qa_i2l (pc' := 67) ⟨rfl, rfl⟩ (by omega) ?_
            refine qa_aload_n (pc' := 68) ⟨rfl, rfl⟩ rfl ?_
            refine qa_iload (pc' := 70) ⟨rfl, rfl⟩ rfl ?_
            refine qa_iload_n (pc' := 71) ⟨rfl, rfl⟩ rfl ?_
            refine qa_callV rfl qf_T_millisOfBar ql_5_32 (c_T_millisOfBar hc hv hn hv9 (by omega) hbt) (by assumption) rfl rfl rfl (qa_lt9 rfl) (qa_le9 rfl) (qa_le9 rfl) (qa_le9 rfl) (fun o9 τ9 hq9 => ?_)
            obtain ⟨rfl, hq9⟩ := hq9
            replace hq9 := hq9.symm; subst hq9
            refine qa_nx (pc' := 74) (st' := [_, _, _]) rfl rfl rfl rfl ?_
            have hrun := sp_sb_run (vals := vals) (bt := bt) hB (by omega : 1 ≤ n) (i := k) (by omega) (bars k).toNat (by omega) (e9 - bars k).toNat (fun j h1 h2 => by have := hen j h1 h2; omega)
            refine qa_lmul (pc' := 75) ⟨rfl, rfl⟩ rfl ?_
            refine qa_ladd (pc' := 76) ⟨rfl, rfl⟩ rfl ?_
            refine qa_lstore_n (L' := [(0, _), (1, _), (2, _), (3, _), (5, _), (6, _)]) (pc' := 77) ⟨rfl, rfl⟩ rfl rfl ?_
            refine qa_iinc (L' := [(0, _), (1, _), (2, _), (3, _), (5, _), (6, _)]) (z := ((k + 1 : Nat) : Int)) (pc' := 80) ⟨rfl, rfl⟩ rfl (by omega) rfl rfl ?_
            refine qa_goto (pc' := 83) (tgt := 5) ⟨rfl, rfl⟩ rfl ?_
            refine qa_sub (ks' := [0, 1, 2, 3, 4]) (L' := [(0, _), (1, _), (2, _), (3, _), (5, _)]) rfl ?_
            refine ih (k + 1) e9 _ ⟨by omega, by omega, ?_, hmin⟩
            rw [hr, hq9, show e9.toNat = (bars k).toNat + (e9 - bars k).toNat by omega, hrun, Int.toNat_of_nonneg (by omega : 0 ≤ e9 - bars k)]
          · have hbn := hB.2.1 ((k : Int) + 1) (by omega) (by omega)
            have hlt := hB.2.2 k ((k : Int) + 1) (by omega) (by omega) (by omega)
            refine qa_aload_n (pc' := 37) ⟨rfl, rfl⟩ rfl ?_
            refine qa_getf (pc' := 40) ⟨rfl, rfl⟩ qg_5_9 (by assumption) rfl ?_
            refine qa_iload (pc' := 42) ⟨rfl, rfl⟩ rfl ?_
            refine qa_iconst (pc' := 43) ⟨rfl, rfl⟩ ?_
            refine qa_iadd (pc' := 44) ⟨rfl, rfl⟩ rfl ?_
            refine qa_iaload (pc' := 45) ⟨rfl, rfl⟩ (by assumption) (by omega) ?_
            refine qa_iload_n (pc' := 46) ⟨rfl, rfl⟩ rfl ?_
            refine qa_callS rfl qf_MA_min rfl ql_5_36 (c_MA_min (by omega) (by omega)) rfl rfl (qa_lt9 rfl) (qa_le9 rfl) (qa_le9 rfl) (qa_le9 rfl) (fun o9 τ9 hq9 => ?_)
            obtain ⟨rfl, hq9⟩ := hq9
            replace hq9 := hq9.symm; subst hq9
            refine qa_nx (pc' := 49) (st' := [_]) rfl rfl rfl rfl ?_
            obtain ⟨e9, he9⟩ : ∃ e9, e9 = if bars ((k : Int) + 1) ≤ b9 then bars ((k : Int) + 1) else b9 := ⟨_, rfl⟩
            rw [← he9]
            have he9b : bars k < e9 ∧ e9 ≤ bars ((k : Int) + 1) ∧ e9 ≤ b9 := by rw [he9]; split <;> omega
            have hen : ∀ j : Int, (k : Int) < j → j < n → e9 ≤ bars j := by
              intro j h1 h2
              by_cases hj : j = (k : Int) + 1
              · rw [hj]; omega
              · have := hB.2.2 ((k : Int) + 1) j (by omega) (by omega) h2; omega
            have hmin : 0 ≤ e9 ∧ e9 ≤ b9 ∧ (((k + 1 : Nat) : Int) < n → e9 = if bars ((k + 1 : Nat) : Int) ≤ b9 then bars ((k + 1 : Nat) : Int) else b9) ∧ (n ≤ ((k + 1 : Nat) : Int) → e9 = b9) := ⟨by omega, by omega, fun _ => he9, fun h => absurd h (by omega)⟩
            refine qa_goto (pc' := 52) (tgt := 53) ⟨rfl, rfl⟩ rfl ?_
            refine qa_istore (L' := [(0, _), (1, _), (2, _), (3, _), (5, _), (6, _)]) (pc' := 55) ⟨rfl, rfl⟩ rfl rfl ?_
            refine qa_lload_n (pc' := 56) ⟨rfl, rfl⟩ rfl ?_
            refine qa_iload (pc' := 58) ⟨rfl, rfl⟩ rfl ?_
            refine qa_aload_n (pc' := 59) ⟨rfl, rfl⟩ rfl ?_
            refine qa_getf (pc' := 62) ⟨rfl, rfl⟩ qg_5_9 (by assumption) rfl ?_
            refine qa_iload (pc' := 64) ⟨rfl, rfl⟩ rfl ?_
            refine qa_iaload (pc' := 65) ⟨rfl, rfl⟩ (by assumption) (by omega) ?_
            refine qa_isub (pc' := 66) ⟨rfl, rfl⟩ rfl ?_
            refine qa_i2l (pc' := 67) ⟨rfl, rfl⟩ (by omega) ?_
            refine qa_aload_n (pc' := 68) ⟨rfl, rfl⟩ rfl ?_
            refine qa_iload (pc' := 70) ⟨rfl, rfl⟩ rfl ?_
            refine qa_iload_n (pc' := 71) ⟨rfl, rfl⟩ rfl ?_
            refine qa_callV rfl qf_T_millisOfBar ql_5_32 (c_T_millisOfBar hc hv hn hv9 (by omega) hbt) (by assumption) rfl rfl rfl (qa_lt9 rfl) (qa_le9 rfl) (qa_le9 rfl) (qa_le9 rfl) (fun o9 τ9 hq9 => ?_)
            obtain ⟨rfl, hq9⟩ := hq9
            replace hq9 := hq9.symm; subst hq9
            refine qa_nx (pc' := 74) (st' := [_, _, _]) rfl rfl rfl rfl ?_
            have hrun := sp_sb_run (vals := vals) (bt := bt) hB (by omega : 1 ≤ n) (i := k) (by omega) (bars k).toNat (by omega) (e9 - bars k).toNat (fun j h1 h2 => by have := hen j h1 h2; omega)
            refine qa_lmul (pc' := 75) ⟨rfl, rfl⟩ rfl ?_
            refine qa_ladd (pc' := 76) ⟨rfl, rfl⟩ rfl ?_
            refine qa_lstore_n (L' := [(0, _), (1, _), (2, _), (3, _), (5, _), (6, _)]) (pc' := 77) ⟨rfl, rfl⟩ rfl rfl ?_
            refine qa_iinc (L' := [(0, _), (1, _), (2, _), (3, _), (5, _), (6, _)]) (z := ((k + 1 : Nat) : Int)) (pc' := 80) ⟨rfl, rfl⟩ rfl (by omega) rfl rfl ?_
            refine qa_goto (pc' := 83) (tgt := 5) ⟨rfl, rfl⟩ rfl ?_
            refine qa_sub (ks' := [0, 1, 2, 3, 4]) (L' := [(0, _), (1, _), (2, _), (3, _), (5, _)]) rfl ?_
            refine ih (k + 1) e9 _ ⟨by omega, by omega, ?_, hmin⟩
            rw [hr, hq9, show e9.toNat = (bars k).toNat + (e9 - bars k).toNat by omega, hrun, Int.toNat_of_nonneg (by omega : 0 ≤ e9 - bars k)]
  exact lp n.toNat 0 0 0 ⟨by omega, by omega, rfl, by omega, by omega, fun h => by rw [show bars ((0 : Nat) : Int) = 0 from hB.1, if_pos (by omega)], fun h => absurd h (by omega)⟩
theorem c_T_putA {E : qa_V} {σ : qa_S} {c : Nat} {n : Int} {bars vals : Int → Int} {b9 v9 : Int} (hlo : E.1 ≤ c) (hc : σ.1 c = some (qa_TeF c n)) (hb : σ.1 (c + 1) = some (qa_ia 6 bars)) (hv : σ.1 (c + 2) = some (qa_ia 6 vals)) (hn : 1 ≤ n ∧ n ≤ 6) (hb9 : ∀ j : Int, 0 ≤ j → j < n → 0 ≤ bars j ∧ bars j ≤ 999) (hy : 0 ≤ b9 ∧ b9 ≤ 999) (hA : bars (sp_en bars b9 (n - 1).toNat) = b9) : qa_T E qm_T_put 0 0 [.ref c, .int (qa_i b9), .int (qa_i v9)] σ (fun o9 τ => o9 = .inl none ∧ τ.2 = σ.2 ∧ τ.1 c = some (qa_TeF c n) ∧ τ.1 (c + 1) = some (qa_ia 6 bars) ∧ τ.1 (c + 2) = some (qa_ia 6 (qa_up vals (sp_en bars b9 (n - 1).toNat) v9)) ∧ ∀ q, (q < c ∨ c + 3 ≤ q) → τ.1 q = σ.1 q) := by
  refine qa_enterQ (by decide) rfl qm_T_put_ok rfl rfl (fun Q9 hQ => ?_)
  have e0 : σ.2 = σ.2 := rfl
  have fr : ∀ q, (q < c ∨ c + 3 ≤ q) → σ.1 q = σ.1 q := fun _ _ => rfl
  refine qa_aload_n (pc' := 1) ⟨rfl, rfl⟩ rfl ?_
  refine qa_iload_n (pc' := 2) ⟨rfl, rfl⟩ rfl ?_
  refine qa_callV rfl qf_T_entryFor ql_5_28 (c_T_entryFor hc hb hn hb9 hy) (by assumption) rfl rfl rfl (qa_lt9 rfl) (qa_le9 rfl) (qa_le9 rfl) (qa_le9 rfl) (fun o9 τ9 hq9 => ?_)
  obtain ⟨rfl, hq9⟩ := hq9
  replace hq9 := hq9.symm; subst hq9
  refine qa_nx (pc' := 5) (st' := [_]) rfl rfl rfl rfl ?_
  obtain ⟨x, hx⟩ : ∃ x, x = sp_en bars b9 (n - 1).toNat := ⟨_, rfl⟩
  have bx : 0 ≤ x ∧ x < n := by rw [hx]; have := sp_en_b bars b9 (n - 1).toNat; omega
  rw [← hx] at hA ⊢
  have hbx := hb9 x (by omega) (by omega)
  refine qa_istore_n (L' := [(0, _), (1, _), (2, _), (3, _)]) (pc' := 6) ⟨rfl, rfl⟩ rfl rfl ?_
  refine qa_aload_n (pc' := 7) ⟨rfl, rfl⟩ rfl ?_
  refine qa_getf (pc' := 10) ⟨rfl, rfl⟩ qg_5_9 (by assumption) rfl ?_
  refine qa_iload_n (pc' := 11) ⟨rfl, rfl⟩ rfl ?_
  refine qa_iaload (pc' := 12) ⟨rfl, rfl⟩ (by assumption) (by omega) ?_
  refine qa_iload_n (pc' := 13) ⟨rfl, rfl⟩ rfl ?_
  refine qa_icmp_eq (pc' := 16) (tgt := 95) ⟨rfl, rfl⟩ rfl (by omega) (by omega) (fun hc1 => ?_) (fun hc1 => ?_)
  · refine qa_aload_n (pc' := 96) ⟨rfl, rfl⟩ rfl ?_
    refine qa_getf (pc' := 99) ⟨rfl, rfl⟩ qg_5_9 (by assumption) rfl ?_
    refine qa_iload_n (pc' := 100) ⟨rfl, rfl⟩ rfl ?_
    refine qa_iaload (pc' := 101) ⟨rfl, rfl⟩ (by assumption) (by omega) ?_
    refine qa_iload_n (pc' := 102) ⟨rfl, rfl⟩ rfl ?_
    refine qa_icmp_ne (pc' := 105) (tgt := 112) ⟨rfl, rfl⟩ rfl (by omega) (by omega) (fun hc2 => ?_) (fun hc2 => ?_)
    · exact absurd hc2 (by omega)
    · refine qa_aload_n (pc' := 106) ⟨rfl, rfl⟩ rfl ?_
      refine qa_getf (pc' := 109) ⟨rfl, rfl⟩ qg_5_15 (by assumption) rfl ?_
      refine qa_iload_n (pc' := 110) ⟨rfl, rfl⟩ rfl ?_
      refine qa_iload_n (pc' := 111) ⟨rfl, rfl⟩ rfl ?_
      refine qa_iastore (pc' := 112) ⟨rfl, rfl⟩ (by assumption) (by omega) (by omega) ?_
      refine qa_gz (fun τ1 e1 w1 f1 => ?_)
      replace hc := (f1 _ (by omega)).trans hc
      replace hb := (f1 _ (by omega)).trans hb
      replace fr := fun q hq => (f1 q (by have := hq; omega)).trans (fr q hq)
      replace e0 := e1.trans e0
      refine qa_return rfl rfl (hQ _ _ ⟨rfl, e0, hc, hb, by rw [← hx]; exact w1, fr⟩)
  · exact absurd hc1 (by omega)
def sp_is (f : Int → Int) (e v : Int) : Int → Int := fun q => if q < e then f q else if q = e then v else f (q - 1)
theorem c_T_putB {E : qa_V} {σ : qa_S} {c : Nat} {n : Int} {bars vals : Int → Int} {b9 v9 : Int} (hlo : E.1 ≤ c) (hc : σ.1 c = some (qa_TeF c n)) (hb : σ.1 (c + 1) = some (qa_ia 6 bars)) (hv : σ.1 (c + 2) = some (qa_ia 6 vals)) (hn : 1 ≤ n ∧ n ≤ 6) (hn5 : n < 6) (hb9 : ∀ j : Int, 0 ≤ j → j < n → 0 ≤ bars j ∧ bars j ≤ 999) (hy : 0 ≤ b9 ∧ b9 ≤ 999) (hA : bars (sp_en bars b9 (n - 1).toNat) ≠ b9) : qa_T E qm_T_put 0 0 [.ref c, .int (qa_i b9), .int (qa_i v9)] σ (fun o9 τ => o9 = .inl none ∧ τ.2 = σ.2 ∧ τ.1 c = some (qa_TeF c (n + 1)) ∧ (∃ b2 : Int → Int, τ.1 (c + 1) = some (qa_ia 6 b2) ∧ ∀ q : Int, 0 ≤ q → q ≤ n → b2 q = sp_is bars (sp_en bars b9 (n - 1).toNat + 1) b9 q) ∧ (∃ v2 : Int → Int, τ.1 (c + 2) = some (qa_ia 6 v2) ∧ ∀ q : Int, 0 ≤ q → q ≤ n → v2 q = sp_is vals (sp_en bars b9 (n - 1).toNat + 1) v9 q) ∧ ∀ q, (q < c ∨ c + 3 ≤ q) → τ.1 q = σ.1 q) := by
  refine qa_enterQ (by decide) rfl qm_T_put_ok rfl rfl (fun Q9 hQ => ?_)
  have hc0 := hc
  refine qa_aload_n (pc' := 1) ⟨rfl, rfl⟩ rfl ?_
  refine qa_iload_n (pc' := 2) ⟨rfl, rfl⟩ rfl ?_
  refine qa_callV rfl qf_T_entryFor ql_5_28 (c_T_entryFor hc hb hn hb9 hy) (by assumption) rfl rfl rfl (qa_lt9 rfl) (qa_le9 rfl) (qa_le9 rfl) (qa_le9 rfl) (fun o9 τ9 hq9 => ?_)
  obtain ⟨rfl, hq9⟩ := hq9
  replace hq9 := hq9.symm; subst hq9
  refine qa_nx (pc' := 5) (st' := [_]) rfl rfl rfl rfl ?_
  obtain ⟨x, hx⟩ : ∃ x, x = sp_en bars b9 (n - 1).toNat := ⟨_, rfl⟩
  have bx : 0 ≤ x ∧ x < n := by rw [hx]; have := sp_en_b bars b9 (n - 1).toNat; omega
  rw [← hx] at hA ⊢
  have hbx := hb9 x (by omega) (by omega)
  refine qa_istore_n (L' := [(0, _), (1, _), (2, _), (3, _)]) (pc' := 6) ⟨rfl, rfl⟩ rfl rfl ?_
  refine qa_aload_n (pc' := 7) ⟨rfl, rfl⟩ rfl ?_
  refine qa_getf (pc' := 10) ⟨rfl, rfl⟩ qg_5_9 (by assumption) rfl ?_
  refine qa_iload_n (pc' := 11) ⟨rfl, rfl⟩ rfl ?_
  refine qa_iaload (pc' := 12) ⟨rfl, rfl⟩ (by assumption) (by omega) ?_
  refine qa_iload_n (pc' := 13) ⟨rfl, rfl⟩ rfl ?_
  refine qa_icmp_eq (pc' := 16) (tgt := 95) ⟨rfl, rfl⟩ rfl (by omega) (by omega) (fun hc1 => ?_) (fun hc1 => ?_)
  · exact absurd hc1 (by omega)
  · refine qa_aload_n (pc' := 17) ⟨rfl, rfl⟩ rfl ?_
    refine qa_getf (pc' := 20) ⟨rfl, rfl⟩ qg_5_18 (by assumption) rfl ?_
    refine qa_bipush (z := 6) (pc' := 22) ⟨rfl, rfl⟩ rfl ?_
    refine qa_icmp_ge (pc' := 25) (tgt := 95) ⟨rfl, rfl⟩ rfl (by omega) (by omega) (fun hc2 => ?_) (fun hc2 => ?_)
    · exact absurd hc2 (by omega)
    · refine qa_iinc (L' := [(0, _), (1, _), (2, _), (3, _)]) (z := x + 1) (pc' := 28) ⟨rfl, rfl⟩ rfl (by omega) rfl rfl ?_
      refine qa_aload_n (pc' := 29) ⟨rfl, rfl⟩ rfl ?_
      refine qa_getf (pc' := 32) ⟨rfl, rfl⟩ qg_5_18 (by assumption) rfl ?_
      refine qa_istore (L' := [(0, _), (1, _), (2, _), (3, _), (4, _)]) (pc' := 34) ⟨rfl, rfl⟩ rfl rfl ?_
      have lp : ∀ (f : Nat) (τ : qa_S) (k : Int) (b1 v1 : Int → Int), k = x + 1 + f ∧ k ≤ n ∧ τ.1 c = some (qa_TeF c n) ∧ τ.1 (c + 1) = some (qa_ia 6 b1) ∧ τ.1 (c + 2) = some (qa_ia 6 v1) ∧ τ.2 = σ.2 ∧ (∀ q, (q < c ∨ c + 3 ≤ q) → τ.1 q = σ.1 q) ∧ (∀ q : Int, 0 ≤ q → q ≤ n → (q ≤ k → b1 q = bars q) ∧ (k < q → b1 q = bars (q - 1))) ∧ (∀ q : Int, 0 ≤ q → q ≤ n → (q ≤ k → v1 q = vals q) ∧ (k < q → v1 q = vals (q - 1))) → qa_W E qm_T_put Q9 0 0 34 [(0, .ref c), (1, .int (qa_i b9)), (2, .int (qa_i v9)), (3, .int (qa_i (x + 1))), (4, .int (qa_i k))] [] τ := by
        intro f
        induction f with
        | zero =>
          intro τ k b1 v1 ⟨hk, hkn, hc, hb1, hv1, e0, fr, hq, hw⟩
          have hk1 : k = x + 1 := by omega
          refine qa_iload (pc' := 36) ⟨rfl, rfl⟩ rfl ?_
          refine qa_iload_n (pc' := 37) ⟨rfl, rfl⟩ rfl ?_
          refine qa_icmp_le (pc' := 40) (tgt := 78) ⟨rfl, rfl⟩ rfl (by omega) (by omega) (fun hc4 => ?_) (fun hc4 => ?_)
          · refine qa_aload_n (pc' := 79) ⟨rfl, rfl⟩ rfl ?_
            refine qa_getf (pc' := 82) ⟨rfl, rfl⟩ qg_5_9 (by assumption) rfl ?_
            refine qa_iload_n (pc' := 83) ⟨rfl, rfl⟩ rfl ?_
            refine qa_iload_n (pc' := 84) ⟨rfl, rfl⟩ rfl ?_
            refine qa_iastore (pc' := 85) ⟨rfl, rfl⟩ (by assumption) (by omega) (by omega) ?_
            refine qa_gz (fun τ51 e51 w51 f51 => ?_)
            replace hc := (f51 _ (by omega)).trans hc
            replace hv1 := (f51 _ (by omega)).trans hv1
            replace fr := fun q hq => (f51 q (by have := hq; omega)).trans (fr q hq)
            replace e0 := e51.trans e0
            refine qa_aload_n (pc' := 86) ⟨rfl, rfl⟩ rfl ?_
            refine qa_dup (pc' := 87) ⟨rfl, rfl⟩ rfl ?_
            refine qa_getf (pc' := 90) ⟨rfl, rfl⟩ qg_5_18 (by assumption) rfl ?_
            refine qa_iconst (pc' := 91) ⟨rfl, rfl⟩ ?_
            refine qa_iadd (pc' := 92) ⟨rfl, rfl⟩ rfl ?_
            refine qa_putf (fs' := [_, _, _]) (pc' := 95) ⟨rfl, rfl⟩ qg_5_18 qw_4 (by assumption) (by omega) rfl (fun r hr => by cases hr; exact ⟨rfl, Or.inl rfl⟩) rfl rfl ?_
            refine qa_gz (fun τ52 e52 w52 f52 => ?_)
            replace hv1 := (f52 _ (by omega)).trans hv1
            replace w51 := (f52 _ (by omega)).trans w51
            replace fr := fun q hq => (f52 q (by have := hq; omega)).trans (fr q hq)
            replace e0 := e52.trans e0
            refine qa_aload_n (pc' := 96) ⟨rfl, rfl⟩ rfl ?_
            refine qa_getf (pc' := 99) ⟨rfl, rfl⟩ qg_5_9 (by assumption) rfl ?_
            refine qa_iload_n (pc' := 100) ⟨rfl, rfl⟩ rfl ?_
            refine qa_iaload (pc' := 101) ⟨rfl, rfl⟩ (by assumption) (by omega) ?_
            refine qa_iload_n (pc' := 102) ⟨rfl, rfl⟩ rfl ?_
            refine qa_icmp_ne (pc' := 105) (tgt := 112) ⟨rfl, rfl⟩ rfl (by rw [qa_up_eq]; omega) (by omega) (fun hc5 => ?_) (fun hc5 => ?_)
            · exact absurd (qa_up_eq b1 (x + 1) b9) hc5
            · refine qa_aload_n (pc' := 106) ⟨rfl, rfl⟩ rfl ?_
              refine qa_getf (pc' := 109) ⟨rfl, rfl⟩ qg_5_15 (by assumption) rfl ?_
              refine qa_iload_n (pc' := 110) ⟨rfl, rfl⟩ rfl ?_
              refine qa_iload_n (pc' := 111) ⟨rfl, rfl⟩ rfl ?_
              refine qa_iastore (pc' := 112) ⟨rfl, rfl⟩ (by assumption) (by omega) (by omega) ?_
              refine qa_gz (fun τ53 e53 w53 f53 => ?_)
              replace w51 := (f53 _ (by omega)).trans w51
              replace w52 := (f53 _ (by omega)).trans w52
              replace fr := fun q hq => (f53 q (by have := hq; omega)).trans (fr q hq)
              replace e0 := e53.trans e0
              refine qa_return rfl rfl (hQ _ _ ⟨rfl, e0, w52, ⟨_, w51, fun q h0 h1 => ?_⟩, ⟨_, w53, fun q h0 h1 => ?_⟩, fr⟩)
              · rw [← hx]; unfold sp_is
                by_cases h2 : q = x + 1
                · rw [h2, qa_up_eq, if_neg (by omega), if_pos rfl]
                · rw [qa_up_ne h2]
                  by_cases h3 : q < x + 1
                  · rw [if_pos h3]; exact (hq q h0 (by omega)).1 (by omega)
                  · rw [if_neg h3, if_neg h2]; exact (hq q h0 (by omega)).2 (by omega)
              · rw [← hx]; unfold sp_is
                by_cases h2 : q = x + 1
                · rw [h2, qa_up_eq, if_neg (by omega), if_pos rfl]
                · rw [qa_up_ne h2]
                  by_cases h3 : q < x + 1
                  · rw [if_pos h3]; exact (hw q h0 (by omega)).1 (by omega)
                  · rw [if_neg h3, if_neg h2]; exact (hw q h0 (by omega)).2 (by omega)
          · exact absurd hc4 (by omega)
        | succ f ih =>
          intro τ k b1 v1 ⟨hk, hkn, hc, hb1, hv1, e0, fr, hq, hw⟩
          have hbk := (hq (k - 1) (by omega) (by omega)).1 (by omega)
          have hvk := (hw (k - 1) (by omega) (by omega)).1 (by omega)
          refine qa_iload (pc' := 36) ⟨rfl, rfl⟩ rfl ?_
          refine qa_iload_n (pc' := 37) ⟨rfl, rfl⟩ rfl ?_
          refine qa_icmp_le (pc' := 40) (tgt := 78) ⟨rfl, rfl⟩ rfl (by omega) (by omega) (fun hc4 => ?_) (fun hc4 => ?_)
          · exact absurd hc4 (by omega)
          · refine qa_aload_n (pc' := 41) ⟨rfl, rfl⟩ rfl ?_
            refine qa_getf (pc' := 44) ⟨rfl, rfl⟩ qg_5_9 (by assumption) rfl ?_
            refine qa_iload (pc' := 46) ⟨rfl, rfl⟩ rfl ?_
            refine qa_aload_n (pc' := 47) ⟨rfl, rfl⟩ rfl ?_
            refine qa_getf (pc' := 50) ⟨rfl, rfl⟩ qg_5_9 (by assumption) rfl ?_
            refine qa_iload (pc' := 52) ⟨rfl, rfl⟩ rfl ?_
            refine qa_iconst (pc' := 53) ⟨rfl, rfl⟩ ?_
            refine qa_isub (pc' := 54) ⟨rfl, rfl⟩ rfl ?_
            refine qa_iaload (pc' := 55) ⟨rfl, rfl⟩ (by assumption) (by omega) ?_
            refine qa_iastore (pc' := 56) ⟨rfl, rfl⟩ (by assumption) (by omega) (by omega) ?_
            refine qa_gz (fun τ51 e51 w51 f51 => ?_)
            replace hc := (f51 _ (by omega)).trans hc
            replace hv1 := (f51 _ (by omega)).trans hv1
            replace fr := fun q hq => (f51 q (by have := hq; omega)).trans (fr q hq)
            replace e0 := e51.trans e0
            refine qa_aload_n (pc' := 57) ⟨rfl, rfl⟩ rfl ?_
            refine qa_getf (pc' := 60) ⟨rfl, rfl⟩ qg_5_15 (by assumption) rfl ?_
            refine qa_iload (pc' := 62) ⟨rfl, rfl⟩ rfl ?_
            refine qa_aload_n (pc' := 63) ⟨rfl, rfl⟩ rfl ?_
            refine qa_getf (pc' := 66) ⟨rfl, rfl⟩ qg_5_15 (by assumption) rfl ?_
            refine qa_iload (pc' := 68) ⟨rfl, rfl⟩ rfl ?_
            refine qa_iconst (pc' := 69) ⟨rfl, rfl⟩ ?_
            refine qa_isub (pc' := 70) ⟨rfl, rfl⟩ rfl ?_
            refine qa_iaload (pc' := 71) ⟨rfl, rfl⟩ (by assumption) (by omega) ?_
            refine qa_iastore (pc' := 72) ⟨rfl, rfl⟩ (by assumption) (by omega) (by omega) ?_
            refine qa_gz (fun τ52 e52 w52 f52 => ?_)
            replace hc := (f52 _ (by omega)).trans hc
            replace w51 := (f52 _ (by omega)).trans w51
            replace fr := fun q hq => (f52 q (by have := hq; omega)).trans (fr q hq)
            replace e0 := e52.trans e0
            refine qa_iinc (L' := [(0, _), (1, _), (2, _), (3, _), (4, _)]) (z := k - 1) (pc' := 75) ⟨rfl, rfl⟩ rfl (by omega) rfl rfl ?_
            refine qa_goto (pc' := 78) (tgt := 34) ⟨rfl, rfl⟩ rfl ?_
            refine ih τ52 (k - 1) _ _ ⟨by omega, by omega, hc, w51, w52, e0, fr, fun q h0 h1 => ?_, fun q h0 h1 => ?_⟩
            · refine ⟨fun h2 => ?_, fun h2 => ?_⟩
              · rw [qa_up_ne (by omega)]; exact (hq q h0 h1).1 (by omega)
              · by_cases h3 : q = k
                · rw [h3, qa_up_eq, hbk]
                · rw [qa_up_ne h3]; exact (hq q h0 h1).2 (by omega)
            · refine ⟨fun h2 => ?_, fun h2 => ?_⟩
              · rw [qa_up_ne (by omega)]; exact (hw q h0 h1).1 (by omega)
              · by_cases h3 : q = k
                · rw [h3, qa_up_eq, hvk]
                · rw [qa_up_ne h3]; exact (hw q h0 h1).2 (by omega)
      exact lp (n - (x + 1)).toNat σ n bars vals ⟨by omega, by omega, hc, hb, hv, rfl, fun _ _ => rfl, fun q h0 h1 => ⟨fun _ => rfl, fun h => absurd h (by omega)⟩, fun q h0 h1 => ⟨fun _ => rfl, fun h => absurd h (by omega)⟩⟩
theorem c_T_become {E : qa_V} {σ : qa_S} {c : Nat} {n : Int} {c2 : Nat} {n2 : Int} {bars vals bars2 vals2 : Int → Int} (hlo : E.1 ≤ c) (hlo2 : E.1 ≤ c2) (hdj : c + 3 ≤ c2 ∨ c2 + 3 ≤ c) (hc : σ.1 c = some (qa_TeF c n)) (hb : σ.1 (c + 1) = some (qa_ia 6 bars)) (hv : σ.1 (c + 2) = some (qa_ia 6 vals)) (hc2 : σ.1 c2 = some (qa_TeF c2 n2)) (hb2 : σ.1 (c2 + 1) = some (qa_ia 6 bars2)) (hv2 : σ.1 (c2 + 2) = some (qa_ia 6 vals2)) : qa_T E qm_T_become 0 0 [.ref c, .ref c2] σ (fun o9 τ => o9 = .inl none ∧ τ.2 = σ.2 ∧ τ.1 c = some (qa_TeF c n2) ∧ τ.1 (c + 1) = some (qa_ia 6 (qa_cp bars2 bars 0 0 6)) ∧ τ.1 (c + 2) = some (qa_ia 6 (qa_cp vals2 vals 0 0 6)) ∧ ∀ q, (q < c ∨ c + 3 ≤ q) → τ.1 q = σ.1 q) := by
  refine qa_enterQ (by decide) rfl qm_T_become_ok rfl rfl (fun Q9 hQ => ?_)
  have e0 : σ.2 = σ.2 := rfl
  have fr : ∀ q, (q < c ∨ c + 3 ≤ q) → σ.1 q = σ.1 q := fun _ _ => rfl
  refine qa_aload_n (pc' := 1) ⟨rfl, rfl⟩ rfl ?_
  refine qa_getf (pc' := 4) ⟨rfl, rfl⟩ qg_5_9 (by assumption) rfl ?_
  refine qa_iconst (pc' := 5) ⟨rfl, rfl⟩ ?_
  refine qa_aload_n (pc' := 6) ⟨rfl, rfl⟩ rfl ?_
  refine qa_getf (pc' := 9) ⟨rfl, rfl⟩ qg_5_9 (by assumption) rfl ?_
  refine qa_iconst (pc' := 10) ⟨rfl, rfl⟩ ?_
  refine qa_bipush (z := 6) (pc' := 12) ⟨rfl, rfl⟩ rfl ?_
  refine qa_copy (pc' := 15) (t := 0) ⟨rfl, rfl⟩ qac_5_22 qa_acN qa_acS qa_acI rfl rfl hb2 hb (by omega) (by omega) (by omega) (fun _ => rfl) (qa_le9 rfl) ?_
  refine qa_gz (fun τ1 e1 w1 f1 => ?_)
  replace hc := (f1 _ (by omega)).trans hc
  replace hv := (f1 _ (by omega)).trans hv
  replace hc2 := (f1 _ (by omega)).trans hc2
  replace hb2 := (f1 _ (by omega)).trans hb2
  replace hv2 := (f1 _ (by omega)).trans hv2
  replace fr := fun q hq => (f1 q (by have := hq; omega)).trans (fr q hq)
  replace e0 := e1.trans e0
  replace w1 : _ = some (qa_ia 6 (qa_cp bars2 bars 0 0 6)) := w1
  refine qa_aload_n (pc' := 16) ⟨rfl, rfl⟩ rfl ?_
  refine qa_getf (pc' := 19) ⟨rfl, rfl⟩ qg_5_15 (by assumption) rfl ?_
  refine qa_iconst (pc' := 20) ⟨rfl, rfl⟩ ?_
  refine qa_aload_n (pc' := 21) ⟨rfl, rfl⟩ rfl ?_
  refine qa_getf (pc' := 24) ⟨rfl, rfl⟩ qg_5_15 (by assumption) rfl ?_
  refine qa_iconst (pc' := 25) ⟨rfl, rfl⟩ ?_
  refine qa_bipush (z := 6) (pc' := 27) ⟨rfl, rfl⟩ rfl ?_
  refine qa_copy (pc' := 30) (t := 0) ⟨rfl, rfl⟩ qac_5_22 qa_acN qa_acS qa_acI rfl rfl hv2 hv (by omega) (by omega) (by omega) (fun _ => rfl) (qa_le9 rfl) ?_
  refine qa_gz (fun τ2 e2 w2 f2 => ?_)
  replace hc := (f2 _ (by omega)).trans hc
  replace hc2 := (f2 _ (by omega)).trans hc2
  replace hb2 := (f2 _ (by omega)).trans hb2
  replace hv2 := (f2 _ (by omega)).trans hv2
  replace w1 := (f2 _ (by omega)).trans w1
  replace fr := fun q hq => (f2 q (by have := hq; omega)).trans (fr q hq)
  replace e0 := e2.trans e0
  replace w2 : _ = some (qa_ia 6 (qa_cp vals2 vals 0 0 6)) := w2
  refine qa_aload_n (pc' := 31) ⟨rfl, rfl⟩ rfl ?_
  refine qa_aload_n (pc' := 32) ⟨rfl, rfl⟩ rfl ?_
  refine qa_getf (pc' := 35) ⟨rfl, rfl⟩ qg_5_18 (by assumption) rfl ?_
  refine qa_putf (fs' := [_, _, _]) (pc' := 38) ⟨rfl, rfl⟩ qg_5_18 qw_4 (by assumption) (by omega) rfl (fun r hr => by cases hr; exact ⟨rfl, Or.inl rfl⟩) rfl rfl ?_
  refine qa_gz (fun τ3 e3 w3 f3 => ?_)
  replace hc2 := (f3 _ (by omega)).trans hc2
  replace hb2 := (f3 _ (by omega)).trans hb2
  replace hv2 := (f3 _ (by omega)).trans hv2
  replace w1 := (f3 _ (by omega)).trans w1
  replace w2 := (f3 _ (by omega)).trans w2
  replace fr := fun q hq => (f3 q (by have := hq; omega)).trans (fr q hq)
  replace e0 := e3.trans e0
  refine qa_return rfl rfl (hQ _ _ ⟨rfl, e0, w3, w1, w2, fr⟩)
theorem c_T_init {E : qa_V} {σ : qa_S} {c : Nat} (hlo : E.1 ≤ c) (hn : σ.2 = c + 1) (hc : σ.1 c = some (.inl (4, [.null, .null, .int (qa_i 0)]))) : qa_T E qm_T_init 2 12 [.ref c] σ (fun o9 τ => o9 = .inl none ∧ τ.2 = c + 3 ∧ τ.1 c = some (qa_TeF c 1) ∧ τ.1 (c + 1) = some (qa_ia 6 (fun _ => 0)) ∧ τ.1 (c + 2) = some (qa_ia 6 (qa_up (fun _ => 0) 0 60)) ∧ ∀ q, (q < c ∨ c + 3 ≤ q) → τ.1 q = σ.1 q) := by
  refine qa_enterQ (by decide) rfl qm_T_init_ok rfl rfl (fun Q9 hQ => ?_)
  have e0 := hn
  have fr : ∀ q, (q < c ∨ c + 3 ≤ q) → σ.1 q = σ.1 q := fun _ _ => rfl
  refine qa_aload_n (pc' := 1) ⟨rfl, rfl⟩ rfl ?_
  refine qa_objI (pc' := 4) ⟨rfl, rfl⟩ qoi_5_3 qoi_i qoi_c (qa_le9 rfl) ?_
  refine qa_aload_n (pc' := 5) ⟨rfl, rfl⟩ rfl ?_
  refine qa_bipush (z := 6) (pc' := 7) ⟨rfl, rfl⟩ rfl ?_
  refine qa_newarr (pc' := 9) (t := 0) (N := 6) (y := (6, .inl (fun q => qa_i ((fun _ : Int => 0) q)))) ⟨rfl, rfl⟩ rfl rfl qa_ac_int rfl (by omega) (fun _ _ => rfl) (qa_le9 rfl) (fun _ _ => Iff.rfl) ?_
  refine qa_gn (fun τ1 e1 w1 f1 => ?_)
  replace w1 : _ = some (qa_ia 6 (fun _ => 0)) := w1
  rw [e0] at e1 w1 f1 ⊢
  replace hc := (f1 _ (by omega)).trans hc
  replace fr := fun q hq => (f1 q (by have := hq; omega)).trans (fr q hq)
  replace e0 := e1
  refine qa_putf (fs' := [_, _, _]) (pc' := 12) ⟨rfl, rfl⟩ qg_5_9 qw_4 (by assumption) (by omega) rfl (fun r hr => by cases hr; exact ⟨rfl, Or.inr ⟨rfl, rfl, rfl⟩⟩) rfl rfl ?_
  refine qa_gz (fun τ2 e2 w2 f2 => ?_)
  replace w1 := (f2 _ (by omega)).trans w1
  replace fr := fun q hq => (f2 q (by have := hq; omega)).trans (fr q hq)
  replace e0 := e2.trans e0
  refine qa_aload_n (pc' := 13) ⟨rfl, rfl⟩ rfl ?_
  refine qa_bipush (z := 6) (pc' := 15) ⟨rfl, rfl⟩ rfl ?_
  refine qa_newarr (pc' := 17) (t := 0) (N := 6) (y := (6, .inl (fun q => qa_i ((fun _ : Int => 0) q)))) ⟨rfl, rfl⟩ rfl rfl qa_ac_int rfl (by omega) (fun _ _ => rfl) (qa_le9 rfl) (fun _ _ => Iff.rfl) ?_
  refine qa_gn (fun τ3 e3 w3 f3 => ?_)
  replace w3 : _ = some (qa_ia 6 (fun _ => 0)) := w3
  rw [e0] at e3 w3 f3 ⊢
  replace w1 := (f3 _ (by omega)).trans w1
  replace w2 := (f3 _ (by omega)).trans w2
  replace fr := fun q hq => (f3 q (by have := hq; omega)).trans (fr q hq)
  replace e0 := e3
  refine qa_putf (fs' := [_, _, _]) (pc' := 20) ⟨rfl, rfl⟩ qg_5_15 qw_4 (by assumption) (by omega) rfl (fun r hr => by cases hr; exact ⟨rfl, Or.inr ⟨rfl, rfl, rfl⟩⟩) rfl rfl ?_
  refine qa_gz (fun τ4 e4 w4 f4 => ?_)
  replace w1 := (f4 _ (by omega)).trans w1
  replace w3 := (f4 _ (by omega)).trans w3
  replace fr := fun q hq => (f4 q (by have := hq; omega)).trans (fr q hq)
  replace e0 := e4.trans e0
  refine qa_aload_n (pc' := 21) ⟨rfl, rfl⟩ rfl ?_
  refine qa_iconst (pc' := 22) ⟨rfl, rfl⟩ ?_
  refine qa_putf (fs' := [_, _, _]) (pc' := 25) ⟨rfl, rfl⟩ qg_5_18 qw_4 (by assumption) (by omega) rfl (fun r hr => by cases hr; exact ⟨rfl, Or.inl rfl⟩) rfl rfl ?_
  refine qa_gz (fun τ5 e5 w5 f5 => ?_)
  replace w1 := (f5 _ (by omega)).trans w1
  replace w3 := (f5 _ (by omega)).trans w3
  replace fr := fun q hq => (f5 q (by have := hq; omega)).trans (fr q hq)
  replace e0 := e5.trans e0
  refine qa_aload_n (pc' := 26) ⟨rfl, rfl⟩ rfl ?_
  refine qa_getf (pc' := 29) ⟨rfl, rfl⟩ qg_5_15 (by assumption) rfl ?_
  refine qa_iconst (pc' := 30) ⟨rfl, rfl⟩ ?_
  refine qa_bipush (z := 60) (pc' := 32) ⟨rfl, rfl⟩ rfl ?_
  refine qa_iastore (pc' := 33) ⟨rfl, rfl⟩ (by assumption) (by omega) (by omega) ?_
  refine qa_gz (fun τ6 e6 w6 f6 => ?_)
  replace w1 := (f6 _ (by omega)).trans w1
  replace w5 := (f6 _ (by omega)).trans w5
  replace fr := fun q hq => (f6 q (by have := hq; omega)).trans (fr q hq)
  replace e0 := e6.trans e0
  refine qa_return rfl rfl (hQ _ _ ⟨rfl, e0, w5, w1, w6, fr⟩)
theorem c_Q_put {E : qa_V} {σ : qa_S} {c : Nat} {t : Int} {src : Int → Int} {p s9 : Int} (hlo : E.1 ≤ c) (hc : σ.1 c = some (qa_CuF c t)) (hs : σ.1 (c + 1) = some (qa_ia 5 src)) (hs9 : sp_S5 src) (hp : 0 ≤ p ∧ p < 5) (hs8 : -1 ≤ s9 ∧ s9 ≤ 4) : qa_T E qm_Q_put 0 0 [.ref c, .int (qa_i p), .int (qa_i s9)] σ (fun o9 τ => o9 = .inl none ∧ τ.2 = σ.2 ∧ τ.1 c = some (qa_CuF c (t - (if src p = -1 then 0 else 1) + (if s9 = -1 then 0 else 1))) ∧ τ.1 (c + 1) = some (qa_ia 5 (qa_up src p s9)) ∧ ∀ q, (q < c ∨ c + 2 ≤ q) → τ.1 q = σ.1 q) := by
  refine qa_enterQ (by decide) rfl qm_Q_put_ok rfl rfl (fun Q9 hQ => ?_)
  have hsp := hs9 p (by omega) (by omega)
  have e0 : σ.2 = σ.2 := rfl
  have fr : ∀ q, (q < c ∨ c + 2 ≤ q) → σ.1 q = σ.1 q := fun _ _ => rfl
  refine qa_iload_n (pc' := 1) ⟨rfl, rfl⟩ rfl ?_
  refine qa_iconst (pc' := 2) ⟨rfl, rfl⟩ ?_
  refine qa_iconst (pc' := 3) ⟨rfl, rfl⟩ ?_
  refine qa_callS rfl qf_C_isWithin rfl ql_4_28 (c_C_isWithin (by omega) (by omega) (by omega)) rfl rfl (qa_lt9 rfl) (qa_le9 rfl) (qa_le9 rfl) (qa_le9 rfl) (fun o9 τ9 hq9 => ?_)
  obtain ⟨rfl, hq9⟩ := hq9
  replace hq9 := hq9.symm; subst hq9
  refine qa_nx (pc' := 6) (st' := [_]) rfl rfl rfl rfl ?_
  rw [if_pos (by omega)]
  refine qa_if_ne (pc' := 9) (tgt := 10) ⟨rfl, rfl⟩ rfl (by omega) (fun hc1 => ?_) (fun hc1 => ?_)
  · refine qa_aload_n (pc' := 11) ⟨rfl, rfl⟩ rfl ?_
    refine qa_getf (pc' := 14) ⟨rfl, rfl⟩ qg_4_9 (by assumption) rfl ?_
    refine qa_iload_n (pc' := 15) ⟨rfl, rfl⟩ rfl ?_
    refine qa_iaload (pc' := 16) ⟨rfl, rfl⟩ (by assumption) (by omega) ?_
    refine qa_iconst (pc' := 17) ⟨rfl, rfl⟩ ?_
    refine qa_icmp_eq (pc' := 20) (tgt := 30) ⟨rfl, rfl⟩ rfl (by omega) (by omega) (fun hc2 => ?_) (fun hc2 => ?_)
    · refine qa_iload_n (pc' := 31) ⟨rfl, rfl⟩ rfl ?_
      refine qa_iconst (pc' := 32) ⟨rfl, rfl⟩ ?_
      refine qa_icmp_eq (pc' := 35) (tgt := 45) ⟨rfl, rfl⟩ rfl (by omega) (by omega) (fun hc3 => ?_) (fun hc3 => ?_)
      · refine qa_aload_n (pc' := 46) ⟨rfl, rfl⟩ rfl ?_
        refine qa_getf (pc' := 49) ⟨rfl, rfl⟩ qg_4_9 (by assumption) rfl ?_
        refine qa_iload_n (pc' := 50) ⟨rfl, rfl⟩ rfl ?_
        refine qa_iload_n (pc' := 51) ⟨rfl, rfl⟩ rfl ?_
        refine qa_iastore (pc' := 52) ⟨rfl, rfl⟩ (by assumption) (by omega) (by omega) ?_
        refine qa_gz (fun τ1 e1 w1 f1 => ?_)
        replace hc := (f1 _ (by omega)).trans hc
        replace fr := fun q hq => (f1 q (by have := hq; omega)).trans (fr q hq)
        replace e0 := e1.trans e0
        refine qa_return rfl rfl (hQ _ _ ⟨rfl, e0, by rw [if_pos hc2]; rw [if_pos hc3]; (try simp only [Int.sub_zero, Int.add_zero]); exact hc, w1, fr⟩)
      · refine qa_aload_n (pc' := 36) ⟨rfl, rfl⟩ rfl ?_
        refine qa_dup (pc' := 37) ⟨rfl, rfl⟩ rfl ?_
        refine qa_getf (pc' := 40) ⟨rfl, rfl⟩ qg_4_24 (by assumption) rfl ?_
        refine qa_iconst (pc' := 41) ⟨rfl, rfl⟩ ?_
        refine qa_iadd (pc' := 42) ⟨rfl, rfl⟩ rfl ?_
        refine qa_putf (fs' := [_, _, _]) (pc' := 45) ⟨rfl, rfl⟩ qg_4_24 qw_3 (by assumption) (by omega) rfl (fun r hr => by cases hr; exact ⟨rfl, Or.inl rfl⟩) rfl rfl ?_
        refine qa_gz (fun τ1 e1 w1 f1 => ?_)
        replace hs := (f1 _ (by omega)).trans hs
        replace fr := fun q hq => (f1 q (by have := hq; omega)).trans (fr q hq)
        replace e0 := e1.trans e0
        refine qa_aload_n (pc' := 46) ⟨rfl, rfl⟩ rfl ?_
        refine qa_getf (pc' := 49) ⟨rfl, rfl⟩ qg_4_9 (by assumption) rfl ?_
        refine qa_iload_n (pc' := 50) ⟨rfl, rfl⟩ rfl ?_
        refine qa_iload_n (pc' := 51) ⟨rfl, rfl⟩ rfl ?_
        refine qa_iastore (pc' := 52) ⟨rfl, rfl⟩ (by assumption) (by omega) (by omega) ?_
        refine qa_gz (fun τ2 e2 w2 f2 => ?_)
        replace w1 := (f2 _ (by omega)).trans w1
        replace fr := fun q hq => (f2 q (by have := hq; omega)).trans (fr q hq)
        replace e0 := e2.trans e0
        refine qa_return rfl rfl (hQ _ _ ⟨rfl, e0, by rw [if_pos hc2]; rw [if_neg hc3]; (try simp only [Int.sub_zero]); exact w1, w2, fr⟩)
    · refine qa_aload_n (pc' := 21) ⟨rfl, rfl⟩ rfl ?_
      refine qa_dup (pc' := 22) ⟨rfl, rfl⟩ rfl ?_
      refine qa_getf (pc' := 25) ⟨rfl, rfl⟩ qg_4_24 (by assumption) rfl ?_
      refine qa_iconst (pc' := 26) ⟨rfl, rfl⟩ ?_
      refine qa_isub (pc' := 27) ⟨rfl, rfl⟩ rfl ?_
      refine qa_putf (fs' := [_, _, _]) (pc' := 30) ⟨rfl, rfl⟩ qg_4_24 qw_3 (by assumption) (by omega) rfl (fun r hr => by cases hr; exact ⟨rfl, Or.inl rfl⟩) rfl rfl ?_
      refine qa_gz (fun τ1 e1 w1 f1 => ?_)
      replace hs := (f1 _ (by omega)).trans hs
      replace fr := fun q hq => (f1 q (by have := hq; omega)).trans (fr q hq)
      replace e0 := e1.trans e0
      refine qa_iload_n (pc' := 31) ⟨rfl, rfl⟩ rfl ?_
      refine qa_iconst (pc' := 32) ⟨rfl, rfl⟩ ?_
      refine qa_icmp_eq (pc' := 35) (tgt := 45) ⟨rfl, rfl⟩ rfl (by omega) (by omega) (fun hc3 => ?_) (fun hc3 => ?_)
      · refine qa_aload_n (pc' := 46) ⟨rfl, rfl⟩ rfl ?_
        refine qa_getf (pc' := 49) ⟨rfl, rfl⟩ qg_4_9 (by assumption) rfl ?_
        refine qa_iload_n (pc' := 50) ⟨rfl, rfl⟩ rfl ?_
        refine qa_iload_n (pc' := 51) ⟨rfl, rfl⟩ rfl ?_
        refine qa_iastore (pc' := 52) ⟨rfl, rfl⟩ (by assumption) (by omega) (by omega) ?_
        refine qa_gz (fun τ2 e2 w2 f2 => ?_)
        replace w1 := (f2 _ (by omega)).trans w1
        replace fr := fun q hq => (f2 q (by have := hq; omega)).trans (fr q hq)
        replace e0 := e2.trans e0
        refine qa_return rfl rfl (hQ _ _ ⟨rfl, e0, by rw [if_neg hc2]; rw [if_pos hc3]; (try simp only [Int.sub_zero, Int.add_zero]); exact w1, w2, fr⟩)
      · refine qa_aload_n (pc' := 36) ⟨rfl, rfl⟩ rfl ?_
        refine qa_dup (pc' := 37) ⟨rfl, rfl⟩ rfl ?_
        refine qa_getf (pc' := 40) ⟨rfl, rfl⟩ qg_4_24 (by assumption) rfl ?_
        refine qa_iconst (pc' := 41) ⟨rfl, rfl⟩ ?_
        refine qa_iadd (pc' := 42) ⟨rfl, rfl⟩ rfl ?_
        refine qa_putf (fs' := [_, _, _]) (pc' := 45) ⟨rfl, rfl⟩ qg_4_24 qw_3 (by assumption) (by omega) rfl (fun r hr => by cases hr; exact ⟨rfl, Or.inl rfl⟩) rfl rfl ?_
        refine qa_gz (fun τ2 e2 w2 f2 => ?_)
        replace hs := (f2 _ (by omega)).trans hs
        replace fr := fun q hq => (f2 q (by have := hq; omega)).trans (fr q hq)
        replace e0 := e2.trans e0
        refine qa_aload_n (pc' := 46) ⟨rfl, rfl⟩ rfl ?_
        refine qa_getf (pc' := 49) ⟨rfl, rfl⟩ qg_4_9 (by assumption) rfl ?_
        refine qa_iload_n (pc' := 50) ⟨rfl, rfl⟩ rfl ?_
        refine qa_iload_n (pc' := 51) ⟨rfl, rfl⟩ rfl ?_
        refine qa_iastore (pc' := 52) ⟨rfl, rfl⟩ (by assumption) (by omega) (by omega) ?_
        refine qa_gz (fun τ3 e3 w3 f3 => ?_)
        replace w2 := (f3 _ (by omega)).trans w2
        replace fr := fun q hq => (f3 q (by have := hq; omega)).trans (fr q hq)
        replace e0 := e3.trans e0
        refine qa_return rfl rfl (hQ _ _ ⟨rfl, e0, by rw [if_neg hc2]; rw [if_neg hc3]; (try simp only [Int.sub_zero]); exact w2, w3, fr⟩)
  · exact absurd hc1 (by omega)
theorem c_Q_become {E : qa_V} {σ : qa_S} {c : Nat} {t : Int} {src : Int → Int} {c2 : Nat} {t2 : Int} {src2 : Int → Int} (hlo : E.1 ≤ c) (hlo2 : E.1 ≤ c2) (hdj : c + 3 ≤ c2 ∨ c2 + 3 ≤ c) (hc : σ.1 c = some (qa_CuF c t)) (hs : σ.1 (c + 1) = some (qa_ia 5 src)) (hc2 : σ.1 c2 = some (qa_CuF c2 t2)) (hs2 : σ.1 (c2 + 1) = some (qa_ia 5 src2)) : qa_T E qm_Q_become 0 0 [.ref c, .ref c2] σ (fun o9 τ => o9 = .inl none ∧ τ.2 = σ.2 ∧ τ.1 c = some (qa_CuF c t2) ∧ τ.1 (c + 1) = some (qa_ia 5 (qa_cp src2 src 0 0 5)) ∧ ∀ q, (q < c ∨ c + 2 ≤ q) → τ.1 q = σ.1 q) := by
  refine qa_enterQ (by decide) rfl qm_Q_become_ok rfl rfl (fun Q9 hQ => ?_)
  have e0 : σ.2 = σ.2 := rfl
  have fr : ∀ q, (q < c ∨ c + 2 ≤ q) → σ.1 q = σ.1 q := fun _ _ => rfl
  refine qa_aload_n (pc' := 1) ⟨rfl, rfl⟩ rfl ?_
  refine qa_getf (pc' := 4) ⟨rfl, rfl⟩ qg_4_9 (by assumption) rfl ?_
  refine qa_iconst (pc' := 5) ⟨rfl, rfl⟩ ?_
  refine qa_aload_n (pc' := 6) ⟨rfl, rfl⟩ rfl ?_
  refine qa_getf (pc' := 9) ⟨rfl, rfl⟩ qg_4_9 (by assumption) rfl ?_
  refine qa_iconst (pc' := 10) ⟨rfl, rfl⟩ ?_
  refine qa_iconst (pc' := 11) ⟨rfl, rfl⟩ ?_
  refine qa_copy (pc' := 14) (t := 0) ⟨rfl, rfl⟩ qac_4_18 qa_acN qa_acS qa_acI rfl rfl hs2 hs (by omega) (by omega) (by omega) (fun _ => rfl) (qa_le9 rfl) ?_
  refine qa_gz (fun τ1 e1 w1 f1 => ?_)
  replace hc := (f1 _ (by omega)).trans hc
  replace hc2 := (f1 _ (by omega)).trans hc2
  replace hs2 := (f1 _ (by omega)).trans hs2
  replace fr := fun q hq => (f1 q (by have := hq; omega)).trans (fr q hq)
  replace e0 := e1.trans e0
  replace w1 : _ = some (qa_ia 5 (qa_cp src2 src 0 0 5)) := w1
  refine qa_aload_n (pc' := 15) ⟨rfl, rfl⟩ rfl ?_
  refine qa_aload_n (pc' := 16) ⟨rfl, rfl⟩ rfl ?_
  refine qa_getf (pc' := 19) ⟨rfl, rfl⟩ qg_4_24 (by assumption) rfl ?_
  refine qa_putf (fs' := [_, _, _]) (pc' := 22) ⟨rfl, rfl⟩ qg_4_24 qw_3 (by assumption) (by omega) rfl (fun r hr => by cases hr; exact ⟨rfl, Or.inl rfl⟩) rfl rfl ?_
  refine qa_gz (fun τ2 e2 w2 f2 => ?_)
  replace hc2 := (f2 _ (by omega)).trans hc2
  replace hs2 := (f2 _ (by omega)).trans hs2
  replace w1 := (f2 _ (by omega)).trans w1
  replace fr := fun q hq => (f2 q (by have := hq; omega)).trans (fr q hq)
  replace e0 := e2.trans e0
  refine qa_return rfl rfl (hQ _ _ ⟨rfl, e0, w2, w1, fr⟩)
theorem c_Q_init {E : qa_V} {σ : qa_S} {c : Nat} (hlo : E.1 ≤ c) (hn : σ.2 = c + 1) (hc : σ.1 c = some (.inl (3, [.null, .null, .int (qa_i 0)]))) : qa_T E qm_Q_init 2 10 [.ref c] σ (fun o9 τ => o9 = .inl none ∧ τ.2 = c + 3 ∧ τ.1 c = some (qa_CuF c 0) ∧ (∃ s1 : Int → Int, τ.1 (c + 1) = some (qa_ia 5 s1) ∧ ∀ j : Int, 0 ≤ j → j < 5 → s1 j = -1) ∧ τ.1 (c + 2) = some (qa_ia 5 (fun _ => 0)) ∧ ∀ q, (q < c ∨ c + 3 ≤ q) → τ.1 q = σ.1 q) := by
  refine qa_enterQ (by decide) rfl qm_Q_init_ok rfl rfl (fun Q9 hQ => ?_)
  have e0 := hn
  have fr : ∀ q, (q < c ∨ c + 3 ≤ q) → σ.1 q = σ.1 q := fun _ _ => rfl
  refine qa_aload_n (pc' := 1) ⟨rfl, rfl⟩ rfl ?_
  refine qa_objI (pc' := 4) ⟨rfl, rfl⟩ qoi_4_3 qoi_i qoi_c (qa_le9 rfl) ?_
  refine qa_aload_n (pc' := 5) ⟨rfl, rfl⟩ rfl ?_
  refine qa_iconst (pc' := 6) ⟨rfl, rfl⟩ ?_
  refine qa_newarr (pc' := 8) (t := 0) (N := 5) (y := (5, .inl (fun q => qa_i ((fun _ : Int => 0) q)))) ⟨rfl, rfl⟩ rfl rfl qa_ac_int rfl (by omega) (fun _ _ => rfl) (qa_le9 rfl) (fun _ _ => Iff.rfl) ?_
  refine qa_gn (fun τ1 e1 w1 f1 => ?_)
  replace w1 : _ = some (qa_ia 5 (fun _ => 0)) := w1
  rw [e0] at e1 w1 f1 ⊢
  replace hc := (f1 _ (by omega)).trans hc
  replace fr := fun q hq => (f1 q (by have := hq; omega)).trans (fr q hq)
  replace e0 := e1
  refine qa_putf (fs' := [_, _, _]) (pc' := 11) ⟨rfl, rfl⟩ qg_4_9 qw_3 (by assumption) (by omega) rfl (fun r hr => by cases hr; exact ⟨rfl, Or.inr ⟨rfl, rfl, rfl⟩⟩) rfl rfl ?_
  refine qa_gz (fun τ2 e2 w2 f2 => ?_)
  replace w1 := (f2 _ (by omega)).trans w1
  replace fr := fun q hq => (f2 q (by have := hq; omega)).trans (fr q hq)
  replace e0 := e2.trans e0
  refine qa_aload_n (pc' := 12) ⟨rfl, rfl⟩ rfl ?_
  refine qa_iconst (pc' := 13) ⟨rfl, rfl⟩ ?_
  refine qa_newarr (pc' := 15) (t := 0) (N := 5) (y := (5, .inl (fun q => qa_i ((fun _ : Int => 0) q)))) ⟨rfl, rfl⟩ rfl rfl qa_ac_int rfl (by omega) (fun _ _ => rfl) (qa_le9 rfl) (fun _ _ => Iff.rfl) ?_
  refine qa_gn (fun τ3 e3 w3 f3 => ?_)
  replace w3 : _ = some (qa_ia 5 (fun _ => 0)) := w3
  rw [e0] at e3 w3 f3 ⊢
  replace w1 := (f3 _ (by omega)).trans w1
  replace w2 := (f3 _ (by omega)).trans w2
  replace fr := fun q hq => (f3 q (by have := hq; omega)).trans (fr q hq)
  replace e0 := e3
  refine qa_putf (fs' := [_, _, _]) (pc' := 18) ⟨rfl, rfl⟩ qg_4_15 qw_3 (by assumption) (by omega) rfl (fun r hr => by cases hr; exact ⟨rfl, Or.inr ⟨rfl, rfl, rfl⟩⟩) rfl rfl ?_
  refine qa_gz (fun τ4 e4 w4 f4 => ?_)
  replace w1 := (f4 _ (by omega)).trans w1
  replace w3 := (f4 _ (by omega)).trans w3
  replace fr := fun q hq => (f4 q (by have := hq; omega)).trans (fr q hq)
  replace e0 := e4.trans e0
  refine qa_iconst (pc' := 19) ⟨rfl, rfl⟩ ?_
  refine qa_istore_n (L' := [(0, _), (1, _)]) (pc' := 20) ⟨rfl, rfl⟩ rfl rfl ?_
  have lp : ∀ (f : Nat) (τ : qa_S) (k : Nat) (s1 : Int → Int), (k : Int) + f = 5 ∧ τ.1 c = some (qa_CuF c 0) ∧ τ.1 (c + 1) = some (qa_ia 5 s1) ∧ τ.1 (c + 2) = some (qa_ia 5 (fun _ => 0)) ∧ τ.2 = c + 3 ∧ (∀ q, (q < c ∨ c + 3 ≤ q) → τ.1 q = σ.1 q) ∧ (∀ j : Int, 0 ≤ j → j < k → s1 j = -1) → qa_W E qm_Q_init Q9 0 0 20 [(0, .ref c), (1, .int (qa_i k))] [] τ := by
    intro f
    induction f with
    | zero =>
      intro τ k s1 ⟨hk, hc9, hs1, hm9, e9, fr9, hq⟩
      refine qa_iload_n (pc' := 21) ⟨rfl, rfl⟩ rfl ?_
      refine qa_iconst (pc' := 22) ⟨rfl, rfl⟩ ?_
      refine qa_icmp_ge (pc' := 25) (tgt := 38) ⟨rfl, rfl⟩ rfl (by omega) (by omega) (fun hc1 => ?_) (fun hc1 => ?_)
      · refine qa_return rfl rfl (hQ _ _ ⟨rfl, e9, hc9, ⟨s1, hs1, fun j h0 h1 => hq j h0 (by omega)⟩, hm9, fr9⟩)
      · exact absurd hc1 (by omega)
    | succ f ih =>
      intro τ k s1 ⟨hk, hc9, hs1, hm9, e9, fr9, hq⟩
      refine qa_iload_n (pc' := 21) ⟨rfl, rfl⟩ rfl ?_
      refine qa_iconst (pc' := 22) ⟨rfl, rfl⟩ ?_
      refine qa_icmp_ge (pc' := 25) (tgt := 38) ⟨rfl, rfl⟩ rfl (by omega) (by omega) (fun hc1 => ?_) (fun hc1 => ?_)
      · exact absurd hc1 (by omega)
      · refine qa_aload_n (pc' := 26) ⟨rfl, rfl⟩ rfl ?_
        refine qa_getf (pc' := 29) ⟨rfl, rfl⟩ qg_4_9 (by assumption) rfl ?_
        refine qa_iload_n (pc' := 30) ⟨rfl, rfl⟩ rfl ?_
        refine qa_iconst (pc' := 31) ⟨rfl, rfl⟩ ?_
        refine qa_iastore (pc' := 32) ⟨rfl, rfl⟩ hs1 (by omega) (by omega) ?_
        refine qa_gz (fun τ8 e8 w8 f8 => ?_)
        refine qa_iinc (L' := [(0, _), (1, _)]) (z := ((k + 1 : Nat) : Int)) (pc' := 35) ⟨rfl, rfl⟩ rfl (by omega) rfl rfl ?_
        refine qa_goto (pc' := 38) (tgt := 20) ⟨rfl, rfl⟩ rfl ?_
        refine ih τ8 (k + 1) _ ⟨by omega, (f8 _ (by omega)).trans hc9, w8, (f8 _ (by omega)).trans hm9, e8.trans e9, fun q hq9 => (f8 q (by have := hq9; omega)).trans (fr9 q hq9), fun j h0 h1 => ?_⟩
        by_cases hj : j = k
        · rw [hj, qa_up_eq]
        · rw [qa_up_ne hj]; exact hq j h0 (by omega)
  exact lp 5 τ4 0 _ ⟨by omega, w4, w1, w3, e0, fr, fun j h0 h1 => absurd h1 (by omega)⟩
