/-- the last of the entries 0 .. k that is set for bar b or one ahead of it -/
def sp_en (bars : Int → Int) (b : Int) : Nat → Int
  | 0 => 0
  | k + 1 => if bars ((k + 1 : Nat) : Int) ≤ b then ((k + 1 : Nat) : Int) else sp_en bars b k
theorem sp_en_b (bars : Int → Int) (b : Int) : ∀ k : Nat, 0 ≤ sp_en bars b k ∧ sp_en bars b k ≤ k
  | 0 => ⟨Int.le_refl _, Int.le_refl _⟩
  | k + 1 => by
    have h := sp_en_b bars b k
    unfold sp_en
    split <;> omega
theorem sp_en_le {bars : Int → Int} {b : Int} (h0 : bars 0 ≤ b) : ∀ k : Nat, bars (sp_en bars b k) ≤ b
  | 0 => h0
  | k + 1 => by
    unfold sp_en
    split
    · assumption
    · exact sp_en_le h0 k
theorem sp_en_gt {bars : Int → Int} {b : Int} : ∀ (k : Nat) (j : Int), sp_en bars b k < j → j ≤ k → b < bars j
  | 0, j, h1, h2 => by
    have h3 : sp_en bars b 0 = 0 := rfl
    omega
  | k + 1, j, h1, h2 => by
    unfold sp_en at h1
    split at h1
    · omega
    · by_cases hj : j = ((k + 1 : Nat) : Int)
      · rw [hj]; omega
      · exact sp_en_gt k j h1 (by omega)
abbrev sp_B6 (n : Int) (bars : Int → Int) : Prop := bars 0 = 0 ∧ (∀ j : Int, 0 ≤ j → j < n → 0 ≤ bars j ∧ bars j ≤ 999) ∧ ∀ i j : Int, 0 ≤ i → i < j → j < n → bars i < bars j
abbrev sp_V6 (n : Int) (vals : Int → Int) : Prop := ∀ j : Int, 0 ≤ j → j < n → 30 ≤ vals j ∧ vals j ≤ 240
theorem sp_en_eq {n : Int} {bars : Int → Int} {b e : Int} (hB : sp_B6 n bars) (hn : 1 ≤ n) (h0 : 0 ≤ b) (he : 0 ≤ e ∧ e < n) (h1 : bars e ≤ b) (h2 : ∀ j : Int, e < j → j < n → b < bars j) : sp_en bars b (n - 1).toNat = e := by
  have q1 := sp_en_b bars b (n - 1).toNat
  have q2 := sp_en_le (bars := bars) (b := b) (by rw [hB.1]; exact h0) (n - 1).toNat
  have q3 := sp_en_gt (bars := bars) (b := b) (n - 1).toNat
  rcases Int.lt_trichotomy (sp_en bars b (n - 1).toNat) e with h | h | h
  · have := q3 e h (by omega)
    omega
  · exact h
  · have := h2 _ h (by omega)
    omega
/-- the milliseconds of the first k bars -/
def sp_sb (bars vals : Int → Int) (n bt : Int) : Nat → Int
  | 0 => 0
  | k + 1 => sp_sb bars vals n bt k + bt * 15000 / vals (sp_en bars k (n - 1).toNat)
theorem sp_ms_b {bt v : Int} (hb : 1 ≤ bt ∧ bt ≤ 48) (hv : 30 ≤ v ∧ v ≤ 240) : 0 ≤ bt * 15000 / v ∧ bt * 15000 / v ≤ 24000 := by
  refine ⟨Int.ediv_nonneg (by omega) (by omega), ?_⟩
  have h1 : bt * 15000 / v ≤ 720000 / v := Int.ediv_le_ediv (by omega) (by omega)
  have h2 : 720000 / v ≤ 24000 := by
    rw [Int.ediv_le_iff_le_mul (by omega)]
    omega
  omega
theorem sp_sb_b {bars vals : Int → Int} {n bt : Int} (hn : 1 ≤ n) (hv : sp_V6 n vals) (hb : 1 ≤ bt ∧ bt ≤ 48) : ∀ k : Nat, 0 ≤ sp_sb bars vals n bt k ∧ sp_sb bars vals n bt k ≤ 24000 * k
  | 0 => ⟨Int.le_refl _, Int.le_refl _⟩
  | k + 1 => by
    have h := sp_sb_b (bars := bars) hn hv hb k
    have h1 := sp_en_b bars k (n - 1).toNat
    have h2 := sp_ms_b hb (hv (sp_en bars k (n - 1).toNat) (by omega) (by omega))
    unfold sp_sb
    omega
/-- over bars of one entry it goes on evenly -/
theorem sp_sb_run {bars vals : Int → Int} {n bt i : Int} (hB : sp_B6 n bars) (hn : 1 ≤ n) (hi : 0 ≤ i ∧ i < n) (a : Nat) (ha : bars i = a) : ∀ d : Nat, (∀ j : Int, i < j → j < n → (a : Int) + d ≤ bars j) → sp_sb bars vals n bt (a + d) = sp_sb bars vals n bt a + d * (bt * 15000 / vals i)
  | 0, _ => by simp
  | d + 1, h => by
    have ih := sp_sb_run (vals := vals) (bt := bt) hB hn hi a ha d (fun j h1 h2 => by have := h j h1 h2; omega)
    have he : sp_en bars ((a + d : Nat) : Int) (n - 1).toNat = i := sp_en_eq hB hn (by omega) hi (by omega) (fun j h1 h2 => by have := h j h1 h2; omega)
    show sp_sb bars vals n bt (a + d) + bt * 15000 / vals (sp_en bars ((a + d : Nat) : Int) (n - 1).toNat) = _
    rw [he, ih, Int.natCast_add, Int.add_mul]
    simp
    omega
theorem c_T_entryFor {E : qa_V} {σ : qa_S} {c : Nat} {n : Int} {bars : Int → Int} {b9 : Int} (hc : σ.1 c = some (qa_TeF c n)) (hb : σ.1 (c + 1) = some (qa_ia 6 bars)) (hn : 1 ≤ n ∧ n ≤ 6) (hb9 : ∀ j : Int, 0 ≤ j → j < n → 0 ≤ bars j ∧ bars j ≤ 999) (hy : 0 ≤ b9 ∧ b9 ≤ 999) : qa_T E qm_T_entryFor 0 0 [.ref c, .int (qa_i b9)] σ (fun o9 τ => o9 = .inl (some (.int (qa_i (sp_en bars b9 (n - 1).toNat)))) ∧ τ = σ) := by
  refine qa_enterQ (by decide) rfl qm_T_entryFor_ok rfl rfl (fun Q9 hQ => ?_)
  refine qa_iconst (pc' := 1) ⟨rfl, rfl⟩ ?_
  refine qa_istore_n (L' := [(0, _), (1, _), (2, _)]) (pc' := 2) ⟨rfl, rfl⟩ rfl rfl ?_
  refine qa_iconst (pc' := 3) ⟨rfl, rfl⟩ ?_
  refine qa_istore_n (L' := [(0, _), (1, _), (2, _), (3, _)]) (pc' := 4) ⟨rfl, rfl⟩ rfl rfl ?_
  have lp : ∀ (f : Nat) (k : Nat) (r : Int), (k : Int) + f = n - 1 ∧ (0 ≤ r ∧ r ≤ k) ∧ r = sp_en bars b9 k → qa_W E qm_T_entryFor Q9 0 0 4 [(0, .ref c), (1, .int (qa_i b9)), (2, .int (qa_i r)), (3, .int (qa_i ((k + 1 : Nat) : Int)))] [] σ := by
    intro f
    induction f with
    | zero =>
      intro k r ⟨hk, hr0, hr⟩
      refine qa_iload_n (pc' := 5) ⟨rfl, rfl⟩ rfl ?_
      refine qa_aload_n (pc' := 6) ⟨rfl, rfl⟩ rfl ?_
      refine qa_getf (pc' := 9) ⟨rfl, rfl⟩ qg_5_18 (by assumption) rfl ?_
      refine qa_icmp_ge (pc' := 12) (tgt := 30) ⟨rfl, rfl⟩ rfl (by omega) (by omega) (fun hc1 => ?_) (fun hc1 => ?_)
      · refine qa_iload_n (pc' := 31) ⟨rfl, rfl⟩ rfl ?_
        refine qa_ireturn rfl rfl rfl (hQ _ _ ⟨by rw [hr, show k = (n - 1).toNat by omega], rfl⟩)
      · exact absurd hc1 (by omega)
    | succ f ih =>
      intro k r ⟨hk, hr0, hr⟩
      have hbk := hb9 ((k + 1 : Nat) : Int) (by omega) (by omega)
      refine qa_iload_n (pc' := 5) ⟨rfl, rfl⟩ rfl ?_
      refine qa_aload_n (pc' := 6) ⟨rfl, rfl⟩ rfl ?_
      refine qa_getf (pc' := 9) ⟨rfl, rfl⟩ qg_5_18 (by assumption) rfl ?_
      refine qa_icmp_ge (pc' := 12) (tgt := 30) ⟨rfl, rfl⟩ rfl (by omega) (by omega) (fun hc1 => ?_) (fun hc1 => ?_)
      · exact absurd hc1 (by omega)
      · refine qa_aload_n (pc' := 13) ⟨rfl, rfl⟩ rfl ?_
        refine qa_getf (pc' := 16) ⟨rfl, rfl⟩ qg_5_9 (by assumption) rfl ?_
        refine qa_iload_n (pc' := 17) ⟨rfl, rfl⟩ rfl ?_
        refine qa_iaload (pc' := 18) ⟨rfl, rfl⟩ (by assumption) (by omega) ?_
        refine qa_iload_n (pc' := 19) ⟨rfl, rfl⟩ rfl ?_
        refine qa_icmp_gt (pc' := 22) (tgt := 24) ⟨rfl, rfl⟩ rfl (by omega) (by omega) (fun hc2 => ?_) (fun hc2 => ?_)
        · refine qa_iinc (L' := [(0, _), (1, _), (2, _), (3, _)]) (z := ((k + 1 + 1 : Nat) : Int)) (pc' := 27) ⟨rfl, rfl⟩ rfl (by omega) rfl rfl ?_
          refine qa_goto (pc' := 30) (tgt := 4) ⟨rfl, rfl⟩ rfl ?_
          refine ih (k + 1) _ ⟨by omega, by omega, ?_⟩
          unfold sp_en; rw [if_neg (by omega)]; exact hr
        · refine qa_iload_n (pc' := 23) ⟨rfl, rfl⟩ rfl ?_
          refine qa_istore_n (L' := [(0, _), (1, _), (2, _), (3, _)]) (pc' := 24) ⟨rfl, rfl⟩ rfl rfl ?_
          refine qa_iinc (L' := [(0, _), (1, _), (2, _), (3, _)]) (z := ((k + 1 + 1 : Nat) : Int)) (pc' := 27) ⟨rfl, rfl⟩ rfl (by omega) rfl rfl ?_
          refine qa_goto (pc' := 30) (tgt := 4) ⟨rfl, rfl⟩ rfl ?_
          refine ih (k + 1) _ ⟨by omega, by omega, ?_⟩
          unfold sp_en; rw [if_pos hc2]
  exact lp (n - 1).toNat 0 0 ⟨by omega, by omega, rfl⟩
theorem c_T_tempoIn {E : qa_V} {σ : qa_S} {c : Nat} {n : Int} {bars vals : Int → Int} {b9 : Int} (hc : σ.1 c = some (qa_TeF c n)) (hb : σ.1 (c + 1) = some (qa_ia 6 bars)) (hv : σ.1 (c + 2) = some (qa_ia 6 vals)) (hn : 1 ≤ n ∧ n ≤ 6) (hb9 : ∀ j : Int, 0 ≤ j → j < n → 0 ≤ bars j ∧ bars j ≤ 999) (hy : 0 ≤ b9 ∧ b9 ≤ 999) : qa_T E qm_T_tempoIn 0 0 [.ref c, .int (qa_i b9)] σ (fun o9 τ => o9 = .inl (some (.int (qa_i (vals (sp_en bars b9 (n - 1).toNat))))) ∧ τ = σ) := by
  refine qa_enterQ (by decide) rfl qm_T_tempoIn_ok rfl rfl (fun Q9 hQ => ?_)
  refine qa_aload_n (pc' := 1) ⟨rfl, rfl⟩ rfl ?_
  refine qa_getf (pc' := 4) ⟨rfl, rfl⟩ qg_5_15 (by assumption) rfl ?_
  refine qa_aload_n (pc' := 5) ⟨rfl, rfl⟩ rfl ?_
  refine qa_iload_n (pc' := 6) ⟨rfl, rfl⟩ rfl ?_
  refine qa_callV rfl qf_T_entryFor ql_5_28 (c_T_entryFor hc hb hn hb9 hy) (by assumption) rfl rfl rfl (qa_lt9 rfl) (qa_le9 rfl) (qa_le9 rfl) (qa_le9 rfl) (fun o9 τ9 hq9 => ?_)
  obtain ⟨rfl, rfl⟩ := hq9
  refine qa_nx (pc' := 9) (st' := [_, _]) rfl rfl rfl rfl ?_
  obtain ⟨x, hx⟩ : ∃ x, x = sp_en bars b9 (n - 1).toNat := ⟨_, rfl⟩
  have bx : 0 ≤ x ∧ x < n := by rw [hx]; have := sp_en_b bars b9 (n - 1).toNat; omega
  rw [← hx]
  refine qa_iaload (pc' := 10) ⟨rfl, rfl⟩ (by assumption) (by omega) ?_
  refine qa_ireturn rfl rfl rfl (hQ _ _ ⟨by rw [hx], rfl⟩)
theorem c_T_greatestBar {E : qa_V} {σ : qa_S} {c : Nat} {n : Int} {bars : Int → Int} (hc : σ.1 c = some (qa_TeF c n)) (hb : σ.1 (c + 1) = some (qa_ia 6 bars)) (hn : 1 ≤ n ∧ n ≤ 6) : qa_T E qm_T_greatestBar 0 0 [.ref c] σ (fun o9 τ => o9 = .inl (some (.int (qa_i (bars (n - 1))))) ∧ τ = σ) := by
  refine qa_enterQ (by decide) rfl qm_T_greatestBar_ok rfl rfl (fun Q9 hQ => ?_)
  refine qa_aload_n (pc' := 1) ⟨rfl, rfl⟩ rfl ?_
  refine qa_getf (pc' := 4) ⟨rfl, rfl⟩ qg_5_9 (by assumption) rfl ?_
  refine qa_aload_n (pc' := 5) ⟨rfl, rfl⟩ rfl ?_
  refine qa_getf (pc' := 8) ⟨rfl, rfl⟩ qg_5_18 (by assumption) rfl ?_
  refine qa_iconst (pc' := 9) ⟨rfl, rfl⟩ ?_
  refine qa_isub (pc' := 10) ⟨rfl, rfl⟩ rfl ?_
  refine qa_iaload (pc' := 11) ⟨rfl, rfl⟩ (by assumption) (by omega) ?_
  refine qa_ireturn rfl rfl rfl (hQ _ _ ⟨rfl, rfl⟩)
theorem c_T_hasRoomFor {E : qa_V} {σ : qa_S} {c : Nat} {n : Int} {bars : Int → Int} {b9 : Int} (hc : σ.1 c = some (qa_TeF c n)) (hb : σ.1 (c + 1) = some (qa_ia 6 bars)) (hn : 1 ≤ n ∧ n ≤ 6) (hb9 : ∀ j : Int, 0 ≤ j → j < n → 0 ≤ bars j ∧ bars j ≤ 999) (hy : 0 ≤ b9 ∧ b9 ≤ 999) : qa_T E qm_T_hasRoomFor 0 0 [.ref c, .int (qa_i b9)] σ (fun o9 τ => o9 = .inl (some (.int (qa_i (if n < 6 ∨ bars (sp_en bars b9 (n - 1).toNat) = b9 then 1 else 0)))) ∧ τ = σ) := by
  refine qa_enterQ (by decide) rfl qm_T_hasRoomFor_ok rfl rfl (fun Q9 hQ => ?_)
  refine qa_aload_n (pc' := 1) ⟨rfl, rfl⟩ rfl ?_
  refine qa_getf (pc' := 4) ⟨rfl, rfl⟩ qg_5_18 (by assumption) rfl ?_
  refine qa_bipush (z := 6) (pc' := 6) ⟨rfl, rfl⟩ rfl ?_
  refine qa_icmp_lt (pc' := 9) (tgt := 23) ⟨rfl, rfl⟩ rfl (by omega) (by omega) (fun hc1 => ?_) (fun hc1 => ?_)
  · refine qa_iconst (pc' := 24) ⟨rfl, rfl⟩ ?_
    refine qa_goto (pc' := 27) (tgt := 28) ⟨rfl, rfl⟩ rfl ?_
    refine qa_ireturn rfl rfl rfl (hQ _ _ ⟨by rw [if_pos (Or.inl hc1)], rfl⟩)
  · refine qa_aload_n (pc' := 10) ⟨rfl, rfl⟩ rfl ?_
    refine qa_getf (pc' := 13) ⟨rfl, rfl⟩ qg_5_9 (by assumption) rfl ?_
    refine qa_aload_n (pc' := 14) ⟨rfl, rfl⟩ rfl ?_
    refine qa_iload_n (pc' := 15) ⟨rfl, rfl⟩ rfl ?_
    refine qa_callV rfl qf_T_entryFor ql_5_28 (c_T_entryFor hc hb hn hb9 hy) (by assumption) rfl rfl rfl (qa_lt9 rfl) (qa_le9 rfl) (qa_le9 rfl) (qa_le9 rfl) (fun o9 τ9 hq9 => ?_)
    obtain ⟨rfl, rfl⟩ := hq9
    refine qa_nx (pc' := 18) (st' := [_, _]) rfl rfl rfl rfl ?_
    obtain ⟨x, hx⟩ : ∃ x, x = sp_en bars b9 (n - 1).toNat := ⟨_, rfl⟩
    have bx : 0 ≤ x ∧ x < n := by rw [hx]; have := sp_en_b bars b9 (n - 1).toNat; omega
    rw [← hx]
    have hbx := hb9 x (by omega) (by omega)
    refine qa_iaload (pc' := 19) ⟨rfl, rfl⟩ (by assumption) (by omega) ?_
    refine qa_iload_n (pc' := 20) ⟨rfl, rfl⟩ rfl ?_
    refine qa_icmp_ne (pc' := 23) (tgt := 27) ⟨rfl, rfl⟩ rfl (by omega) (by omega) (fun hc2 => ?_) (fun hc2 => ?_)
    · refine qa_iconst (pc' := 28) ⟨rfl, rfl⟩ ?_
      refine qa_ireturn rfl rfl rfl (hQ _ _ ⟨by rw [← hx, if_neg (by omega)], rfl⟩)
    · refine qa_iconst (pc' := 24) ⟨rfl, rfl⟩ ?_
      refine qa_goto (pc' := 27) (tgt := 28) ⟨rfl, rfl⟩ rfl ?_
      refine qa_ireturn rfl rfl rfl (hQ _ _ ⟨by rw [← hx, if_pos (Or.inr hc2)], rfl⟩)
theorem c_T_millisOfBar {E : qa_V} {σ : qa_S} {c : Nat} {n : Int} {vals : Int → Int} {i bt : Int} (hc : σ.1 c = some (qa_TeF c n)) (hv : σ.1 (c + 2) = some (qa_ia 6 vals)) (hn : 1 ≤ n ∧ n ≤ 6) (hv9 : sp_V6 n vals) (hi : 0 ≤ i ∧ i < n) (hbt : 1 ≤ bt ∧ bt ≤ 48) : qa_T E qm_T_millisOfBar 0 0 [.ref c, .int (qa_i i), .int (qa_i bt)] σ (fun o9 τ => o9 = .inl (some (.long (qa_l (bt * 15000 / vals i)))) ∧ τ = σ) := by
  refine qa_enterQ (by decide) rfl qm_T_millisOfBar_ok rfl rfl (fun Q9 hQ => ?_)
  have hvi := hv9 i hi.1 hi.2
  have hms := sp_ms_b hbt hvi
  refine qa_aload_n (pc' := 1) ⟨rfl, rfl⟩ rfl ?_
  refine qa_getf (pc' := 4) ⟨rfl, rfl⟩ qg_5_15 (by assumption) rfl ?_
  refine qa_iload_n (pc' := 5) ⟨rfl, rfl⟩ rfl ?_
  refine qa_iaload (pc' := 6) ⟨rfl, rfl⟩ (by assumption) (by omega) ?_
  refine qa_istore_n (L' := [(0, _), (1, _), (2, _), (3, _)]) (pc' := 7) ⟨rfl, rfl⟩ rfl rfl ?_
  refine qa_iload_n (pc' := 8) ⟨rfl, rfl⟩ rfl ?_
  refine qa_iconst (pc' := 9) ⟨rfl, rfl⟩ ?_
  refine qa_icmp_ge (pc' := 12) (tgt := 16) ⟨rfl, rfl⟩ rfl (by omega) (by omega) (fun hc => ?_) (fun hc => ?_)
  · refine qa_iload_n (pc' := 17) ⟨rfl, rfl⟩ rfl ?_
    refine qa_sipush (z := 15000) (pc' := 20) ⟨rfl, rfl⟩ rfl ?_
    refine qa_imul (pc' := 21) ⟨rfl, rfl⟩ rfl ?_
    refine qa_iload_n (pc' := 22) ⟨rfl, rfl⟩ rfl ?_
    refine qa_idiv (pc' := 23) ⟨rfl, rfl⟩ (by omega) (by omega) (by omega) (by omega) rfl ?_
    refine qa_i2l (pc' := 24) ⟨rfl, rfl⟩ (by omega) ?_
    refine qa_lreturn rfl rfl (hQ _ _ ⟨rfl, rfl⟩)
  · exact absurd hc (by omega)
theorem c_T_startBarByBar {E : qa_V} {σ : qa_S} {c : Nat} {n : Int} {bars vals : Int → Int} {b9 bt : Int} (hc : σ.1 c = some (qa_TeF c n)) (hb : σ.1 (c + 1) = some (qa_ia 6 bars)) (hv : σ.1 (c + 2) = some (qa_ia 6 vals)) (hn : 1 ≤ n ∧ n ≤ 6) (hB : sp_B6 n bars) (hv9 : sp_V6 n vals) (hy : 0 ≤ b9 ∧ b9 ≤ 999) (hbt : 1 ≤ bt ∧ bt ≤ 48) : qa_T E qm_T_startBarByBar 0 0 [.ref c, .int (qa_i b9), .int (qa_i bt)] σ (fun o9 τ => o9 = .inl (some (.long (qa_l (sp_sb bars vals n bt b9.toNat)))) ∧ τ = σ) := by
  refine qa_enterQ (by decide) rfl qm_T_startBarByBar_ok rfl rfl (fun Q9 hQ => ?_)
  refine qa_lconst (z := 0) (pc' := 1) ⟨rfl, rfl⟩ rfl ?_
  refine qa_lstore_n (L' := [(0, _), (1, _), (2, _), (3, _)]) (pc' := 2) ⟨rfl, rfl⟩ rfl rfl ?_
  refine qa_iconst (pc' := 3) ⟨rfl, rfl⟩ ?_
  refine qa_istore (L' := [(0, _), (1, _), (2, _), (3, _), (5, _)]) (pc' := 5) ⟨rfl, rfl⟩ rfl rfl ?_
  refine qa_iconst (pc' := 6) ⟨rfl, rfl⟩ ?_
  refine qa_istore (L' := [(0, _), (1, _), (2, _), (3, _), (5, _), (6, _)]) (pc' := 8) ⟨rfl, rfl⟩ rfl rfl ?_
  have lp : ∀ (f : Nat) (k : Nat) (e9 r : Int), (k : Int) + f = b9 ∧ (0 ≤ e9 ∧ e9 < n) ∧ r = sp_sb bars vals n bt k ∧ (0 < e9 → bars e9 < k) ∧ (∀ j : Int, e9 < j → j < n → (k : Int) ≤ bars j) → qa_W E qm_T_startBarByBar Q9 0 0 8 [(0, .ref c), (1, .int (qa_i b9)), (2, .int (qa_i bt)), (3, .long (qa_l r)), (5, .int (qa_i e9)), (6, .int (qa_i k))] [] σ := by
    intro f
    induction f with
    | zero =>
      intro k e9 r ⟨hk, he9, hr, hlt, hgt⟩
      refine qa_iload (pc' := 10) ⟨rfl, rfl⟩ rfl ?_
      refine qa_iload_n (pc' := 11) ⟨rfl, rfl⟩ rfl ?_
      refine qa_icmp_ge (pc' := 14) (tgt := 58) ⟨rfl, rfl⟩ rfl (by omega) (by omega) (fun hc1 => ?_) (fun hc1 => ?_)
      · refine qa_lload_n (pc' := 59) ⟨rfl, rfl⟩ rfl ?_
        refine qa_lreturn rfl rfl (hQ _ _ ⟨by rw [hr, show k = b9.toNat by omega], rfl⟩)
      · exact absurd hc1 (by omega)
    | succ f ih =>
      intro k e9 r ⟨hk, he9, hr, hlt, hgt⟩
      have hsb := sp_sb_b (bars := bars) (bt := bt) (by omega : 1 ≤ n) hv9 hbt k
      refine qa_iload (pc' := 10) ⟨rfl, rfl⟩ rfl ?_
      refine qa_iload_n (pc' := 11) ⟨rfl, rfl⟩ rfl ?_
      refine qa_icmp_ge (pc' := 14) (tgt := 58) ⟨rfl, rfl⟩ rfl (by omega) (by omega) (fun hc1 => ?_) (fun hc1 => ?_)
      · exact absurd hc1 (by omega)
      · refine qa_iload (pc' := 16) ⟨rfl, rfl⟩ rfl ?_
        refine qa_iconst (pc' := 17) ⟨rfl, rfl⟩ ?_
        refine qa_iadd (pc' := 18) ⟨rfl, rfl⟩ rfl ?_
        refine qa_aload_n (pc' := 19) ⟨rfl, rfl⟩ rfl ?_
        refine qa_getf (pc' := 22) ⟨rfl, rfl⟩ qg_5_18 (by assumption) rfl ?_
        refine qa_icmp_ge (pc' := 25) (tgt := 42) ⟨rfl, rfl⟩ rfl (by omega) (by omega) (fun hc2 => ?_) (fun hc2 => ?_)
        · have hle : bars e9 ≤ k := by
            by_cases h : 0 < e9
            · have := hlt h; omega
            · rw [show e9 = 0 by omega, hB.1]; omega
          have hgt2 : ∀ j : Int, e9 < j → j < n → (k : Int) + 1 ≤ bars j := fun j h1 h2 => absurd h2 (by omega)
          have he : sp_en bars k (n - 1).toNat = e9 := sp_en_eq hB (by omega) (by omega) (by omega) hle (fun j h1 h2 => by have := hgt2 j h1 h2; omega)
          refine qa_lload_n (pc' := 43) ⟨rfl, rfl⟩ rfl ?_
          refine qa_aload_n (pc' := 44) ⟨rfl, rfl⟩ rfl ?_
          refine qa_iload (pc' := 46) ⟨rfl, rfl⟩ rfl ?_
          refine qa_iload_n (pc' := 47) ⟨rfl, rfl⟩ rfl ?_
          refine qa_callV rfl qf_T_millisOfBar ql_5_32 (c_T_millisOfBar hc hv hn hv9 (by omega) hbt) (by assumption) rfl rfl rfl (qa_lt9 rfl) (qa_le9 rfl) (qa_le9 rfl) (qa_le9 rfl) (fun o9 τ9 hq9 => ?_)
          obtain ⟨rfl, rfl⟩ := hq9
          refine qa_nx (pc' := 50) (st' := [_, _]) rfl rfl rfl rfl ?_
          have hms := sp_ms_b hbt (hv9 (e9) (by omega) (by omega))
          refine qa_ladd (pc' := 51) ⟨rfl, rfl⟩ rfl ?_
          refine qa_lstore_n (L' := [(0, _), (1, _), (2, _), (3, _), (5, _), (6, _)]) (pc' := 52) ⟨rfl, rfl⟩ rfl rfl ?_
          refine qa_iinc (L' := [(0, _), (1, _), (2, _), (3, _), (5, _), (6, _)]) (z := ((k + 1 : Nat) : Int)) (pc' := 55) ⟨rfl, rfl⟩ rfl (by omega) rfl rfl ?_
          refine qa_goto (pc' := 58) (tgt := 8) ⟨rfl, rfl⟩ rfl ?_
          exact ih (k + 1) _ _ ⟨by omega, by omega, by unfold sp_sb; rw [he, hr], fun _ => by omega, fun j h1 h2 => by have := hgt2 j h1 h2; omega⟩
        · have hbe := hB.2.1 (e9 + 1) (by omega) (by omega)
          have hge := hgt (e9 + 1) (by omega) (by omega)
          refine qa_aload_n (pc' := 26) ⟨rfl, rfl⟩ rfl ?_
          refine qa_getf (pc' := 29) ⟨rfl, rfl⟩ qg_5_9 (by assumption) rfl ?_
          refine qa_iload (pc' := 31) ⟨rfl, rfl⟩ rfl ?_
          refine qa_iconst (pc' := 32) ⟨rfl, rfl⟩ ?_
          refine qa_iadd (pc' := 33) ⟨rfl, rfl⟩ rfl ?_
          refine qa_iaload (pc' := 34) ⟨rfl, rfl⟩ (by assumption) (by omega) ?_
          refine qa_iload (pc' := 36) ⟨rfl, rfl⟩ rfl ?_
          refine qa_icmp_ne (pc' := 39) (tgt := 42) ⟨rfl, rfl⟩ rfl (by omega) (by omega) (fun hc3 => ?_) (fun hc3 => ?_)
          · have hle : bars e9 ≤ k := by
              by_cases h : 0 < e9
              · have := hlt h; omega
              · rw [show e9 = 0 by omega, hB.1]; omega
            have hgt2 : ∀ j : Int, e9 < j → j < n → (k : Int) + 1 ≤ bars j := by
              intro j h1 h2
              by_cases hj : j = e9 + 1
              · rw [hj]; omega
              · have := hB.2.2 (e9 + 1) j (by omega) (by omega) h2; omega
            have he : sp_en bars k (n - 1).toNat = e9 := sp_en_eq hB (by omega) (by omega) (by omega) hle (fun j h1 h2 => by have := hgt2 j h1 h2; omega)
            refine qa_lload_n (pc' := 43) ⟨rfl, rfl⟩ rfl ?_
            refine qa_aload_n (pc' := 44) ⟨rfl, rfl⟩ rfl ?_
            refine qa_iload (pc' := 46) ⟨rfl, rfl⟩ rfl ?_
            refine qa_iload_n (pc' := 47) ⟨rfl, rfl⟩ rfl ?_
            refine qa_callV rfl qf_T_millisOfBar ql_5_32 (c_T_millisOfBar hc hv hn hv9 (by omega) hbt) (by assumption) rfl rfl rfl (qa_lt9 rfl) (qa_le9 rfl) (qa_le9 rfl) (qa_le9 rfl) (fun o9 τ9 hq9 => ?_)
            obtain ⟨rfl, rfl⟩ := hq9
            refine qa_nx (pc' := 50) (st' := [_, _]) rfl rfl rfl rfl ?_
            have hms := sp_ms_b hbt (hv9 (e9) (by omega) (by omega))
            refine qa_ladd (pc' := 51) ⟨rfl, rfl⟩ rfl ?_
            refine qa_lstore_n (L' := [(0, _), (1, _), (2, _), (3, _), (5, _), (6, _)]) (pc' := 52) ⟨rfl, rfl⟩ rfl rfl ?_
            refine qa_iinc (L' := [(0, _), (1, _), (2, _), (3, _), (5, _), (6, _)]) (z := ((k + 1 : Nat) : Int)) (pc' := 55) ⟨rfl, rfl⟩ rfl (by omega) rfl rfl ?_
            refine qa_goto (pc' := 58) (tgt := 8) ⟨rfl, rfl⟩ rfl ?_
            exact ih (k + 1) _ _ ⟨by omega, by omega, by unfold sp_sb; rw [he, hr], fun _ => by omega, fun j h1 h2 => by have := hgt2 j h1 h2; omega⟩
          · refine qa_iinc (L' := [(0, _), (1, _), (2, _), (3, _), (5, _), (6, _)]) (z := e9 + 1) (pc' := 42) ⟨rfl, rfl⟩ rfl rfl rfl rfl ?_
            have hle : bars (e9 + 1) ≤ k := by omega
            have hgt2 : ∀ j : Int, e9 + 1 < j → j < n → (k : Int) + 1 ≤ bars j := by
              intro j h1 h2
              have := hB.2.2 (e9 + 1) j (by omega) h1 h2; omega
            have he : sp_en bars k (n - 1).toNat = (e9 + 1) := sp_en_eq hB (by omega) (by omega) (by omega) hle (fun j h1 h2 => by have := hgt2 j h1 h2; omega)
            refine qa_lload_n (pc' := 43) ⟨rfl, rfl⟩ rfl ?_
            refine qa_aload_n (pc' := 44) ⟨rfl, rfl⟩ rfl ?_
            refine qa_iload (pc' := 46) ⟨rfl, rfl⟩ rfl ?_
            refine qa_iload_n (pc' := 47) ⟨rfl, rfl⟩ rfl ?_
            refine qa_callV rfl qf_T_millisOfBar ql_5_32 (c_T_millisOfBar hc hv hn hv9 (by omega) hbt) (by assumption) rfl rfl rfl (qa_lt9 rfl) (qa_le9 rfl) (qa_le9 rfl) (qa_le9 rfl) (fun o9 τ9 hq9 => ?_)
            obtain ⟨rfl, rfl⟩ := hq9
            refine qa_nx (pc' := 50) (st' := [_, _]) rfl rfl rfl rfl ?_
            have hms := sp_ms_b hbt (hv9 ((e9 + 1)) (by omega) (by omega))
            refine qa_ladd (pc' := 51) ⟨rfl, rfl⟩ rfl ?_
            refine qa_lstore_n (L' := [(0, _), (1, _), (2, _), (3, _), (5, _), (6, _)]) (pc' := 52) ⟨rfl, rfl⟩ rfl rfl ?_
            refine qa_iinc (L' := [(0, _), (1, _), (2, _), (3, _), (5, _), (6, _)]) (z := ((k + 1 : Nat) : Int)) (pc' := 55) ⟨rfl, rfl⟩ rfl (by omega) rfl rfl ?_
            refine qa_goto (pc' := 58) (tgt := 8) ⟨rfl, rfl⟩ rfl ?_
            exact ih (k + 1) _ _ ⟨by omega, by omega, by unfold sp_sb; rw [he, hr], fun _ => by omega, fun j h1 h2 => by have := hgt2 j h1 h2; omega⟩
  exact lp b9.toNat 0 0 0 ⟨by omega, by omega, rfl, fun h => absurd h (by omega), fun j h1 h2 => (hB.2.1 j (by omega) h2).1⟩
