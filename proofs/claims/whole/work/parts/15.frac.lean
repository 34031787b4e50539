/-! whole numbers' greatest divisors -/
def sp_gd : Nat → Int → Int → Int
  | 0, a, _ => a
  | f + 1, a, b => if 0 < b then sp_gd f b (a % b) else a
theorem sp_gd_step {a b : Int} (hb : 0 < b) : Int.gcd b (a % b) = Int.gcd a b := by
  have h := Int.mul_ediv_add_emod a b
  rw [Int.gcd_comm a b]
  conv => rhs; rw [← h]
  simp
theorem sp_gd_gcd : ∀ (k : Nat) (a b : Int), 0 ≤ a → 0 ≤ b → b < 2 ^ k → ∀ f : Nat, 2 * k + 1 ≤ f → sp_gd f a b = Int.gcd a b
  | 0, a, b, ha, hb, hk, f, hf => by
    obtain ⟨g, rfl⟩ : ∃ g, f = g + 1 := ⟨f - 1, by omega⟩
    have h0 : b = 0 := by omega
    subst h0
    unfold sp_gd
    rw [if_neg (by omega), Int.gcd_zero_right]
    omega
  | k + 1, a, b, ha, hb, hk, f, hf => by
    obtain ⟨g, rfl⟩ : ∃ g, f = g + 1 + 1 := ⟨f - 2, by omega⟩
    unfold sp_gd
    by_cases h : 0 < b
    · rw [if_pos h]
      have r1 := Int.emod_nonneg a (by omega : b ≠ 0)
      have r2 := Int.emod_lt_of_pos a h
      unfold sp_gd
      by_cases h2 : 0 < a % b
      · rw [if_pos h2, ← sp_gd_step h, ← sp_gd_step h2]
        refine sp_gd_gcd k _ _ r1 (Int.emod_nonneg _ (by omega)) ?_ g (by omega)
        have h3 : b % (a % b) < a % b := Int.emod_lt_of_pos b h2
        have h4 : b % (a % b) = b - (a % b) * (b / (a % b)) := by have := Int.mul_ediv_add_emod b (a % b); omega
        have h5 : 1 ≤ b / (a % b) := by
          rw [Int.le_ediv_iff_mul_le h2]; omega
        have h6 : (a % b) * 1 ≤ (a % b) * (b / (a % b)) := Int.mul_le_mul_of_nonneg_left h5 r1
        have h7 : (2 : Int) ^ (k + 1) = 2 * 2 ^ k := by rw [Int.pow_succ]; omega
        omega
      · rw [if_neg h2, ← sp_gd_step h, show a % b = 0 by omega, Int.gcd_zero_right]
        omega
    · rw [if_neg h, show b = 0 by omega, Int.gcd_zero_right]
      omega
theorem sp_gd_all {a b : Int} (ha : 0 ≤ a) (hb : 0 ≤ b) (hb1 : b < 2147483648) : sp_gd 64 a b = Int.gcd a b := sp_gd_gcd 31 a b ha hb (by omega) 64 (by omega)
theorem c_F_greatestDivisor {E : qa_V} {σ : qa_S} {a b : Int} (ha : 0 ≤ a ∧ a ≤ 2147483647) (hb : 0 ≤ b ∧ b ≤ 2147483647) : qa_T E qm_F_greatestDivisor 0 0 [.int (qa_i a), .int (qa_i b)] σ (fun o9 τ => o9 = .inl (some (.int (qa_i (sp_gd 64 a b)))) ∧ τ = σ) := by
  refine qa_enterQ (by decide) rfl qm_F_greatestDivisor_ok rfl rfl (fun Q9 hQ => ?_)
  refine qa_iload_n (pc' := 1) ⟨rfl, rfl⟩ rfl ?_
  refine qa_istore_n (L' := [(0, _), (1, _), (2, _)]) (pc' := 2) ⟨rfl, rfl⟩ rfl rfl ?_
  refine qa_iload_n (pc' := 3) ⟨rfl, rfl⟩ rfl ?_
  refine qa_istore_n (L' := [(0, _), (1, _), (2, _), (3, _)]) (pc' := 4) ⟨rfl, rfl⟩ rfl rfl ?_
  refine qa_iconst (pc' := 5) ⟨rfl, rfl⟩ ?_
  refine qa_istore (L' := [(0, _), (1, _), (2, _), (3, _), (4, _)]) (pc' := 7) ⟨rfl, rfl⟩ rfl rfl ?_
  have lp : ∀ (f : Nat) (k : Nat) (x y : Int), (k : Int) + f = 64 ∧ (0 ≤ x ∧ x ≤ 2147483647) ∧ (0 ≤ y ∧ y ≤ 2147483647) ∧ sp_gd f x y = sp_gd 64 a b → qa_W E qm_F_greatestDivisor Q9 0 0 7 [(0, .int (qa_i a)), (1, .int (qa_i b)), (2, .int (qa_i x)), (3, .int (qa_i y)), (4, .int (qa_i k))] [] σ := by
    intro f
    induction f with
    | zero =>
      intro k x y ⟨hk, hx, hy, hr⟩
      refine qa_iload (pc' := 9) ⟨rfl, rfl⟩ rfl ?_
      refine qa_bipush (z := 64) (pc' := 11) ⟨rfl, rfl⟩ rfl ?_
      refine qa_icmp_ge (pc' := 14) (tgt := 34) ⟨rfl, rfl⟩ rfl (by omega) (by omega) (fun hc1 => ?_) (fun hc1 => ?_)
      · refine qa_iload_n (pc' := 35) ⟨rfl, rfl⟩ rfl ?_
        refine qa_ireturn rfl rfl rfl (hQ _ _ ⟨by rw [← hr]; rfl, rfl⟩)
      · exact absurd hc1 (by omega)
    | succ f ih =>
      intro k x y ⟨hk, hx, hy, hr⟩
      refine qa_iload (pc' := 9) ⟨rfl, rfl⟩ rfl ?_
      refine qa_bipush (z := 64) (pc' := 11) ⟨rfl, rfl⟩ rfl ?_
      refine qa_icmp_ge (pc' := 14) (tgt := 34) ⟨rfl, rfl⟩ rfl (by omega) (by omega) (fun hc1 => ?_) (fun hc1 => ?_)
      · exact absurd hc1 (by omega)
      · refine qa_iload_n (pc' := 15) ⟨rfl, rfl⟩ rfl ?_
        refine qa_if_le (pc' := 18) (tgt := 34) ⟨rfl, rfl⟩ rfl (by omega) (fun hc2 => ?_) (fun hc2 => ?_)
        · refine qa_iload_n (pc' := 35) ⟨rfl, rfl⟩ rfl ?_
          refine qa_ireturn rfl rfl rfl (hQ _ _ ⟨by rw [← hr]; unfold sp_gd; rw [if_neg (by omega)], rfl⟩)
        · have r1 := Int.emod_nonneg x (by omega : y ≠ 0)
          have r2 := Int.emod_lt_of_pos x (by omega : 0 < y)
          refine qa_iload_n (pc' := 19) ⟨rfl, rfl⟩ rfl ?_
          refine qa_iload_n (pc' := 20) ⟨rfl, rfl⟩ rfl ?_
          refine qa_irem (pc' := 21) ⟨rfl, rfl⟩ (by omega) (by omega) (by omega) (by omega) rfl ?_
          refine qa_istore (L' := [(0, _), (1, _), (2, _), (3, _), (4, _), (5, _)]) (pc' := 23) ⟨rfl, rfl⟩ rfl rfl ?_
          refine qa_iload_n (pc' := 24) ⟨rfl, rfl⟩ rfl ?_
          refine qa_istore_n (L' := [(0, _), (1, _), (2, _), (3, _), (4, _), (5, _)]) (pc' := 25) ⟨rfl, rfl⟩ rfl rfl ?_
          refine qa_iload (pc' := 27) ⟨rfl, rfl⟩ rfl ?_
          refine qa_istore_n (L' := [(0, _), (1, _), (2, _), (3, _), (4, _), (5, _)]) (pc' := 28) ⟨rfl, rfl⟩ rfl rfl ?_
          refine qa_iinc (L' := [(0, _), (1, _), (2, _), (3, _), (4, _), (5, _)]) (z := ((k + 1 : Nat) : Int)) (pc' := 31) ⟨rfl, rfl⟩ rfl (by omega) rfl rfl ?_
          refine qa_goto (pc' := 34) (tgt := 7) ⟨rfl, rfl⟩ rfl ?_
          refine qa_sub (ks' := [0, 1, 2, 3, 4]) (L' := [(0, _), (1, _), (2, _), (3, _), (4, _)]) rfl ?_
          refine ih (k + 1) y (x % y) ⟨by omega, by omega, by omega, ?_⟩
          rw [← hr]; conv => rhs; unfold sp_gd
          rw [if_pos (by omega)]
  exact lp 64 0 a b ⟨by omega, ha, hb, rfl⟩
theorem sp_gd_pos {a b : Int} (ha : 1 ≤ a ∧ a ≤ 2147483647) (hb : 0 ≤ b ∧ b ≤ 2147483647) : 1 ≤ sp_gd 64 a b ∧ sp_gd 64 a b ≤ a := by
  rw [sp_gd_all (by omega) (by omega) (by omega)]
  have h1 : Int.gcd a b ≠ 0 := fun h => by have := (Int.gcd_eq_zero_iff.mp h).1; omega
  have h2 : ((Int.gcd a b : Nat) : Int) ≤ a := Int.le_of_dvd (by omega) (Int.gcd_dvd_left ..)
  omega
theorem c_F_reduced {E : qa_V} {σ : qa_S} {a b : Int} (ha : 1 ≤ a ∧ a ≤ 2147483647) (hb : 0 ≤ b ∧ b ≤ 2147483647) : qa_T E qm_F_reduced 0 0 [.int (qa_i a), .int (qa_i b)] σ (fun o9 τ => o9 = .inl (some (.int (qa_i (a / sp_gd 64 a b)))) ∧ τ = σ) := by
  refine qa_enterQ (by decide) rfl qm_F_reduced_ok rfl rfl (fun Q9 hQ => ?_)
  have hg := sp_gd_pos ha hb
  refine qa_iload_n (pc' := 1) ⟨rfl, rfl⟩ rfl ?_
  refine qa_iload_n (pc' := 2) ⟨rfl, rfl⟩ rfl ?_
  refine qa_callS rfl qf_F_greatestDivisor rfl ql_9_9 (c_F_greatestDivisor (by omega) hb) rfl rfl (qa_lt9 rfl) (qa_le9 rfl) (qa_le9 rfl) (qa_le9 rfl) (fun o9 τ9 hq9 => ?_)
  obtain ⟨rfl, hq9⟩ := hq9
  replace hq9 := hq9.symm; subst hq9
  refine qa_nx (pc' := 5) (st' := [_]) rfl rfl rfl rfl ?_
  obtain ⟨x, hx⟩ : ∃ x, x = sp_gd 64 a b := ⟨_, rfl⟩
  rw [← hx] at hg ⊢
  refine qa_istore_n (L' := [(0, _), (1, _), (2, _)]) (pc' := 6) ⟨rfl, rfl⟩ rfl rfl ?_
  refine qa_iload_n (pc' := 7) ⟨rfl, rfl⟩ rfl ?_
  refine qa_iconst (pc' := 8) ⟨rfl, rfl⟩ ?_
  refine qa_icmp_ge (pc' := 11) (tgt := 15) ⟨rfl, rfl⟩ rfl (by omega) (by omega) (fun hc1 => ?_) (fun hc1 => ?_)
  · refine qa_iload_n (pc' := 16) ⟨rfl, rfl⟩ rfl ?_
    refine qa_iload_n (pc' := 17) ⟨rfl, rfl⟩ rfl ?_
    refine qa_idiv (pc' := 18) ⟨rfl, rfl⟩ (by omega) (by omega) (by omega) (by omega) rfl ?_
    refine qa_ireturn rfl rfl rfl (hQ _ _ ⟨by rw [hx], rfl⟩)
  · exact absurd hc1 (by omega)
/-! nearest fractions; u over d is the tuning -/
def sp_no (q u d : Int) : Int := if 2 * (u * q % d) > d then u * q / d + 1 else u * q / d
def sp_ga (q u d : Int) : Int := if 0 ≤ u * q - sp_no q u d * d then u * q - sp_no q u d * d else -(u * q - sp_no q u d * d)
def sp_nt (u d lim : Int) : Nat → Int → Int → Int → Int
  | 0, _, best, _ => best
  | f + 1, q, best, gap => if q ≤ lim then (if sp_ga q u d * best < gap * q then sp_nt u d lim f (q + 1) q (sp_ga q u d) else sp_nt u d lim f (q + 1) best gap) else best
/-- the last step of the descent -/
def sp_nz (u d a b x y : Int) : Int :=
  if (u * b - a * d) * y = (x * d - u * y) * b then (if b ≤ y then b else y) else if (u * b - a * d) * y < (x * d - u * y) * b then b else y
def sp_nd (u d lim : Int) : Nat → Int → Int → Int → Int → Int → Int
  | 0, _, a, b, x, y => sp_nz u d a b x y
  | f + 1, k, a, b, x, y => if k < lim ∧ b + y ≤ lim then (if (a + x) * d ≤ u * (b + y) then sp_nd u d lim f (k + 1) (a + x) (b + y) x y else sp_nd u d lim f (k + 1) a b (a + x) (b + y)) else sp_nz u d a b x y
theorem sp_mb {a b A B : Int} (ha : 0 ≤ a ∧ a ≤ A) (hb : 0 ≤ b ∧ b ≤ B) : 0 ≤ a * b ∧ a * b ≤ A * B := ⟨Int.mul_nonneg ha.1 hb.1, Int.mul_le_mul ha.2 hb.2 hb.1 (by omega)⟩
theorem sp_no_b {q u d : Int} (hq : 1 ≤ q ∧ q ≤ 20) (hu : 1 ≤ u ∧ u ≤ 99) (hd : 1 ≤ d ∧ d ≤ 99) : 0 ≤ sp_no q u d ∧ sp_no q u d ≤ 1981 ∧ 0 ≤ sp_no q u d * d ∧ sp_no q u d * d ≤ 2079 := by
  have h1 := sp_mb (a := u) (b := q) (A := 99) (B := 20) (by omega) (by omega)
  have h2 : 0 ≤ u * q / d := Int.ediv_nonneg h1.1 (by omega)
  have h3 : u * q / d ≤ u * q := Int.ediv_le_self _ h1.1
  have h4 := Int.mul_ediv_add_emod (u * q) d
  have h5 := Int.emod_nonneg (u * q) (by omega : d ≠ 0)
  have h6 : (u * q / d + 1) * d = d * (u * q / d) + d := by rw [Int.add_mul, Int.one_mul, Int.mul_comm]
  have h7 : (u * q / d) * d = d * (u * q / d) := Int.mul_comm _ _
  have h8 : 0 ≤ d * (u * q / d) := Int.mul_nonneg (by omega) h2
  unfold sp_no
  split
  · rw [h6]; omega
  · rw [h7]; omega
theorem sp_ga_b {q u d : Int} (hq : 1 ≤ q ∧ q ≤ 20) (hu : 1 ≤ u ∧ u ≤ 99) (hd : 1 ≤ d ∧ d ≤ 99) : 0 ≤ sp_ga q u d ∧ sp_ga q u d ≤ 2079 := by
  have h1 := sp_mb (a := u) (b := q) (A := 99) (B := 20) (by omega) (by omega)
  have h2 := sp_no_b hq hu hd
  unfold sp_ga
  split <;> omega
theorem c_F_nearestOver {E : qa_V} {σ : qa_S} {q u d : Int} (hq : 1 ≤ q ∧ q ≤ 20) (hu : 1 ≤ u ∧ u ≤ 99) (hd : 1 ≤ d ∧ d ≤ 99) : qa_T E qm_F_nearestOver 0 0 [.int (qa_i q), .int (qa_i u), .int (qa_i d)] σ (fun o9 τ => o9 = .inl (some (.int (qa_i (sp_no q u d)))) ∧ τ = σ) := by
  refine qa_enterQ (by decide) rfl qm_F_nearestOver_ok rfl rfl (fun Q9 hQ => ?_)
  have h1 := sp_mb (a := u) (b := q) (A := 99) (B := 20) (by omega) (by omega)
  have h2 : 0 ≤ u * q / d := Int.ediv_nonneg h1.1 (by omega)
  have h3 : u * q / d ≤ u * q := Int.ediv_le_self _ h1.1
  have h5 := Int.emod_nonneg (u * q) (by omega : d ≠ 0)
  have h6 := Int.emod_lt_of_pos (u * q) (by omega : 0 < d)
  refine qa_iload_n (pc' := 1) ⟨rfl, rfl⟩ rfl ?_
  refine qa_iconst (pc' := 2) ⟨rfl, rfl⟩ ?_
  refine qa_icmp_ge (pc' := 5) (tgt := 7) ⟨rfl, rfl⟩ rfl (by omega) (by omega) (fun hc1 => ?_) (fun hc1 => ?_)
  · refine qa_iload_n (pc' := 8) ⟨rfl, rfl⟩ rfl ?_
    refine qa_iload_n (pc' := 9) ⟨rfl, rfl⟩ rfl ?_
    refine qa_imul (pc' := 10) ⟨rfl, rfl⟩ rfl ?_
    refine qa_iload_n (pc' := 11) ⟨rfl, rfl⟩ rfl ?_
    refine qa_idiv (pc' := 12) ⟨rfl, rfl⟩ (by omega) (by omega) (by omega) (by omega) rfl ?_
    refine qa_istore_n (L' := [(0, _), (1, _), (2, _), (3, _)]) (pc' := 13) ⟨rfl, rfl⟩ rfl rfl ?_
    refine qa_iload_n (pc' := 14) ⟨rfl, rfl⟩ rfl ?_
    refine qa_iload_n (pc' := 15) ⟨rfl, rfl⟩ rfl ?_
    refine qa_imul (pc' := 16) ⟨rfl, rfl⟩ rfl ?_
    refine qa_iload_n (pc' := 17) ⟨rfl, rfl⟩ rfl ?_
    refine qa_irem (pc' := 18) ⟨rfl, rfl⟩ (by omega) (by omega) (by omega) (by omega) rfl ?_
    refine qa_istore (L' := [(0, _), (1, _), (2, _), (3, _), (4, _)]) (pc' := 20) ⟨rfl, rfl⟩ rfl rfl ?_
    refine qa_iconst (pc' := 21) ⟨rfl, rfl⟩ ?_
    refine qa_iload (pc' := 23) ⟨rfl, rfl⟩ rfl ?_
    refine qa_imul (pc' := 24) ⟨rfl, rfl⟩ rfl ?_
    refine qa_iload_n (pc' := 25) ⟨rfl, rfl⟩ rfl ?_
    refine qa_icmp_le (pc' := 28) (tgt := 34) ⟨rfl, rfl⟩ rfl (by omega) (by omega) (fun hc2 => ?_) (fun hc2 => ?_)
    · refine qa_iload_n (pc' := 35) ⟨rfl, rfl⟩ rfl ?_
      refine qa_ireturn rfl rfl rfl (hQ _ _ ⟨by unfold sp_no; first | rw [if_pos (by omega)] | rw [if_neg (by omega)], rfl⟩)
    · refine qa_iload_n (pc' := 29) ⟨rfl, rfl⟩ rfl ?_
      refine qa_iconst (pc' := 30) ⟨rfl, rfl⟩ ?_
      refine qa_iadd (pc' := 31) ⟨rfl, rfl⟩ rfl ?_
      refine qa_goto (pc' := 34) (tgt := 35) ⟨rfl, rfl⟩ rfl ?_
      refine qa_ireturn rfl rfl rfl (hQ _ _ ⟨by unfold sp_no; first | rw [if_pos (by omega)] | rw [if_neg (by omega)], rfl⟩)
  · exact absurd hc1 (by omega)
theorem c_F_gapOver {E : qa_V} {σ : qa_S} {q u d : Int} (hq : 1 ≤ q ∧ q ≤ 20) (hu : 1 ≤ u ∧ u ≤ 99) (hd : 1 ≤ d ∧ d ≤ 99) : qa_T E qm_F_gapOver 0 0 [.int (qa_i q), .int (qa_i u), .int (qa_i d)] σ (fun o9 τ => o9 = .inl (some (.int (qa_i (sp_ga q u d)))) ∧ τ = σ) := by
  refine qa_enterQ (by decide) rfl qm_F_gapOver_ok rfl rfl (fun Q9 hQ => ?_)
  have h1 := sp_mb (a := u) (b := q) (A := 99) (B := 20) (by omega) (by omega)
  have h2 := sp_no_b hq hu hd
  refine qa_iload_n (pc' := 1) ⟨rfl, rfl⟩ rfl ?_
  refine qa_iload_n (pc' := 2) ⟨rfl, rfl⟩ rfl ?_
  refine qa_iload_n (pc' := 3) ⟨rfl, rfl⟩ rfl ?_
  refine qa_callS rfl qf_F_nearestOver rfl ql_9_22 (c_F_nearestOver hq hu hd) rfl rfl (qa_lt9 rfl) (qa_le9 rfl) (qa_le9 rfl) (qa_le9 rfl) (fun o9 τ9 hq9 => ?_)
  obtain ⟨rfl, hq9⟩ := hq9
  replace hq9 := hq9.symm; subst hq9
  refine qa_nx (pc' := 6) (st' := [_]) rfl rfl rfl rfl ?_
  refine qa_istore_n (L' := [(0, _), (1, _), (2, _), (3, _)]) (pc' := 7) ⟨rfl, rfl⟩ rfl rfl ?_
  refine qa_iload_n (pc' := 8) ⟨rfl, rfl⟩ rfl ?_
  refine qa_iload_n (pc' := 9) ⟨rfl, rfl⟩ rfl ?_
  refine qa_imul (pc' := 10) ⟨rfl, rfl⟩ rfl ?_
  refine qa_iload_n (pc' := 11) ⟨rfl, rfl⟩ rfl ?_
  refine qa_iload_n (pc' := 12) ⟨rfl, rfl⟩ rfl ?_
  refine qa_imul (pc' := 13) ⟨rfl, rfl⟩ rfl ?_
  refine qa_isub (pc' := 14) ⟨rfl, rfl⟩ rfl ?_
  refine qa_callS rfl qf_MA_abs rfl ql_9_25 (c_MA_abs (by omega)) rfl rfl (qa_lt9 rfl) (qa_le9 rfl) (qa_le9 rfl) (qa_le9 rfl) (fun o9 τ9 hq9 => ?_)
  obtain ⟨rfl, hq9⟩ := hq9
  replace hq9 := hq9.symm; subst hq9
  refine qa_nx (pc' := 17) (st' := [_]) rfl rfl rfl rfl ?_
  refine qa_ireturn rfl rfl rfl (hQ _ _ ⟨rfl, rfl⟩)
theorem c_F_nearestByTrial {E : qa_V} {σ : qa_S} {u d lim : Int} (hl : 1 ≤ lim ∧ lim ≤ 20) (hu : 1 ≤ u ∧ u ≤ 99) (hd : 1 ≤ d ∧ d ≤ 99) : qa_T E qm_F_nearestByTrial 0 0 [.int (qa_i u), .int (qa_i d), .int (qa_i lim)] σ (fun o9 τ => o9 = .inl (some (.int (qa_i (sp_nt u d lim 20 2 1 (sp_ga 1 u d))))) ∧ τ = σ) := by
  refine qa_enterQ (by decide) rfl qm_F_nearestByTrial_ok rfl rfl (fun Q9 hQ => ?_)
  refine qa_iconst (pc' := 1) ⟨rfl, rfl⟩ ?_
  refine qa_istore_n (L' := [(0, _), (1, _), (2, _), (3, _)]) (pc' := 2) ⟨rfl, rfl⟩ rfl rfl ?_
  refine qa_iconst (pc' := 3) ⟨rfl, rfl⟩ ?_
  refine qa_iload_n (pc' := 4) ⟨rfl, rfl⟩ rfl ?_
  refine qa_iload_n (pc' := 5) ⟨rfl, rfl⟩ rfl ?_
  refine qa_callS rfl qf_F_gapOver rfl ql_9_18 (c_F_gapOver (by omega) hu hd) rfl rfl (qa_lt9 rfl) (qa_le9 rfl) (qa_le9 rfl) (qa_le9 rfl) (fun o9 τ9 hq9 => ?_)
  obtain ⟨rfl, hq9⟩ := hq9
  replace hq9 := hq9.symm; subst hq9
  refine qa_nx (pc' := 8) (st' := [_]) rfl rfl rfl rfl ?_
  refine qa_istore (L' := [(0, _), (1, _), (2, _), (3, _), (4, _)]) (pc' := 10) ⟨rfl, rfl⟩ rfl rfl ?_
  refine qa_iconst (pc' := 11) ⟨rfl, rfl⟩ ?_
  refine qa_istore (L' := [(0, _), (1, _), (2, _), (3, _), (4, _), (5, _)]) (pc' := 13) ⟨rfl, rfl⟩ rfl rfl ?_
  have lp : ∀ (f : Nat) (q best gap : Int), (q + f = 22) ∧ 2 ≤ q ∧ (1 ≤ best ∧ best ≤ 20) ∧ (0 ≤ gap ∧ gap ≤ 2079) ∧ sp_nt u d lim f q best gap = sp_nt u d lim 20 2 1 (sp_ga 1 u d) → qa_W E qm_F_nearestByTrial Q9 0 0 13 [(0, .int (qa_i u)), (1, .int (qa_i d)), (2, .int (qa_i lim)), (3, .int (qa_i best)), (4, .int (qa_i gap)), (5, .int (qa_i q))] [] σ := by
    intro f
    induction f with
    | zero =>
      intro q best gap ⟨hk, hq2, hb, hgp, hr⟩
      refine qa_iload (pc' := 15) ⟨rfl, rfl⟩ rfl ?_
      refine qa_iload_n (pc' := 16) ⟨rfl, rfl⟩ rfl ?_
      refine qa_icmp_gt (pc' := 19) (tgt := 53) ⟨rfl, rfl⟩ rfl (by omega) (by omega) (fun hc1 => ?_) (fun hc1 => ?_)
      · refine qa_iload_n (pc' := 54) ⟨rfl, rfl⟩ rfl ?_
        refine qa_ireturn rfl rfl rfl (hQ _ _ ⟨by rw [← hr]; rfl, rfl⟩)
      · exact absurd hc1 (by omega)
    | succ f ih =>
      intro q best gap ⟨hk, hq2, hb, hgp, hr⟩
      refine qa_iload (pc' := 15) ⟨rfl, rfl⟩ rfl ?_
      refine qa_iload_n (pc' := 16) ⟨rfl, rfl⟩ rfl ?_
      refine qa_icmp_gt (pc' := 19) (tgt := 53) ⟨rfl, rfl⟩ rfl (by omega) (by omega) (fun hc1 => ?_) (fun hc1 => ?_)
      · refine qa_iload_n (pc' := 54) ⟨rfl, rfl⟩ rfl ?_
        refine qa_ireturn rfl rfl rfl (hQ _ _ ⟨by rw [← hr]; unfold sp_nt; rw [if_neg (by omega)], rfl⟩)
      · have hg := sp_ga_b (q := q) (by omega) hu hd
        have m1 := sp_mb (a := sp_ga q u d) (b := best) (A := 2079) (B := 20) (by omega) (by omega)
        have m2 := sp_mb (a := gap) (b := q) (A := 2079) (B := 20) (by omega) (by omega)
        refine qa_iload (pc' := 21) ⟨rfl, rfl⟩ rfl ?_
        refine qa_iload_n (pc' := 22) ⟨rfl, rfl⟩ rfl ?_
        refine qa_iload_n (pc' := 23) ⟨rfl, rfl⟩ rfl ?_
        refine qa_callS rfl qf_F_gapOver rfl ql_9_18 (c_F_gapOver (by omega) hu hd) rfl rfl (qa_lt9 rfl) (qa_le9 rfl) (qa_le9 rfl) (qa_le9 rfl) (fun o9 τ9 hq9 => ?_)
        obtain ⟨rfl, hq9⟩ := hq9
        replace hq9 := hq9.symm; subst hq9
        refine qa_nx (pc' := 26) (st' := [_]) rfl rfl rfl rfl ?_
        refine qa_istore (L' := [(0, _), (1, _), (2, _), (3, _), (4, _), (5, _), (6, _)]) (pc' := 28) ⟨rfl, rfl⟩ rfl rfl ?_
        refine qa_iload (pc' := 30) ⟨rfl, rfl⟩ rfl ?_
        refine qa_iload_n (pc' := 31) ⟨rfl, rfl⟩ rfl ?_
        refine qa_imul (pc' := 32) ⟨rfl, rfl⟩ rfl ?_
        refine qa_iload (pc' := 34) ⟨rfl, rfl⟩ rfl ?_
        refine qa_iload (pc' := 36) ⟨rfl, rfl⟩ rfl ?_
        refine qa_imul (pc' := 37) ⟨rfl, rfl⟩ rfl ?_
        refine qa_icmp_ge (pc' := 40) (tgt := 47) ⟨rfl, rfl⟩ rfl (by omega) (by omega) (fun hc2 => ?_) (fun hc2 => ?_)
        · refine qa_iinc (L' := [(0, _), (1, _), (2, _), (3, _), (4, _), (5, _), (6, _)]) (z := q + 1) (pc' := 50) ⟨rfl, rfl⟩ rfl rfl rfl rfl ?_
          refine qa_goto (pc' := 53) (tgt := 13) ⟨rfl, rfl⟩ rfl ?_
          refine qa_sub (ks' := [0, 1, 2, 3, 4, 5]) (L' := [(0, _), (1, _), (2, _), (3, _), (4, _), (5, _)]) rfl ?_
          refine ih (q + 1) best gap ⟨by omega, by omega, by omega, by omega, ?_⟩
          rw [← hr]; conv => rhs; unfold sp_nt
          rw [if_pos hc1, if_neg (by omega)]
        · refine qa_iload (pc' := 42) ⟨rfl, rfl⟩ rfl ?_
          refine qa_istore_n (L' := [(0, _), (1, _), (2, _), (3, _), (4, _), (5, _), (6, _)]) (pc' := 43) ⟨rfl, rfl⟩ rfl rfl ?_
          refine qa_iload (pc' := 45) ⟨rfl, rfl⟩ rfl ?_
          refine qa_istore (L' := [(0, _), (1, _), (2, _), (3, _), (4, _), (5, _), (6, _)]) (pc' := 47) ⟨rfl, rfl⟩ rfl rfl ?_
          refine qa_iinc (L' := [(0, _), (1, _), (2, _), (3, _), (4, _), (5, _), (6, _)]) (z := q + 1) (pc' := 50) ⟨rfl, rfl⟩ rfl rfl rfl rfl ?_
          refine qa_goto (pc' := 53) (tgt := 13) ⟨rfl, rfl⟩ rfl ?_
          refine qa_sub (ks' := [0, 1, 2, 3, 4, 5]) (L' := [(0, _), (1, _), (2, _), (3, _), (4, _), (5, _)]) rfl ?_
          refine ih (q + 1) q (sp_ga q u d) ⟨by omega, by omega, by omega, by omega, ?_⟩
          rw [← hr]; conv => rhs; unfold sp_nt
          rw [if_pos hc1, if_pos hc2]
  exact lp 20 2 1 (sp_ga 1 u d) ⟨by omega, by omega, by omega, sp_ga_b (by omega) hu hd, rfl⟩
theorem sp_mb2 {a b A B : Int} (ha : a ≤ A ∧ -A ≤ a) (hb : 0 ≤ b ∧ b ≤ B) : a * b ≤ A * B ∧ -(A * B) ≤ a * b := by
  have h1 : a * b ≤ A * b := Int.mul_le_mul_of_nonneg_right ha.1 hb.1
  have h2 : A * b ≤ A * B := Int.mul_le_mul_of_nonneg_left hb.2 (by omega)
  have h3 : -A * b ≤ a * b := Int.mul_le_mul_of_nonneg_right ha.2 hb.1
  rw [Int.neg_mul] at h3
  omega
theorem c_F_nearestByDescent {E : qa_V} {σ : qa_S} {u d lim : Int} (hl : 1 ≤ lim ∧ lim ≤ 20) (hu : 1 ≤ u ∧ u ≤ 99) (hd : 1 ≤ d ∧ d ≤ 99) : qa_T E qm_F_nearestByDescent 0 0 [.int (qa_i u), .int (qa_i d), .int (qa_i lim)] σ (fun o9 τ => o9 = .inl (some (.int (qa_i (sp_nd u d lim lim.toNat 0 (u / d) 1 (u / d + 1) 1)))) ∧ τ = σ) := by
  refine qa_enterQ (by decide) rfl qm_F_nearestByDescent_ok rfl rfl (fun Q9 hQ => ?_)
  have q1 : 0 ≤ u / d := Int.ediv_nonneg (by omega) (by omega)
  have q2 : u / d ≤ u := Int.ediv_le_self _ (by omega)
  refine qa_iload_n (pc' := 1) ⟨rfl, rfl⟩ rfl ?_
  refine qa_iconst (pc' := 2) ⟨rfl, rfl⟩ ?_
  refine qa_icmp_ge (pc' := 5) (tgt := 7) ⟨rfl, rfl⟩ rfl (by omega) (by omega) (fun hc => ?_) (fun hc => ?_)
  · refine qa_iload_n (pc' := 8) ⟨rfl, rfl⟩ rfl ?_
    refine qa_iload_n (pc' := 9) ⟨rfl, rfl⟩ rfl ?_
    refine qa_idiv (pc' := 10) ⟨rfl, rfl⟩ (by omega) (by omega) (by omega) (by omega) rfl ?_
    refine qa_istore_n (L' := [(0, _), (1, _), (2, _), (3, _)]) (pc' := 11) ⟨rfl, rfl⟩ rfl rfl ?_
    refine qa_iconst (pc' := 12) ⟨rfl, rfl⟩ ?_
    refine qa_istore (L' := [(0, _), (1, _), (2, _), (3, _), (4, _)]) (pc' := 14) ⟨rfl, rfl⟩ rfl rfl ?_
    refine qa_iload_n (pc' := 15) ⟨rfl, rfl⟩ rfl ?_
    refine qa_iconst (pc' := 16) ⟨rfl, rfl⟩ ?_
    refine qa_iadd (pc' := 17) ⟨rfl, rfl⟩ rfl ?_
    refine qa_istore (L' := [(0, _), (1, _), (2, _), (3, _), (4, _), (5, _)]) (pc' := 19) ⟨rfl, rfl⟩ rfl rfl ?_
    refine qa_iconst (pc' := 20) ⟨rfl, rfl⟩ ?_
    refine qa_istore (L' := [(0, _), (1, _), (2, _), (3, _), (4, _), (5, _), (6, _)]) (pc' := 22) ⟨rfl, rfl⟩ rfl rfl ?_
    refine qa_iconst (pc' := 23) ⟨rfl, rfl⟩ ?_
    refine qa_istore (L' := [(0, _), (1, _), (2, _), (3, _), (4, _), (5, _), (6, _), (7, _)]) (pc' := 25) ⟨rfl, rfl⟩ rfl rfl ?_
    have lp : ∀ (f : Nat) (k : Nat) (a b x y : Int), (k : Int) + f = lim ∧ (0 ≤ a ∧ a ≤ 100 * b) ∧ (1 ≤ b ∧ b ≤ 20) ∧ (0 ≤ x ∧ x ≤ 100 * y) ∧ (1 ≤ y ∧ y ≤ 20) ∧ 0 ≤ k ∧ sp_nd u d lim f k a b x y = sp_nd u d lim lim.toNat 0 (u / d) 1 (u / d + 1) 1 → qa_W E qm_F_nearestByDescent Q9 0 0 25 [(0, .int (qa_i u)), (1, .int (qa_i d)), (2, .int (qa_i lim)), (3, .int (qa_i a)), (4, .int (qa_i b)), (5, .int (qa_i x)), (6, .int (qa_i y)), (7, .int (qa_i k))] [] σ := by
      intro f
      induction f with
      | zero =>
        intro k a b x y ⟨hk, ha, hb, hx, hy, hk0, hr⟩
        refine qa_iload (pc' := 27) ⟨rfl, rfl⟩ rfl ?_
        refine qa_iload_n (pc' := 28) ⟨rfl, rfl⟩ rfl ?_
        refine qa_icmp_ge (pc' := 31) (tgt := 88) ⟨rfl, rfl⟩ rfl (by omega) (by omega) (fun hc1 => ?_) (fun hc1 => ?_)
        · have n1 := sp_mb (a := u) (b := b) (A := 99) (B := 20) (by omega) (by omega)
          have n2 := sp_mb (a := u) (b := y) (A := 99) (B := 20) (by omega) (by omega)
          have n3 := sp_mb (a := a) (b := d) (A := 2100) (B := 99) (by omega) (by omega)
          have n4 := sp_mb (a := x) (b := d) (A := 2100) (B := 99) (by omega) (by omega)
          have n5 : (u * b - a * d) * y ≤ 207900 * 20 ∧ -(207900 * 20) ≤ (u * b - a * d) * y := sp_mb2 (by omega) (by omega)
          have n6 : (x * d - u * y) * b ≤ 207900 * 20 ∧ -(207900 * 20) ≤ (x * d - u * y) * b := sp_mb2 (by omega) (by omega)
          refine qa_iload_n (pc' := 89) ⟨rfl, rfl⟩ rfl ?_
          refine qa_iload (pc' := 91) ⟨rfl, rfl⟩ rfl ?_
          refine qa_imul (pc' := 92) ⟨rfl, rfl⟩ rfl ?_
          refine qa_iload_n (pc' := 93) ⟨rfl, rfl⟩ rfl ?_
          refine qa_iload_n (pc' := 94) ⟨rfl, rfl⟩ rfl ?_
          refine qa_imul (pc' := 95) ⟨rfl, rfl⟩ rfl ?_
          refine qa_isub (pc' := 96) ⟨rfl, rfl⟩ rfl ?_
          refine qa_iload (pc' := 98) ⟨rfl, rfl⟩ rfl ?_
          refine qa_imul (pc' := 99) ⟨rfl, rfl⟩ rfl ?_
          refine qa_istore (L' := [(0, _), (1, _), (2, _), (3, _), (4, _), (5, _), (6, _), (7, _)]) (pc' := 101) ⟨rfl, rfl⟩ rfl rfl ?_
          refine qa_iload (pc' := 103) ⟨rfl, rfl⟩ rfl ?_
          refine qa_iload_n (pc' := 104) ⟨rfl, rfl⟩ rfl ?_
          refine qa_imul (pc' := 105) ⟨rfl, rfl⟩ rfl ?_
          refine qa_iload_n (pc' := 106) ⟨rfl, rfl⟩ rfl ?_
          refine qa_iload (pc' := 108) ⟨rfl, rfl⟩ rfl ?_
          refine qa_imul (pc' := 109) ⟨rfl, rfl⟩ rfl ?_
          refine qa_isub (pc' := 110) ⟨rfl, rfl⟩ rfl ?_
          refine qa_iload (pc' := 112) ⟨rfl, rfl⟩ rfl ?_
          refine qa_imul (pc' := 113) ⟨rfl, rfl⟩ rfl ?_
          refine qa_istore (L' := [(0, _), (1, _), (2, _), (3, _), (4, _), (5, _), (6, _), (7, _), (8, _)]) (pc' := 115) ⟨rfl, rfl⟩ rfl rfl ?_
          refine qa_iload (pc' := 117) ⟨rfl, rfl⟩ rfl ?_
          refine qa_iload (pc' := 119) ⟨rfl, rfl⟩ rfl ?_
          refine qa_icmp_ne (pc' := 122) (tgt := 130) ⟨rfl, rfl⟩ rfl (by omega) (by omega) (fun hc8 => ?_) (fun hc8 => ?_)
          · refine qa_iload (pc' := 132) ⟨rfl, rfl⟩ rfl ?_
            refine qa_iload (pc' := 134) ⟨rfl, rfl⟩ rfl ?_
            refine qa_icmp_ge (pc' := 137) (tgt := 142) ⟨rfl, rfl⟩ rfl (by omega) (by omega) (fun hc9 => ?_) (fun hc9 => ?_)
            · refine qa_iload (pc' := 144) ⟨rfl, rfl⟩ rfl ?_
              refine qa_ireturn rfl rfl rfl (hQ _ _ ⟨by rw [← hr]; unfold sp_nd; unfold sp_nz; rw [if_neg hc8, if_neg (by omega)], rfl⟩)
            · refine qa_iload (pc' := 139) ⟨rfl, rfl⟩ rfl ?_
              refine qa_goto (pc' := 142) (tgt := 144) ⟨rfl, rfl⟩ rfl ?_
              refine qa_ireturn rfl rfl rfl (hQ _ _ ⟨by rw [← hr]; unfold sp_nd; unfold sp_nz; rw [if_neg hc8, if_pos hc9], rfl⟩)
          · refine qa_iload (pc' := 124) ⟨rfl, rfl⟩ rfl ?_
            refine qa_iload (pc' := 126) ⟨rfl, rfl⟩ rfl ?_
            refine qa_callS rfl qf_MA_min rfl ql_9_13 (c_MA_min (by omega) (by omega)) rfl rfl (qa_lt9 rfl) (qa_le9 rfl) (qa_le9 rfl) (qa_le9 rfl) (fun o9 τ9 hq9 => ?_)
            obtain ⟨rfl, hq9⟩ := hq9
            replace hq9 := hq9.symm; subst hq9
            refine qa_nx (pc' := 129) (st' := [_]) rfl rfl rfl rfl ?_
            obtain ⟨w9, hw9⟩ : ∃ w9, w9 = (if b ≤ y then b else y) := ⟨_, rfl⟩
            rw [← hw9]
            refine qa_ireturn rfl rfl rfl (hQ _ _ ⟨by rw [← hr]; unfold sp_nd; unfold sp_nz; rw [if_pos hc8, ← hw9], rfl⟩)
        · exact absurd hc1 (by omega)
      | succ f ih =>
        intro k a b x y ⟨hk, ha, hb, hx, hy, hk0, hr⟩
        refine qa_iload (pc' := 27) ⟨rfl, rfl⟩ rfl ?_
        refine qa_iload_n (pc' := 28) ⟨rfl, rfl⟩ rfl ?_
        refine qa_icmp_ge (pc' := 31) (tgt := 88) ⟨rfl, rfl⟩ rfl (by omega) (by omega) (fun hc1 => ?_) (fun hc1 => ?_)
        · have n1 := sp_mb (a := u) (b := b) (A := 99) (B := 20) (by omega) (by omega)
          have n2 := sp_mb (a := u) (b := y) (A := 99) (B := 20) (by omega) (by omega)
          have n3 := sp_mb (a := a) (b := d) (A := 2100) (B := 99) (by omega) (by omega)
          have n4 := sp_mb (a := x) (b := d) (A := 2100) (B := 99) (by omega) (by omega)
          have n5 : (u * b - a * d) * y ≤ 207900 * 20 ∧ -(207900 * 20) ≤ (u * b - a * d) * y := sp_mb2 (by omega) (by omega)
          have n6 : (x * d - u * y) * b ≤ 207900 * 20 ∧ -(207900 * 20) ≤ (x * d - u * y) * b := sp_mb2 (by omega) (by omega)
          refine qa_iload_n (pc' := 89) ⟨rfl, rfl⟩ rfl ?_
          refine qa_iload (pc' := 91) ⟨rfl, rfl⟩ rfl ?_
          refine qa_imul (pc' := 92) ⟨rfl, rfl⟩ rfl ?_
          refine qa_iload_n (pc' := 93) ⟨rfl, rfl⟩ rfl ?_
          refine qa_iload_n (pc' := 94) ⟨rfl, rfl⟩ rfl ?_
          refine qa_imul (pc' := 95) ⟨rfl, rfl⟩ rfl ?_
          refine qa_isub (pc' := 96) ⟨rfl, rfl⟩ rfl ?_
          refine qa_iload (pc' := 98) ⟨rfl, rfl⟩ rfl ?_
          refine qa_imul (pc' := 99) ⟨rfl, rfl⟩ rfl ?_
          refine qa_istore (L' := [(0, _), (1, _), (2, _), (3, _), (4, _), (5, _), (6, _), (7, _)]) (pc' := 101) ⟨rfl, rfl⟩ rfl rfl ?_
          refine qa_iload (pc' := 103) ⟨rfl, rfl⟩ rfl ?_
          refine qa_iload_n (pc' := 104) ⟨rfl, rfl⟩ rfl ?_
          refine qa_imul (pc' := 105) ⟨rfl, rfl⟩ rfl ?_
          refine qa_iload_n (pc' := 106) ⟨rfl, rfl⟩ rfl ?_
          refine qa_iload (pc' := 108) ⟨rfl, rfl⟩ rfl ?_
          refine qa_imul (pc' := 109) ⟨rfl, rfl⟩ rfl ?_
          refine qa_isub (pc' := 110) ⟨rfl, rfl⟩ rfl ?_
          refine qa_iload (pc' := 112) ⟨rfl, rfl⟩ rfl ?_
          refine qa_imul (pc' := 113) ⟨rfl, rfl⟩ rfl ?_
          refine qa_istore (L' := [(0, _), (1, _), (2, _), (3, _), (4, _), (5, _), (6, _), (7, _), (8, _)]) (pc' := 115) ⟨rfl, rfl⟩ rfl rfl ?_
          refine qa_iload (pc' := 117) ⟨rfl, rfl⟩ rfl ?_
          refine qa_iload (pc' := 119) ⟨rfl, rfl⟩ rfl ?_
          refine qa_icmp_ne (pc' := 122) (tgt := 130) ⟨rfl, rfl⟩ rfl (by omega) (by omega) (fun hc8 => ?_) (fun hc8 => ?_)
          · refine qa_iload (pc' := 132) ⟨rfl, rfl⟩ rfl ?_
            refine qa_iload (pc' := 134) ⟨rfl, rfl⟩ rfl ?_
            refine qa_icmp_ge (pc' := 137) (tgt := 142) ⟨rfl, rfl⟩ rfl (by omega) (by omega) (fun hc9 => ?_) (fun hc9 => ?_)
            · refine qa_iload (pc' := 144) ⟨rfl, rfl⟩ rfl ?_
              refine qa_ireturn rfl rfl rfl (hQ _ _ ⟨by rw [← hr]; unfold sp_nd; rw [if_neg (by omega)]; unfold sp_nz; rw [if_neg hc8, if_neg (by omega)], rfl⟩)
            · refine qa_iload (pc' := 139) ⟨rfl, rfl⟩ rfl ?_
              refine qa_goto (pc' := 142) (tgt := 144) ⟨rfl, rfl⟩ rfl ?_
              refine qa_ireturn rfl rfl rfl (hQ _ _ ⟨by rw [← hr]; unfold sp_nd; rw [if_neg (by omega)]; unfold sp_nz; rw [if_neg hc8, if_pos hc9], rfl⟩)
          · refine qa_iload (pc' := 124) ⟨rfl, rfl⟩ rfl ?_
            refine qa_iload (pc' := 126) ⟨rfl, rfl⟩ rfl ?_
            refine qa_callS rfl qf_MA_min rfl ql_9_13 (c_MA_min (by omega) (by omega)) rfl rfl (qa_lt9 rfl) (qa_le9 rfl) (qa_le9 rfl) (qa_le9 rfl) (fun o9 τ9 hq9 => ?_)
            obtain ⟨rfl, hq9⟩ := hq9
            replace hq9 := hq9.symm; subst hq9
            refine qa_nx (pc' := 129) (st' := [_]) rfl rfl rfl rfl ?_
            obtain ⟨w9, hw9⟩ : ∃ w9, w9 = (if b ≤ y then b else y) := ⟨_, rfl⟩
            rw [← hw9]
            refine qa_ireturn rfl rfl rfl (hQ _ _ ⟨by rw [← hr]; unfold sp_nd; rw [if_neg (by omega)]; unfold sp_nz; rw [if_pos hc8, ← hw9], rfl⟩)
        · refine qa_iload (pc' := 33) ⟨rfl, rfl⟩ rfl ?_
          refine qa_iload (pc' := 35) ⟨rfl, rfl⟩ rfl ?_
          refine qa_iadd (pc' := 36) ⟨rfl, rfl⟩ rfl ?_
          refine qa_iload_n (pc' := 37) ⟨rfl, rfl⟩ rfl ?_
          refine qa_icmp_gt (pc' := 40) (tgt := 88) ⟨rfl, rfl⟩ rfl (by omega) (by omega) (fun hc2 => ?_) (fun hc2 => ?_)
          · have n1 := sp_mb (a := u) (b := b) (A := 99) (B := 20) (by omega) (by omega)
            have n2 := sp_mb (a := u) (b := y) (A := 99) (B := 20) (by omega) (by omega)
            have n3 := sp_mb (a := a) (b := d) (A := 2100) (B := 99) (by omega) (by omega)
            have n4 := sp_mb (a := x) (b := d) (A := 2100) (B := 99) (by omega) (by omega)
            have n5 : (u * b - a * d) * y ≤ 207900 * 20 ∧ -(207900 * 20) ≤ (u * b - a * d) * y := sp_mb2 (by omega) (by omega)
            have n6 : (x * d - u * y) * b ≤ 207900 * 20 ∧ -(207900 * 20) ≤ (x * d - u * y) * b := sp_mb2 (by omega) (by omega)
            refine qa_iload_n (pc' := 89) ⟨rfl, rfl⟩ rfl ?_
            refine qa_iload (pc' := 91) ⟨rfl, rfl⟩ rfl ?_
            refine qa_imul (pc' := 92) ⟨rfl, rfl⟩ rfl ?_
            refine qa_iload_n (pc' := 93) ⟨rfl, rfl⟩ rfl ?_
            refine qa_iload_n (pc' := 94) ⟨rfl, rfl⟩ rfl ?_
            refine qa_imul (pc' := 95) ⟨rfl, rfl⟩ rfl ?_
            refine qa_isub (pc' := 96) ⟨rfl, rfl⟩ rfl ?_
            refine qa_iload (pc' := 98) ⟨rfl, rfl⟩ rfl ?_
            refine qa_imul (pc' := 99) ⟨rfl, rfl⟩ rfl ?_
            refine qa_istore (L' := [(0, _), (1, _), (2, _), (3, _), (4, _), (5, _), (6, _), (7, _)]) (pc' := 101) ⟨rfl, rfl⟩ rfl rfl ?_
            refine qa_iload (pc' := 103) ⟨rfl, rfl⟩ rfl ?_
            refine qa_iload_n (pc' := 104) ⟨rfl, rfl⟩ rfl ?_
            refine qa_imul (pc' := 105) ⟨rfl, rfl⟩ rfl ?_
            refine qa_iload_n (pc' := 106) ⟨rfl, rfl⟩ rfl ?_
            refine qa_iload (pc' := 108) ⟨rfl, rfl⟩ rfl ?_
            refine qa_imul (pc' := 109) ⟨rfl, rfl⟩ rfl ?_
            refine qa_isub (pc' := 110) ⟨rfl, rfl⟩ rfl ?_
            refine qa_iload (pc' := 112) ⟨rfl, rfl⟩ rfl ?_
            refine qa_imul (pc' := 113) ⟨rfl, rfl⟩ rfl ?_
            refine qa_istore (L' := [(0, _), (1, _), (2, _), (3, _), (4, _), (5, _), (6, _), (7, _), (8, _)]) (pc' := 115) ⟨rfl, rfl⟩ rfl rfl ?_
            refine qa_iload (pc' := 117) ⟨rfl, rfl⟩ rfl ?_
            refine qa_iload (pc' := 119) ⟨rfl, rfl⟩ rfl ?_
            refine qa_icmp_ne (pc' := 122) (tgt := 130) ⟨rfl, rfl⟩ rfl (by omega) (by omega) (fun hc8 => ?_) (fun hc8 => ?_)
            · refine qa_iload (pc' := 132) ⟨rfl, rfl⟩ rfl ?_
              refine qa_iload (pc' := 134) ⟨rfl, rfl⟩ rfl ?_
              refine qa_icmp_ge (pc' := 137) (tgt := 142) ⟨rfl, rfl⟩ rfl (by omega) (by omega) (fun hc9 => ?_) (fun hc9 => ?_)
              · refine qa_iload (pc' := 144) ⟨rfl, rfl⟩ rfl ?_
                refine qa_ireturn rfl rfl rfl (hQ _ _ ⟨by rw [← hr]; unfold sp_nd; rw [if_neg (by omega)]; unfold sp_nz; rw [if_neg hc8, if_neg (by omega)], rfl⟩)
              · refine qa_iload (pc' := 139) ⟨rfl, rfl⟩ rfl ?_
                refine qa_goto (pc' := 142) (tgt := 144) ⟨rfl, rfl⟩ rfl ?_
                refine qa_ireturn rfl rfl rfl (hQ _ _ ⟨by rw [← hr]; unfold sp_nd; rw [if_neg (by omega)]; unfold sp_nz; rw [if_neg hc8, if_pos hc9], rfl⟩)
            · refine qa_iload (pc' := 124) ⟨rfl, rfl⟩ rfl ?_
              refine qa_iload (pc' := 126) ⟨rfl, rfl⟩ rfl ?_
              refine qa_callS rfl qf_MA_min rfl ql_9_13 (c_MA_min (by omega) (by omega)) rfl rfl (qa_lt9 rfl) (qa_le9 rfl) (qa_le9 rfl) (qa_le9 rfl) (fun o9 τ9 hq9 => ?_)
              obtain ⟨rfl, hq9⟩ := hq9
              replace hq9 := hq9.symm; subst hq9
              refine qa_nx (pc' := 129) (st' := [_]) rfl rfl rfl rfl ?_
              obtain ⟨w9, hw9⟩ : ∃ w9, w9 = (if b ≤ y then b else y) := ⟨_, rfl⟩
              rw [← hw9]
              refine qa_ireturn rfl rfl rfl (hQ _ _ ⟨by rw [← hr]; unfold sp_nd; rw [if_neg (by omega)]; unfold sp_nz; rw [if_pos hc8, ← hw9], rfl⟩)
          · have m1 := sp_mb (a := a + x) (b := d) (A := 4200) (B := 99) (by omega) (by omega)
            have m2 := sp_mb (a := u) (b := b + y) (A := 99) (B := 40) (by omega) (by omega)
            refine qa_iload_n (pc' := 41) ⟨rfl, rfl⟩ rfl ?_
            refine qa_iload (pc' := 43) ⟨rfl, rfl⟩ rfl ?_
            refine qa_iadd (pc' := 44) ⟨rfl, rfl⟩ rfl ?_
            refine qa_istore (L' := [(0, _), (1, _), (2, _), (3, _), (4, _), (5, _), (6, _), (7, _), (8, _)]) (pc' := 46) ⟨rfl, rfl⟩ rfl rfl ?_
            refine qa_iload (pc' := 48) ⟨rfl, rfl⟩ rfl ?_
            refine qa_iload (pc' := 50) ⟨rfl, rfl⟩ rfl ?_
            refine qa_iadd (pc' := 51) ⟨rfl, rfl⟩ rfl ?_
            refine qa_istore (L' := [(0, _), (1, _), (2, _), (3, _), (4, _), (5, _), (6, _), (7, _), (8, _), (9, _)]) (pc' := 53) ⟨rfl, rfl⟩ rfl rfl ?_
            refine qa_iload (pc' := 55) ⟨rfl, rfl⟩ rfl ?_
            refine qa_iload_n (pc' := 56) ⟨rfl, rfl⟩ rfl ?_
            refine qa_imul (pc' := 57) ⟨rfl, rfl⟩ rfl ?_
            refine qa_iload_n (pc' := 58) ⟨rfl, rfl⟩ rfl ?_
            refine qa_iload (pc' := 60) ⟨rfl, rfl⟩ rfl ?_
            refine qa_imul (pc' := 61) ⟨rfl, rfl⟩ rfl ?_
            refine qa_icmp_gt (pc' := 64) (tgt := 74) ⟨rfl, rfl⟩ rfl (by omega) (by omega) (fun hc3 => ?_) (fun hc3 => ?_)
            · refine qa_iload (pc' := 76) ⟨rfl, rfl⟩ rfl ?_
              refine qa_istore (L' := [(0, _), (1, _), (2, _), (3, _), (4, _), (5, _), (6, _), (7, _), (8, _), (9, _)]) (pc' := 78) ⟨rfl, rfl⟩ rfl rfl ?_
              refine qa_iload (pc' := 80) ⟨rfl, rfl⟩ rfl ?_
              refine qa_istore (L' := [(0, _), (1, _), (2, _), (3, _), (4, _), (5, _), (6, _), (7, _), (8, _), (9, _)]) (pc' := 82) ⟨rfl, rfl⟩ rfl rfl ?_
              refine qa_iinc (L' := [(0, _), (1, _), (2, _), (3, _), (4, _), (5, _), (6, _), (7, _), (8, _), (9, _)]) (z := ((k + 1 : Nat) : Int)) (pc' := 85) ⟨rfl, rfl⟩ rfl (by omega) rfl rfl ?_
              refine qa_goto (pc' := 88) (tgt := 25) ⟨rfl, rfl⟩ rfl ?_
              refine qa_sub (ks' := [0, 1, 2, 3, 4, 5, 6, 7]) (L' := [(0, _), (1, _), (2, _), (3, _), (4, _), (5, _), (6, _), (7, _)]) rfl ?_
              refine ih (k + 1) a b (a + x) (b + y) ⟨by omega, by omega, by omega, by omega, by omega, by omega, ?_⟩
              rw [← hr]; conv => rhs; unfold sp_nd
              rw [if_pos ⟨hc1, hc2⟩, if_neg (by omega)]; rfl
            · refine qa_iload (pc' := 66) ⟨rfl, rfl⟩ rfl ?_
              refine qa_istore_n (L' := [(0, _), (1, _), (2, _), (3, _), (4, _), (5, _), (6, _), (7, _), (8, _), (9, _)]) (pc' := 67) ⟨rfl, rfl⟩ rfl rfl ?_
              refine qa_iload (pc' := 69) ⟨rfl, rfl⟩ rfl ?_
              refine qa_istore (L' := [(0, _), (1, _), (2, _), (3, _), (4, _), (5, _), (6, _), (7, _), (8, _), (9, _)]) (pc' := 71) ⟨rfl, rfl⟩ rfl rfl ?_
              refine qa_goto (pc' := 74) (tgt := 82) ⟨rfl, rfl⟩ rfl ?_
              refine qa_iinc (L' := [(0, _), (1, _), (2, _), (3, _), (4, _), (5, _), (6, _), (7, _), (8, _), (9, _)]) (z := ((k + 1 : Nat) : Int)) (pc' := 85) ⟨rfl, rfl⟩ rfl (by omega) rfl rfl ?_
              refine qa_goto (pc' := 88) (tgt := 25) ⟨rfl, rfl⟩ rfl ?_
              refine qa_sub (ks' := [0, 1, 2, 3, 4, 5, 6, 7]) (L' := [(0, _), (1, _), (2, _), (3, _), (4, _), (5, _), (6, _), (7, _)]) rfl ?_
              refine ih (k + 1) (a + x) (b + y) x y ⟨by omega, by omega, by omega, by omega, by omega, by omega, ?_⟩
              rw [← hr]; conv => rhs; unfold sp_nd
              rw [if_pos ⟨hc1, hc2⟩, if_pos hc3]; rfl
    exact lp lim.toNat 0 (u / d) 1 (u / d + 1) 1 ⟨by omega, by omega, by omega, by omega, by omega, by omega, rfl⟩
  · exact absurd hc (by omega)
