/-! nearest fractions: the descent, the trial and the model's trying come to the same -/
def sp_N (u d lim Q : Int) : Prop := (1 ≤ Q ∧ Q ≤ lim) ∧ ∀ q : Int, 1 ≤ q → q ≤ lim → sp_ga Q u d * q ≤ sp_ga q u d * Q ∧ (q < Q → sp_ga Q u d * q < sp_ga q u d * Q)
theorem sp_N_u {u d lim Q R : Int} (h : sp_N u d lim Q) (h' : sp_N u d lim R) : Q = R := by
  rcases Int.lt_trichotomy Q R with h1 | h1 | h1
  · have a := (h.2 R h'.1.1 h'.1.2).1
    have b := (h'.2 Q h.1.1 h.1.2).2 h1
    omega
  · exact h1
  · have a := (h'.2 Q h.1.1 h.1.2).1
    have b := (h.2 R h'.1.1 h'.1.2).2 h1
    omega
theorem sp_nl1 {x b g q p y : Int} (h1 : x * b < g * q) (h2 : g * p ≤ y * b) (hb : 0 < b) (hp : 0 < p) (hq : 0 < q) : x * p < y * q := by
  have a1 : x * b * p < g * q * p := Int.mul_lt_mul_of_pos_right h1 hp
  have a2 : g * p * q ≤ y * b * q := Int.mul_le_mul_of_nonneg_right h2 (Int.le_of_lt hq)
  have e1 : x * b * p = x * p * b := Int.mul_right_comm _ _ _
  have e2 : g * q * p = g * p * q := Int.mul_right_comm _ _ _
  have e3 : y * b * q = y * q * b := Int.mul_right_comm _ _ _
  exact Int.lt_of_mul_lt_mul_right (a := b) (by omega : x * p * b < y * q * b) (Int.le_of_lt hb)
theorem sp_nl2 {x b g q p y : Int} (h1 : x * b = g * q) (h2 : g * p ≤ y * b) (hb : 0 < b) (hq : 0 < q) : x * p ≤ y * q ∧ (g * p < y * b → x * p < y * q) := by
  have a1 : x * b * p = g * q * p := by rw [h1]
  have e1 : x * b * p = x * p * b := Int.mul_right_comm _ _ _
  have e2 : g * q * p = g * p * q := Int.mul_right_comm _ _ _
  have e3 : y * b * q = y * q * b := Int.mul_right_comm _ _ _
  constructor
  · have a2 : g * p * q ≤ y * b * q := Int.mul_le_mul_of_nonneg_right h2 (Int.le_of_lt hq)
    exact Int.le_of_mul_le_mul_right (by omega : x * p * b ≤ y * q * b) hb
  · intro h3
    have a2 : g * p * q < y * b * q := Int.mul_lt_mul_of_pos_right h3 hq
    exact Int.lt_of_mul_lt_mul_right (a := b) (by omega : x * p * b < y * q * b) (Int.le_of_lt hb)
theorem sp_nt_N {u d lim : Int} : ∀ (f : Nat) (q b : Int), (1 ≤ b ∧ b < q ∧ q - 1 ≤ lim ∧ lim + 1 ≤ q + f) → (∀ p : Int, 1 ≤ p → p < q → sp_ga b u d * p ≤ sp_ga p u d * b ∧ (p < b → sp_ga b u d * p < sp_ga p u d * b)) → sp_N u d lim (sp_nt u d lim f q b (sp_ga b u d))
  | 0, q, b, h, hp => ⟨⟨h.1, by show b ≤ lim; omega⟩, fun p p0 p1 => hp p p0 (by omega)⟩
  | f + 1, q, b, h, hp => by
    unfold sp_nt
    by_cases hq : q ≤ lim
    · rw [if_pos hq]
      by_cases hc : sp_ga q u d * b < sp_ga b u d * q
      · rw [if_pos hc]
        refine sp_nt_N f (q + 1) q (by omega) fun p p0 p1 => ?_
        by_cases e : p = q
        · subst e
          exact ⟨Int.le_refl _, fun h9 => absurd h9 (Int.lt_irrefl _)⟩
        · have h2 := (hp p p0 (by omega)).1
          have h3 := sp_nl1 hc h2 (by omega) (by omega) (by omega)
          exact ⟨Int.le_of_lt h3, fun _ => h3⟩
      · rw [if_neg hc]
        refine sp_nt_N f (q + 1) b (by omega) fun p p0 p1 => ?_
        by_cases e : p = q
        · subst e
          exact ⟨by omega, fun h9 => absurd h9 (by omega)⟩
        · exact hp p p0 (by omega)
    · rw [if_neg hq]
      exact ⟨⟨h.1, by omega⟩, fun p p0 p1 => hp p p0 (by omega)⟩
theorem sp_tn_N {u d x : Int} (hx : 1 ≤ x ∧ x ≤ 20) : sp_N u d x (sp_tn u d x) := by
  refine sp_nt_N 20 2 1 (by omega) fun p p0 p1 => ?_
  obtain rfl : p = 1 := by omega
  exact ⟨Int.le_refl _, fun h => absurd h (by omega)⟩
theorem sp_ga_r {q u d : Int} (hd : 1 ≤ d) (hW : 0 ≤ u * q) : sp_ga q u d = (if 2 * (u * q % d) > d then d - u * q % d else u * q % d) ∧ sp_no q u d = (if 2 * (u * q % d) > d then u * q / d + 1 else u * q / d) ∧ u * q = d * (u * q / d) + u * q % d ∧ 0 ≤ u * q % d ∧ u * q % d < d := by
  have h1 := Int.mul_ediv_add_emod (u * q) d
  have h2 := Int.emod_nonneg (u * q) (show d ≠ 0 by omega)
  have h3 := Int.emod_lt_of_pos (u * q) (show 0 < d by omega)
  refine ⟨?_, rfl, h1.symm, h2, h3⟩
  have h6 : (u * q / d + 1) * d = d * (u * q / d) + d := by rw [Int.add_mul, Int.one_mul, Int.mul_comm]
  have h7 : (u * q / d) * d = d * (u * q / d) := Int.mul_comm _ _
  unfold sp_ga sp_no
  split
  · rw [h6, if_neg (by omega)]
    omega
  · rw [h7, if_pos (by omega)]
    omega
theorem sp_ga_le {q u d p : Int} (hd : 1 ≤ d) (hW : 0 ≤ u * q) : (p * d ≤ u * q → sp_ga q u d ≤ u * q - p * d) ∧ (u * q ≤ p * d → sp_ga q u d ≤ p * d - u * q) := by
  obtain ⟨h1, -, h2, h3, h4⟩ := sp_ga_r hd hW
  have h5 : sp_ga q u d ≤ u * q % d ∧ sp_ga q u d ≤ d - u * q % d := by rw [h1]; split <;> omega
  have h7 : (u * q / d) * d = d * (u * q / d) := Int.mul_comm _ _
  constructor
  · intro h
    have h6 : p ≤ u * q / d := Int.le_ediv_of_mul_le (by omega) h
    have h8 : p * d ≤ (u * q / d) * d := Int.mul_le_mul_of_nonneg_right h6 (by omega)
    omega
  · intro h
    by_cases h6 : p ≤ u * q / d
    · have h8 : p * d ≤ (u * q / d) * d := Int.mul_le_mul_of_nonneg_right h6 (by omega)
      omega
    · have h8 : (u * q / d + 1) * d ≤ p * d := Int.mul_le_mul_of_nonneg_right (by omega) (by omega)
      rw [Int.add_mul, Int.one_mul] at h8
      omega
theorem sp_nF0 {a b x y P q : Int} (hb : 1 ≤ b) (hy : 1 ≤ y) (h : x * b - a * y = 1) (h1 : 1 ≤ P * b - a * q) (h2 : 1 ≤ x * q - P * y) : b + y ≤ q := by
  have e1 : b * 1 ≤ b * (x * q - P * y) := Int.mul_le_mul_of_nonneg_left h2 (by omega)
  have e2 : y * 1 ≤ y * (P * b - a * q) := Int.mul_le_mul_of_nonneg_left h1 (by omega)
  have e3 : b * (x * q - P * y) + y * (P * b - a * q) = q * (x * b - a * y) := by grind
  rw [h] at e3
  omega
theorem sp_nF1 {a b x y P q u d : Int} (hb : 1 ≤ b) (hy : 1 ≤ y) (hq : 1 ≤ q) (hd : 1 ≤ d) (h : x * b - a * y = 1) (hl : q < b + y) (h2 : u * y < x * d) (h3 : P * d ≤ u * q) : P * b ≤ a * q := by
  refine Int.not_lt.mp fun h4 => ?_
  have e1 : P * d * y ≤ u * q * y := Int.mul_le_mul_of_nonneg_right h3 (by omega)
  have e2 : u * y * q < x * d * q := Int.mul_lt_mul_of_pos_right h2 (by omega)
  have e3 : P * d * y = P * y * d := Int.mul_right_comm _ _ _
  have e4 : u * q * y = u * y * q := Int.mul_right_comm _ _ _
  have e5 : x * d * q = x * q * d := Int.mul_right_comm _ _ _
  have e6 : P * y < x * q := Int.lt_of_mul_lt_mul_right (a := d) (by omega : P * y * d < x * q * d) (by omega)
  have := sp_nF0 hb hy h (by omega : 1 ≤ P * b - a * q) (by omega)
  omega
theorem sp_nF2 {a b x y P q u d : Int} (hb : 1 ≤ b) (hy : 1 ≤ y) (hq : 1 ≤ q) (hd : 1 ≤ d) (h : x * b - a * y = 1) (hl : q < b + y) (h2 : a * d ≤ u * b) (h3 : u * q < P * d) : x * q ≤ P * y := by
  refine Int.not_lt.mp fun h4 => ?_
  have e1 : a * d * q ≤ u * b * q := Int.mul_le_mul_of_nonneg_right h2 (by omega)
  have e2 : u * q * b < P * d * b := Int.mul_lt_mul_of_pos_right h3 (by omega)
  have e3 : a * d * q = a * q * d := Int.mul_right_comm _ _ _
  have e4 : u * b * q = u * q * b := Int.mul_right_comm _ _ _
  have e5 : P * d * b = P * b * d := Int.mul_right_comm _ _ _
  have e6 : a * q < P * b := Int.lt_of_mul_lt_mul_right (a := d) (by omega : a * q * d < P * b * d) (by omega)
  have := sp_nF0 hb hy h (by omega : 1 ≤ P * b - a * q) (by omega)
  omega
theorem sp_nF3 {b q z : Int} (hb : 1 ≤ b) (hq : 1 ≤ q) (h : q = b * z) : b ≤ q := by
  have hz : 1 ≤ z := by
    refine Int.not_lt.mp fun h1 => ?_
    have := Int.mul_le_mul_of_nonneg_left (show z ≤ 0 by omega) (show 0 ≤ b by omega)
    rw [Int.mul_zero] at this
    omega
  have := Int.mul_le_mul_of_nonneg_left hz (show 0 ≤ b by omega)
  omega
theorem sp_nz_N {u d a b x y lim : Int} (hu : 0 ≤ u) (hd : 1 ≤ d) (hb : 1 ≤ b) (hy : 1 ≤ y) (hbl : b ≤ lim) (hyl : y ≤ lim) (h : x * b - a * y = 1) (h1 : a * d ≤ u * b) (h2 : u * y < x * d) (hl : lim < b + y) : sp_N u d lim (sp_nz u d a b x y) := by
  have hW : ∀ q : Int, 1 ≤ q → 0 ≤ u * q := fun q hq => Int.mul_nonneg hu (by omega)
  have gb := (sp_ga_le (p := a) hd (hW b hb)).1 h1
  have gy := (sp_ga_le (p := x) hd (hW y hy)).2 (Int.le_of_lt h2)
  have C : ∀ q : Int, 1 ≤ q → q ≤ lim → ((u * b - a * d) * q ≤ sp_ga q u d * b ∧ (q < b → (u * b - a * d) * q < sp_ga q u d * b)) ∨ ((x * d - u * y) * q ≤ sp_ga q u d * y ∧ (q < y → (x * d - u * y) * q < sp_ga q u d * y)) := by
    intro q q0 q1
    by_cases hc : 0 ≤ u * q - sp_no q u d * d
    · have eg : sp_ga q u d = u * q - sp_no q u d * d := if_pos hc
      have k1 := sp_nF1 hb hy q0 hd h (by omega) h2 (show sp_no q u d * d ≤ u * q by omega)
      have e : (u * q - sp_no q u d * d) * b = (u * b - a * d) * q + d * (a * q - sp_no q u d * b) := by grind
      have k2 : 0 ≤ d * (a * q - sp_no q u d * b) := Int.mul_nonneg (by omega) (by omega)
      rw [eg]
      refine Or.inl ⟨by omega, fun hqb => ?_⟩
      have k3 : 0 < d * (a * q - sp_no q u d * b) := by
        refine Int.mul_pos (by omega) ?_
        refine Int.not_le.mp fun k4 => ?_
        have k5 : sp_no q u d * b = a * q := by omega
        have k6 : q = b * (x * q - sp_no q u d * y) := by
          have k7 : q * (x * b - a * y) = b * (x * q - sp_no q u d * y) + y * (sp_no q u d * b - a * q) := by grind
          rw [h, k5] at k7
          rw [Int.sub_self, Int.mul_zero] at k7
          omega
        have := sp_nF3 hb q0 k6
        omega
      omega
    · have eg : sp_ga q u d = sp_no q u d * d - u * q := (if_neg hc).trans (by omega)
      have k1 := sp_nF2 hb hy q0 hd h (by omega) h1 (show u * q < sp_no q u d * d by omega)
      have e : (sp_no q u d * d - u * q) * y = (x * d - u * y) * q + d * (sp_no q u d * y - x * q) := by grind
      have k2 : 0 ≤ d * (sp_no q u d * y - x * q) := Int.mul_nonneg (by omega) (by omega)
      rw [eg]
      refine Or.inr ⟨by omega, fun hqb => ?_⟩
      have k3 : 0 < d * (sp_no q u d * y - x * q) := by
        refine Int.mul_pos (by omega) ?_
        refine Int.not_le.mp fun k4 => ?_
        have k5 : sp_no q u d * y = x * q := by omega
        have k6 : q = y * (sp_no q u d * b - a * q) := by
          have k7 : q * (x * b - a * y) = b * (x * q - sp_no q u d * y) + y * (sp_no q u d * b - a * q) := by grind
          rw [h, k5] at k7
          rw [Int.sub_self, Int.mul_zero] at k7
          omega
        have := sp_nF3 hy q0 k6
        omega
      omega
  have mb : ∀ q : Int, 1 ≤ q → sp_ga b u d * q ≤ (u * b - a * d) * q := fun q hq => Int.mul_le_mul_of_nonneg_right gb (by omega)
  have my : ∀ q : Int, 1 ≤ q → sp_ga y u d * q ≤ (x * d - u * y) * q := fun q hq => Int.mul_le_mul_of_nonneg_right gy (by omega)
  unfold sp_nz
  by_cases he : (u * b - a * d) * y = (x * d - u * y) * b
  · rw [if_pos he]
    by_cases hby : b ≤ y
    · rw [if_pos hby]
      refine ⟨⟨hb, hbl⟩, fun q q0 q1 => ?_⟩
      have m1 := mb q q0
      rcases C q q0 q1 with ⟨c1, c2⟩ | ⟨c1, c2⟩
      · exact ⟨by omega, fun hq => by have := c2 hq; omega⟩
      · have n := sp_nl2 he c1 (by omega) (by omega)
        exact ⟨by omega, fun hq => by have := n.2 (c2 (by omega)); omega⟩
    · rw [if_neg hby]
      refine ⟨⟨hy, hyl⟩, fun q q0 q1 => ?_⟩
      have m1 := my q q0
      rcases C q q0 q1 with ⟨c1, c2⟩ | ⟨c1, c2⟩
      · have n := sp_nl2 he.symm c1 (by omega) (by omega)
        exact ⟨by omega, fun hq => by have := n.2 (c2 (by omega)); omega⟩
      · exact ⟨by omega, fun hq => by have := c2 hq; omega⟩
  · rw [if_neg he]
    by_cases hlt : (u * b - a * d) * y < (x * d - u * y) * b
    · rw [if_pos hlt]
      refine ⟨⟨hb, hbl⟩, fun q q0 q1 => ?_⟩
      have m1 := mb q q0
      rcases C q q0 q1 with ⟨c1, c2⟩ | ⟨c1, c2⟩
      · exact ⟨by omega, fun hq => by have := c2 hq; omega⟩
      · have n := sp_nl1 hlt c1 (by omega) (by omega) (by omega)
        exact ⟨by omega, fun hq => by omega⟩
    · rw [if_neg hlt]
      refine ⟨⟨hy, hyl⟩, fun q q0 q1 => ?_⟩
      have m1 := my q q0
      rcases C q q0 q1 with ⟨c1, c2⟩ | ⟨c1, c2⟩
      · have n := sp_nl1 (show (x * d - u * y) * b < (u * b - a * d) * y by omega) c1 (by omega) (by omega) (by omega)
        exact ⟨by omega, fun hq => by omega⟩
      · exact ⟨by omega, fun hq => by have := c2 hq; omega⟩
theorem sp_nd_N {u d lim : Int} (hu : 0 ≤ u) (hd : 1 ≤ d) : ∀ (f : Nat) (k a b x y : Int), k + f = lim → k + 2 ≤ b + y → 1 ≤ b → 1 ≤ y → b ≤ lim → y ≤ lim → x * b - a * y = 1 → a * d ≤ u * b → u * y < x * d → sp_N u d lim (sp_nd u d lim f k a b x y)
  | 0, k, a, b, x, y, hk, h0, hb, hy, hbl, hyl, h, h1, h2 => sp_nz_N hu hd hb hy hbl hyl h h1 h2 (by omega)
  | f + 1, k, a, b, x, y, hk, h0, hb, hy, hbl, hyl, h, h1, h2 => by
    unfold sp_nd
    by_cases hc : k < lim ∧ b + y ≤ lim
    · rw [if_pos hc]
      have e1 : x * (b + y) - (a + x) * y = 1 := by rw [Int.mul_add, Int.add_mul]; omega
      have e2 : (a + x) * b - a * (b + y) = 1 := by rw [Int.mul_add, Int.add_mul]; omega
      by_cases hs : (a + x) * d ≤ u * (b + y)
      · rw [if_pos hs]
        exact sp_nd_N hu hd f _ _ _ _ _ (by omega) (by omega) (by omega) hy (by omega) hyl e1 hs h2
      · rw [if_neg hs]
        exact sp_nd_N hu hd f _ _ _ _ _ (by omega) (by omega) hb (by omega) hbl (by omega) e2 h1 (by omega)
    · rw [if_neg hc]
      exact sp_nz_N hu hd hb hy hbl hyl h h1 h2 (by omega)
theorem sp_dn_N {u d x : Int} (hu : 0 ≤ u) (hd : 1 ≤ d) (hx : 1 ≤ x ∧ x ≤ 20) : sp_N u d x (sp_dn u d x) := by
  have h1 := Int.mul_ediv_add_emod u d
  have h2 := Int.emod_nonneg u (show d ≠ 0 by omega)
  have h3 := Int.emod_lt_of_pos u (show 0 < d by omega)
  have h4 : u / d * d = d * (u / d) := Int.mul_comm _ _
  refine sp_nd_N hu hd _ _ _ _ _ _ (by omega) (by omega) (by omega) (by omega) (by omega) (by omega) (by omega) (by omega) ?_
  rw [Int.add_mul, Int.one_mul]
  omega
theorem sp_dn_tn {u d x : Int} (hu : 0 ≤ u) (hd : 1 ≤ d) (hx : 1 ≤ x ∧ x ≤ 20) : sp_dn u d x = sp_tn u d x ∧ 1 ≤ sp_dn u d x ∧ sp_dn u d x ≤ x :=
  ⟨sp_N_u (sp_dn_N hu hd hx) (sp_tn_N hx), (sp_dn_N hu hd hx).1⟩
/-- one q of the model's trying -/
theorem sp_ns2 {u d q : Int} (hd : 1 ≤ d) (hq : 1 ≤ q) (hu : 0 ≤ u) (s : Int × Int × Int) (hs : s.1 = -1 ∨ (0 ≤ s.1 ∧ 1 ≤ s.2.2)) : sp_ns u d q 1 (sp_ns u d q 0 s) = if s.1 = -1 ∨ sp_ga q u d * s.2.2 < s.1 * q then (sp_ga q u d, sp_no q u d, q) else s := by
  obtain ⟨fa, to, bo⟩ := s
  replace hs : fa = -1 ∨ (0 ≤ fa ∧ 1 ≤ bo) := hs
  have hW : 0 ≤ u * q := Int.mul_nonneg hu (by omega)
  obtain ⟨g1, g2, g3, g4, g5⟩ := sp_ga_r hd hW
  have n0 : sp_nb d (u * q) (u * q / d + 0) = u * q % d := by
    unfold sp_nb
    have : (u * q / d + 0) * d = d * (u * q / d) := by rw [Int.add_zero, Int.mul_comm]
    rw [this]
    split <;> omega
  have n1 : sp_nb d (u * q) (u * q / d + 1) = d - u * q % d := by
    unfold sp_nb
    have : (u * q / d + 1) * d = d * (u * q / d) + d := by rw [Int.add_mul, Int.one_mul, Int.mul_comm]
    rw [this]
    split <;> omega
  unfold sp_ns
  rw [n0, n1, Int.add_zero, g1, g2]
  show (if (if fa = -1 ∨ u * q % d * bo < fa * q then (u * q % d, u * q / d, q) else (fa, to, bo)).1 = -1 ∨ (d - u * q % d) * (if fa = -1 ∨ u * q % d * bo < fa * q then (u * q % d, u * q / d, q) else (fa, to, bo)).2.2 < (if fa = -1 ∨ u * q % d * bo < fa * q then (u * q % d, u * q / d, q) else (fa, to, bo)).1 * q then _ else _) = _
  generalize u * q % d = r at *
  generalize u * q / d = t at *
  by_cases h1 : fa = -1 ∨ r * bo < fa * q
  · rw [if_pos h1]
    by_cases h2 : 2 * r > d
    · rw [if_pos h2, if_pos h2]
      have h3 : (d - r) * q < r * q := Int.mul_lt_mul_of_pos_right (by omega) (by omega)
      rw [if_pos (Or.inr h3)]
      rcases h1 with h1 | h1
      · exact (if_pos (Or.inl h1)).symm
      · rcases hs with hs | hs
        · exact (if_pos (Or.inl hs)).symm
        · have h4 : (d - r) * bo ≤ r * bo := Int.mul_le_mul_of_nonneg_right (by omega) (by have := hs.2; omega)
          exact (if_pos (Or.inr (show (d - r) * bo < fa * q by omega))).symm
    · rw [if_neg h2, if_neg h2]
      have h3 : r * q ≤ (d - r) * q := Int.mul_le_mul_of_nonneg_right (by omega) (by omega)
      have h5 : ¬ ((r, t, q).1 = -1 ∨ (d - r) * (r, t, q).2.2 < (r, t, q).1 * q) := by
        show ¬ (r = -1 ∨ (d - r) * q < r * q)
        omega
      rw [if_neg h5, if_pos h1]
  · rw [if_neg h1]
    have hs2 : 0 ≤ fa ∧ 1 ≤ bo := by
      rcases hs with hs | hs
      · exact absurd (Or.inl hs) h1
      · exact hs
    have h6 : fa ≠ -1 ∧ fa * q ≤ r * bo := ⟨fun z => h1 (Or.inl z), Int.not_lt.mp fun z => h1 (Or.inr z)⟩
    by_cases h7 : (d - r) * bo < fa * q
    · have h8 : d - r < r := Int.lt_of_mul_lt_mul_right (a := bo) (by omega : (d - r) * bo < r * bo) (by omega)
      have h9 : 2 * r > d := by omega
      rw [if_pos h9, if_pos h9]
    · have h8 : ¬ ((fa, to, bo).1 = -1 ∨ (d - r) * (fa, to, bo).2.2 < (fa, to, bo).1 * q) := fun z => z.elim h6.1 h7
      rw [if_neg h8]
      have h9 : ¬ (fa = -1 ∨ (if 2 * r > d then d - r else r) * bo < fa * q) := by
        rintro (z | z)
        · exact h6.1 z
        · split at z <;> omega
      exact (if_neg h9).symm
theorem sp_nm_2 (u d t b : Int) (i : Nat) : sp_nm u d t b (2 * (i + 1)) = sp_ns u d ((i : Int) + 1) 1 (sp_ns u d ((i : Int) + 1) 0 (sp_nm u d t b (2 * i))) := by
  show sp_nm u d t b (2 * i + 1 + 1) = _
  rw [sp_nm_s, sp_nm_s, show (2 * i + 1) / 2 = i by omega, show (2 * i + 1) % 2 = 1 by omega, show 2 * i / 2 = i by omega, show 2 * i % 2 = 0 by omega]
  rfl
theorem sp_nm_t {u d t b lim : Int} (hd : 1 ≤ d) (hu : 0 ≤ u) : ∀ (f i : Nat) (Q : Int), (i : Int) + f = lim → 1 ≤ Q → sp_nm u d t b (2 * i) = (sp_ga Q u d, sp_no Q u d, Q) → 0 ≤ sp_ga Q u d → ∀ g : Nat, f ≤ g → ∃ R : Int, sp_nt u d lim g ((i : Int) + 1) Q (sp_ga Q u d) = R ∧ sp_nm u d t b (2 * (i + f)) = (sp_ga R u d, sp_no R u d, R)
  | 0, i, Q, hi, hQ, h, hg, g, hfg => by
    refine ⟨Q, ?_, h⟩
    cases g with
    | zero => rfl
    | succ g => unfold sp_nt; rw [if_neg (by omega)]
  | f + 1, i, Q, hi, hQ, h, hg, g, hfg => by
    obtain ⟨g, rfl⟩ : ∃ g1, g = g1 + 1 := ⟨g - 1, by omega⟩
    have e := sp_ns2 (u := u) hd (show 1 ≤ (i : Int) + 1 by omega) hu (sp_nm u d t b (2 * i)) (by rw [h]; exact Or.inr ⟨hg, hQ⟩)
    rw [← sp_nm_2, h] at e
    have hga : 0 ≤ sp_ga ((i : Int) + 1) u d := by
      obtain ⟨g1, -, g3, g4, g5⟩ := sp_ga_r (q := (i : Int) + 1) (u := u) hd (Int.mul_nonneg hu (by omega))
      rw [g1]
      split <;> omega
    unfold sp_nt
    rw [if_pos (by omega), show i + (f + 1) = i + 1 + f by omega]
    by_cases hc : sp_ga ((i : Int) + 1) u d * Q < sp_ga Q u d * ((i : Int) + 1)
    · rw [if_pos hc]
      exact sp_nm_t hd hu f (i + 1) ((i : Int) + 1) (by omega) (by omega) (e.trans (if_pos (Or.inr hc))) hga g (by omega)
    · rw [if_neg hc]
      refine sp_nm_t hd hu f (i + 1) Q (by omega) hQ (e.trans (if_neg ?_)) hg g (by omega)
      rintro (z | z)
      · have z2 : sp_ga Q u d = -1 := z
        omega
      · exact hc z
theorem sp_nm_tn {u d t b x : Int} (hd : 1 ≤ d) (hu : 0 ≤ u) (hx : 1 ≤ x ∧ x ≤ 20) : (sp_nm u d t b (2 * x.toNat)).2 = (sp_no (sp_dn u d x) u d, sp_dn u d x) := by
  have e := sp_ns2 (u := u) (q := ((0 : Nat) : Int) + 1) hd (by omega) hu (sp_nm u d t b (2 * 0)) (Or.inl rfl)
  rw [← sp_nm_2] at e
  have e2 := e.trans (if_pos (Or.inl rfl))
  have hga : 0 ≤ sp_ga 1 u d := by
    obtain ⟨g1, -, g3, g4, g5⟩ := sp_ga_r (q := 1) (u := u) hd (Int.mul_nonneg hu (by omega))
    rw [g1]
    split <;> omega
  obtain ⟨R, h1, h2⟩ := sp_nm_t (t := t) (b := b) (lim := x) hd hu (x.toNat - 1) 1 1 (by omega) (by omega) e2 hga 20 (by omega)
  rw [(sp_dn_tn hu hd hx).1]
  have h3 : sp_tn u d x = R := h1
  rw [h3, show 2 * x.toNat = 2 * (1 + (x.toNat - 1)) by omega, h2]
