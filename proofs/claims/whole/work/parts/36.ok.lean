/-! what a change leaves is as it must be -/
def sm_rk (m : Int → Int) (B : Int) (r : sp_R) : Prop := sm_ok r.2.2 (B + 960) ∧ (-11 ≤ r.1 ∧ r.1 ≤ 1000) ∧ (r.1 < 0 → r.2.2 = m ∧ (r.1 = -10 ∨ r.1 = -11 ∨ -8 ≤ r.1))
theorem sm_rk.bad {m : Int → Int} {B a d : Int} (hk : sm_ok m B) (h : a = -10 ∨ a = -11 ∨ (-8 ≤ a ∧ a < 0)) : sm_rk m B (a, d, m) := ⟨hk.up (by omega), by show -11 ≤ a ∧ a ≤ 1000; omega, fun _ => ⟨rfl, by show a = -10 ∨ a = -11 ∨ -8 ≤ a; omega⟩⟩
theorem sm_rk.good {m m1 : Int → Int} {B a d : Int} (hk : sm_ok m1 (B + 960)) (h : 0 ≤ a ∧ a ≤ 1000) : sm_rk m B (a, d, m1) := ⟨hk, by show -11 ≤ a ∧ a ≤ 1000; omega, fun h9 => absurd (show a < 0 from h9) (by omega)⟩
theorem sm_eq.rf (m m1 : Int → Int) (i : Int) (h : ∀ q : Int, 4 + 26 * i ≤ q → q < 30 + 26 * i → (q = 4 + 26 * i ∨ 10 + 26 * i ≤ q) → q < 30 + 26 * i → m1 q = m q) (hn : sm_n m i ≤ 10) : sm_eq m m1 i :=
  ⟨h _ (by omega) (by omega) (Or.inl rfl) (by omega), fun j j0 j1 => ⟨h _ (by omega) (by omega) (Or.inr (by omega)) (by omega), h _ (by omega) (by omega) (Or.inr (by omega)) (by omega)⟩⟩
theorem sm_ok.part {m : Int → Int} {B : Int} (hk : sm_ok m B) (h : m 0 < 5) : sm_ok (qa_up (qa_up (qa_up (qa_up m (5 + 26 * m 0) 1) (6 + 26 * m 0) 1) (7 + 26 * m 0) (-1)) 0 (m 0 + 1)) B := by
  obtain ⟨k0, k1, k2, k3, k4, k5, k6, k7, k8⟩ := hk
  have e : ∀ q : Int, q ≠ 0 → q ≠ 5 + 26 * m 0 → q ≠ 6 + 26 * m 0 → q ≠ 7 + 26 * m 0 → (qa_up (qa_up (qa_up (qa_up m (5 + 26 * m 0) 1) (6 + 26 * m 0) 1) (7 + 26 * m 0) (-1)) 0 (m 0 + 1)) q = m q := fun q q0 q1 q2 q3 => by rw [qa_up_ne q0, qa_up_ne q3, qa_up_ne q2, qa_up_ne q1]
  have e0 : (qa_up (qa_up (qa_up (qa_up m (5 + 26 * m 0) 1) (6 + 26 * m 0) 1) (7 + 26 * m 0) (-1)) 0 (m 0 + 1)) 0 = m 0 + 1 := qa_up_eq _ _ _
  have e5 : (qa_up (qa_up (qa_up (qa_up m (5 + 26 * m 0) 1) (6 + 26 * m 0) 1) (7 + 26 * m 0) (-1)) 0 (m 0 + 1)) (5 + 26 * m 0) = 1 := by rw [qa_up_ne (by omega), qa_up_ne (by omega), qa_up_ne (by omega), qa_up_eq]
  have e6 : (qa_up (qa_up (qa_up (qa_up m (5 + 26 * m 0) 1) (6 + 26 * m 0) 1) (7 + 26 * m 0) (-1)) 0 (m 0 + 1)) (6 + 26 * m 0) = 1 := by rw [qa_up_ne (by omega), qa_up_ne (by omega), qa_up_eq]
  have e7 : (qa_up (qa_up (qa_up (qa_up m (5 + 26 * m 0) 1) (6 + 26 * m 0) 1) (7 + 26 * m 0) (-1)) 0 (m 0 + 1)) (7 + 26 * m 0) = -1 := by rw [qa_up_ne (by omega), qa_up_eq]
  generalize (qa_up (qa_up (qa_up (qa_up m (5 + 26 * m 0) 1) (6 + 26 * m 0) 1) (7 + 26 * m 0) (-1)) 0 (m 0 + 1)) = m1 at *
  have en : ∀ i : Int, sm_n m1 i = sm_n m i := fun i => e _ (by omega) (by omega) (by omega) (by omega)
  refine ⟨by omega, by rw [e 1 (by omega) (by omega) (by omega) (by omega)]; exact k1, by rw [e 2 (by omega) (by omega) (by omega) (by omega)]; exact k2, by rw [e 3 (by omega) (by omega) (by omega) (by omega)]; exact k3, fun i i0 i1 => ?_, fun i i0 i1 => ?_, fun i i0 i1 => ?_, ?_, ?_⟩
  · exact (sm_eq.rf m m1 i (fun q q0 q1 q2 _ => e q (by omega) (by omega) (by omega) (by omega)) (k4 i i0 i1).1.2).okp (k4 i i0 i1)
  · by_cases hi : i = m 0
    · subst hi
      have h6 := k6 (m 0) (Int.le_refl _) h
      rw [e5, e6, e7, e (8 + 26 * m 0) (by omega) (by omega) (by omega) (by omega), e (9 + 26 * m 0) (by omega) (by omega) (by omega) (by omega), e0]
      omega
    · have h5 := k5 i i0 (by omega)
      rw [e (5 + 26 * i) (by omega) (by omega) (by omega) (by omega), e (6 + 26 * i) (by omega) (by omega) (by omega) (by omega), e (7 + 26 * i) (by omega) (by omega) (by omega) (by omega), e (8 + 26 * i) (by omega) (by omega) (by omega) (by omega), e (9 + 26 * i) (by omega) (by omega) (by omega) (by omega), e0]
      omega
  · have h6 := k6 i (by omega) i1
    rw [en, e (8 + 26 * i) (by omega) (by omega) (by omega) (by omega), e (9 + 26 * i) (by omega) (by omega) (by omega) (by omega)]
    exact h6
  · rw [e 2 (by omega) (by omega) (by omega) (by omega)]
    refine ⟨by show m1 134 = 0; rw [e 134 (by omega) (by omega) (by omega) (by omega)]; exact k7.1, fun j j0 j1 => ?_, fun i j i0 ij j1 => ?_⟩
    · show 0 ≤ m1 (134 + 2 * j) ∧ m1 (134 + 2 * j) ≤ 999
      rw [e _ (by omega) (by omega) (by omega) (by omega)]; exact k7.2.1 j j0 j1
    · show m1 (134 + 2 * i) < m1 (134 + 2 * j)
      rw [e _ (by omega) (by omega) (by omega) (by omega), e _ (by omega) (by omega) (by omega) (by omega)]; exact k7.2.2 i j i0 ij j1
  · rw [e 2 (by omega) (by omega) (by omega) (by omega)]
    intro j j0 j1
    show 30 ≤ m1 (135 + 2 * j) ∧ m1 (135 + 2 * j) ≤ 240
    rw [e _ (by omega) (by omega) (by omega) (by omega)]; exact k8 j j0 j1
/-- where a part's own places alone have changed -/
theorem sm_ok.inP {m m1 : Int → Int} {B p : Int} (hk : sm_ok m B) (hp : 0 ≤ p ∧ p < m 0) (e : ∀ q : Int, (q < 4 + 26 * p ∨ 30 + 26 * p ≤ q) → m1 q = m q) (hp1 : sm_okp m1 p) (h5 : (1 ≤ m1 (5 + 26 * p) ∧ m1 (5 + 26 * p) ≤ 99) ∧ (1 ≤ m1 (6 + 26 * p) ∧ m1 (6 + 26 * p) ≤ 99) ∧ (-1 ≤ m1 (7 + 26 * p) ∧ m1 (7 + 26 * p) < m 0 ∧ m1 (7 + 26 * p) ≠ p) ∧ (0 ≤ m1 (8 + 26 * p) ∧ m1 (8 + 26 * p) ≤ B) ∧ (0 ≤ m1 (9 + 26 * p) ∧ m1 (9 + 26 * p) ≤ B)) : sm_ok m1 B := by
  obtain ⟨k0, k1, k2, k3, k4, k5, k6, k7, k8⟩ := hk
  have e0 := e 0 (by omega)
  refine ⟨by omega, by rw [e 1 (by omega)]; exact k1, by rw [e 2 (by omega)]; exact k2, by rw [e 3 (by omega)]; exact k3, fun i i0 i1 => ?_, fun i i0 i1 => ?_, fun i i0 i1 => ?_, ?_, ?_⟩
  · by_cases hi : i = p
    · rw [hi]; exact hp1
    · exact (sm_eq.rf m m1 i (fun q q0 q1 q2 _ => e q (by omega)) (k4 i i0 i1).1.2).okp (k4 i i0 i1)
  · by_cases hi : i = p
    · rw [hi, e0]; exact h5
    · have h9 := k5 i i0 (by omega)
      rw [e (5 + 26 * i) (by omega), e (6 + 26 * i) (by omega), e (7 + 26 * i) (by omega), e (8 + 26 * i) (by omega), e (9 + 26 * i) (by omega), e0]
      exact h9
  · have h6 := k6 i (by omega) i1
    have en : sm_n m1 i = sm_n m i := e _ (by omega)
    rw [en, e (8 + 26 * i) (by omega), e (9 + 26 * i) (by omega)]
    exact h6
  · rw [e 2 (by omega)]
    refine ⟨by show m1 134 = 0; rw [e 134 (by omega)]; exact k7.1, fun j j0 j1 => ?_, fun i j i0 ij j1 => ?_⟩
    · show 0 ≤ m1 (134 + 2 * j) ∧ m1 (134 + 2 * j) ≤ 999
      rw [e _ (by omega)]; exact k7.2.1 j j0 j1
    · show m1 (134 + 2 * i) < m1 (134 + 2 * j)
      rw [e _ (by omega), e _ (by omega)]; exact k7.2.2 i j i0 ij j1
  · rw [e 2 (by omega)]
    intro j j0 j1
    show 30 ≤ m1 (135 + 2 * j) ∧ m1 (135 + 2 * j) ≤ 240
    rw [e _ (by omega)]; exact k8 j j0 j1
theorem so_part_ok {m : Int → Int} {B : Int} (hk : sm_ok m B) : sm_rk m B (so_part m) := by
  have k0 := hk.1
  unfold so_part
  split
  · exact sm_rk.bad hk (by omega)
  · exact sm_rk.good ((hk.part (by omega)).up (by omega)) (by omega)
theorem so_note_ok {m : Int → Int} {B p x y : Int} (hk : sm_ok m B) (hx : -1 ≤ x ∧ x ≤ 35) : sm_rk m B (so_note m p x y) := by
  have k0 := hk.1
  unfold so_note
  by_cases h1 : ¬ (0 ≤ p ∧ p < m 0)
  · rw [if_pos h1]; exact sm_rk.bad hk (by omega)
  rw [if_neg h1]
  by_cases h2 : ¬ (1 ≤ y ∧ y ≤ 12)
  · rw [if_pos h2]; exact sm_rk.bad hk (by omega)
  rw [if_neg h2]
  by_cases h3 : 10 ≤ sm_n m p
  · rw [if_pos h3]; exact sm_rk.bad hk (by omega)
  rw [if_neg h3]
  have kp := hk.2.2.2.2.1 p (by omega) (by omega)
  have kn := kp.1
  have h5 := hk.2.2.2.2.2.1 p (by omega) (by omega)
  have e : ∀ q : Int, q ≠ 4 + 26 * p → q ≠ 10 + 26 * p + 2 * sm_n m p → q ≠ 11 + 26 * p + 2 * sm_n m p → (qa_up (qa_up (qa_up m (10 + 26 * p + 2 * sm_n m p) x) (11 + 26 * p + 2 * sm_n m p) y) (4 + 26 * p) (sm_n m p + 1)) q = m q := fun q q0 q1 q2 => by rw [qa_up_ne q0, qa_up_ne q2, qa_up_ne q1]
  have e1 : (qa_up (qa_up (qa_up m (10 + 26 * p + 2 * sm_n m p) x) (11 + 26 * p + 2 * sm_n m p) y) (4 + 26 * p) (sm_n m p + 1)) (4 + 26 * p) = sm_n m p + 1 := qa_up_eq _ _ _
  have e2 : (qa_up (qa_up (qa_up m (10 + 26 * p + 2 * sm_n m p) x) (11 + 26 * p + 2 * sm_n m p) y) (4 + 26 * p) (sm_n m p + 1)) (10 + 26 * p + 2 * sm_n m p) = x := by rw [qa_up_ne (by omega), qa_up_ne (by omega), qa_up_eq]
  have e3 : (qa_up (qa_up (qa_up m (10 + 26 * p + 2 * sm_n m p) x) (11 + 26 * p + 2 * sm_n m p) y) (4 + 26 * p) (sm_n m p + 1)) (11 + 26 * p + 2 * sm_n m p) = y := by rw [qa_up_ne (by omega), qa_up_eq]
  refine sm_rk.good ?_ (by omega)
  generalize (qa_up (qa_up (qa_up m (10 + 26 * p + 2 * sm_n m p) x) (11 + 26 * p + 2 * sm_n m p) y) (4 + 26 * p) (sm_n m p + 1)) = m1 at *
  have en : sm_n m1 p = sm_n m p + 1 := e1
  refine (hk.inP (p := p) (by omega) (fun q hq => e q (by omega) (by omega) (by omega)) ⟨by omega, fun j j0 j1 => ?_, fun j j0 j1 => ?_⟩ ?_).up (by omega)
  · show -1 ≤ m1 (10 + 26 * p + 2 * j) ∧ m1 (10 + 26 * p + 2 * j) ≤ 35
    by_cases hj : j = sm_n m p
    · rw [hj, e2]; exact hx
    · rw [e _ (by omega) (by omega) (by omega)]; exact kp.2.1 j j0 (by omega)
  · show 1 ≤ m1 (11 + 26 * p + 2 * j) ∧ m1 (11 + 26 * p + 2 * j) ≤ 12
    by_cases hj : j = sm_n m p
    · rw [hj, e3]; omega
    · rw [e _ (by omega) (by omega) (by omega)]; exact kp.2.2 j j0 (by omega)
  · rw [e (5 + 26 * p) (by omega) (by omega) (by omega), e (6 + 26 * p) (by omega) (by omega) (by omega), e (7 + 26 * p) (by omega) (by omega) (by omega), e (8 + 26 * p) (by omega) (by omega) (by omega), e (9 + 26 * p) (by omega) (by omega) (by omega)]
    exact h5
theorem so_pitch_ok {m : Int → Int} {B p x y : Int} (hk : sm_ok m B) : sm_rk m B (so_pitch m p x y) := by
  unfold so_pitch
  by_cases h1 : ¬ (0 ≤ p ∧ p < m 0)
  · rw [if_pos h1]; exact sm_rk.bad hk (by omega)
  rw [if_neg h1]
  by_cases h2 : ¬ (0 ≤ x ∧ x ≤ 35)
  · rw [if_pos h2]; exact sm_rk.bad hk (by omega)
  rw [if_neg h2]
  exact so_note_ok hk (by omega)
theorem so_last_ok {m : Int → Int} {B p : Int} (hk : sm_ok m B) : sm_rk m B (so_last m p) := by
  have k0 := hk.1
  unfold so_last
  by_cases h1 : ¬ (0 ≤ p ∧ p < m 0)
  · rw [if_pos h1]; exact sm_rk.bad hk (by omega)
  rw [if_neg h1]
  by_cases h2 : sm_n m p = 0
  · rw [if_pos h2]; exact sm_rk.bad hk (by omega)
  rw [if_neg h2]
  have kp := hk.2.2.2.2.1 p (by omega) (by omega)
  have kn := kp.1
  have h5 := hk.2.2.2.2.2.1 p (by omega) (by omega)
  have e : ∀ q : Int, q ≠ 4 + 26 * p → q ≠ 10 + 26 * p + 2 * (sm_n m p - 1) → q ≠ 11 + 26 * p + 2 * (sm_n m p - 1) → sm_last m p q = m q := fun q q0 q1 q2 => by unfold sm_last; rw [qa_up_ne q0, qa_up_ne q2, qa_up_ne q1]
  have en : sm_n (sm_last m p) p = sm_n m p - 1 := qa_up_eq _ _ _
  have hp1 : sm_okp (sm_last m p) p := by
    refine ⟨by omega, fun j j0 j1 => ?_, fun j j0 j1 => ?_⟩
    · show -1 ≤ sm_last m p (10 + 26 * p + 2 * j) ∧ sm_last m p (10 + 26 * p + 2 * j) ≤ 35
      rw [e _ (by omega) (by omega) (by omega)]; exact kp.2.1 j j0 (by omega)
    · show 1 ≤ sm_last m p (11 + 26 * p + 2 * j) ∧ sm_last m p (11 + 26 * p + 2 * j) ≤ 12
      rw [e _ (by omega) (by omega) (by omega)]; exact kp.2.2 j j0 (by omega)
  have hw := sm_wh_b hp1
  refine sm_rk.good ((hk.inP (p := p) (by omega) (fun q hq => e q (by omega) (by omega) (by omega)) hp1 ?_).up (by omega)) (by omega)
  rw [e (5 + 26 * p) (by omega) (by omega) (by omega), e (6 + 26 * p) (by omega) (by omega) (by omega), e (7 + 26 * p) (by omega) (by omega) (by omega), e (8 + 26 * p) (by omega) (by omega) (by omega), e (9 + 26 * p) (by omega) (by omega) (by omega)]
  exact h5
theorem so_move_ok {m : Int → Int} {B p b : Int} (hk : sm_ok m B) : sm_rk m B (so_move m p b) := by
  have k0 := hk.1
  unfold so_move
  by_cases h1 : ¬ (0 ≤ p ∧ p < m 0)
  · rw [if_pos h1]; exact sm_rk.bad hk (by omega)
  rw [if_neg h1]
  by_cases h2 : ¬ (-35 ≤ b ∧ b ≤ 35)
  · rw [if_pos h2]; exact sm_rk.bad hk (by omega)
  rw [if_neg h2]
  by_cases h3 : sp_fo (sm_pf m p) b (sm_n m p).toNat 0 ≠ -1
  · rw [if_pos h3]; exact sm_rk.bad hk (by omega)
  rw [if_neg h3]
  have kp := hk.2.2.2.2.1 p (by omega) (by omega)
  have kn := kp.1
  have h5 := hk.2.2.2.2.2.1 p (by omega) (by omega)
  have hct := sp_ct_b (sm_pf m p) (sm_n m p).toNat
  have en : sm_n (sm_mv m p b) p = sm_n m p := sm_mv_o (by omega)
  refine sm_rk.good ((hk.inP (m1 := sm_mv m p b) (p := p) (by omega) (fun q hq => sm_mv_o (by omega)) ⟨by omega, fun j j0 j1 => ?_, fun j j0 j1 => ?_⟩ ?_).up (by omega)) (by split <;> omega)
  · rw [sm_mv_p (p1 := sm_pf m p) rfl j0 (by omega)]
    exact sp_sh_b kn (by omega) rfl (kp.2.1 j j0 (by omega)) j0 (by omega)
  · show 1 ≤ sm_mv m p b (11 + 26 * p + 2 * j) ∧ sm_mv m p b (11 + 26 * p + 2 * j) ≤ 12
    rw [sm_mv_o (by omega)]; exact kp.2.2 j j0 (by omega)
  · rw [sm_mv_o (q := 5 + 26 * p) (by omega), sm_mv_o (q := 6 + 26 * p) (by omega), sm_mv_o (q := 7 + 26 * p) (by omega), sm_mv_o (q := 8 + 26 * p) (by omega), sm_mv_o (q := 9 + 26 * p) (by omega)]
    exact h5
theorem so_tune_ok {m : Int → Int} {B p u d : Int} (hk : sm_ok m B) : sm_rk m B (so_tune m p u d) := by
  have k0 := hk.1
  unfold so_tune
  by_cases h1 : ¬ (0 ≤ p ∧ p < m 0)
  · rw [if_pos h1]; exact sm_rk.bad hk (by omega)
  rw [if_neg h1]
  by_cases h2 : ¬ ((1 ≤ u ∧ u ≤ 99) ∧ 1 ≤ d ∧ d ≤ 99)
  · rw [if_pos h2]; exact sm_rk.bad hk (by omega)
  rw [if_neg h2]
  have h3 : (1 ≤ u ∧ u ≤ 99) ∧ 1 ≤ d ∧ d ≤ 99 := Classical.not_not.mp h2
  have kp := hk.2.2.2.2.1 p (by omega) (by omega)
  have h5 := hk.2.2.2.2.2.1 p (by omega) (by omega)
  have g0 : (Int.gcd u d : Int) ≠ 0 := by
    intro h
    have := Int.gcd_eq_zero_iff.mp (Int.ofNat.inj h)
    omega
  have g1 : (1 : Int) ≤ Int.gcd u d := by omega
  have du : (Int.gcd u d : Int) ∣ u := Int.gcd_dvd_left ..
  have dd : (Int.gcd u d : Int) ∣ d := Int.gcd_dvd_right ..
  have gl : (Int.gcd u d : Int) ≤ u := Int.le_of_dvd (by omega) du
  have gl2 : (Int.gcd u d : Int) ≤ d := Int.le_of_dvd (by omega) dd
  have q1 : u / (Int.gcd u d : Int) ≤ u := Int.ediv_le_self _ (by omega)
  have q2 : d / (Int.gcd u d : Int) ≤ d := Int.ediv_le_self _ (by omega)
  have q3 : 1 ≤ u / (Int.gcd u d : Int) := (Int.le_ediv_iff_mul_le (by omega)).mpr (by omega)
  have q4 : 1 ≤ d / (Int.gcd u d : Int) := (Int.le_ediv_iff_mul_le (by omega)).mpr (by omega)
  refine sm_rk.good ?_ (by omega)
  generalize u / (Int.gcd u d : Int) = x at *
  generalize d / (Int.gcd u d : Int) = y at *
  have e : ∀ q : Int, q ≠ 5 + 26 * p → q ≠ 6 + 26 * p → qa_up (qa_up m (5 + 26 * p) x) (6 + 26 * p) y q = m q := fun q a b => by rw [qa_up_ne b, qa_up_ne a]
  refine (hk.inP (p := p) (by omega) (fun q hq => e q (by omega) (by omega)) ((sm_eq.rf m _ p (fun q a b c9 _ => e q (by omega) (by omega)) kp.1.2).okp kp) ?_).up (by omega)
  rw [qa_up_eq, qa_up_ne (show (5 : Int) + 26 * p ≠ 6 + 26 * p by omega), qa_up_eq, e (7 + 26 * p) (by omega) (by omega), e (8 + 26 * p) (by omega) (by omega), e (9 + 26 * p) (by omega) (by omega)]
  omega
theorem sm_ok.cue {m : Int → Int} {B p v : Int} (hk : sm_ok m B) (hp : 0 ≤ p ∧ p < m 0) (hv : -1 ≤ v ∧ v < m 0 ∧ v ≠ p) : sm_ok (qa_up m (7 + 26 * p) v) B := by
  have k0 := hk.1
  have kp := hk.2.2.2.2.1 p (by omega) (by omega)
  have h5 := hk.2.2.2.2.2.1 p (by omega) (by omega)
  refine hk.inP (p := p) hp (fun q hq => qa_up_ne (by omega)) ((sm_eq.rf m _ p (fun q a b c9 _ => qa_up_ne (by omega)) kp.1.2).okp kp) ?_
  rw [qa_up_eq, qa_up_ne (by omega), qa_up_ne (by omega), qa_up_ne (by omega), qa_up_ne (by omega)]
  omega
theorem so_cue_ok {m : Int → Int} {B p o : Int} (hk : sm_ok m B) : sm_rk m B (so_cue m p o) := by
  have k0 := hk.1
  have hb := sm_cu_b (qa_up m (7 + 26 * p) o) (m 0).toNat
  unfold so_cue
  by_cases h1 : ¬ ((0 ≤ p ∧ p < m 0) ∧ 0 ≤ o ∧ o < m 0)
  · rw [if_pos h1]; exact sm_rk.bad hk (by omega)
  rw [if_neg h1]
  by_cases h2 : p = o
  · rw [if_pos h2]; exact sm_rk.bad hk (by omega)
  rw [if_neg h2]
  by_cases h3 : m (7 + 26 * p) = o
  · rw [if_pos h3]; exact sm_rk.bad hk (by omega)
  rw [if_neg h3]
  exact sm_rk.good ((hk.cue (by omega) (by omega)).up (by omega)) (by omega)
theorem so_alone_ok {m : Int → Int} {B p : Int} (hk : sm_ok m B) : sm_rk m B (so_alone m p) := by
  have k0 := hk.1
  have hb := sm_cu_b (qa_up m (7 + 26 * p) (-1)) (m 0).toNat
  unfold so_alone
  by_cases h1 : ¬ (0 ≤ p ∧ p < m 0)
  · rw [if_pos h1]; exact sm_rk.bad hk (by omega)
  rw [if_neg h1]
  by_cases h3 : m (7 + 26 * p) = -1
  · rw [if_pos h3]; exact sm_rk.bad hk (by omega)
  rw [if_neg h3]
  exact sm_rk.good ((hk.cue (by omega) (by omega)).up (by omega)) (by omega)
/-- where the first four and the tempos alone have changed -/
theorem sm_ok.head {m m1 : Int → Int} {B B1 : Int} (hk : sm_ok m B) (hB : B ≤ B1) (e : ∀ q : Int, (q = 0 ∨ (4 ≤ q ∧ q < 134)) → m1 q = m q) (h1 : 1 ≤ m1 1 ∧ m1 1 ≤ 48) (h2 : 1 ≤ m1 2 ∧ m1 2 ≤ 6) (h3 : 0 ≤ m1 3 ∧ m1 3 ≤ B1) (h7 : sp_B6 (m1 2) (fun k => m1 (134 + 2 * k))) (h8 : sp_V6 (m1 2) (fun k => m1 (135 + 2 * k))) : sm_ok m1 B1 := by
  have hk1 := hk.up hB
  obtain ⟨k0, k1, k2, k3, k4, k5, k6, k7, k8⟩ := hk1
  have e0 := e 0 (by omega)
  refine ⟨by omega, h1, h2, h3, fun i i0 i1 => ?_, fun i i0 i1 => ?_, fun i i0 i1 => ?_, h7, h8⟩
  · exact (sm_eq.rf m m1 i (fun q q0 q1 q2 _ => e q (by omega)) (k4 i i0 i1).1.2).okp (k4 i i0 i1)
  · have h9 := k5 i i0 (by omega)
    rw [e (5 + 26 * i) (by omega), e (6 + 26 * i) (by omega), e (7 + 26 * i) (by omega), e (8 + 26 * i) (by omega), e (9 + 26 * i) (by omega), e0]
    exact h9
  · have h6 := k6 i (by omega) i1
    have en : sm_n m1 i = sm_n m i := e _ (by omega)
    rw [en, e (8 + 26 * i) (by omega), e (9 + 26 * i) (by omega)]
    exact h6
theorem so_bar_ok {m : Int → Int} {B t : Int} (hk : sm_ok m B) : sm_rk m B (so_bar m t) := by
  obtain ⟨k0, k1, k2, k3, k4, k5, k6, k7, k8⟩ := id hk
  unfold so_bar
  by_cases h1 : ¬ (1 ≤ t ∧ t ≤ 48)
  · rw [if_pos h1]; exact sm_rk.bad hk (by omega)
  rw [if_neg h1]
  refine sm_rk.good (hk.head (by omega) (fun q hq => qa_up_ne (by omega)) (by rw [qa_up_eq]; omega) (by rw [qa_up_ne (by omega)]; exact k2) (by rw [qa_up_ne (by omega)]; omega) ?_ ?_) (by omega)
  · rw [qa_up_ne (by omega)]
    refine ⟨by show qa_up m 1 t 134 = 0; rw [qa_up_ne (by omega)]; exact k7.1, fun j j0 j1 => ?_, fun i j i0 ij j1 => ?_⟩
    · show 0 ≤ qa_up m 1 t (134 + 2 * j) ∧ qa_up m 1 t (134 + 2 * j) ≤ 999
      rw [qa_up_ne (by omega)]; exact k7.2.1 j j0 j1
    · show qa_up m 1 t (134 + 2 * i) < qa_up m 1 t (134 + 2 * j)
      rw [qa_up_ne (by omega), qa_up_ne (by omega)]; exact k7.2.2 i j i0 ij j1
  · rw [qa_up_ne (by omega)]
    intro j j0 j1
    show 30 ≤ qa_up m 1 t (135 + 2 * j) ∧ qa_up m 1 t (135 + 2 * j) ≤ 240
    rw [qa_up_ne (by omega)]; exact k8 j j0 j1
theorem so_tempo_ok {m : Int → Int} {B b v : Int} (hk : sm_ok m B) : sm_rk m B (so_tempo m b v) := by
  obtain ⟨k0, k1, k2, k3, k4, k5, k6, k7, k8⟩ := id hk
  unfold so_tempo
  by_cases h1 : ¬ ((0 ≤ b ∧ b ≤ 999) ∧ 30 ≤ v ∧ v ≤ 240)
  · rw [if_pos h1]; exact sm_rk.bad hk (by omega)
  rw [if_neg h1]
  have eb := sp_en_b (sm_bf m) b (m 2 - 1).toNat
  rw [show sp_en (sm_bf m) b (m 2 - 1).toNat = sm_e m b from rfl] at eb
  have el : sm_bf m (sm_e m b) ≤ b := sp_en_le (by show m (134 + 2 * 0) ≤ b; have := k7.1; simp only at this; omega) _
  have eg : ∀ j : Int, sm_e m b < j → j ≤ (m 2 - 1).toNat → b < sm_bf m j := fun j j0 j1 => sp_en_gt (m 2 - 1).toNat j j0 j1
  by_cases h2 : sm_bf m (sm_e m b) = b
  · rw [if_pos h2]
    refine sm_rk.good (hk.head (by omega) (fun q hq => qa_up_ne (by omega)) (by rw [qa_up_ne (by omega)]; exact k1) (by rw [qa_up_ne (by omega)]; exact k2) (by rw [qa_up_ne (by omega)]; omega) ?_ ?_) (by omega)
    · rw [qa_up_ne (by omega)]
      refine ⟨by show qa_up m (135 + 2 * sm_e m b) v 134 = 0; rw [qa_up_ne (by omega)]; exact k7.1, fun j j0 j1 => ?_, fun i j i0 ij j1 => ?_⟩
      · show 0 ≤ qa_up m (135 + 2 * sm_e m b) v (134 + 2 * j) ∧ qa_up m (135 + 2 * sm_e m b) v (134 + 2 * j) ≤ 999
        rw [qa_up_ne (by omega)]; exact k7.2.1 j j0 j1
      · show qa_up m (135 + 2 * sm_e m b) v (134 + 2 * i) < qa_up m (135 + 2 * sm_e m b) v (134 + 2 * j)
        rw [qa_up_ne (by omega), qa_up_ne (by omega)]; exact k7.2.2 i j i0 ij j1
    · rw [qa_up_ne (by omega)]
      intro j j0 j1
      show 30 ≤ qa_up m (135 + 2 * sm_e m b) v (135 + 2 * j) ∧ qa_up m (135 + 2 * sm_e m b) v (135 + 2 * j) ≤ 240
      by_cases hj : j = sm_e m b
      · rw [hj, qa_up_eq]; omega
      · rw [qa_up_ne (by omega)]; exact k8 j j0 j1
  rw [if_neg h2]
  by_cases h3 : m 2 = 6
  · rw [if_pos h3]; exact sm_rk.bad hk (by omega)
  rw [if_neg h3]
  generalize sm_e m b = e at *
  have i2 : sm_ins m (e + 1) b v 2 = m 2 + 1 := if_pos rfl
  have io : ∀ q : Int, q ≠ 2 → q < 134 + 2 * (e + 1) → sm_ins m (e + 1) b v q = m q := fun q q0 q1 => by unfold sm_ins; rw [if_neg q0, if_neg (by omega), if_neg (by omega), if_neg (by omega)]
  have ib : ∀ j : Int, 0 ≤ j → j < m 2 + 1 → sm_ins m (e + 1) b v (134 + 2 * j) = (if j ≤ e then sm_bf m j else if j = e + 1 then b else sm_bf m (j - 1)) ∧ sm_ins m (e + 1) b v (135 + 2 * j) = (if j ≤ e then sm_vf m j else if j = e + 1 then v else sm_vf m (j - 1)) := fun j j0 j1 => by
    by_cases c1 : j ≤ e
    · rw [if_pos c1, if_pos c1]
      exact ⟨io _ (by omega) (by omega), io _ (by omega) (by omega)⟩
    · rw [if_neg c1, if_neg c1]
      by_cases c2 : j = e + 1
      · rw [if_pos c2, if_pos c2]
        unfold sm_ins
        constructor
        · rw [if_neg (by omega), if_neg (by omega), if_pos (by omega)]
        · rw [if_neg (by omega), if_neg (by omega), if_neg (by omega), if_pos (by omega)]
      · rw [if_neg c2, if_neg c2]
        unfold sm_ins sm_bf sm_vf
        constructor
        · rw [if_neg (by omega), if_pos (by omega)]; congr 1; omega
        · rw [if_neg (by omega), if_pos (by omega)]; congr 1; omega
  refine sm_rk.good (hk.head (by omega) (fun q hq => io q (by omega) (by omega)) (by rw [io 1 (by omega) (by omega)]; exact k1) (by rw [i2]; omega) (by rw [io 3 (by omega) (by omega)]; omega) ?_ ?_) (by omega)
  · rw [i2]
    refine ⟨?_, fun j j0 j1 => ?_, fun i j i0 ij j1 => ?_⟩
    · show sm_ins m (e + 1) b v (134 + 2 * 0) = 0
      rw [(ib 0 (by omega) (by omega)).1, if_pos (by omega)]; exact k7.1
    · show 0 ≤ sm_ins m (e + 1) b v (134 + 2 * j) ∧ sm_ins m (e + 1) b v (134 + 2 * j) ≤ 999
      rw [(ib j j0 j1).1]
      split
      · exact k7.2.1 j j0 (by omega)
      · split
        · omega
        · exact k7.2.1 (j - 1) (by omega) (by omega)
    · show sm_ins m (e + 1) b v (134 + 2 * i) < sm_ins m (e + 1) b v (134 + 2 * j)
      rw [(ib j (by omega) j1).1, (ib i i0 (by omega)).1]
      by_cases c1 : j ≤ e
      · rw [if_pos c1, if_pos (by omega)]; exact k7.2.2 i j i0 ij (by omega)
      · rw [if_neg c1]
        by_cases c2 : j = e + 1
        · rw [if_pos c2, if_pos (by omega)]
          by_cases c3 : i = e
          · rw [c3]; omega
          · have : sm_bf m i < sm_bf m e := k7.2.2 i e i0 (by omega) (by omega)
            omega
        · rw [if_neg c2]
          by_cases c3 : i ≤ e
          · rw [if_pos c3]; exact k7.2.2 i (j - 1) i0 (by omega) (by omega)
          · rw [if_neg c3]
            by_cases c4 : i = e + 1
            · rw [if_pos c4]; exact eg (j - 1) (by omega) (by omega)
            · rw [if_neg c4]; exact k7.2.2 (i - 1) (j - 1) (by omega) (by omega) (by omega)
  · rw [i2]
    intro j j0 j1
    show 30 ≤ sm_ins m (e + 1) b v (135 + 2 * j) ∧ sm_ins m (e + 1) b v (135 + 2 * j) ≤ 240
    rw [(ib j j0 j1).2]
    split
    · exact k8 j j0 (by omega)
    · split
      · omega
      · exact k8 (j - 1) (by omega) (by omega)
theorem so_play_ok {m : Int → Int} {B b : Int} (hk : sm_ok m B) : sm_rk m B (so_play m b) := by
  obtain ⟨k0, k1, k2, k3, k4, k5, k6, k7, k8⟩ := id hk
  unfold so_play
  by_cases h1 : ¬ (1 ≤ b ∧ b ≤ 20)
  · rw [if_pos h1]; exact sm_rk.bad hk (by omega)
  rw [if_neg h1]
  by_cases h2 : sm_lo m (m 0).toNat = 0
  · rw [if_pos h2]; exact sm_rk.bad hk (by omega)
  rw [if_neg h2]
  have mb := sp_mb (a := b) (b := m 1) (A := 20) (B := 48) (by omega) (by omega)
  have sb := sm_si_b m (b * m 1).toNat
  have hr := sm_run_ok (t := m 3) hk (b * m 1).toNat
  have hr3 := sm_run_o m (m 3) (b * m 1).toNat 3 (by omega)
  refine sm_rk.good ?_ (by omega)
  have hr2 : sm_ok (sm_run m (m 3) (b * m 1).toNat) (B + 960) := hr.up (by omega)
  generalize sm_run m (m 3) (b * m 1).toNat = m2 at *
  obtain ⟨j0, j1, j2, j3, j4, j5, j6, j7, j8⟩ := id hr2
  refine hr2.head (Int.le_refl _) (fun q hq => qa_up_ne (by omega)) (by rw [qa_up_ne (by omega)]; exact j1) (by rw [qa_up_ne (by omega)]; exact j2) (by rw [qa_up_eq]; omega) ?_ ?_
  · rw [qa_up_ne (by omega)]
    refine ⟨by show qa_up m2 3 _ 134 = 0; rw [qa_up_ne (by omega)]; exact j7.1, fun j a0 a1 => ?_, fun i j a0 ij a1 => ?_⟩
    · show 0 ≤ qa_up m2 3 _ (134 + 2 * j) ∧ qa_up m2 3 _ (134 + 2 * j) ≤ 999
      rw [qa_up_ne (by omega)]; exact j7.2.1 j a0 a1
    · show qa_up m2 3 _ (134 + 2 * i) < qa_up m2 3 _ (134 + 2 * j)
      rw [qa_up_ne (by omega), qa_up_ne (by omega)]; exact j7.2.2 i j a0 ij a1
  · rw [qa_up_ne (by omega)]
    intro j a0 a1
    show 30 ≤ qa_up m2 3 _ (135 + 2 * j) ∧ qa_up m2 3 _ (135 + 2 * j) ≤ 240
    rw [qa_up_ne (by omega)]; exact j8 j a0 a1
theorem so_do_ok {m : Int → Int} {B x y z : Int} {k : Nat} (hk : sm_ok m B) (k9 : k < 11) : sm_rk m B (so_do m k x y z) := by
  obtain rfl | rfl | rfl | rfl | rfl | rfl | rfl | rfl | rfl | rfl | rfl : k = 0 ∨ k = 1 ∨ k = 2 ∨ k = 3 ∨ k = 4 ∨ k = 5 ∨ k = 6 ∨ k = 7 ∨ k = 8 ∨ k = 9 ∨ k = 10 := by omega
  · exact so_part_ok hk
  · exact so_pitch_ok hk
  · exact so_note_ok hk (by omega)
  · exact so_last_ok hk
  · exact so_move_ok hk
  · exact so_tune_ok hk
  · exact so_cue_ok hk
  · exact so_alone_ok hk
  · exact so_bar_ok hk
  · exact so_tempo_ok hk
  · exact so_play_ok hk
