/-! what a part plays depends on its notes alone -/
def sm_eq (m m' : Int → Int) (i : Int) : Prop := sm_n m' i = sm_n m i ∧ ∀ j : Int, 0 ≤ j → j < sm_n m i → sm_pf m' i j = sm_pf m i j ∧ sm_lf m' i j = sm_lf m i j
theorem sm_eq.okp {m m' : Int → Int} {i : Int} (h : sm_eq m m' i) (hk : sm_okp m i) : sm_okp m' i := by
  refine ⟨by rw [h.1]; exact hk.1, fun j j0 j1 => ?_, fun j j0 j1 => ?_⟩
  · rw [h.1] at j1; rw [(h.2 j j0 j1).1]; exact hk.2.1 j j0 j1
  · rw [h.1] at j1; rw [(h.2 j j0 j1).2]; exact hk.2.2 j j0 j1
theorem sm_eq.wh {m m' : Int → Int} {i : Int} (h : sm_eq m m' i) (hk : sm_okp m i) : sm_wh m' i = sm_wh m i := sm_wh_ext hk.1.1 h.1 (fun j j0 j1 => (h.2 j j0 j1).2)
theorem sm_eq.ni {m m' : Int → Int} {i tick : Int} (h : sm_eq m m' i) (hk : sm_okp m i) : sm_ni m' i tick = sm_ni m i tick := by
  unfold sm_ni
  rw [h.wh hk, h.1, sp_nI_ext (fun j j0 j1 => (h.2 j j0 j1).2) _ _ _ (Int.le_refl _) (by have := hk.1; omega)]
theorem sm_eq.pi {m m' : Int → Int} {i tick : Int} (h : sm_eq m m' i) (hk : sm_okp m i) : sm_pi m' i tick = sm_pi m i tick := by
  have hb := sm_ni_b (tick := tick) hk
  unfold sm_pi sp_pI
  rw [h.ni hk]
  split
  · rfl
  · exact (h.2 _ (by omega) hb.2).1
theorem sm_eq.of {m m' : Int → Int} {i : Int} (hi : 0 ≤ i ∧ i < 5) (hk : sm_okp m i) (h : ∀ q : Int, 4 ≤ q → q < 134 → (q - 4) % 26 ≠ 4 → (q - 4) % 26 ≠ 5 → m' q = m q) : sm_eq m m' i := by
  have hn := hk.1
  refine ⟨h _ (by omega) (by omega) (by omega) (by omega), fun j j0 j1 => ⟨h _ (by omega) (by omega) (by omega) (by omega), h _ (by omega) (by omega) (by omega) (by omega)⟩⟩
/-- the first k parts have been asked whether they sound -/
def sm_sd (m : Int → Int) (tick : Int) (k : Nat) : Int → Int := fun q => if 4 ≤ q ∧ q < 4 + 26 * k ∧ (q - 4) % 26 = 4 ∧ sm_pi m ((q - 4) / 26) tick ≠ -1 then m q + 1 else m q
theorem sm_sd_o {m : Int → Int} {tick : Int} {k : Nat} {q : Int} (h : ¬ (4 ≤ q ∧ q < 4 + 26 * k ∧ (q - 4) % 26 = 4)) : sm_sd m tick k q = m q := if_neg fun z => h ⟨z.1, z.2.1, z.2.2.1⟩
theorem sm_al_b (m : Int → Int) (tick : Int) : ∀ k : Nat, 0 ≤ sm_al m tick k ∧ (0 < k → sm_al m tick k < k)
  | 0 => ⟨Int.le_refl _, fun h => absurd h (by omega)⟩
  | k + 1 => by
    have := sm_al_b m tick k
    unfold sm_al
    split
    · refine ⟨this.1, fun _ => ?_⟩
      by_cases h : 0 < k
      · have := this.2 h; omega
      · have : k = 0 := by omega
        subst this
        show (0 : Int) < _
        omega
    · omega
theorem sm_tick_o {m : Int → Int} {tick q : Int} (h : q < 4 ∨ 134 ≤ q ∨ ((q - 4) % 26 ≠ 4 ∧ (q - 4) % 26 ≠ 5)) : sm_tick m tick q = m q := by
  unfold sm_tick
  rw [if_neg (by omega), if_neg (by omega)]
theorem sm_tick_ok {m : Int → Int} {tick B : Int} (hk : sm_ok m B) : sm_ok (sm_tick m tick) (B + 1) := by
  obtain ⟨k0, k1, k2, k3, k4, k5, k6, k7, k8⟩ := hk
  have e : ∀ q : Int, (q < 4 ∨ 134 ≤ q ∨ ((q - 4) % 26 ≠ 4 ∧ (q - 4) % 26 ≠ 5)) → sm_tick m tick q = m q := fun q h => sm_tick_o h
  have e2 : ∀ q : Int, sm_tick m tick q = m q ∨ (sm_tick m tick q = m q + 1 ∧ (q - 4) / 26 < m 0 ∧ 4 ≤ q) := by
    intro q
    unfold sm_tick
    split
    · exact Or.inr ⟨rfl, by omega, by omega⟩
    · split
      · exact Or.inr ⟨rfl, by omega, by omega⟩
      · exact Or.inl rfl
  refine ⟨by rw [e 0 (by omega)]; exact k0, by rw [e 1 (by omega)]; exact k1, by rw [e 2 (by omega)]; exact k2, by rw [e 3 (by omega)]; omega, fun i i0 i1 => (sm_eq.of ⟨i0, i1⟩ (k4 i i0 i1) (fun q q0 q1 q2 q3 => e q (by omega))).okp (k4 i i0 i1), fun i i0 i1 => ?_, fun i i0 i1 => ?_, ?_, ?_⟩
  · rw [e 0 (by omega)] at i1 ⊢
    have h := k5 i i0 i1
    rw [e (5 + 26 * i) (by omega), e (6 + 26 * i) (by omega), e (7 + 26 * i) (by omega)]
    have h1 := e2 (8 + 26 * i)
    have h2 := e2 (9 + 26 * i)
    refine ⟨h.1, h.2.1, h.2.2.1, ?_, ?_⟩ <;> omega
  · rw [e 0 (by omega)] at i0
    have h := k6 i i0 i1
    have h0 := k0
    have h1 := e2 (8 + 26 * i)
    have h2 := e2 (9 + 26 * i)
    exact ⟨(e _ (by omega)).trans h.1, by omega, by omega⟩
  · have ef : (fun k => sm_tick m tick (134 + 2 * k)) 0 = m 134 := e 134 (by omega)
    refine ⟨ef.trans k7.1, fun j j0 j1 => ?_, fun i j i0 i1 i2 => ?_⟩
    · rw [e 2 (by omega)] at j1
      show 0 ≤ sm_tick m tick (134 + 2 * j) ∧ sm_tick m tick (134 + 2 * j) ≤ 999
      rw [e (134 + 2 * j) (by omega)]; exact k7.2.1 j j0 j1
    · rw [e 2 (by omega)] at i2
      show sm_tick m tick (134 + 2 * i) < sm_tick m tick (134 + 2 * j)
      rw [e (134 + 2 * i) (by omega), e (134 + 2 * j) (by omega)]; exact k7.2.2 i j i0 i1 i2
  · intro j j0 j1
    rw [e 2 (by omega)] at j1
    show 30 ≤ sm_tick m tick (135 + 2 * j) ∧ sm_tick m tick (135 + 2 * j) ≤ 240
    rw [e (135 + 2 * j) (by omega)]; exact k8 j j0 j1
/-- k ticks from t played -/
def sm_run (m : Int → Int) (t : Int) : Nat → Int → Int
  | 0 => m
  | k + 1 => sm_tick (sm_run m t k) (t + k)
theorem sm_run_o (m : Int → Int) (t : Int) : ∀ (k : Nat) (q : Int), (q < 4 ∨ 134 ≤ q ∨ ((q - 4) % 26 ≠ 4 ∧ (q - 4) % 26 ≠ 5)) → sm_run m t k q = m q
  | 0, _, _ => rfl
  | k + 1, q, h => (sm_tick_o h).trans (sm_run_o m t k q h)
theorem sm_run_ok {m : Int → Int} {t B : Int} (hk : sm_ok m B) : ∀ k : Nat, sm_ok (sm_run m t k) (B + k)
  | 0 => by rw [show B + ((0 : Nat) : Int) = B by omega]; exact hk
  | k + 1 => by
    have h := sm_tick_ok (tick := t + k) (sm_run_ok (t := t) hk k)
    rw [show B + ((k + 1 : Nat) : Int) = B + k + 1 by omega]
    exact h
theorem sm_run_eq {m : Int → Int} {t B : Int} (hk : sm_ok m B) (k : Nat) (i : Int) (hi : 0 ≤ i ∧ i < 5) : sm_eq m (sm_run m t k) i := sm_eq.of hi (hk.2.2.2.2.1 i hi.1 hi.2) (fun q q0 q1 q2 q3 => sm_run_o m t k q (by omega))
theorem sm_so_ext {m m' : Int → Int} {tick : Int} : ∀ n : Nat, (∀ i : Int, 0 ≤ i → i < n → sm_pi m' i tick = sm_pi m i tick) → sm_so m' tick n = sm_so m tick n
  | 0, _ => rfl
  | n + 1, h => by
    unfold sm_so
    rw [sm_so_ext n (fun i i0 i1 => h i i0 (by omega)), h n (by omega) (by omega)]
theorem sm_run_so {m : Int → Int} {t tick B : Int} (hk : sm_ok m B) (k : Nat) : sm_so (sm_run m t k) tick ((sm_run m t k) 0).toNat = sm_so m tick (m 0).toNat := by
  rw [sm_run_o m t k 0 (by omega)]
  have := hk.1
  exact sm_so_ext _ (fun i i0 i1 => (sm_run_eq hk k i ⟨i0, by omega⟩).pi (hk.2.2.2.2.1 i i0 (by omega)))
def so_play (m : Int → Int) (bars : Int) : sp_R :=
  if ¬ (1 ≤ bars ∧ bars ≤ 20) then (-11, 0, m) else if sm_lo m (m 0).toNat = 0 then (-8, m 0, m) else (sm_si m (bars * m 1).toNat, 0, qa_up (sm_run m (m 3) (bars * m 1).toNat) 3 (m 3 + bars * m 1))
