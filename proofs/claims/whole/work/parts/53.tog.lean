/-! when all end together: multiples of the longest come to the product -/
def sm_W (m : Int → Int) (j x : Int) : Prop := sm_wh m j < 1 ∨ sm_wh m j ∣ x
theorem sp_lcm_d {t w : Int} (ht : 1 ≤ t ∧ t ≤ 999999) (hw : 1 ≤ w ∧ w ≤ 999999) : 1 ≤ t * (w / sp_gd 64 w t) ∧ t ∣ t * (w / sp_gd 64 w t) ∧ w ∣ t * (w / sp_gd 64 w t) ∧ ∀ x : Int, t ∣ x → w ∣ x → t * (w / sp_gd 64 w t) ∣ x := by
  rw [sp_gd_all (by omega) (by omega) (by omega)]
  have hg : 0 < ((Int.gcd w t : Nat) : Int) := by
    have := Int.gcd_pos_of_ne_zero_left (a := w) t (by omega)
    omega
  have hl := Int.gcd_mul_lcm w t
  have d1 : ((Int.gcd w t : Nat) : Int) ∣ w := Int.gcd_dvd_left w t
  have d2 : ((Int.gcd w t : Nat) : Int) ∣ t := Int.gcd_dvd_right w t
  have hl2 : ((Int.gcd w t : Nat) : Int) * ((Int.lcm w t : Nat) : Int) = w * t := by
    have h3 : (((Int.gcd w t * Int.lcm w t : Nat)) : Int) = ((w.natAbs * t.natAbs : Nat) : Int) := by rw [hl]
    rw [Int.natCast_mul, Int.natCast_mul, Int.natAbs_of_nonneg (by omega), Int.natAbs_of_nonneg (by omega)] at h3
    exact h3
  have hx : ∀ x : Int, t ∣ x → w ∣ x → ((Int.lcm w t : Nat) : Int) ∣ x := fun x h1 h2 => Int.coe_lcm_dvd h2 h1
  generalize ((Int.lcm w t : Nat) : Int) = L at *
  generalize ((Int.gcd w t : Nat) : Int) = g at *
  obtain ⟨c, hc⟩ := d1
  obtain ⟨e, he⟩ := d2
  have e2 : w / g = c := by rw [hc, Int.mul_ediv_cancel_left _ (by omega)]
  have eL : L = t * c := by
    have h4 : g * L = g * (t * c) := by rw [hl2, hc, Int.mul_comm t c, Int.mul_assoc]
    exact Int.eq_of_mul_eq_mul_left (by omega) h4
  rw [e2]
  have hc0 : 1 ≤ c := by
    rcases Int.lt_or_le 0 c with h | h
    · omega
    · have := Int.mul_nonneg (Int.le_of_lt hg) (by omega : 0 ≤ -c)
      rw [Int.mul_neg, ← hc] at this
      omega
  refine ⟨?_, ⟨c, rfl⟩, ⟨e, ?_⟩, fun x h1 h2 => ?_⟩
  · have := Int.mul_le_mul_of_nonneg_left hc0 (show 0 ≤ t by omega)
    omega
  · rw [hc, he, Int.mul_right_comm]
  · rw [← eL]
    exact hx x h1 h2
theorem sm_bm_m {m : Int → Int} (hw : ∀ j : Int, 0 ≤ j → j < 5 → sm_wh m j ≤ 999999) : ∀ (f : Nat) (i t : Int), 0 ≤ i → i + f ≤ 5 → (1 ≤ t ∧ t ≤ 999999) →
    (sm_bm m f i t = -1 ∧ ∀ x : Int, 1 ≤ x → x ≤ 999999 → t ∣ x → ¬ ∀ j : Int, i ≤ j → j < i + f → sm_W m j x) ∨
    ((1 ≤ sm_bm m f i t ∧ sm_bm m f i t ≤ 999999) ∧ t ∣ sm_bm m f i t ∧ (∀ j : Int, i ≤ j → j < i + f → sm_W m j (sm_bm m f i t)) ∧ ∀ x : Int, t ∣ x → (∀ j : Int, i ≤ j → j < i + f → sm_W m j x) → sm_bm m f i t ∣ x)
  | 0, i, t, h0, h1, ht => Or.inr ⟨ht, Int.dvd_refl t, fun j a b => absurd b (by omega), fun x hx _ => hx⟩
  | f + 1, i, t, h0, h1, ht => by
    obtain ⟨t2, e2⟩ : ∃ t2, t2 = (if sm_wh m i ≤ 0 then t else t * (sm_wh m i / sp_gd 64 (sm_wh m i) t)) := ⟨_, rfl⟩
    have es : sm_bm m (f + 1) i t = if 999999 < t2 then -1 else sm_bm m f (i + 1) t2 := by rw [e2]; rfl
    have hwi := hw i h0 (by omega)
    have ht2 : 1 ≤ t2 ∧ t ∣ t2 ∧ sm_W m i t2 ∧ ∀ x : Int, t ∣ x → sm_W m i x → t2 ∣ x := by
      rw [e2]
      by_cases hz : sm_wh m i ≤ 0
      · rw [if_pos hz]
        exact ⟨ht.1, Int.dvd_refl t, Or.inl (by omega), fun x hx _ => hx⟩
      · rw [if_neg hz]
        obtain ⟨a, b, c, d⟩ := sp_lcm_d ht (show 1 ≤ sm_wh m i ∧ sm_wh m i ≤ 999999 by omega)
        exact ⟨a, b, Or.inr c, fun x hx hy => d x hx (hy.resolve_left (by omega))⟩
    rw [es]
    by_cases hb : 999999 < t2
    · rw [if_pos hb]
      refine Or.inl ⟨rfl, fun x x0 x1 hx hall => ?_⟩
      have := Int.le_of_dvd (by omega) (ht2.2.2.2 x hx (hall i (Int.le_refl _) (by omega)))
      omega
    · rw [if_neg hb]
      rcases sm_bm_m hw f (i + 1) t2 (by omega) (by omega) (by omega) with ⟨h3, h4⟩ | ⟨h3, h4, h5, h6⟩
      · refine Or.inl ⟨h3, fun x x0 x1 hx hall => ?_⟩
        exact h4 x x0 x1 (ht2.2.2.2 x hx (hall i (Int.le_refl _) (by omega))) fun j a b => hall j (by omega) (by omega)
      · refine Or.inr ⟨h3, Int.dvd_trans ht2.2.1 h4, fun j a b => ?_, fun x hx hall => ?_⟩
        · by_cases hj : j = i
          · subst hj
            rcases ht2.2.2.1 with h7 | h7
            · exact Or.inl h7
            · exact Or.inr (Int.dvd_trans h7 h4)
          · exact h5 j (by omega) (by omega)
        · exact h6 x (ht2.2.2.2 x hx (hall i (Int.le_refl _) (by omega))) fun j a b => hall j (by omega) (by omega)
theorem sm_ea_W (m : Int → Int) (x : Int) : ∀ (f : Nat) (i : Int), sm_ea m x f i ≠ 0 ↔ ∀ j : Int, i ≤ j → j < i + f → sm_W m j x
  | 0, i => ⟨fun _ j a b => absurd b (by omega), fun _ h => absurd (show (1 : Int) = 0 from h) (by decide)⟩
  | f + 1, i => by
    have ih := sm_ea_W m x f (i + 1)
    have es : sm_ea m x (f + 1) i = if sm_wh m i < 1 ∨ x % sm_wh m i = 0 then sm_ea m x f (i + 1) else 0 := rfl
    rw [es]
    by_cases hc : sm_wh m i < 1 ∨ x % sm_wh m i = 0
    · rw [if_pos hc, ih]
      constructor
      · intro h j a b
        by_cases hj : j = i
        · subst hj
          exact hc.elim Or.inl fun h2 => Or.inr (Int.dvd_of_emod_eq_zero h2)
        · exact h j (by omega) (by omega)
      · exact fun h j a b => h j (by omega) (by omega)
    · rw [if_neg hc]
      refine ⟨fun h => absurd rfl h, fun h => absurd ?_ hc⟩
      rcases h i (Int.le_refl _) (by omega) with h2 | h2
      · exact Or.inl h2
      · exact Or.inr (Int.emod_eq_zero_of_dvd h2)
theorem sm_bs_m {m : Int → Int} {lo : Int} (hlo : 1 ≤ lo) : ∀ (f : Nat) (af : Int), lo ∣ af → 1 ≤ af → 1000000 ≤ f + af →
    (sm_bs m lo f af = -1 ∧ ∀ x : Int, lo ∣ x → af ≤ x → x ≤ 999999 → sm_ea m x (m 0).toNat 0 = 0) ∨
    ((af ≤ sm_bs m lo f af ∧ sm_bs m lo f af ≤ 999999) ∧ sm_ea m (sm_bs m lo f af) (m 0).toNat 0 ≠ 0 ∧ ∀ x : Int, lo ∣ x → af ≤ x → x < sm_bs m lo f af → sm_ea m x (m 0).toNat 0 = 0)
  | 0, af, hd, h1, hf => Or.inl ⟨rfl, fun x _ a b => absurd b (by omega)⟩
  | f + 1, af, hd, h1, hf => by
    have es : sm_bs m lo (f + 1) af = if af ≤ 999999 then (if sm_ea m af (m 0).toNat 0 = 0 then sm_bs m lo f (af + lo) else af) else -1 := rfl
    have hstep : ∀ x : Int, lo ∣ x → af ≤ x → x ≠ af → af + lo ≤ x := by
      intro x hx h2 h3
      have h4 : lo ∣ x - af := Int.dvd_sub hx hd
      have := Int.le_of_dvd (by omega) h4
      omega
    rw [es]
    by_cases h2 : af ≤ 999999
    · rw [if_pos h2]
      by_cases h3 : sm_ea m af (m 0).toNat 0 = 0
      · rw [if_pos h3]
        rcases sm_bs_m (m := m) hlo f (af + lo) (Int.dvd_add hd (Int.dvd_refl lo)) (by omega) (by omega) with ⟨h4, h5⟩ | ⟨h4, h5, h6⟩
        · refine Or.inl ⟨h4, fun x hx a b => ?_⟩
          by_cases hxa : x = af
          · subst hxa
            exact h3
          · exact h5 x hx (hstep x hx a hxa) b
        · refine Or.inr ⟨by omega, h5, fun x hx a b => ?_⟩
          by_cases hxa : x = af
          · subst hxa
            exact h3
          · exact h6 x hx (hstep x hx a hxa) b
      · rw [if_neg h3]
        exact Or.inr ⟨by omega, h3, fun x _ a b => absurd b (by omega)⟩
    · rw [if_neg h2]
      exact Or.inl ⟨rfl, fun x _ a b => absurd b (by omega)⟩
theorem sm_lo_is (m : Int → Int) : ∀ k : Nat, 0 ≤ sm_lo m k ∧ (sm_lo m k = 0 ∨ ∃ j : Int, 0 ≤ j ∧ j < k ∧ sm_wh m j = sm_lo m k)
  | 0 => ⟨Int.le_refl _, Or.inl rfl⟩
  | k + 1 => by
    obtain ⟨h1, h2⟩ := sm_lo_is m k
    have es : sm_lo m (k + 1) = if sm_wh m k ≤ sm_lo m k then sm_lo m k else sm_wh m k := rfl
    rw [es]
    by_cases h : sm_wh m k ≤ sm_lo m k
    · rw [if_pos h]
      refine ⟨h1, h2.elim Or.inl fun ⟨j, a, b, c⟩ => Or.inr ⟨j, a, by omega, c⟩⟩
    · rw [if_neg h]
      exact ⟨by omega, Or.inr ⟨k, by omega, by omega, rfl⟩⟩
theorem sm_ts_tg {m : Int → Int} {B : Int} (hk : sm_ok m B) : sm_ts m = sm_tg m ∧ -1 ≤ sm_tg m ∧ sm_tg m ≤ 999999 := by
  obtain ⟨k0, k1, k2, k3, k4, k5, k6, k7, k8⟩ := id hk
  have hw : ∀ j : Int, 0 ≤ j → j < 5 → sm_wh m j ≤ 999999 := fun j a b => by have := sm_wh_b (k4 j a b); omega
  obtain ⟨l0, l1⟩ := sm_lo_is m (m 0).toNat
  unfold sm_ts sm_tg
  by_cases hz : sm_lo m (m 0).toNat = 0
  · rw [if_pos hz, if_pos (by omega)]
    exact ⟨rfl, by decide, by decide⟩
  · rw [if_neg hz, if_neg (by omega)]
    obtain ⟨j, j0, j1, j2⟩ := l1.resolve_left hz
    generalize sm_lo m (m 0).toNat = lo at *
    have hloW : ∀ x : Int, (∀ j : Int, 0 ≤ j → j < 0 + ((m 0).toNat : Int) → sm_W m j x) → lo ∣ x := by
      intro x hx
      rcases hx j j0 (by omega) with h | h
      · omega
      · rw [← j2]; exact h
    rcases sm_bm_m hw (m 0).toNat 0 1 (Int.le_refl _) (by omega) (by omega) with ⟨h3, h4⟩ | ⟨h3, h4, h5, h6⟩
    · rw [h3]
      refine ⟨?_, by decide, by decide⟩
      rcases sm_bs_m (m := m) (lo := lo) (by omega) 1000000 lo (Int.dvd_refl lo) (by omega) (by omega) with ⟨g1, g2⟩ | ⟨g1, g2, g3⟩
      · exact g1
      · exact absurd ((sm_ea_W m _ _ 0).mp g2) (h4 _ (by omega) (by omega) (Int.one_dvd _))
    · refine ⟨?_, by omega, by omega⟩
      have hea := (sm_ea_W m (sm_bm m (m 0).toNat 0 1) (m 0).toNat 0).mpr h5
      have hld := hloW _ h5
      have hle := Int.le_of_dvd (by omega) hld
      rcases sm_bs_m (m := m) (lo := lo) (by omega) 1000000 lo (Int.dvd_refl lo) (by omega) (by omega) with ⟨g1, g2⟩ | ⟨g1, g2, g3⟩
      · exact absurd (g2 _ hld hle h3.2) hea
      · have h7 := h6 _ (Int.one_dvd _) ((sm_ea_W m _ _ 0).mp g2)
        have h8 := Int.le_of_dvd (by omega) h7
        refine Int.le_antisymm (Int.not_lt.mp fun h9 => ?_) h8
        exact hea (g3 _ hld hle h9)
