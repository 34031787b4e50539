/-! the walk that notes borders finds the least period -/
def sk_B (s : Int → Int) (b k : Int) : Prop := 0 ≤ b ∧ b < k ∧ ∀ j : Int, 0 ≤ j → j < b → s j = s (k - b + j)
theorem sk_B0 (s : Int → Int) {k : Int} (h : 0 < k) : sk_B s 0 k := ⟨Int.le_refl _, h, fun j j0 j1 => absurd j1 (by omega)⟩
/-- a shorter border of the same prefix is a border of the longer border -/
theorem sk_B.down {s : Int → Int} {a b k : Int} (ha : sk_B s a k) (hb : sk_B s b k) (h : b < a) : sk_B s b a := by
  refine ⟨hb.1, h, fun j j0 j1 => ?_⟩
  rw [hb.2.2 j j0 j1, ha.2.2 (a - b + j) (by omega) (by omega)]
  congr 1
  omega
theorem sk_B.up {s : Int → Int} {a b k : Int} (ha : sk_B s a k) (hb : sk_B s b a) : sk_B s b k := by
  refine ⟨hb.1, by have := hb.2.1; have := ha.2.1; omega, fun j j0 j1 => ?_⟩
  have h1 := hb.2.1
  rw [hb.2.2 j j0 j1, ha.2.2 (a - b + j) (by omega) (by omega)]
  congr 1
  omega
theorem sk_B.more {s : Int → Int} {b k : Int} (h : sk_B s b k) (e : s b = s k) : sk_B s (b + 1) (k + 1) := by
  refine ⟨by have := h.1; omega, by have := h.2.1; omega, fun j j0 j1 => ?_⟩
  by_cases hj : j = b
  · rw [hj, show k + 1 - (b + 1) + b = k by omega]; exact e
  · rw [h.2.2 j j0 (by omega)]
    congr 1
    omega
theorem sk_B.less {s : Int → Int} {b k : Int} (h : sk_B s b (k + 1)) (hb : 0 < b) : sk_B s (b - 1) k ∧ s (b - 1) = s k := by
  refine ⟨⟨by omega, by have := h.2.1; omega, fun j j0 j1 => ?_⟩, ?_⟩
  · rw [h.2.2 j j0 (by omega)]
    congr 1
    omega
  · rw [h.2.2 (b - 1) (by omega) (by omega)]
    congr 1
    omega
/-- g tells the longest border of each prefix of at most k notes -/
def sk_G (s g : Int → Int) (k : Int) : Prop := ∀ i : Int, 0 ≤ i → i < k → sk_B s (g i) (i + 1) ∧ ∀ b : Int, sk_B s b (i + 1) → b ≤ g i
theorem sk_loop {s g : Int → Int} {i : Int} (hg : sk_G s g i) : ∀ (f : Nat) (a : Int), a ≤ f → sk_B s a i → (∀ b : Int, sk_B s b i → s b = s i → b ≤ a) →
    sk_B s (sp_kb s g i f a) i ∧ (sp_kb s g i f a = 0 ∨ s (sp_kb s g i f a) = s i) ∧ ∀ b : Int, sk_B s b i → s b = s i → b ≤ sp_kb s g i f a
  | 0, a, hf, ha, hm => by
    have h0 := ha.1
    exact ⟨ha, Or.inl (by show a = 0; omega), hm⟩
  | f + 1, a, hf, ha, hm => by
    unfold sp_kb
    by_cases h0 : a ≤ 0
    · rw [if_pos h0]
      have h1 := ha.1
      exact ⟨ha, Or.inl (by omega), hm⟩
    · rw [if_neg h0]
      by_cases h1 : s a = s i
      · rw [if_pos h1]
        exact ⟨ha, Or.inr h1, hm⟩
      · rw [if_neg h1]
        have h2 := ha.2.1
        have hp := hg (a - 1) (by omega) (by omega)
        rw [show a - 1 + 1 = a by omega] at hp
        have h3 := hp.1.2.1
        refine sk_loop hg f (g (a - 1)) (by omega) (ha.up hp.1) (fun b hb he => ?_)
        have h4 := hm b hb he
        by_cases h5 : b = a
        · rw [h5] at he; exact absurd he h1
        · exact hp.2 b (ha.down hb (by omega))
theorem sk_walk {s g : Int → Int} (h0 : g 0 = 0) : ∀ k : Nat, sk_G s (sp_kw s g k).2 (k + 1) ∧ (sp_kw s g k).1 = (sp_kw s g k).2 k
  | 0 => by
    refine ⟨fun i i0 i1 => ?_, ?_⟩
    · have e : i = 0 := by omega
      subst e
      show sk_B s (g 0) (0 + 1) ∧ ∀ b : Int, sk_B s b (0 + 1) → b ≤ g 0
      rw [h0]
      exact ⟨sk_B0 s (by omega), fun b hb => by have := hb.2.1; omega⟩
    · show (0 : Int) = g 0
      rw [h0]
  | k + 1 => by
    obtain ⟨ih, ih2⟩ := sk_walk h0 k
    unfold sp_kw
    generalize sp_kw s g k = w at *
    obtain ⟨a, gg⟩ := w
    simp only at ih ih2 ⊢
    have e1 : ((k + 1 : Nat) : Int) = (k : Int) + 1 := by omega
    have hk := ih k (by omega) (by omega)
    rw [← ih2] at hk
    have L := sk_loop ih (k + 1) a (by have := hk.1.2.1; omega) hk.1 (fun b hb _ => hk.2 b hb)
    generalize sp_kb s gg ((k : Int) + 1) (k + 1) a = r at *
    obtain ⟨l1, l2, l3⟩ := L
    have hn : sk_B s (sp_k1 s gg ((k : Int) + 1) r) ((k : Int) + 1 + 1) ∧ ∀ b : Int, sk_B s b ((k : Int) + 1 + 1) → b ≤ sp_k1 s gg ((k : Int) + 1) r := by
      unfold sp_k1
      by_cases e : s r = s ((k : Int) + 1)
      · rw [if_pos e]
        refine ⟨l1.more e, fun b hb => ?_⟩
        by_cases hb0 : 0 < b
        · have := hb.less hb0
          have := l3 _ this.1 this.2
          omega
        · have := l1.1; omega
      · rw [if_neg e]
        have r0 : r = 0 := l2.resolve_right e
        refine ⟨by rw [r0]; exact sk_B0 s (by omega), fun b hb => ?_⟩
        by_cases hb0 : 0 < b
        · have h9 := hb.less hb0
          have h8 := l3 _ h9.1 h9.2
          have h7 := h9.1.1
          have : b - 1 = r := by omega
          rw [this] at h9
          exact absurd h9.2 e
        · omega
    refine ⟨fun i i0 i1 => ?_, ?_⟩
    · by_cases e : i = (k : Int) + 1
      · rw [e, qa_up_eq]; exact hn
      · rw [qa_up_ne e]
        exact ih i i0 (by omega)
    · rw [e1, qa_up_eq]
theorem sk_ca {s : Int → Int} {n p : Int} (hp : 1 ≤ p) : ∀ (f : Nat) (i : Int), i + f = n → p ≤ i → (sp_ca s p f i ≠ 0 ↔ ∀ j : Int, i ≤ j → j < n → s (j - p) = s j)
  | 0, i, hf, _ => ⟨fun _ j j0 j1 => absurd j1 (by omega), fun _ => by show (1 : Int) ≠ 0; decide⟩
  | f + 1, i, hf, hi => by
    unfold sp_ca
    by_cases e : s (i - p) = s i
    · rw [if_pos e, sk_ca (n := n) hp f (i + 1) (by omega) (by omega)]
      refine ⟨fun h j j0 j1 => ?_, fun h j j0 j1 => h j (by omega) j1⟩
      by_cases hj : j = i
      · rw [hj]; exact e
      · exact h j (by omega) j1
    · rw [if_neg e]
      exact ⟨fun h => absurd rfl h, fun h => absurd (h i (Int.le_refl _) (by omega)) e⟩
theorem sk_per {s : Int → Int} {n p : Int} (h : 1 ≤ p ∧ p < n) : (∀ j : Int, p ≤ j → j < n → s (j - p) = s j) ↔ sk_B s (n - p) n := by
  refine ⟨fun hh => ⟨by omega, by omega, fun j j0 j1 => ?_⟩, fun hh j j0 j1 => ?_⟩
  · have := hh (j + p) (by omega) (by omega)
    rw [show j + p - p = j by omega] at this
    rw [this]
    congr 1
    omega
  · rw [hh.2.2 (j - p) (by omega) (by omega)]
    congr 1
    omega
theorem sk_pt {s : Int → Int} {n w : Int} (hw : sk_B s w n) (hm : ∀ b : Int, sk_B s b n → b ≤ w) : ∀ (f : Nat) (p : Int), p + f = n → 1 ≤ p → p ≤ n - w → sp_pt s n f p = n - w
  | 0, p, hf, h1, h2 => by
    have := hw.1
    show n = n - w
    omega
  | f + 1, p, hf, h1, h2 => by
    have h0 := hw.1
    unfold sp_pt
    have hc := sk_ca (s := s) (n := n) h1 (n - p).toNat p (by omega) (Int.le_refl _)
    by_cases e : sp_ca s p (n - p).toNat p = 0
    · rw [if_pos e]
      refine sk_pt hw hm f (p + 1) (by omega) (by omega) ?_
      by_cases h9 : p = n - w
      · exfalso
        have := (sk_per (s := s) (n := n) (p := p) (by omega)).mpr (by rw [show n - p = w by omega]; exact hw)
        exact (hc.mpr this) e
      · omega
    · rw [if_neg e]
      have := hm _ ((sk_per (s := s) (n := n) (p := p) (by omega)).mp (hc.mp e))
      omega
/-- both ways to find the period agree -/
theorem sk_period (s g : Int → Int) {n : Int} (hn : 1 ≤ n) (h0 : g 0 = 0) : n - (sp_kw s g (n - 1).toNat).1 = sp_pt s n (n - 1).toNat 1 := by
  obtain ⟨h1, h2⟩ := sk_walk (s := s) h0 (n - 1).toNat
  rw [h2, show (((n - 1).toNat : Nat) : Int) = n - 1 by omega]
  have h3 := h1 (n - 1) (by omega) (by omega)
  rw [show n - 1 + 1 = n by omega] at h3
  have h4 := h3.1.2.1
  exact (sk_pt h3.1 h3.2 (n - 1).toNat 1 (by omega) (Int.le_refl _) (by omega)).symm
