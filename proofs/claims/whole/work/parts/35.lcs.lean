/-! the longest common theme: by the table as by all choices -/
def sl_ix (x : Nat) : List Nat := (List.range 10).filter (fun j => x.testBit j)
theorem sl_ix1 : ∀ x : Fin 1024, x.val ≠ 0 → sl_ix x.val = sp_tN 10 x.val :: sl_ix (x.val - 2 ^ sp_tN 10 x.val) := by decide +kernel
theorem sl_ix2 : ∀ x : Fin 1024, (sl_ix x.val).length = sp_bN 10 x.val := by decide +kernel
theorem sl_ix3 : ∀ n : Fin 10, ∀ x : Fin 1024, x.val < 2 ^ n.val → sl_ix (x.val + 2 ^ n.val) = sl_ix x.val ++ [n.val] := by decide +kernel
theorem sl_ix4 : ∀ n : Fin 11, ∀ x : Fin 1024, x.val < 2 ^ n.val → (sl_ix x.val).all (fun j => decide (j < n.val)) = true := by decide +kernel
def sl_L (s : Int → Int) (x : Nat) : List Int := (sl_ix x).map (fun j => s (j : Nat))
def sl_T (t : Int → Int) : Nat → Int → List Int
  | 0, _ => []
  | f + 1, i => t i :: sl_T t f (i + 1)
theorem sl_it (s t : Int → Int) : ∀ (f : Nat) (i : Int) (x : Nat), x < 1024 → (sp_it s t f i x = 0 ↔ (sl_L s x).isSublist (sl_T t f i) = true)
  | 0, i, x, hx => by
    show (x : Int) = 0 ↔ _
    by_cases h : x = 0
    · subst h
      exact ⟨fun _ => rfl, fun _ => rfl⟩
    · have e := sl_ix1 ⟨x, hx⟩ h
      simp only at e
      unfold sl_L sl_T
      rw [e]
      simp [List.isSublist]
      omega
  | f + 1, i, x, hx => by
    unfold sp_it
    by_cases h : x = 0
    · subst h
      rw [if_pos (show ((0 : Nat) : Int) = 0 from rfl)]
      exact ⟨fun _ => by unfold sl_L; rw [show sl_ix 0 = [] by decide]; simp [List.isSublist], fun _ => rfl⟩
    · rw [if_neg (by omega)]
      have e := sl_ix1 ⟨x, hx⟩ h
      simp only at e
      have tb := sp_tz_b (x := (x : Int)) (by omega)
      have etz : sp_tz (x : Int) = ((sp_tN 10 x : Nat) : Int) := by unfold sp_tz; rw [Int.toNat_natCast]
      have ecl : sp_cl (x : Int) = ((x - 2 ^ sp_tN 10 x : Nat) : Int) := by unfold sp_cl; rw [Int.toNat_natCast]
      have eL : sl_L s x = s ((sp_tN 10 x : Nat) : Int) :: sl_L s (x - 2 ^ sp_tN 10 x) := by unfold sl_L; rw [e]; rfl
      rw [etz, eL]
      unfold sl_T
      by_cases h2 : s ((sp_tN 10 x : Nat) : Int) = t i
      · rw [if_pos h2, ecl, sl_it s t f (i + 1) _ (by omega)]
        simp [List.isSublist, h2]
      · rw [if_neg h2, sl_it s t f (i + 1) x hx, eL]
        simp [List.isSublist, h2]
def sl_S (s : Int → Int) (i : Nat) : List Int := (List.range i).map (fun j => s (j : Nat))
theorem sl_S_succ (s : Int → Int) (i : Nat) : sl_S s (i + 1) = sl_S s i ++ [s i] := by unfold sl_S; rw [List.range_succ, List.map_append]; rfl
theorem sl_T_S (t : Int → Int) : ∀ (f i : Nat), sl_S t i ++ sl_T t f i = sl_S t (i + f)
  | 0, i => List.append_nil _
  | f + 1, i => by
    show sl_S t i ++ (t i :: sl_T t f ((i : Int) + 1)) = _
    rw [show (i : Int) + 1 = ((i + 1 : Nat) : Int) by omega, List.append_cons, ← sl_S_succ, sl_T_S t f (i + 1)]
    congr 1
    omega
theorem sl_snoc {α : Type} {X l : List α} {a : α} (h : X.Sublist (l ++ [a])) : X.Sublist l ∨ ∃ Y, X = Y ++ [a] ∧ Y.Sublist l := by
  obtain ⟨l1, l2, e, h1, h2⟩ := List.sublist_append_iff.mp h
  rcases List.sublist_cons_iff.mp h2 with h3 | ⟨r, e2, h3⟩
  · have := List.sublist_nil.mp h3
    subst this
    rw [List.append_nil] at e
    exact Or.inl (e ▸ h1)
  · have := List.sublist_nil.mp h3
    subst this
    exact Or.inr ⟨l1, by rw [e, e2], h1⟩
theorem sl_drop {α : Type} {X l : List α} {a : α} (h : X.Sublist (l ++ [a])) : X.dropLast.Sublist l := by
  rcases sl_snoc h with h | ⟨Y, e, h⟩
  · exact (List.dropLast_sublist X).trans h
  · rw [e, List.dropLast_concat]; exact h
theorem sl_up (s t : Int → Int) : ∀ (i j : Nat) (X : List Int), X.Sublist (sl_S s i) → X.Sublist (sl_S t j) → (X.length : Int) ≤ sp_lc s t i j := by
  intro i
  induction i with
  | zero =>
    intro j X h1 _
    have := List.sublist_nil.mp (show X.Sublist [] from h1)
    subst this
    exact Int.le_refl _
  | succ i ih =>
    intro j
    induction j with
    | zero =>
      intro X _ h2
      have := List.sublist_nil.mp (show X.Sublist [] from h2)
      subst this
      rw [sp_lc_0]
      exact Int.le_refl _
    | succ j ih2 =>
      intro X h1 h2
      have g1 := h1
      have g2 := h2
      rw [sl_S_succ] at g1 g2
      rw [sp_lc_s]
      by_cases e : s i = t j
      · rw [if_pos e]
        have h3 := ih j _ (sl_drop g1) (sl_drop g2)
        have h4 : X.dropLast.length = X.length - 1 := List.length_dropLast
        omega
      · rw [if_neg e]
        have h3 : X.Sublist (sl_S s i) ∨ X.Sublist (sl_S t j) := by
          rcases sl_snoc g1 with g1 | ⟨Y, e1, -⟩
          · exact Or.inl g1
          · rcases sl_snoc g2 with g2 | ⟨Y2, e2, -⟩
            · exact Or.inr g2
            · have := List.append_inj_right' (e1.symm.trans e2) rfl
              simp at this
              exact absurd this e
        rcases h3 with h3 | h3
        · have := ih (j + 1) X h3 h2
          split <;> omega
        · have := ih2 X h1 h3
          split <;> omega
theorem sl_ex (s t : Int → Int) : ∀ i j : Nat, ∃ X : List Int, X.Sublist (sl_S s i) ∧ X.Sublist (sl_S t j) ∧ (X.length : Int) = sp_lc s t i j := by
  intro i
  induction i with
  | zero => exact fun j => ⟨[], List.nil_sublist _, List.nil_sublist _, rfl⟩
  | succ i ih =>
    intro j
    induction j with
    | zero => exact ⟨[], List.nil_sublist _, List.nil_sublist _, by rw [sp_lc_0]; rfl⟩
    | succ j ih2 =>
      rw [sp_lc_s]
      by_cases e : s i = t j
      · rw [if_pos e]
        obtain ⟨X, h1, h2, h3⟩ := ih j
        refine ⟨X ++ [s i], by rw [sl_S_succ]; exact h1.append (List.Sublist.refl _), by rw [sl_S_succ, e]; exact h2.append (List.Sublist.refl _), ?_⟩
        rw [List.length_append, ← h3]
        simp
      · rw [if_neg e]
        by_cases h : sp_lc s t (i + 1) j ≤ sp_lc s t i (j + 1)
        · rw [if_pos h]
          obtain ⟨X, h1, h2, h3⟩ := ih (j + 1)
          exact ⟨X, by rw [sl_S_succ]; exact h1.trans (List.sublist_append_left _ _), h2, h3⟩
        · rw [if_neg h]
          obtain ⟨X, h1, h2, h3⟩ := ih2
          exact ⟨X, h1, by rw [sl_S_succ t j]; exact h2.trans (List.sublist_append_left _ _), h3⟩
theorem sl_choice : ∀ (n : Nat), n ≤ 10 → ∀ l : List Nat, l.Sublist (List.range n) → ∃ x : Nat, x < 2 ^ n ∧ sl_ix x = l
  | 0, _, l, h => by
    have := List.sublist_nil.mp (show l.Sublist [] from h)
    subst this
    exact ⟨0, by decide, by decide⟩
  | n + 1, hn, l, h => by
    rw [List.range_succ] at h
    have hp : 2 ^ (n + 1) = 2 ^ n + 2 ^ n := by rw [Nat.pow_succ]; omega
    have hq : 2 ^ n ≤ 2 ^ 9 := Nat.pow_le_pow_right (by omega) (by omega)
    rcases sl_snoc h with h | ⟨Y, e, h⟩
    · obtain ⟨x, h1, h2⟩ := sl_choice n (by omega) l h
      exact ⟨x, by omega, h2⟩
    · obtain ⟨x, h1, h2⟩ := sl_choice n (by omega) Y h
      refine ⟨x + 2 ^ n, by omega, ?_⟩
      have := sl_ix3 ⟨n, by omega⟩ ⟨x, by omega⟩ h1
      simp only at this
      rw [this, h2, e]
theorem sl_bc {x : Nat} (h : x < 1024) (s : Int → Int) : ((sl_L s x).length : Int) = sp_bc x := by
  unfold sl_L sp_bc
  rw [List.length_map, Int.toNat_natCast]
  have := sl_ix2 ⟨x, h⟩
  simp only at this
  rw [this]
theorem sl_sub {n x : Nat} (hn : n ≤ 10) (hx : x < 2 ^ n) (s : Int → Int) : (sl_L s x).Sublist (sl_S s n) := by
  have hq : 2 ^ n ≤ 2 ^ 10 := Nat.pow_le_pow_right (by omega) hn
  have h4 := List.all_eq_true.mp (sl_ix4 ⟨n, by omega⟩ ⟨x, by omega⟩ hx)
  unfold sl_L sl_S
  refine List.Sublist.map _ ?_
  have e : sl_ix x = (List.range n).filter (fun j => x.testBit j) := by
    unfold sl_ix
    have hr : List.range 10 = List.range n ++ (List.range (10 - n)).map (fun y => n + y) := by
      rw [← List.range_add]; congr 1; omega
    rw [hr, List.filter_append]
    have : (((List.range (10 - n)).map (fun y => n + y)).filter (fun j => x.testBit j)) = [] := by
      rw [List.filter_eq_nil_iff]
      intro j hj hb
      obtain ⟨y, hy, rfl⟩ := List.mem_map.mp hj
      have hm : n + y ∈ sl_ix x := List.mem_filter.mpr ⟨List.mem_range.mpr (by have := List.mem_range.mp hy; omega), hb⟩
      have := h4 _ hm
      simp at this
      omega
    rw [this, List.append_nil]
  rw [e]
  exact List.filter_sublist
theorem sl_tt {s t : Int → Int} {n : Nat} : ∀ (f : Nat) (x b : Int), (b ≤ sp_tt s t n f x b) ∧ (∀ y : Int, x ≤ y → y < x + f → sp_it s t n 0 y = 0 → sp_bc y ≤ sp_tt s t n f x b) ∧ (sp_tt s t n f x b = b ∨ ∃ y : Int, x ≤ y ∧ y < x + f ∧ sp_it s t n 0 y = 0 ∧ sp_tt s t n f x b = sp_bc y)
  | 0, x, b => ⟨Int.le_refl _, fun y h1 h2 => absurd h2 (by omega), Or.inl rfl⟩
  | f + 1, x, b => by
    unfold sp_tt
    generalize hb : (if b < sp_bc x ∧ sp_it s t n 0 x = 0 then sp_bc x else b) = b2
    obtain ⟨h1, h2, h3⟩ := sl_tt (s := s) (t := t) (n := n) f (x + 1) b2
    have hle : b ≤ b2 := by rw [← hb]; split <;> omega
    refine ⟨by omega, fun y y0 y1 y2 => ?_, ?_⟩
    · by_cases e : y = x
      · subst e
        have : sp_bc y ≤ b2 := by
          rw [← hb]
          by_cases h : b < sp_bc y
          · rw [if_pos ⟨h, y2⟩]; exact Int.le_refl _
          · split <;> omega
        omega
      · exact h2 y (by omega) (by omega) y2
    · rcases h3 with h3 | ⟨y, y0, y1, y2, y3⟩
      · by_cases h : b < sp_bc x ∧ sp_it s t n 0 x = 0
        · rw [if_pos h] at hb
          exact Or.inr ⟨x, Int.le_refl _, by omega, h.2, by omega⟩
        · rw [if_neg h] at hb
          exact Or.inl (by omega)
      · exact Or.inr ⟨y, by omega, by omega, y2, y3⟩
/-- both ways to find the common theme agree -/
theorem sl_theme (s t : Int → Int) {n n2 : Nat} (hn : n ≤ 10) : sp_tt s t n2 (2 ^ n - 1) 1 0 = sp_lc s t n n2 := by
  have hq : 2 ^ n ≤ 2 ^ 10 := Nat.pow_le_pow_right (by omega) hn
  have hp := Nat.two_pow_pos n
  obtain ⟨h1, h2, h3⟩ := sl_tt (s := s) (t := t) (n := n2) (2 ^ n - 1) 1 0
  have eT : sl_T t n2 0 = sl_S t n2 := by
    have := sl_T_S t n2 0
    rw [Nat.zero_add] at this
    exact this
  have hup : ∀ y : Nat, y < 2 ^ n → sp_it s t n2 0 (y : Nat) = 0 → sp_bc (y : Nat) ≤ sp_lc s t n n2 := fun y y1 y2 => by
    have h9 := (sl_it s t n2 0 y (by omega)).mp y2
    rw [eT] at h9
    have := sl_up s t n n2 _ (sl_sub hn y1 s) (List.isSublist_iff_sublist.mp h9)
    rw [sl_bc (by omega)] at this
    exact this
  have hb := sp_lc_b s t n n2
  refine Int.le_antisymm ?_ ?_
  · rcases h3 with h3 | ⟨y, y0, y1, y2, y3⟩
    · omega
    · rw [y3]
      obtain ⟨z, rfl⟩ : ∃ z : Nat, y = z := ⟨y.toNat, by omega⟩
      exact hup z (by omega) y2
  · obtain ⟨X, g1, g2, g3⟩ := sl_ex s t n n2
    obtain ⟨l, l1, l2⟩ := List.sublist_map_iff.mp g1
    obtain ⟨x, x1, x2⟩ := sl_choice n hn l l1
    have eX : X = sl_L s x := by rw [l2, ← x2]; rfl
    rw [← g3, eX, sl_bc (by omega)]
    by_cases h0 : x = 0
    · subst h0
      have : sp_bc ((0 : Nat) : Int) = 0 := by decide
      omega
    · refine h2 x (by omega) (by omega) ?_
      refine (sl_it s t n2 0 x (by omega)).mpr ?_
      rw [eT, ← eX]
      exact List.isSublist_iff_sublist.mpr g2
