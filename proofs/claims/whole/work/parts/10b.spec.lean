/-! what the methods tell, as functions of whole numbers -/
/-- the note in which left ticks from note i lie -/
def sp_nI (l : Int → Int) : Nat → Int → Int → Int
  | 0, _, _ => -1
  | f + 1, i, left => if left < l i then i else sp_nI l f (i + 1) (left - l i)
def sp_ct (p : Int → Int) : Nat → Int
  | 0 => 0
  | k + 1 => sp_ct p k + if p k = -1 then 0 else 1
def sp_ps (p : Int → Int) : Nat → Int
  | 0 => 0
  | k + 1 => sp_ps p k + if p k = -1 then 0 else p k
def sp_rs (p l : Int → Int) : Nat → Int
  | 0 => 0
  | k + 1 => sp_rs p l k + if p k = -1 then l k else 0
def sp_fo (p : Int → Int) (by9 : Int) : Nat → Int → Int
  | 0, _ => -1
  | f + 1, i => if p i ≠ -1 ∧ ¬ (0 ≤ p i + by9 ∧ p i + by9 ≤ 35) then i else sp_fo p by9 f (i + 1)
/-- notes that are as notes are -/
abbrev sp_P (n : Int) (p : Int → Int) : Prop := ∀ j : Int, 0 ≤ j → j < n → -1 ≤ p j ∧ p j ≤ 35
abbrev sp_Ln (n : Int) (l : Int → Int) : Prop := ∀ j : Int, 0 ≤ j → j < n → 1 ≤ l j ∧ l j ≤ 12
theorem sp_ct_b (p : Int → Int) (k : Nat) : 0 ≤ sp_ct p k ∧ sp_ct p k ≤ k := by
  induction k with
  | zero => exact ⟨Int.le_refl _, Int.le_refl _⟩
  | succ k ih =>
    show 0 ≤ sp_ct p k + (if p k = -1 then 0 else 1) ∧ sp_ct p k + (if p k = -1 then 0 else 1) ≤ ((k + 1 : Nat) : Int)
    split <;> omega
theorem sp_nI_b (l : Int → Int) : ∀ (f : Nat) (i left : Int), sp_nI l f i left = -1 ∨ (i ≤ sp_nI l f i left ∧ sp_nI l f i left < i + f)
  | 0, i, left => Or.inl rfl
  | f + 1, i, left => by
    unfold sp_nI
    split
    · right; omega
    · rcases sp_nI_b l f (i + 1) (left - l i) with h | h
      · left; exact h
      · right; omega
