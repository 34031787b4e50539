/-! what the methods tell, as functions of whole numbers -/
/-- the note in which left ticks from note i lie -/
def sp_nI (l : Int → Int) : Nat → Int → Int → Int
  | 0, _, _ => -1
  | f + 1, i, left => if left < l i then i else sp_nI l f (i + 1) (left - l i)
def sp_ct (p : Int → Int) : Nat → Int
  | 0 => 0
  | k + 1 => sp_ct p k + if p k = -1 then 0 else 1
def sp_ps (p : Int → Int) : Nat → Int
  | 0 => 0
  | k + 1 => sp_ps p k + if p k = -1 then 0 else p k
def sp_rs (p l : Int → Int) : Nat → Int
  | 0 => 0
  | k + 1 => sp_rs p l k + if p k = -1 then l k else 0
def sp_fo (p : Int → Int) (by9 : Int) : Nat → Int → Int
  | 0, _ => -1
  | f + 1, i => if p i ≠ -1 ∧ ¬ (0 ≤ p i + by9 ∧ p i + by9 ≤ 35) then i else sp_fo p by9 f (i + 1)
/-- notes that are as notes are -/
abbrev sp_P (n : Int) (p : Int → Int) : Prop := ∀ j : Int, 0 ≤ j → j < n → -1 ≤ p j ∧ p j ≤ 35
abbrev sp_Ln (n : Int) (l : Int → Int) : Prop := ∀ j : Int, 0 ≤ j → j < n → 1 ≤ l j ∧ l j ≤ 12
theorem sp_ct_b (p : Int → Int) (k : Nat) : 0 ≤ sp_ct p k ∧ sp_ct p k ≤ k := by
  induction k with
  | zero => exact ⟨Int.le_refl _, Int.le_refl _⟩
  | succ k ih =>
    show 0 ≤ sp_ct p k + (if p k = -1 then 0 else 1) ∧ sp_ct p k + (if p k = -1 then 0 else 1) ≤ ((k + 1 : Nat) : Int)
    split <;> omega
theorem sp_nI_b (l : Int → Int) : ∀ (f : Nat) (i left : Int), sp_nI l f i left = -1 ∨ (i ≤ sp_nI l f i left ∧ sp_nI l f i left < i + f)
  | 0, i, left => Or.inl rfl
  | f + 1, i, left => by
    unfold sp_nI
    split
    · right; omega
    · rcases sp_nI_b l f (i + 1) (left - l i) with h | h
      · left; exact h
      · right; omega
/-! cues -/
def sp_af (src : Int → Int) (i : Int) : Int := if 0 ≤ i ∧ i ≤ 4 then src i else -1
def sp_dp (src : Int → Int) : Nat → Int → Int → Int
  | 0, _, _ => -1
  | f + 1, at9, d => if sp_af src at9 = -1 then d else sp_dp src f (sp_af src at9) (d + 1)
def sp_rf (src : Int → Int) (start : Int) : Nat → Int → Int → Int
  | 0, _, _ => 0
  | f + 1, at9, k => if sp_af src at9 = start then k else sp_rf src start f (sp_af src at9) (k + 1)
def sp_ts (src : Int → Int) : Nat → Int → Int → Int
  | 0, _, _ => 0
  | f + 1, slow, fast => if sp_af src (sp_af src fast) = -1 then 0 else if sp_af src slow = sp_af src (sp_af src fast) then sp_rf src (sp_af src slow) 5 (sp_af src slow) 1 else sp_ts src f (sp_af src slow) (sp_af src (sp_af src fast))
def sp_mk (src : Int → Int) : Nat → Int → Int → (Int → Int) → Int
  | 0, _, _, _ => 0
  | f + 1, at9, k, mw => if ¬ (0 ≤ at9 ∧ at9 ≤ 4) then 0 else if mw at9 ≠ -1 then k - mw at9 else sp_mk src f (src at9) (k + 1) (qa_up mw at9 k)
abbrev sp_S5 (src : Int → Int) : Prop := ∀ j : Int, 0 ≤ j → j < 5 → -1 ≤ src j ∧ src j ≤ 4
theorem sp_af_b {src : Int → Int} (h : sp_S5 src) (i : Int) : -1 ≤ sp_af src i ∧ sp_af src i ≤ 4 := by
  unfold sp_af
  split
  · exact h i (by omega) (by omega)
  · omega
def qa_CuF (c : Nat) (t : Int) : qa_E := .inl (3, [.ref (c + 1), .ref (c + 2), .int (qa_i t)])
def qa_TeF (c : Nat) (n : Int) : qa_E := .inl (4, [.ref (c + 1), .ref (c + 2), .int (qa_i n)])
