def qa_i (n : Int) : Int32 := Int32.ofInt n
def qa_l (n : Int) : Int64 := Int64.ofInt n
abbrev qa_in (n : Int) : Prop := -2147483648 ≤ n ∧ n ≤ 2147483647
abbrev qa_ln (n : Int) : Prop := -9223372036854775808 ≤ n ∧ n ≤ 9223372036854775807
theorem qa_i_toInt {n : Int} (h : qa_in n) : (qa_i n).toInt = n := Int32.toInt_ofInt_of_le (by omega) (by omega)
theorem qa_l_toInt {n : Int} (h : qa_ln n) : (qa_l n).toInt = n := Int64.toInt_ofInt_of_le (by omega) (by omega)
theorem qa_i_of (x : Int32) : qa_i x.toInt = x := Int32.ofInt_toInt x
theorem qa_l_of (x : Int64) : qa_l x.toInt = x := Int64.ofInt_toInt x
theorem qa_i_in (x : Int32) : qa_in x.toInt := ⟨by have := x.le_toInt; omega, by have := x.toInt_lt; omega⟩
theorem qa_i_add (a b : Int) : qa_i a + qa_i b = qa_i (a + b) := (Int32.ofInt_add a b).symm
theorem qa_i_sub (a b : Int) : qa_i a - qa_i b = qa_i (a - b) := (Int32.ofInt_sub a b).symm
theorem qa_i_mul (a b : Int) : qa_i a * qa_i b = qa_i (a * b) := (Int32.ofInt_mul a b).symm
theorem qa_i_neg (a : Int) : -qa_i a = qa_i (-a) := (Int32.ofInt_neg a).symm
theorem qa_l_add (a b : Int) : qa_l a + qa_l b = qa_l (a + b) := (Int64.ofInt_add a b).symm
theorem qa_l_sub (a b : Int) : qa_l a - qa_l b = qa_l (a - b) := (Int64.ofInt_sub a b).symm
theorem qa_l_mul (a b : Int) : qa_l a * qa_l b = qa_l (a * b) := (Int64.ofInt_mul a b).symm
theorem qa_l_neg (a : Int) : -qa_l a = qa_l (-a) := (Int64.ofInt_neg a).symm
theorem qa_i_lt {a b : Int} (ha : qa_in a) (hb : qa_in b) : qa_i a < qa_i b ↔ a < b := by rw [Int32.lt_iff_toInt_lt, qa_i_toInt ha, qa_i_toInt hb]
theorem qa_i_le {a b : Int} (ha : qa_in a) (hb : qa_in b) : qa_i a ≤ qa_i b ↔ a ≤ b := by rw [Int32.le_iff_toInt_le, qa_i_toInt ha, qa_i_toInt hb]
theorem qa_i_eq {a b : Int} (ha : qa_in a) (hb : qa_in b) : qa_i a = qa_i b ↔ a = b := by rw [← Int32.toInt_inj, qa_i_toInt ha, qa_i_toInt hb]
theorem qa_l_lt {a b : Int} (ha : qa_ln a) (hb : qa_ln b) : qa_l a < qa_l b ↔ a < b := by rw [Int64.lt_iff_toInt_lt, qa_l_toInt ha, qa_l_toInt hb]
theorem qa_l_le {a b : Int} (ha : qa_ln a) (hb : qa_ln b) : qa_l a ≤ qa_l b ↔ a ≤ b := by rw [Int64.le_iff_toInt_le, qa_l_toInt ha, qa_l_toInt hb]
theorem qa_l_eq {a b : Int} (ha : qa_ln a) (hb : qa_ln b) : qa_l a = qa_l b ↔ a = b := by rw [← Int64.toInt_inj, qa_l_toInt ha, qa_l_toInt hb]
theorem qa_i0 : qa_i 0 = 0 := rfl
theorem qa_ci2l {a : Int} (ha : qa_in a) : (qa_i a).toInt64 = qa_l a := by
  apply Int64.toInt_inj.mp
  rw [Jvm.Kit.i64_of_i32, qa_i_toInt ha, qa_l_toInt (by omega)]
theorem qa_cl2i (a : Int) : (qa_l a).toInt32 = qa_i a := by
  apply Int32.toInt_inj.mp
  rw [Int64.toInt_toInt32]
  unfold qa_l qa_i
  rw [Int64.toInt_ofInt, Int32.toInt_ofInt]
  simp only [Int.bmod_def, show ((Int64.size : Nat) : Int) = 18446744073709551616 from rfl, show ((Int32.size : Nat) : Int) = 4294967296 from rfl, show ((2 ^ 32 : Nat) : Int) = 4294967296 from rfl]
  omega
theorem qa_i_div {a b : Int} (ha : qa_in a) (hb : qa_in b) (h : 0 ≤ a) (h1 : 0 < b) : qa_i a / qa_i b = qa_i (a / b) := by
  apply Int32.toInt_inj.mp
  have h2 : 0 ≤ a / b := Int.ediv_nonneg h (by omega)
  have h3 : a / b ≤ a := Int.ediv_le_self _ h
  rw [lg_idiv_nonneg (by rw [qa_i_toInt ha]; exact h) (by rw [qa_i_toInt hb]; exact h1), qa_i_toInt ha, qa_i_toInt hb, qa_i_toInt (by omega)]
theorem qa_l_div {a b : Int} (ha : qa_ln a) (hb : qa_ln b) (h : 0 ≤ a) (h1 : 0 < b) : qa_l a / qa_l b = qa_l (a / b) := by
  apply Int64.toInt_inj.mp
  have h2 : 0 ≤ a / b := Int.ediv_nonneg h (by omega)
  have h3 : a / b ≤ a := Int.ediv_le_self _ h
  rw [lg_ldiv_nonneg (by rw [qa_l_toInt ha]; exact h) (by rw [qa_l_toInt hb]; exact h1), qa_l_toInt ha, qa_l_toInt hb, qa_l_toInt (by omega)]
theorem qa_i_rem {a b : Int} (ha : qa_in a) (hb : qa_in b) (h : 0 ≤ a) (h1 : 0 < b) : qa_i a - qa_i a / qa_i b * qa_i b = qa_i (a % b) := by
  rw [qa_i_div ha hb h h1, qa_i_mul, qa_i_sub]
  congr 1
  have := Int.mul_ediv_add_emod a b
  rw [Int.mul_comm] at this
  omega
theorem qa_i_ne0 {b : Int} (hb : qa_in b) (h : b ≠ 0) : ¬ qa_i b = 0 := by rw [← qa_i0, qa_i_eq hb (by omega)]; exact h
theorem qa_l_ne0 {b : Int} (hb : qa_ln b) (h : b ≠ 0) : ¬ qa_l b = 0 := by rw [show (0 : Int64) = qa_l 0 from rfl, qa_l_eq hb (by omega)]; exact h
theorem qa_i_ix {a : Int} (h : 0 ≤ a) (h1 : a < 2147483648) : (qa_i a).toNatClampNeg = a.toNat := by
  show (qa_i a).toInt.toNat = _
  rw [qa_i_toInt (by omega)]
theorem qa_i_vin {a : Int} {n : Nat} (h : 0 ≤ a) (h1 : a < n) (h2 : a < 2147483648) : vp_in (qa_i a) n := by
  intro hh
  rcases hh with hh | hh
  · rw [← qa_i0, qa_i_lt (by omega) (by omega)] at hh; omega
  · rw [qa_i_ix h h2] at hh; omega
theorem qa_i_ofNat (n : Nat) : Int32.ofNat n = qa_i n := rfl
theorem qa_ci2c {a : Int} (h : 0 ≤ a) (h1 : a < 65536) : ((qa_i a).toUInt32 % 65536).toInt32 = qa_i a := lg_i2c_word (by rw [qa_i_toInt (by omega)]; exact h) (by rw [qa_i_toInt (by omega)]; exact h1)
def qa_sg (x y : Int) : Int := if y < x then 1 else if x = y then 0 else -1
theorem qa_cmp {x y : Int} (hx : qa_ln x) (hy : qa_ln y) : lg_cmp (qa_l x) (qa_l y) = qa_i (qa_sg x y) := by
  unfold lg_cmp qa_sg
  simp only [gt_iff_lt, qa_l_lt hy hx, qa_l_eq hx hy]
  split
  · rfl
  · split <;> rfl
theorem qa_sg_lt {x y : Int} : qa_sg x y < 0 ↔ x < y := by unfold qa_sg; split <;> (try split) <;> omega
theorem qa_sg_le {x y : Int} : qa_sg x y ≤ 0 ↔ x ≤ y := by unfold qa_sg; split <;> (try split) <;> omega
theorem qa_sg_gt {x y : Int} : 0 < qa_sg x y ↔ y < x := by unfold qa_sg; split <;> (try split) <;> omega
theorem qa_sg_ge {x y : Int} : 0 ≤ qa_sg x y ↔ y ≤ x := by unfold qa_sg; split <;> (try split) <;> omega
theorem qa_sg_eq {x y : Int} : qa_sg x y = 0 ↔ x = y := by unfold qa_sg; split <;> (try split) <;> omega
theorem qa_sg_in (x y : Int) : qa_in (qa_sg x y) := by unfold qa_sg; split <;> (try split) <;> omega
