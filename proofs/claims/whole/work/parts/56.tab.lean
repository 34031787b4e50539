/-! floats: every share of rests and every mean, by reckoning -/
def sf_x (r t : Int) : UInt32 := FP.fdiv (FP.i2f (qa_i r)) (FP.i2f (qa_i t))
def sf_d (s n : Int) : UInt64 := FP.ddiv (FP.i2d (qa_i s)) (FP.i2d (qa_i n))
def sf_o (n : Int) : Option Ordering → Int
  | none => n
  | some .lt => -1
  | some .eq => 0
  | some .gt => 1
theorem sf_og (o : Option Ordering) : Op.cmpValue o .g = qa_i (sf_o 1 o) := by
  cases o with
  | none => rfl
  | some x => cases x <;> rfl
theorem sf_ol (o : Option Ordering) : Op.cmpValue o .l = qa_i (sf_o (-1) o) := by
  cases o with
  | none => rfl
  | some x => cases x <;> rfl
def sf_n (x : UInt32) : Bool := decide (x &&& 0x7fffffff ≤ 0x7f800000)
def sf_go : Nat → UInt32 → Int → Option (UInt32 × Int)
  | 0, x, e => some (x, e)
  | f + 1, x, e => if 0 ≤ sf_o 1 (FP.fcmp x FP.fconst1) then some (x, e) else if sf_n (FP.fmul x FP.fconst2) = true then sf_go f (FP.fmul x FP.fconst2) (e - 1) else none
def sf_y (x : UInt32) : UInt32 := FP.fmul x (FP.i2f (qa_i 8388608))
def sf_z (p : Option (UInt32 × Int)) (b : Int32) : Bool := match p with
  | some (y, e) => decide (0 ≤ e ∧ e ≤ 127) && (sf_n (sf_y y) && decide (qa_i (e * 8388608 + (FP.f2i (sf_y y)).toInt - 8388608) = b))
  | none => false
def sf_w (x : UInt64) : Bool := decide (x &&& 0x7fffffffffffffff ≤ 0x7ff0000000000000) && decide (FP.dcmp x x = some .eq)
def sf_t (r : Int) (x : UInt32) : Bool :=
  sf_n x && (decide (FP.fcmp x x = some .eq) && (sf_w (FP.f2d x) && (if r = 0 then decide (sf_o 1 (FP.fcmp x FP.fconst0) ≤ 0) && decide (qa_i 0 = x.toInt32) else decide (0 < sf_o 1 (FP.fcmp x FP.fconst0)) && sf_z (sf_go 127 x 127) x.toInt32)))
def sf_r (t : Nat) : Bool := (List.range (t + 2)).all (fun r => sf_t r (sf_x r (t + 1)))
def sf_k (n : Nat) : Bool := (List.range 351).all (fun s => sf_w (sf_d s (n + 1)))
set_option maxRecDepth 100000 in
theorem sf_k0 : (List.range 10).all (fun n => sf_k n) = true := by decide +kernel
set_option maxRecDepth 100000 in
theorem sf_r0 : (List.range 10).all (fun t => sf_r (t + 0)) = true := by decide +kernel
set_option maxRecDepth 100000 in
theorem sf_r1 : (List.range 10).all (fun t => sf_r (t + 10)) = true := by decide +kernel
set_option maxRecDepth 100000 in
theorem sf_r2 : (List.range 10).all (fun t => sf_r (t + 20)) = true := by decide +kernel
set_option maxRecDepth 100000 in
theorem sf_r3 : (List.range 10).all (fun t => sf_r (t + 30)) = true := by decide +kernel
set_option maxRecDepth 100000 in
theorem sf_r4 : (List.range 10).all (fun t => sf_r (t + 40)) = true := by decide +kernel
set_option maxRecDepth 100000 in
theorem sf_r5 : (List.range 10).all (fun t => sf_r (t + 50)) = true := by decide +kernel
set_option maxRecDepth 100000 in
theorem sf_r6 : (List.range 10).all (fun t => sf_r (t + 60)) = true := by decide +kernel
set_option maxRecDepth 100000 in
theorem sf_r7 : (List.range 10).all (fun t => sf_r (t + 70)) = true := by decide +kernel
set_option maxRecDepth 100000 in
theorem sf_r8 : (List.range 10).all (fun t => sf_r (t + 80)) = true := by decide +kernel
set_option maxRecDepth 100000 in
theorem sf_r9 : (List.range 10).all (fun t => sf_r (t + 90)) = true := by decide +kernel
set_option maxRecDepth 100000 in
theorem sf_r10 : (List.range 10).all (fun t => sf_r (t + 100)) = true := by decide +kernel
set_option maxRecDepth 100000 in
theorem sf_r11 : (List.range 10).all (fun t => sf_r (t + 110)) = true := by decide +kernel
