def qa_up (g : Int → Int) (j v : Int) : Int → Int := fun q => if q = j then v else g q
theorem qa_up_eq (g : Int → Int) (j v : Int) : qa_up g j v j = v := if_pos rfl
theorem qa_up_ne {g : Int → Int} {j v q : Int} (h : q ≠ j) : qa_up g j v q = g q := if_neg h
def qa_ia (n : Nat) (g : Int → Int) : qa_E := .inr (0, n, .inl (fun q => qa_i (g q)))
def qa_la (n : Nat) (g : Int → Int) : qa_E := .inr (1, n, .inr (.inl (fun q => qa_l (g q))))
def qa_ba (n : Nat) (g : Int → Int) : qa_E := .inr (2, n, .inl (fun q => qa_i (g q)))
def qa_ca (n : Nat) (g : Int → Int) : qa_E := .inr (3, n, .inl (fun q => qa_i (g q)))
def qa_da (n : Nat) (f : Int → UInt64) : qa_E := .inr (4, n, .inr (.inr (.inr (.inl (fun q => f q)))))
def qa_ra (t n : Nat) (f : Int → Option Nat) : qa_E := .inr (t, n, .inr (.inr (.inr (.inr (fun q => f q)))))
def qa_upq (f : Int → Option Nat) (j : Int) (v : Option Nat) : Int → Option Nat := fun q => if q = j then v else f q
def qa_upd (f : Int → UInt64) (j : Int) (v : UInt64) : Int → UInt64 := fun q => if q = j then v else f q
theorem qa_nat {j : Int} (h : 0 ≤ j) : ((j.toNat : Nat) : Int) = j := Int.toNat_of_nonneg h
theorem qa_natc {j : Int} (h : 0 ≤ j) (h1 : j < 2147483648) : (((qa_i j).toNatClampNeg : Nat) : Int) = j := by rw [qa_i_ix h h1]; exact qa_nat h
theorem qa_upN {α : Type} {j : Int} (h : 0 ≤ j) (q : Nat) : (q = j.toNat) ↔ ((q : Int) = j) := by omega
section QH
variable {E : qa_V} {M : qa_M} {Q : qa_O → qa_S → Prop} {kc ks pc pc' : Nat} {L L' : qa_L} {st : List Value} {σ : qa_S}
theorem qa_at.arr {E : qa_V} {G : qa_G} {s : State} {σ : qa_S} {H : Heap} {a t n : Nat} {ty : FieldType} {z : (Nat → Int32) ⊕ (Nat → Int64) ⊕ (Nat → UInt32) ⊕ (Nat → UInt64) ⊕ (Nat → Option Nat)} (hR : qa_R9 E G s σ H) (hx : σ.1 a = some (.inr (t, n, z))) (hty : qa_ty[t]? = some ty) {j : Int} (hj : 0 ≤ j ∧ j < n ∧ j < 2147483648) :
    ∃ cell : Cell, H[a]? = some cell ∧ s.isArrayOf cell ty ∧ cell.vm ≠ .unknown ∧ ¬ (qa_i j < 0 ∨ cell.slots.size ≤ (qa_i j).toNatClampNeg) ∧ cell.slots[(qa_i j).toNatClampNeg]? = some (qa_val (n, z) j.toNat) := by
  obtain ⟨cell, ty', h1, h2, h3, h4, h5, h6, h7⟩ := (hR.2 a _ hx).1
  cases h1.symm.trans hty
  have hlt : j.toNat < n := by omega
  refine ⟨cell, h2, h3, h4, ?_, ?_⟩
  · intro hh
    rw [qa_i_ix hj.1 hj.2.2] at hh
    rcases hh with hh | hh
    · rw [← qa_i0, qa_i_lt (by omega) (by omega)] at hh; omega
    · have h5' : n ≤ cell.slots.size := h5
      omega
  · rw [qa_i_ix hj.1 hj.2.2]
    exact h7 _ hlt
theorem qa_at.arrS {E : qa_V} {G : qa_G} {s : State} {σ : qa_S} {H : Heap} {a t n : Nat} {ty : FieldType} {z : (Nat → Int32) ⊕ (Nat → Int64) ⊕ (Nat → UInt32) ⊕ (Nat → UInt64) ⊕ (Nat → Option Nat)} (hK : qa_K E G s) (hR : qa_R9 E G s σ H) (hx : σ.1 a = some (.inr (t, n, z))) (hlo : E.1 ≤ a) (hty : qa_ty[t]? = some ty) {j : Int} (hj : 0 ≤ j ∧ j < n ∧ j < 2147483648) :
    H[a]? = some (vp_cell (G.2.2 t) (n, z)) ∧ s.isArrayOf (vp_cell (G.2.2 t) (n, z)) ty ∧ (vp_cell (G.2.2 t) (n, z)).vm ≠ .unknown ∧ ¬ (qa_i j < 0 ∨ (vp_cell (G.2.2 t) (n, z)).slots.size ≤ (qa_i j).toNatClampNeg) := by
  have h1 : H[a]? = some (vp_cell (G.2.2 t) (n, z)) := (hR.2 a _ hx).2 hlo
  obtain ⟨cell, g1, g2, g3, g4, -⟩ := qa_at.arr hR hx hty hj
  cases g1.symm.trans h1
  exact ⟨h1, g2, g3, g4⟩
theorem qa_put9 {E : qa_V} {G : qa_G} {s : State} {σ : qa_S} {H H1 : Heap} {a t : Nat} {y : vp_A} {ty : FieldType} (hK : qa_K E G s) (hR : qa_R9 E G s σ H) (hty : qa_ty[t]? = some ty) (z : H1.size = H.size) (oq : ∀ q : Nat, q ≠ a → H1[q]? = H[q]?) (h : H1[a]? = some (vp_cell (G.2.2 t) y)) : qa_R9 E G s (qa_set σ.1 a (.inr (t, y)), σ.2) H1 :=
  hR.set z oq ⟨qa_atS.W2 (E := E) hty (hK.2.1 t ty hty).1 h, fun _ => h⟩
theorem qa_iaload {a n : Nat} {g : Int → Int} {j : Int} (hd : qa_op M pc (.iaload) 1 pc') (hx : σ.1 a = some (qa_ia n g)) (hj : 0 ≤ j ∧ j < n ∧ j < 2147483648)
    (k : qa_W E M Q kc ks pc' L (.int (qa_i (g j)) :: st) σ) : qa_W E M Q kc ks pc L (.int (qa_i j) :: .ref a :: st) σ := by
  obtain ⟨hd, rfl⟩ := hd
  intro G p l e R s m args below meth c H locs cells slots ls ok C hR hS hL hc hs
  obtain ⟨cell, g1, g2, g3, g4, g5⟩ := qa_at.arr (ty := .int) hR hx rfl hj
  refine W.iald C.1 C.2.1 g1 g2 g3 g4 (v := .int (qa_i (g j))) ?_ rfl rfl (ok _ _ _ hd) (k G p l e R s m args below meth c H locs cells slots ls ok C hR hS hL hc hs)
  rw [g5]
  show some (Value.int _) = _
  simp only [qa_nat hj.1]
theorem qa_laload {a n : Nat} {g : Int → Int} {j : Int} (hd : qa_op M pc (.laload) 1 pc') (hx : σ.1 a = some (qa_la n g)) (hj : 0 ≤ j ∧ j < n ∧ j < 2147483648)
    (k : qa_W E M Q kc ks pc' L (.long (qa_l (g j)) :: st) σ) : qa_W E M Q kc ks pc L (.int (qa_i j) :: .ref a :: st) σ := by
  obtain ⟨hd, rfl⟩ := hd
  intro G p l e R s m args below meth c H locs cells slots ls ok C hR hS hL hc hs
  obtain ⟨cell, g1, g2, g3, g4, g5⟩ := qa_at.arr (ty := .long) hR hx rfl hj
  refine W.lald C.1 C.2.1 g1 g2 g3 g4 (v := .long (qa_l (g j))) ?_ rfl rfl (ok _ _ _ hd) (k G p l e R s m args below meth c H locs cells slots ls ok C hR hS hL hc hs)
  rw [g5]
  show some (Value.long _) = _
  simp only [qa_nat hj.1]
theorem qa_baload {a n : Nat} {g : Int → Int} {j : Int} (hd : qa_op M pc (.baload) 1 pc') (hx : σ.1 a = some (qa_ba n g)) (hj : 0 ≤ j ∧ j < n ∧ j < 2147483648)
    (k : qa_W E M Q kc ks pc' L (.int (qa_i (g j)) :: st) σ) : qa_W E M Q kc ks pc L (.int (qa_i j) :: .ref a :: st) σ := by
  obtain ⟨hd, rfl⟩ := hd
  intro G p l e R s m args below meth c H locs cells slots ls ok C hR hS hL hc hs
  obtain ⟨cell, g1, g2, g3, g4, g5⟩ := qa_at.arr (ty := .byte) hR hx rfl hj
  refine W.bald C.1 C.2.1 g1 g2 g3 g4 (v := .int (qa_i (g j))) ?_ rfl rfl (ok _ _ _ hd) (k G p l e R s m args below meth c H locs cells slots ls ok C hR hS hL hc hs)
  rw [g5]
  show some (Value.int _) = _
  simp only [qa_nat hj.1]
theorem qa_caload {a n : Nat} {g : Int → Int} {j : Int} (hd : qa_op M pc (.caload) 1 pc') (hx : σ.1 a = some (qa_ca n g)) (hj : 0 ≤ j ∧ j < n ∧ j < 2147483648)
    (k : qa_W E M Q kc ks pc' L (.int (qa_i (g j)) :: st) σ) : qa_W E M Q kc ks pc L (.int (qa_i j) :: .ref a :: st) σ := by
  obtain ⟨hd, rfl⟩ := hd
  intro G p l e R s m args below meth c H locs cells slots ls ok C hR hS hL hc hs
  obtain ⟨cell, g1, g2, g3, g4, g5⟩ := qa_at.arr (ty := .char) hR hx rfl hj
  refine W.cald C.1 C.2.1 g1 g2 g3 g4 (v := .int (qa_i (g j))) ?_ rfl rfl (ok _ _ _ hd) (k G p l e R s m args below meth c H locs cells slots ls ok C hR hS hL hc hs)
  rw [g5]
  show some (Value.int _) = _
  simp only [qa_nat hj.1]
theorem qa_aaload {a n t b : Nat} {f : Int → Option Nat} {j : Int} {ty : FieldType} (hd : qa_op M pc (.aaload) 1 pc') (hx : σ.1 a = some (qa_ra t n f)) (hty : qa_ty[t]? = some ty) (hr : ty.isReference = true) (hj : 0 ≤ j ∧ j < n ∧ j < 2147483648) (hb : f j = some b)
    (k : qa_W E M Q kc ks pc' L (.ref b :: st) σ) : qa_W E M Q kc ks pc L (.int (qa_i j) :: .ref a :: st) σ := by
  obtain ⟨hd, rfl⟩ := hd
  intro G p l e R s m args below meth c H locs cells slots ls ok C hR hS hL hc hs
  obtain ⟨cell, g1, g2, g3, g4, g5⟩ := qa_at.arr hR hx hty hj
  refine W.aald C.1 C.2.1 g1 g2 hr g3 g4 (v := .ref b) ?_ rfl rfl (ok _ _ _ hd) (k G p l e R s m args below meth c H locs cells slots ls ok C hR hS hL hc hs)
  rw [g5]
  show some (va_rf _) = _
  simp only [qa_nat hj.1, hb, va_rf]
theorem qa_alen {a n t : Nat} {z : (Nat → Int32) ⊕ (Nat → Int64) ⊕ (Nat → UInt32) ⊕ (Nat → UInt64) ⊕ (Nat → Option Nat)} (hd : qa_op M pc (.arraylength) 1 pc') (hx : σ.1 a = some (.inr (t, n, z)))
    (k : qa_W E M Q kc ks pc' L (.int (qa_i n) :: st) σ) : qa_W E M Q kc ks pc L (.ref a :: st) σ := by
  obtain ⟨hd, rfl⟩ := hd
  intro G p l e R s m args below meth c H locs cells slots ls ok C hR hS hL hc hs
  obtain ⟨cell, ty', h1, h2, h3, h4, h5, h6, h7⟩ := (hR.2 a _ hx).1
  exact W.alen C.1 C.2.1 h2 h3 h6 rfl rfl (ok _ _ _ hd) (k G p l e R s m args below meth c H locs cells slots ls ok C hR hS hL hc hs)
theorem qa_iastore {a n : Nat} {g : Int → Int} {j v : Int} (hd : qa_op M pc (.iastore) 1 pc') (hx : σ.1 a = some (qa_ia n g)) (hlo : E.1 ≤ a) (hj : 0 ≤ j ∧ j < n ∧ j < 2147483648)
    (k : qa_W E M Q kc ks pc' L st (qa_set σ.1 a (qa_ia n (qa_up g j v)), σ.2)) : qa_W E M Q kc ks pc L (.int (qa_i v) :: .int (qa_i j) :: .ref a :: st) σ := by
  obtain ⟨hd, rfl⟩ := hd
  intro G p l e R s m args below meth c H locs cells slots ls ok C hR hS hL hc hs
  obtain ⟨g1, g2, g3, g4⟩ := qa_at.arrS (ty := .int) C.2.2.2.2.2.2.2.2.2.2.2.2.1 hR hx hlo rfl hj
  refine W.iast C.1 C.2.1 g1 g2 g3 g4 rfl rfl (ok _ _ _ hd) fun H1 e8 z oq => ?_
  refine k G p l e R s m args below meth c H1 _ cells slots ls ok C (qa_put9 (t := 0) C.2.2.2.2.2.2.2.2.2.2.2.2.1 hR rfl z oq ?_) (hS.put z oq hlo) hL hc hs
  rw [e8, vp_cell_i, vp_cell_i, arrV_store]
  congr 2
  funext q
  simp only [updV, qa_up, qa_i_ix hj.1 hj.2.2]
  by_cases hq : q = j.toNat
  · rw [if_pos hq, if_pos (by omega)]
  · rw [if_neg hq, if_neg (by omega)]
theorem qa_lastore {a n : Nat} {g : Int → Int} {j v : Int} (hd : qa_op M pc (.lastore) 1 pc') (hx : σ.1 a = some (qa_la n g)) (hlo : E.1 ≤ a) (hj : 0 ≤ j ∧ j < n ∧ j < 2147483648)
    (k : qa_W E M Q kc ks pc' L st (qa_set σ.1 a (qa_la n (qa_up g j v)), σ.2)) : qa_W E M Q kc ks pc L (.long (qa_l v) :: .int (qa_i j) :: .ref a :: st) σ := by
  obtain ⟨hd, rfl⟩ := hd
  intro G p l e R s m args below meth c H locs cells slots ls ok C hR hS hL hc hs
  obtain ⟨g1, g2, g3, g4⟩ := qa_at.arrS (ty := .long) C.2.2.2.2.2.2.2.2.2.2.2.2.1 hR hx hlo rfl hj
  refine W.last C.1 C.2.1 g1 g2 g3 g4 rfl rfl (ok _ _ _ hd) fun H1 e8 z oq => ?_
  refine k G p l e R s m args below meth c H1 _ cells slots ls ok C (qa_put9 (t := 1) C.2.2.2.2.2.2.2.2.2.2.2.2.1 hR rfl z oq ?_) (hS.put z oq hlo) hL hc hs
  rw [e8, vp_cell_l, vp_cell_l, arrV_store]
  congr 2
  funext q
  simp only [updV, qa_up, qa_i_ix hj.1 hj.2.2]
  by_cases hq : q = j.toNat
  · rw [if_pos hq, if_pos (by omega)]
  · rw [if_neg hq, if_neg (by omega)]
theorem qa_castore {a n : Nat} {g : Int → Int} {j v : Int} (hd : qa_op M pc (.castore) 1 pc') (hx : σ.1 a = some (qa_ca n g)) (hlo : E.1 ≤ a) (hj : 0 ≤ j ∧ j < n ∧ j < 2147483648) (hv : narrow .char (.int (qa_i v)) = .int (qa_i v))
    (k : qa_W E M Q kc ks pc' L st (qa_set σ.1 a (qa_ca n (qa_up g j v)), σ.2)) : qa_W E M Q kc ks pc L (.int (qa_i v) :: .int (qa_i j) :: .ref a :: st) σ := by
  obtain ⟨hd, rfl⟩ := hd
  intro G p l e R s m args below meth c H locs cells slots ls ok C hR hS hL hc hs
  obtain ⟨g1, g2, g3, g4⟩ := qa_at.arrS (ty := .char) C.2.2.2.2.2.2.2.2.2.2.2.2.1 hR hx hlo rfl hj
  refine W.cast C.1 C.2.1 g1 g2 g3 g4 rfl rfl (ok _ _ _ hd) fun H1 e8 z oq => ?_
  rw [hv] at e8
  refine k G p l e R s m args below meth c H1 _ cells slots ls ok C (qa_put9 (t := 3) C.2.2.2.2.2.2.2.2.2.2.2.2.1 hR rfl z oq ?_) (hS.put z oq hlo) hL hc hs
  rw [e8, vp_cell_i, vp_cell_i, arrV_store]
  congr 2
  funext q
  simp only [updV, qa_up, qa_i_ix hj.1 hj.2.2]
  by_cases hq : q = j.toNat
  · rw [if_pos hq, if_pos (by omega)]
  · rw [if_neg hq, if_neg (by omega)]
theorem qa_dastore {a n : Nat} {f : Int → UInt64} {j : Int} {v : UInt64} (hd : qa_op M pc (.dastore) 1 pc') (hx : σ.1 a = some (qa_da n f)) (hlo : E.1 ≤ a) (hj : 0 ≤ j ∧ j < n ∧ j < 2147483648)
    (k : qa_W E M Q kc ks pc' L st (qa_set σ.1 a (qa_da n (qa_upd f j v)), σ.2)) : qa_W E M Q kc ks pc L (.double v :: .int (qa_i j) :: .ref a :: st) σ := by
  obtain ⟨hd, rfl⟩ := hd
  intro G p l e R s m args below meth c H locs cells slots ls ok C hR hS hL hc hs
  obtain ⟨g1, g2, g3, g4⟩ := qa_at.arrS (ty := .double) C.2.2.2.2.2.2.2.2.2.2.2.2.1 hR hx hlo rfl hj
  refine W.dast C.1 C.2.1 g1 g2 g3 g4 rfl rfl (ok _ _ _ hd) fun H1 e8 z oq => ?_
  refine k G p l e R s m args below meth c H1 _ cells slots ls ok C (qa_put9 (t := 4) C.2.2.2.2.2.2.2.2.2.2.2.2.1 hR rfl z oq ?_) (hS.put z oq hlo) hL hc hs
  rw [e8, vp_cell_d, vp_cell_d, arrV_store]
  congr 2
  funext q
  simp only [updV, qa_upd, qa_i_ix hj.1 hj.2.2]
  by_cases hq : q = j.toNat
  · rw [if_pos hq, if_pos (by omega)]
  · rw [if_neg hq, if_neg (by omega)]
/-- own's field reference idx is field k of class number ci -/
def qa_Fl (own idx ci k : Nat) : Prop := ∃ r : vw_C, qa_cl[ci]? = some r ∧ k < r.2.2 ∧ (Cond.fieldLink (qa_R own) idx (r.2.1 k).1 (r.2.1 k).2.1 (r.2.1 k).2.2.1 ∈ qa_tb ∨ ∃ host : String, Cond.fieldLinkNest (qa_R own) idx (r.2.1 k).1 (r.2.1 k).2.1 (r.2.1 k).2.2.1 host ∈ lw_tbl)
/-- class number ci may be written: n words for its slots -/
def qa_Wr (ci n : Nat) : Prop := ∃ (r : vw_C) (ty : Nat → FieldType), qa_cl[ci]? = some r ∧ (∀ w ∈ u_ws r.1 r.2.1 r.2.2, w ∈ qa_tb) ∧ Cond.instantiable r.1 n ∈ qa_tb ∧ (∀ k, k < r.2.2 → parseFieldDescriptor (r.2.1 k).2.2.1 = some (ty k)) ∧ ∀ a, a < r.2.2 → ∀ b, b < r.2.2 → a ≠ b → (r.2.1 a).2.1 ≠ (r.2.1 b).2.1
theorem qa_getf {a ci j idx : Nat} {fs : List Value} {v : Value} (hd : qa_op M pc (.getfield idx) 3 pc') (hf : qa_Fl (qa_ow M) idx ci j) (hx : σ.1 a = some (.inl (ci, fs))) (hv : fs[j]? = some v)
    (k : qa_W E M Q kc ks pc' L (v :: st) σ) : qa_W E M Q kc ks pc L (.ref a :: st) σ := by
  obtain ⟨hd, rfl⟩ := hd
  intro G p l e R s m args below meth c H locs cells slots ls ok C hR hS hL hc hs
  obtain ⟨cell, g1, g2, g3, g4, g5⟩ := (hR.2 a _ hx).1
  obtain ⟨r, f1, f2, f3⟩ := hf
  obtain ⟨cf, kf, fi, fd, e1, e2, e3⟩ := ((C.2.2.2.2.2.2.2.2.2.2.2.2.1).1 ci r f1).1 j f2
  have hsl : cell.slots[fd.slot]? = some v := by rw [e2]; exact g5 j v hv
  rcases f3 with f3 | ⟨host, f3⟩
  · exact W.getf C.1 C.2.1 C.2.2.2.2.2.1 (C.2.2.2.2.2.2.2.2.2.2.2.2.2 _ f3) e1 e3 g1 g3 hsl rfl rfl (ok _ _ _ hd) (k G p l e R s m args below meth c H locs cells slots ls ok C hR hS hL hc hs)
  · exact va_Wgetf C.1 C.2.1 C.2.2.2.2.2.1 (va_Nw.use rfl ((C.2.2.2.2.2.2.2.2.2.2.2.2.1).2.2.1 _ f3 rfl)) e1 e3 g1 g3 hsl rfl rfl (ok _ _ _ hd) (k G p l e R s m args below meth c H locs cells slots ls ok C hR hS hL hc hs)
theorem qa_sl_apart {G : qa_G} {s : State} {args : Array Value} {ci n : Nat} {r : vw_C} (hw : qa_Wr ci n) (hr : qa_cl[ci]? = some r) (hts : ∀ w ∈ qa_tb, w.before args s = true) (hK : qa_K E G s) : ∀ x y, x < r.2.2 → y < r.2.2 → x ≠ y → G.2.1 ci x ≠ G.2.1 ci y := by
  obtain ⟨r', ty, h0, h1, h2, h3, h4⟩ := hw
  cases h0.symm.trans hr
  intro x y hx hy hne
  obtain ⟨_, _, _, fa, hia, ea, -⟩ := (hK.1 ci r hr).1 x hx
  obtain ⟨_, _, _, fb, hib, eb, -⟩ := (hK.1 ci r hr).1 y hy
  rw [← ea, ← eb]
  refine u_apart (u_lays hts h1 hx) (u_lays hts h1 hy) hia hib ?_
  rw [(State.fieldFound?_type hia (h3 x hx)).1, (State.fieldFound?_type hib (h3 y hy)).1]
  exact h4 x hx y hy hne
theorem qa_wf {G : qa_G} {s : State} {H1 : Heap} {a ci j n : Nat} {fs fs' : List Value} {v : Value} {args : Array Value} {r : vw_C} {cell : Cell} (hr : qa_cl[ci]? = some r) (hw : qa_Wr ci n) (hts : ∀ w ∈ qa_tb, w.before args s = true) (hK : qa_K E G s) (hj : j < r.2.2) (hlen : fs.length = r.2.2) (hfs : fs.set j v = fs')
    (q2 : cell.cls = G.1 ci) (q3 : cell.vm = .none) (q4 : ∀ k, k < r.2.2 → cell.slots[G.2.1 ci k]? = some (vp_V fs k)) (e : H1[a]? = some (cell.setSlot (G.2.1 ci j) v)) : qa_atS G a (.inl (ci, fs')) H1 := by
  subst hfs
  refine ⟨r, hr, by rw [List.length_set]; exact hlen, ?_⟩
  exact t_OB.to (V := updV (vp_V fs) j v) ⟨_, e, q2, q3, t_set q4 (qa_sl_apart hw hr hts hK) hj v⟩ (fun i _ => vp_updV_set (by rw [hlen]; exact hj) v i)
theorem qa_putf {a ci j idx n : Nat} {fs fs' : List Value} {v : Value} {ty : FieldType} (hd : qa_op M pc (.putfield idx) 3 pc') (hf : qa_Fl (qa_ow M) idx ci j) (hw : qa_Wr ci n) (hx : σ.1 a = some (.inl (ci, fs))) (hlo : E.1 ≤ a) (hfs : fs.set j v = fs')
    (hty : ∀ r, qa_cl[ci]? = some r → parseFieldDescriptor (r.2.1 j).2.2.1 = some ty ∧ ((r.2.1 j).2.2.2 = false ∨ ((r.2.1 j).2.2.2 = true ∧ (qa_y M).name = "<init>" ∧ (r.2.1 j).1 = qa_R (qa_ow M)))) (hn : narrow ty v = v) (hft : fits ty v = true)
    (k : qa_W E M Q kc ks pc' L st (qa_set σ.1 a (.inl (ci, fs')), σ.2)) : qa_W E M Q kc ks pc L (v :: .ref a :: st) σ := by
  obtain ⟨hd, rfl⟩ := hd
  intro G p l e R s m args below meth c H locs cells slots ls ok C hR hS hL hc hs
  have hts := C.2.2.2.2.2.2.2.2.2.2.2.2.2
  have hK := C.2.2.2.2.2.2.2.2.2.2.2.2.1
  obtain ⟨r, f1, f2, f3⟩ := hf
  obtain ⟨r', i1, i2, cell, q1, q2, q3, q4⟩ := (hR.2 a _ hx).2 hlo
  cases i1.symm.trans f1
  obtain ⟨hS9, hfc⟩ := hK.1 ci r f1
  obtain ⟨cf, kf, fi, fd, e1, e2, e3⟩ := hS9 j f2
  obtain ⟨hd2, hfin⟩ := hty r f1
  have hw' := hw
  obtain ⟨r', ty0, h0, h1, h2, h3, h4⟩ := hw'
  cases h0.symm.trans f1
  obtain ⟨cC, kC, hfC, hkC, hkind, -⟩ := Cond.instantiable_spec (hts _ h2)
  cases hfC.symm.trans hfc
  have hslot : fd.slot < cell.slots.size := by rw [e2]; exact k2_hasslot (q4 j f2)
  have hlay := hts _ (h1 _ (u_in_lay f2))
  unfold u_lay at hlay
  have fin : ∀ H1 : Heap, H1[a]? = some (cell.setSlot fd.slot v) → H1.size = H.size → (∀ q, q ≠ a → H1[q]? = H[q]?) → W p l e R s m args below meth c H1 (locs ++ [⟨a, fd.slot⟩]) cells slots (vx_MQ below (qa_Qc E G Q) (qa_Xc E G Q) args s R.cells R.slots (fun q => E.1 ≤ q)) (F0 m (pc + 3) ls st) := by
    intro H1 e8 z oq
    have hs1 : qa_atS G a (.inl (ci, fs')) H1 := qa_wf f1 hw hts hK f2 i2 hfs q2 q3 q4 (by rw [← e2]; exact e8)
    exact k G p l e R s m args below meth c H1 _ cells slots ls ok C (hR.set z oq ⟨hs1.W1 (E := E), fun _ => hs1⟩) (hS.put z oq hlo) hL hc hs
  have hown := C.2.2.2.2.2.1
  rcases hfin with hfin | ⟨hfin, hinit, hdecl⟩
  · rw [if_neg (by rw [hfin]; decide)] at hlay
    have h6 := u_store hfc hkC hkind hlay e1 hd2 hn hft
    rcases f3 with f3 | ⟨host, f3⟩
    · exact W.putK C.1 C.2.1 (f := fd) ⟨hown, hts _ f3, ⟨_, _, _, e1⟩, e3⟩ (by rw [q2]; exact h6) q1 q3 hslot rfl rfl (ok _ _ _ hd) fin
    · exact va_WputK C.1 C.2.1 (f := fd) hown (va_Nw.use rfl (hK.2.2.1 _ f3 rfl)) e1 e3 (by rw [q2]; exact h6) q1 q3 hslot rfl rfl (ok _ _ _ hd) fin
  · rw [if_pos hfin] at hlay
    have hcf : m.cls = cf := by
      obtain ⟨_, _, c', _, _, _, -, -, hf', -, -, -, hown2, -⟩ := Cond.laysFinal_spec hlay
      have e9 : c' = cf := by have := e1.symm.trans hf'; simp at this; exact this.1.symm
      rw [hdecl] at hown2
      rw [← e9]; exact Option.some.inj (hown.symm.trans hown2)
    have h6 := u_fits hfc hkC hkind (Or.inr hlay) e1 hd2 hn hft
    rcases f3 with f3 | ⟨host, f3⟩
    · exact W.putFinK C.1 C.2.1 hown (hts _ f3) e1 e3 hcf (C.2.2.2.2.2.2.1.trans hinit) (by rw [q2]; exact h6) q1 q3 hslot rfl rfl (ok _ _ _ hd) fin
    · have ha : a < H.size := (Array.getElem?_eq_some_iff.mp q1).1
      refine va_Wputf C.1 C.2.1 hown (va_Nw.use rfl (hK.2.2.1 _ f3 rfl)) e1 e3 (Or.inr ⟨hcf, C.2.2.2.2.2.2.1.trans hinit⟩) q1 (by rw [q3]; exact fun h => nomatch h) hslot h6.1 (by rw [q3, q2]; exact h6.2) rfl rfl (ok _ _ _ hd) (fin _ ?_ ?_ ?_)
      · simp [Array.getElem?_setIfInBounds, ha]
      · simp
      · intro q hq
        simp [Array.getElem?_setIfInBounds, Ne.symm hq]
theorem qa_S_push {H0 H H1 : Heap} {locs : List Loc} {A : Nat → Prop} (hS : va_S A H0 H locs) (z : H1.size = H.size + 1) (o1 : ∀ q, q < H.size → H1[q]? = H[q]?) : va_S A H0 H1 locs := ⟨Nat.le_trans hS.1 (by omega), fun x h1 h2 => (o1 x (Nat.lt_of_lt_of_le h1 hS.1)).trans (hS.2.1 x h1 h2), hS.2.2⟩
theorem qa_new {idx ci n : Nat} {fs : List Value} {nm : String} (hd : qa_op M pc (.new idx) 3 pc') (hw : qa_Wr ci n) (hnm : ∀ r, qa_cl[ci]? = some r → r.1 = nm ∧ fs.length = r.2.2 ∧ n = r.2.2 ∧ ∀ j, j < r.2.2 → (parseFieldDescriptor (r.2.1 j).2.2.1).map defaultValue = some (vp_V fs j))
    (hl : Cond.classLink (qa_R (qa_ow M)) idx nm ∈ qa_tb) (hini : Cond.initialized nm ∈ qa_tb)
    (k : qa_W E M Q kc ks pc' L (.ref σ.2 :: st) (qa_set σ.1 σ.2 (.inl (ci, fs)), σ.2 + 1)) : qa_W E M Q (kc + 1) (ks + n) pc L st σ := by
  obtain ⟨hd, rfl⟩ := hd
  intro G p l e R s m args below meth c H locs cells slots ls ok C hR hS hL hc hs
  have hts := C.2.2.2.2.2.2.2.2.2.2.2.2.2
  have hK := C.2.2.2.2.2.2.2.2.2.2.2.2.1
  have hE := C.2.2.2.2.2.2.2.2.2.2.2.1
  obtain ⟨r, ty0, h0, h1, h2, h3, h4⟩ := hw
  obtain ⟨n1, n2, n3, n4⟩ := hnm r h0
  subst n1
  obtain ⟨hS9, hfc⟩ := hK.1 ci r h0
  obtain ⟨cC, kC0, hfC, hkC0, hkind, -⟩ := Cond.instantiable_spec (hts _ h2)
  cases hfC.symm.trans hfc
  refine W.newcK C.1 C.2.1 C.2.2.2.2.2.1 (hts _ hl) (hts _ h2) (hts _ hini) rfl (ok _ _ _ hd) (by omega) (by omega) hfc hR.1 fun H1 kC hkC e1 z1 o1 => ?_
  have hKn : u_Kn s r.1 r.2.1 r.2.2 (G.1 ci) (G.2.1 ci) := ⟨fun j hj => by obtain ⟨a1, a2, a3, a4, a5, a6, -⟩ := hS9 j hj; exact ⟨a1, a2, a3, a4, a5, a6⟩, hfc, kC0, hkC0, hkind⟩
  have hb := (u_born ty0 hts h1 hKn hkC e1 h3).to (V' := vp_V fs) (fun j hj => by
    have h9 := n4 j hj
    rw [h3 j hj] at h9
    exact Option.some.inj h9)
  have hs1 : qa_atS G σ.2 (.inl (ci, fs)) H1 := ⟨r, h0, n2, hb⟩
  refine k G p l e R s m args below meth c H1 locs (cells + 1) (slots + n) ls ok C (hR.push (by rw [z1, hR.1]) (fun q hq => o1 q (by rw [← hR.1]; exact hq)) ⟨hs1.W1 (E := E), fun _ => hs1⟩) (qa_S_push hS (by rw [z1, hR.1]) (fun q hq => o1 q (by rw [← hR.1]; exact hq))) hL (by omega) (by omega)
theorem qa_newarr {t N : Nat} {j : Int} {at9 : ArrayType} {ty : FieldType} {y : vp_A} (hd : qa_op M pc (.newarray at9) 2 pc') (hty : newarray.typeOf at9 = ty) (ht : qa_ty[t]? = some ty) (hw : Cond.arrayClass ty ∈ qa_tb) (hy : y.1 = N) (hj : 0 ≤ j ∧ j = N ∧ j < 2147483648) (hdv : ∀ q, q < N → qa_val y q = defaultValue ty) (hbytes : N * componentBytes ty ≤ 536870912) (hra : ∀ cA : ClassId, ∀ s : State, va_RA s cA ty ↔ s.vm.findClass ("[" ++ ty.toString) = some cA)
    (k : qa_W E M Q kc ks pc' L (.ref σ.2 :: st) (qa_set σ.1 σ.2 (.inr (t, y)), σ.2 + 1)) : qa_W E M Q (kc + 1) (ks + N) pc L (.int (qa_i j) :: st) σ := by
  obtain ⟨hd, rfl⟩ := hd
  intro G p l e R s m args below meth c H locs cells slots ls ok C hR hS hL hc hs
  have hts := C.2.2.2.2.2.2.2.2.2.2.2.2.2
  have hK := C.2.2.2.2.2.2.2.2.2.2.2.2.1
  subst hty
  refine va_newaK C.1 C.2.1 (hts _ hw) rfl (ok _ _ _ hd) rfl (by rw [← qa_i0, qa_i_lt (by omega) (by omega)]; omega) (by rw [qa_i_ix hj.1 hj.2.2]; omega) hbytes (by omega) (by omega) hR.1 fun H1 cA e1 z1 o1 hAr hNm => ?_
  obtain ⟨hA, hRA⟩ := hK.2.1 t _ ht
  have hcA : cA = G.2.2 t := by
    have h9 := (hra (G.2.2 t) s).mp hRA
    exact Option.some.inj (hNm.symm.trans h9)
  subst hcA
  have hs1 : qa_atS G σ.2 (.inr (t, y)) H1 := by
    show H1[σ.2]? = some (vp_cell _ _)
    rw [e1, qa_cell, hy]
    congr 1
    unfold arrV
    congr 1
    apply Array.ext
    · simp
    · intro i h1 h2
      simp only [Array.getElem_ofFn]
      exact (hdv i (by simpa using h1)).symm
  exact k G p l e R s m args below meth c H1 locs (cells + 1) (slots + N) ls ok C (hR.push (by rw [z1, hR.1]) (fun q hq => o1 q (by rw [← hR.1]; exact hq)) ⟨qa_atS.W2 (E := E) ht hA hs1, fun _ => hs1⟩) (qa_S_push hS (by rw [z1, hR.1]) (fun q hq => o1 q (by rw [← hR.1]; exact hq))) hL (by omega) (by omega)
theorem qa_gets {idx j : Nat} {z : String × String × String} {v : Value} (hd : qa_op M pc (.getstatic idx) 3 pc') (hz : qa_st[j]? = some z) (hl : Cond.fieldLink (qa_R (qa_ow M)) idx z.1 z.2.1 z.2.2 ∈ qa_tb) (hv : E.2 j = v)
    (k : qa_W E M Q kc ks pc' L (v :: st) σ) : qa_W E M Q kc ks pc L st σ := by
  obtain ⟨hd, rfl⟩ := hd
  intro G p l e R s m args below meth c H locs cells slots ls ok C hR hS hL hc hs
  subst hv
  exact va_gets C.1 C.2.1 ((C.2.2.2.2.2.2.2.2.2.2.2.2.1).2.2.2.2.1 j z hz) hS C.2.2.2.2.2.1 (C.2.2.2.2.2.2.2.2.2.2.2.2.2 _ hl) (fun _ h => h) (ok _ _ _ hd) (k G p l e R s m args below meth c H locs cells slots ls ok C hR hS hL hc hs)
theorem qa_objI {idx a : Nat} (hd : qa_op M pc (.invokespecial idx) 3 pc') (hl : Cond.methodLink (qa_R (qa_ow M)) idx Lib.objectInit ∈ qa_tb) (hi : Cond.instanceMethod Lib.objectInit ∈ qa_tb) (hc9 : Cond.code Lib.objectInit ⟨#[0xb1]⟩ 1 none ∈ qa_tb) (hst : (st.map fun v => v.category).sum ≤ 8)
    (k : qa_W E M Q kc ks pc' L st σ) : qa_W E M Q kc ks pc L (.ref a :: st) σ := by
  obtain ⟨hd, rfl⟩ := hd
  intro G p l e R s m args below meth c H locs cells slots ls ok C hR hS hL hc hs
  have hts := C.2.2.2.2.2.2.2.2.2.2.2.2.2
  refine W.objInit C.1 C.2.1 C.2.2.2.2.2.1 (hts _ hl) (hts _ hi) (hts _ hc9) rfl (hL.1.trans C.2.2.1.symm) rfl (ok _ _ _ hd) ?_ ?_ (k G p l e R s m args below meth c H locs cells slots ls ok C hR hS hL hc hs)
  · have := C.2.2.2.2.2.2.2.2.2.1; omega
  · have h1 := C.2.2.2.2.2.2.2.2.2.2.1
    have h2 : (F0 m pc ls (.ref a :: st)).monitorRoom = 0 := rfl
    rw [h2]; omega
end QH
