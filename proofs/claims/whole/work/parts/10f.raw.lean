section QRaw
variable {E : qa_V} {M : qa_M} {Q : qa_O → qa_S → Prop} {kc ks pc pc' : Nat} {L L' : qa_L} {st : List Value} {σ : qa_S}
theorem qa_iaddR {x y z : Int32} (hd : qa_op M pc (.iadd) 1 pc') (hz : x + y = z)
    (k : qa_W E M Q kc ks pc' L (.int z :: st) σ) : qa_W E M Q kc ks pc L (.int y :: .int x :: st) σ := by
  obtain ⟨hd, rfl⟩ := hd
  intro G p l e R s m args below meth c H locs cells slots ls ok C hR hS hL hc hs
  exact lv_iadd C.1 C.2.1 (ok _ _ _ hd) (hz ▸ k G p l e R s m args below meth c H locs cells slots ls ok C hR hS hL hc hs)
theorem qa_isubR {x y z : Int32} (hd : qa_op M pc (.isub) 1 pc') (hz : x - y = z)
    (k : qa_W E M Q kc ks pc' L (.int z :: st) σ) : qa_W E M Q kc ks pc L (.int y :: .int x :: st) σ := by
  obtain ⟨hd, rfl⟩ := hd
  intro G p l e R s m args below meth c H locs cells slots ls ok C hR hS hL hc hs
  exact lv_isub C.1 C.2.1 (ok _ _ _ hd) (hz ▸ k G p l e R s m args below meth c H locs cells slots ls ok C hR hS hL hc hs)
theorem qa_imulR {x y z : Int32} (hd : qa_op M pc (.imul) 1 pc') (hz : x * y = z)
    (k : qa_W E M Q kc ks pc' L (.int z :: st) σ) : qa_W E M Q kc ks pc L (.int y :: .int x :: st) σ := by
  obtain ⟨hd, rfl⟩ := hd
  intro G p l e R s m args below meth c H locs cells slots ls ok C hR hS hL hc hs
  exact lv_imul C.1 C.2.1 (ok _ _ _ hd) (hz ▸ k G p l e R s m args below meth c H locs cells slots ls ok C hR hS hL hc hs)
theorem qa_iandR {x y z : Int32} (hd : qa_op M pc (.iand) 1 pc') (hz : x &&& y = z)
    (k : qa_W E M Q kc ks pc' L (.int z :: st) σ) : qa_W E M Q kc ks pc L (.int y :: .int x :: st) σ := by
  obtain ⟨hd, rfl⟩ := hd
  intro G p l e R s m args below meth c H locs cells slots ls ok C hR hS hL hc hs
  exact lv_iand C.1 C.2.1 (ok _ _ _ hd) (hz ▸ k G p l e R s m args below meth c H locs cells slots ls ok C hR hS hL hc hs)
theorem qa_iorR {x y z : Int32} (hd : qa_op M pc (.ior) 1 pc') (hz : x ||| y = z)
    (k : qa_W E M Q kc ks pc' L (.int z :: st) σ) : qa_W E M Q kc ks pc L (.int y :: .int x :: st) σ := by
  obtain ⟨hd, rfl⟩ := hd
  intro G p l e R s m args below meth c H locs cells slots ls ok C hR hS hL hc hs
  exact lv_ior C.1 C.2.1 (ok _ _ _ hd) (hz ▸ k G p l e R s m args below meth c H locs cells slots ls ok C hR hS hL hc hs)
theorem qa_ixorR {x y z : Int32} (hd : qa_op M pc (.ixor) 1 pc') (hz : x ^^^ y = z)
    (k : qa_W E M Q kc ks pc' L (.int z :: st) σ) : qa_W E M Q kc ks pc L (.int y :: .int x :: st) σ := by
  obtain ⟨hd, rfl⟩ := hd
  intro G p l e R s m args below meth c H locs cells slots ls ok C hR hS hL hc hs
  exact lv_ixor C.1 C.2.1 (ok _ _ _ hd) (hz ▸ k G p l e R s m args below meth c H locs cells slots ls ok C hR hS hL hc hs)
theorem qa_iushrR {x y z : Int32} (hd : qa_op M pc (.iushr) 1 pc') (hz : (x.toUInt32 >>> (y.toUInt32 &&& Int32.toUInt32 31)).toInt32 = z)
    (k : qa_W E M Q kc ks pc' L (.int z :: st) σ) : qa_W E M Q kc ks pc L (.int y :: .int x :: st) σ := by
  obtain ⟨hd, rfl⟩ := hd
  intro G p l e R s m args below meth c H locs cells slots ls ok C hR hS hL hc hs
  exact lv_iushr C.1 C.2.1 (ok _ _ _ hd) hz (k G p l e R s m args below meth c H locs cells slots ls ok C hR hS hL hc hs)
theorem qa_ishlR {x y z : Int32} (hd : qa_op M pc (.ishl) 1 pc') (hz : x <<< (y &&& 31) = z)
    (k : qa_W E M Q kc ks pc' L (.int z :: st) σ) : qa_W E M Q kc ks pc L (.int y :: .int x :: st) σ := by
  obtain ⟨hd, rfl⟩ := hd
  intro G p l e R s m args below meth c H locs cells slots ls ok C hR hS hL hc hs
  exact lv_ishl C.1 C.2.1 (ok _ _ _ hd) (hz ▸ k G p l e R s m args below meth c H locs cells slots ls ok C hR hS hL hc hs)
theorem qa_lorR {x y z : Int64} (hd : qa_op M pc (.lor) 1 pc') (hz : x ||| y = z)
    (k : qa_W E M Q kc ks pc' L (.long z :: st) σ) : qa_W E M Q kc ks pc L (.long y :: .long x :: st) σ := by
  obtain ⟨hd, rfl⟩ := hd
  intro G p l e R s m args below meth c H locs cells slots ls ok C hR hS hL hc hs
  exact lv_lor C.1 C.2.1 (ok _ _ _ hd) (hz ▸ k G p l e R s m args below meth c H locs cells slots ls ok C hR hS hL hc hs)
theorem qa_lshlR {x z : Int64} {y : Int32} (hd : qa_op M pc (.lshl) 1 pc') (hz : x <<< (y.toInt64 &&& 63) = z)
    (k : qa_W E M Q kc ks pc' L (.long z :: st) σ) : qa_W E M Q kc ks pc L (.int y :: .long x :: st) σ := by
  obtain ⟨hd, rfl⟩ := hd
  intro G p l e R s m args below meth c H locs cells slots ls ok C hR hS hL hc hs
  exact lv_lshl C.1 C.2.1 (ok _ _ _ hd) hz (k G p l e R s m args below meth c H locs cells slots ls ok C hR hS hL hc hs)
end QRaw
