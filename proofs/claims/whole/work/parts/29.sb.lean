section QB
variable {E : qa_V} {M : qa_M} {Q : qa_O → qa_S → Prop} {kc ks pc pc' : Nat} {L : qa_L} {st rest : List Value} {σ : qa_S}
theorem qa_bastore {a n : Nat} {g : Int → Int} {j v : Int} (hd : qa_op M pc (.bastore) 1 pc') (hx : σ.1 a = some (qa_ba n g)) (hlo : E.1 ≤ a) (hj : 0 ≤ j ∧ j < n ∧ j < 2147483648) (hv : narrow .byte (.int (qa_i v)) = .int (qa_i v))
    (k : qa_W E M Q kc ks pc' L st (qa_set σ.1 a (qa_ba n (qa_up g j v)), σ.2)) : qa_W E M Q kc ks pc L (.int (qa_i v) :: .int (qa_i j) :: .ref a :: st) σ := by
  obtain ⟨hd, rfl⟩ := hd
  intro G p l e R s m args below meth c H locs cells slots ls ok C hR hS hL hc hs
  obtain ⟨g1, g2, g3, g4⟩ := qa_at.arrS (ty := .byte) C.2.2.2.2.2.2.2.2.2.2.2.2.1 hR hx hlo rfl hj
  refine W.bast C.1 C.2.1 g1 g2 g3 g4 rfl rfl (ok _ _ _ hd) fun H1 e8 z oq => ?_
  rw [hv] at e8
  refine k G p l e R s m args below meth c H1 _ cells slots ls ok C (qa_put9 (t := 2) C.2.2.2.2.2.2.2.2.2.2.2.2.1 hR rfl z oq ?_) (hS.put z oq hlo) hL hc hs
  rw [e8, vp_cell_i, vp_cell_i, arrV_store]
  congr 2
  funext q
  simp only [updV, qa_up, qa_i_ix hj.1 hj.2.2]
  by_cases hq : q = j.toNat
  · rw [if_pos hq, if_pos (by omega)]
  · rw [if_neg hq, if_neg (by omega)]
/-- a call by the object's class, that lands in a class above -/
theorem qa_callU2 {M1 : qa_M} {n idx mc ms b ci : Nat} {as fs : List Value} {Q1 : qa_O → qa_S → Prop} {C xc : String} (hd : qa_cd M pc = some (.invokevirtual idx, 3)) (hF : qa_Fa M1 n) (hh0 : qa_hh M1 = []) (him : Cond.instanceMethod (qa_y M1) ∈ qa_tb) (hlk : Cond.methodLink (qa_R (qa_ow M)) idx ⟨xc, (qa_y M1).name, (qa_y M1).desc⟩ ∈ qa_tb) (hsm : Cond.sameMethod xc (qa_y M1).cls (qa_y M1).name (qa_y M1).desc ∈ qa_tb) (hsel : Cond.selects C ⟨xc, (qa_y M1).name, (qa_y M1).desc⟩ (qa_y M1) ∈ qa_tb)
    (hT : qa_T E M1 mc ms (.ref b :: as) σ Q1) (hx : σ.1 b = some (.inl (ci, fs))) (hnm : (qa_cl[ci]?).map (fun r => r.1) = some C) (hn : as.length = n) (hst : st = as.reverse ++ .ref b :: rest) (hdep : qa_d M1 < qa_d M) (hsum : (rest.map fun v => v.category).sum ≤ 8) (h1 : mc ≤ kc) (h2 : ms ≤ ks)
    (k : ∀ o t, Q1 o t → qa_N E M Q (kc - mc) (ks - ms) pc L rest o t) : qa_W E M Q kc ks pc L st σ := by
  subst hst
  intro G p l e R s m args below meth c H locs cells slots ls ok C9 hR hS hL hc hs
  have hts := C9.2.2.2.2.2.2.2.2.2.2.2.2.2
  have hK := C9.2.2.2.2.2.2.2.2.2.2.2.2.1
  have hE := C9.2.2.2.2.2.2.2.2.2.2.2.1
  obtain ⟨f1, f2, f3, f4, f5⟩ := hF
  have hcw := qa_cw0 hh0
  have S : CallFix p m c (qa_by M) (qa_ml M) s args qa_tb (qa_R (qa_ow M)) := ⟨C9.1, C9.2.1, C9.2.2.1, C9.2.2.2.2.2.1, hts⟩
  refine qa_runW (vx_runU (C := C) (owner := (qa_y M1).cls) (x := ⟨xc, (qa_y M1).name, (qa_y M1).desc⟩) S (hT G l C9.2.2.2.2.2.2.2.2.1) (va_cwU n hts (qa_goodC f1 (fun w hw => ?_)) (by rw [hcw]) rfl rfl rfl ⟨f3.1, f3.2, f4⟩ (qa_roomC C9 hdep f5)) (qa_preV hx hnm hR hS hE hK) rfl hn hL.1 rfl (lv_room hsum) (ok _ _ _ hd) ⟨by omega, by omega⟩) ok C9 hS hL hc hs h1 h2 k
  simp only [List.mem_cons, List.not_mem_nil, or_false] at hw
  rcases hw with rfl | rfl | rfl | rfl | rfl
  · exact hlk
  · exact hsm
  · exact hsel
  · exact him
  · exact f2
/-- .. of the class above, by super -/
theorem qa_callS2 {M1 : qa_M} {n n9 idx mc ms b ci : Nat} {as fs : List Value} {Q1 : qa_O → qa_S → Prop} {nm : String} (hd : qa_cd M pc = some (.invokespecial idx, 3)) (hF : qa_Fa M1 n) (hh0 : qa_hh M1 = []) (him : Cond.instanceMethod (qa_y M1) ∈ qa_tb) (hno : (qa_y M1).name ≠ "<init>") (hlk : Cond.methodLink (qa_R (qa_ow M)) idx (qa_y M1) ∈ qa_tb) (hsm : Cond.sameMethod (qa_y M1).cls (qa_y M1).cls (qa_y M1).name (qa_y M1).desc ∈ qa_tb) (hsup : Cond.superclass (qa_R (qa_ow M)) (qa_y M1).cls ∈ qa_tb)
    (hT : qa_T E M1 mc ms (.ref b :: as) σ Q1) (hx : σ.1 b = some (.inl (ci, fs))) (hnm : (qa_cl[ci]?).map (fun r => r.1) = some nm) (hin : Cond.instantiable nm n9 ∈ qa_tb) (hn : as.length = n) (hst : st = as.reverse ++ .ref b :: rest) (hdep : qa_d M1 < qa_d M) (hsum : (rest.map fun v => v.category).sum ≤ 8) (h1 : mc ≤ kc) (h2 : ms ≤ ks)
    (k : ∀ o t, Q1 o t → qa_N E M Q (kc - mc) (ks - ms) pc L rest o t) : qa_W E M Q kc ks pc L st σ := by
  subst hst
  intro G p l e R s m args below meth c H locs cells slots ls ok C hR hS hL hc hs
  have hts := C.2.2.2.2.2.2.2.2.2.2.2.2.2
  have hK := C.2.2.2.2.2.2.2.2.2.2.2.2.1
  have hE := C.2.2.2.2.2.2.2.2.2.2.2.1
  obtain ⟨f1, f2, f3, f4, f5⟩ := hF
  have hcw := qa_cw0 hh0
  have S : CallFix p m c (qa_by M) (qa_ml M) s args qa_tb (qa_R (qa_ow M)) := ⟨C.1, C.2.1, C.2.2.1, C.2.2.2.2.2.1, hts⟩
  obtain ⟨cC, kC, i1, i2, i3, -⟩ := Cond.instantiable_spec (hts _ hin)
  refine qa_runW (vx_runSU (C := nm) (cC := cC) ⟨i1, kC, i2, i3⟩ S (hT G l C.2.2.2.2.2.2.2.2.1) (va_cwSU n hts (qa_goodC f1 (fun w hw => ?_)) (by rw [hcw]) rfl rfl ⟨hno, f4⟩ (qa_roomC C hdep f5)) (qa_preV hx hnm hR hS hE hK) rfl hn hL.1 rfl (lv_room hsum) (ok _ _ _ hd) ⟨by omega, by omega⟩) ok C hS hL hc hs h1 h2 k
  simp only [List.mem_cons, List.not_mem_nil, or_false] at hw
  rcases hw with rfl | rfl | rfl | rfl | rfl
  · exact hlk
  · exact hsm
  · exact hsup
  · exact him
  · exact f2
end QB
theorem qa_selAB {y : MethodName} {Ts : List Cond} (hy : y.cls ≠ "java/lang/invoke/MethodHandle" ∧ y.cls ≠ "java/lang/invoke/VarHandle") (hc : y.cls = (qa_y qm_AB_isLatin1).cls) (args : Array Value) (s : State) (h : ∀ w ∈ Ts, w.before args s = true) (hpr : Cond.privateMethod y ∈ Ts) (him : Cond.instanceMethod y ∈ Ts) (hsl : Cond.selects "java/lang/StringBuilder" (qa_y qm_AB_isLatin1) (qa_y qm_AB_isLatin1) ∈ Ts) : (Cond.selects "java/lang/StringBuilder" y y).before args s = true := by
  have hl := h _ hsl
  obtain ⟨c, r, m, h1, h2, h3, h4, mk, h5, h6⟩ := Cond.selects_spec hl
  obtain ⟨mk9, methM, hnamed, hmethM, -, -⟩ := Cond.instanceMethod_spec (h _ him)
  have hfound : s.methodFound? y.cls y.name y.desc = some mk9 := State.methodFound?_of_named hnamed hy
  have e1 := findClass_of_methodNamed hnamed
  have e2 := findClass_of_methodNamed h3
  rw [hc] at e1
  have hcls : mk9.cls = m.cls := Option.some.inj (e1.symm.trans e2)
  have hsel : selectMethod {} s.vm c mk9 = .method mk9 := selectMethod_private hmethM (Cond.privateMethod_at (h _ hpr) mk9 methM hnamed hmethM)
  simp only [Cond.before, Cond.holds, Cond.value, h1, hfound, hnamed, hsel, hcls, h5]
  simp; exact h6
theorem qh_AB_isLatin1 : qa_Fa qm_AB_isLatin1 0 := ⟨(qa_wj 6 65 (by decide +kernel) (by decide +kernel)), (qa_wj 1 9 (by decide +kernel) (by decide +kernel)), (by decide), (by decide +kernel), (by decide)⟩
theorem qhm_AB_isLatin1 : Cond.instanceMethod (qa_y qm_AB_isLatin1) ∈ qa_tb := (qa_wj 6 62 (by decide +kernel) (by decide +kernel))
theorem qhs_AB_isLatin1 : Cond.sameMethod (qa_y qm_AB_isLatin1).cls (qa_y qm_AB_isLatin1).cls (qa_y qm_AB_isLatin1).name (qa_y qm_AB_isLatin1).desc ∈ qa_tb := (qa_wj 6 63 (by decide +kernel) (by decide +kernel))
theorem qh_AB_ensureCapacityInternal : qa_Fa qm_AB_ensureCapacityInternal 1 := ⟨(qa_wj 6 35 (by decide +kernel) (by decide +kernel)), (qa_wj 1 9 (by decide +kernel) (by decide +kernel)), (by decide), (by decide +kernel), (by decide)⟩
theorem qhm_AB_ensureCapacityInternal : Cond.instanceMethod (qa_y qm_AB_ensureCapacityInternal) ∈ qa_tb := (qa_wj 6 34 (by decide +kernel) (by decide +kernel))
theorem qhs_AB_ensureCapacityInternal : Cond.sameMethod (qa_y qm_AB_ensureCapacityInternal).cls (qa_y qm_AB_ensureCapacityInternal).cls (qa_y qm_AB_ensureCapacityInternal).name (qa_y qm_AB_ensureCapacityInternal).desc ∈ qa_tb := (qa_wj 10 77 (by decide +kernel) (by decide +kernel))
theorem qh_AB_newCapacity : qa_Fa qm_AB_newCapacity 1 := ⟨(qa_wj 6 39 (by decide +kernel) (by decide +kernel)), (qa_wj 1 9 (by decide +kernel) (by decide +kernel)), (by decide), (by decide +kernel), (by decide)⟩
theorem qhm_AB_newCapacity : Cond.instanceMethod (qa_y qm_AB_newCapacity) ∈ qa_tb := (qa_wj 6 38 (by decide +kernel) (by decide +kernel))
theorem qhs_AB_newCapacity : Cond.sameMethod (qa_y qm_AB_newCapacity).cls (qa_y qm_AB_newCapacity).cls (qa_y qm_AB_newCapacity).name (qa_y qm_AB_newCapacity).desc ∈ qa_tb := (qa_wj 10 78 (by decide +kernel) (by decide +kernel))
theorem qh_AB_setLength : qa_Fa qm_AB_setLength 1 := ⟨(qa_wj 6 12 (by decide +kernel) (by decide +kernel)), (qa_wj 1 9 (by decide +kernel) (by decide +kernel)), (by decide), (by decide +kernel), (by decide)⟩
theorem qhm_AB_setLength : Cond.instanceMethod (qa_y qm_AB_setLength) ∈ qa_tb := (qa_wj 6 11 (by decide +kernel) (by decide +kernel))
theorem qhs_AB_setLength : Cond.sameMethod (qa_y qm_AB_setLength).cls (qa_y qm_AB_setLength).cls (qa_y qm_AB_setLength).name (qa_y qm_AB_setLength).desc ∈ qa_tb := (qa_wj 10 74 (by decide +kernel) (by decide +kernel))
theorem qh_AB_append_2 : qa_Fa qm_AB_append_2 1 := ⟨(qa_wj 6 141 (by decide +kernel) (by decide +kernel)), (qa_wj 1 9 (by decide +kernel) (by decide +kernel)), (by decide), (by decide +kernel), (by decide)⟩
theorem qhm_AB_append_2 : Cond.instanceMethod (qa_y qm_AB_append_2) ∈ qa_tb := (qa_wj 6 140 (by decide +kernel) (by decide +kernel))
theorem qhs_AB_append_2 : Cond.sameMethod (qa_y qm_AB_append_2).cls (qa_y qm_AB_append_2).cls (qa_y qm_AB_append_2).name (qa_y qm_AB_append_2).desc ∈ qa_tb := (qa_wj 10 82 (by decide +kernel) (by decide +kernel))
theorem qh_AB_append_3 : qa_Fa qm_AB_append_3 1 := ⟨(qa_wj 7 24 (by decide +kernel) (by decide +kernel)), (qa_wj 1 9 (by decide +kernel) (by decide +kernel)), (by decide), (by decide +kernel), (by decide)⟩
theorem qhm_AB_append_3 : Cond.instanceMethod (qa_y qm_AB_append_3) ∈ qa_tb := (qa_wj 7 23 (by decide +kernel) (by decide +kernel))
theorem qhs_AB_append_3 : Cond.sameMethod (qa_y qm_AB_append_3).cls (qa_y qm_AB_append_3).cls (qa_y qm_AB_append_3).name (qa_y qm_AB_append_3).desc ∈ qa_tb := (qa_wj 10 83 (by decide +kernel) (by decide +kernel))
theorem qh_AB_charAt : qa_Fa qm_AB_charAt 1 := ⟨(qa_wj 7 61 (by decide +kernel) (by decide +kernel)), (qa_wj 1 9 (by decide +kernel) (by decide +kernel)), (by decide), (by decide +kernel), (by decide)⟩
theorem qhm_AB_charAt : Cond.instanceMethod (qa_y qm_AB_charAt) ∈ qa_tb := (qa_wj 7 60 (by decide +kernel) (by decide +kernel))
theorem qhs_AB_charAt : Cond.sameMethod (qa_y qm_AB_charAt).cls (qa_y qm_AB_charAt).cls (qa_y qm_AB_charAt).name (qa_y qm_AB_charAt).desc ∈ qa_tb := (qa_wj 10 85 (by decide +kernel) (by decide +kernel))
theorem qh_AB_length : qa_Fa qm_AB_length 0 := ⟨(qa_wj 6 184 (by decide +kernel) (by decide +kernel)), (qa_wj 1 9 (by decide +kernel) (by decide +kernel)), (by decide), (by decide +kernel), (by decide)⟩
theorem qhm_AB_length : Cond.instanceMethod (qa_y qm_AB_length) ∈ qa_tb := (qa_wj 6 178 (by decide +kernel) (by decide +kernel))
theorem qhs_AB_length : Cond.sameMethod (qa_y qm_AB_length).cls (qa_y qm_AB_length).cls (qa_y qm_AB_length).name (qa_y qm_AB_length).desc ∈ qa_tb := (qa_wj 6 179 (by decide +kernel) (by decide +kernel))
theorem qh_sup : Cond.superclass "java/lang/StringBuilder" "java/lang/AbstractStringBuilder" ∈ qa_tb := (qa_wj 1 235 (by decide +kernel) (by decide +kernel))
theorem qh_sel_isLatin1 : Cond.selects "java/lang/StringBuilder" (qa_y qm_AB_isLatin1) (qa_y qm_AB_isLatin1) ∈ qa_tb := (qa_wj 6 64 (by decide +kernel) (by decide +kernel))
theorem qh_sel_ensureCapacityInternal : Cond.selects "java/lang/StringBuilder" (qa_y qm_AB_ensureCapacityInternal) (qa_y qm_AB_ensureCapacityInternal) ∈ qa_tb := (qa_wj 11 0 (by decide +kernel) (by decide +kernel))
theorem qh_sel_newCapacity : Cond.selects "java/lang/StringBuilder" (qa_y qm_AB_newCapacity) (qa_y qm_AB_newCapacity) ∈ qa_tb := (qa_wj 11 1 (by decide +kernel) (by decide +kernel))
theorem qhl_12_83 : Cond.methodLink (qa_R 12) 83 (qa_y qm_AB_isLatin1) ∈ qa_tb := (qa_wj 6 61 (by decide +kernel) (by decide +kernel))
theorem qhl_12_100 : Cond.methodLink (qa_R 12) 100 (qa_y qm_AB_ensureCapacityInternal) ∈ qa_tb := (qa_wj 6 32 (by decide +kernel) (by decide +kernel))
theorem qhl_12_104 : Cond.methodLink (qa_R 12) 104 (qa_y qm_AB_newCapacity) ∈ qa_tb := (qa_wj 6 36 (by decide +kernel) (by decide +kernel))
theorem qhl_11_50 : Cond.methodLink (qa_R 11) 50 (qa_y qm_AB_append_3) ∈ qa_tb := (qa_wj 7 22 (by decide +kernel) (by decide +kernel))
theorem qhl_11_53 : Cond.methodLink (qa_R 11) 53 (qa_y qm_AB_append_2) ∈ qa_tb := (qa_wj 6 139 (by decide +kernel) (by decide +kernel))
theorem qhl_11_329 : Cond.methodLink (qa_R 11) 329 (qa_y qm_AB_charAt) ∈ qa_tb := (qa_wj 7 59 (by decide +kernel) (by decide +kernel))
theorem qhl_11_333 : Cond.methodLink (qa_R 11) 333 (qa_y qm_AB_setLength) ∈ qa_tb := (qa_wj 6 10 (by decide +kernel) (by decide +kernel))
theorem qhl_11_343 : Cond.methodLink (qa_R 11) 343 (qa_y qm_AB_length) ∈ qa_tb := (qa_wj 6 183 (by decide +kernel) (by decide +kernel))
def qa_Sb (E : qa_V) : Prop := E.2 0 = .int (qa_i 1) ∧ (E.2 16 = .null ∨ ∃ q : Nat, E.2 16 = .ref q)
theorem qa_by128 : ∀ x : Fin 128, (qa_i (x.val : Int)).toInt8.toInt32 = qa_i (x.val : Int) ∧ narrow .byte (.int (qa_i (x.val : Int))) = .int (qa_i (x.val : Int)) ∧ fits .byte (.int (qa_i (x.val : Int))) = true ∧ qa_i (x.val : Int) &&& qa_i 255 = qa_i (x.val : Int) := by decide +kernel
theorem qa_by9 {x : Int} (h : 0 ≤ x ∧ x ≤ 127) : (qa_i x).toInt8.toInt32 = qa_i x ∧ narrow .byte (.int (qa_i x)) = .int (qa_i x) ∧ fits .byte (.int (qa_i x)) = true ∧ qa_i x &&& qa_i 255 = qa_i x := by
  obtain ⟨n, rfl⟩ : ∃ n : Nat, x = n := ⟨x.toNat, by omega⟩
  exact qa_by128 ⟨n, by omega⟩
theorem qa_shr0 (x : Int32) : x >>> (qa_i 0 &&& 31) = x := sb_shr0 x
theorem qa_shl0 (x : Int32) : x <<< (qa_i 0 &&& 31) = x := sb_shl0 x
def qa_SbF (v : Nat) (ml n : Int) : qa_E := .inl (8, [.ref v, .int (qa_i 0), .int (qa_i ml), .int (qa_i n)])
abbrev sp_B7 (f : Int → Int) : Prop := ∀ j : Int, 0 ≤ f j ∧ f j ≤ 127
/-- the StringBuilder at b, its bytes at v, holds the text t -/
def sR_B (h : qa_H) (b v : Nat) (t : List Int) : Prop := ∃ (ml : Int) (cap : Nat) (f : Int → Int), h b = some (qa_SbF v ml t.length) ∧ h v = some (qa_ba cap f) ∧ t.length ≤ cap ∧ cap ≤ 150 ∧ sp_B7 f ∧ ∀ j : Nat, j < t.length → t[j]? = some (f j)
def sB_G (σ τ : qa_S) (b v v1 : Nat) : Prop := σ.2 ≤ τ.2 ∧ (∀ q, q ≠ b → q ≠ v → q < σ.2 → τ.1 q = σ.1 q) ∧ (v1 = v ∨ (σ.2 ≤ v1 ∧ v1 < τ.2))
theorem sB_G.rf (σ : qa_S) (b v : Nat) : sB_G σ σ b v v := ⟨Nat.le_refl _, fun _ _ _ _ => rfl, Or.inl rfl⟩
theorem sB_G.tr {σ τ ρ : qa_S} {b v v1 v2 : Nat} (h : sB_G σ τ b v v1) (h2 : sB_G τ ρ b v1 v2) : sB_G σ ρ b v v2 := by
  obtain ⟨a1, a2, a3⟩ := h
  obtain ⟨b1, b2, b3⟩ := h2
  refine ⟨by omega, fun q q1 q2 q3 => (b2 q q1 (by omega) (by omega)).trans (a2 q q1 q2 q3), by omega⟩
theorem sR_B.fr {h h' : qa_H} {b v : Nat} {t : List Int} (H : sR_B h b v t) (h1 : h' b = h b) (h2 : h' v = h v) : sR_B h' b v t := by
  obtain ⟨ml, cap, f, a1, a2, a3⟩ := H
  exact ⟨ml, cap, f, h1.trans a1, h2.trans a2, a3⟩
/-- the signs of a number below 100 -/
def sp_dg (x : Int) : List Int := if x ≤ 9 then [48 + x] else [48 + x / 10, 48 + x % 10]
theorem sp_dg_len (x : Int) : (sp_dg x).length = if x ≤ 9 then 1 else 2 := by unfold sp_dg; split <;> rfl
theorem sB_get {t : List Int} {f : Int → Int} (h : ∀ j : Nat, j < t.length → t[j]? = some (f j)) {j : Int} (j0 : 0 ≤ j) (j1 : j < t.length) : t.getD j.toNat 0 = f j := by
  have := h j.toNat (by omega)
  rw [Int.toNat_of_nonneg j0] at this
  rw [List.getD_eq_getElem?_getD, this]; rfl
theorem sB_add {t : List Int} {f : Int → Int} {x : Int} (h : ∀ j : Nat, j < t.length → t[j]? = some (f j)) : ∀ j : Nat, j < (t ++ [x]).length → (t ++ [x])[j]? = some (qa_up f t.length x j) := by
  intro j hj
  rw [List.length_append] at hj
  by_cases e : j < t.length
  · rw [List.getElem?_append_left e, h j e, qa_up_ne (by omega)]
  · have : j = t.length := by simp at hj; omega
    subst this
    rw [List.getElem?_append_right (Nat.le_refl _), qa_up_eq]; simp
theorem c_AB_isLatin1 {E : qa_V} {σ : qa_S} {b v : Nat} {ml n : Int} (hz : qa_Sb E) (hb : σ.1 b = some (qa_SbF v ml n)) : qa_T E qm_AB_isLatin1 0 0 [.ref b] σ (fun o9 τ => o9 = .inl (some (.int (qa_i 1))) ∧ τ = σ) := by
  refine qa_enterF (by decide +kernel) rfl qm_AB_isLatin1_ok rfl rfl (fun Q9 hQ => ?_)
  refine qa_gets (j := 0) (pc' := 3) ⟨rfl, rfl⟩ rfl qs_12_18 hz.1 ?_
  refine qa_if_eq (pc' := 6) (tgt := 17) ⟨rfl, rfl⟩ rfl (by omega) (fun hc1 => ?_) (fun hc1 => ?_)
  · exact absurd hc1 (by omega)
  · refine qa_aload_n (pc' := 7) ⟨rfl, rfl⟩ rfl ?_
    refine qa_getf (pc' := 10) ⟨rfl, rfl⟩ qg_12_22 (by assumption) rfl ?_
    refine qa_if_ne (pc' := 13) (tgt := 17) ⟨rfl, rfl⟩ rfl (by omega) (fun hc2 => ?_) (fun hc2 => ?_)
    · exact absurd hc2 (by omega)
    · refine qa_iconst (pc' := 14) ⟨rfl, rfl⟩ ?_
      refine qa_goto (pc' := 17) (tgt := 18) ⟨rfl, rfl⟩ rfl ?_
      refine qa_ireturn rfl rfl rfl (hQ _ _ ⟨rfl, rfl⟩)
theorem c_AB_length {E : qa_V} {σ : qa_S} {b v : Nat} {ml n : Int} (hb : σ.1 b = some (qa_SbF v ml n)) : qa_T E qm_AB_length 0 0 [.ref b] σ (fun o9 τ => o9 = .inl (some (.int (qa_i n))) ∧ τ = σ) := by
  refine qa_enterF (by decide +kernel) rfl qm_AB_length_ok rfl rfl (fun Q9 hQ => ?_)
  refine qa_aload_n (pc' := 1) ⟨rfl, rfl⟩ rfl ?_
  refine qa_getf (pc' := 4) ⟨rfl, rfl⟩ qg_12_79 (by assumption) rfl ?_
  refine qa_ireturn rfl rfl rfl (hQ _ _ ⟨rfl, rfl⟩)
theorem c_SB_length {E : qa_V} {σ : qa_S} {b v : Nat} {t : List Int} (hB : sR_B σ.1 b v t) : qa_T E qm_SB_length 0 0 [.ref b] σ (fun o9 τ => o9 = .inl (some (.int (qa_i (t.length : Int)))) ∧ τ = σ) := by
  refine qa_enterF (by decide +kernel) rfl qm_SB_length_ok rfl rfl (fun Q9 hQ => ?_)
  obtain ⟨ml, cap, f, hb, hv, hn, hc9, h7, hf⟩ := hB
  refine qa_aload_n (pc' := 1) ⟨rfl, rfl⟩ rfl ?_
  refine qa_callS2 rfl qh_AB_length rfl qhm_AB_length (by decide +kernel) qhl_11_343 qhs_AB_length qh_sup (c_AB_length (E := E) hb) hb rfl qin_8 rfl rfl (qa_lt9 rfl) (qa_le9 rfl) (qa_le9 rfl) (qa_le9 rfl) (fun o9 τ9 hq9 => ?_)
  obtain ⟨rfl, hq9⟩ := hq9
  replace hq9 := hq9.symm; subst hq9
  refine qa_nx (pc' := 4) (st' := [_]) rfl rfl rfl rfl ?_
  refine qa_ireturn rfl rfl rfl (hQ _ _ ⟨rfl, rfl⟩)
theorem c_S1_canEncode {E : qa_V} {σ : qa_S} {x : Int} (hx : 0 ≤ x ∧ x ≤ 127) : qa_T E qm_S1_canEncode 0 0 [.int (qa_i x)] σ (fun o9 τ => o9 = .inl (some (.int (qa_i 1))) ∧ τ = σ) := by
  refine qa_enterF (by decide +kernel) rfl qm_S1_canEncode_ok rfl rfl (fun Q9 hQ => ?_)
  refine qa_iload_n (pc' := 1) ⟨rfl, rfl⟩ rfl ?_
  refine qa_sipush (z := 255) (pc' := 4) ⟨rfl, rfl⟩ rfl ?_
  refine qa_icmp_gt (pc' := 7) (tgt := 11) ⟨rfl, rfl⟩ rfl (by omega) (by omega) (fun hc1 => ?_) (fun hc1 => ?_)
  · exact absurd hc1 (by omega)
  · refine qa_iconst (pc' := 8) ⟨rfl, rfl⟩ ?_
    refine qa_goto (pc' := 11) (tgt := 12) ⟨rfl, rfl⟩ rfl ?_
    refine qa_ireturn rfl rfl rfl (hQ _ _ ⟨rfl, rfl⟩)
theorem c_PC_checkIndex {E : qa_V} {σ : qa_S} {i n : Int} {w : Value} (hw : w = .null ∨ ∃ q : Nat, w = .ref q) (hi : 0 ≤ i ∧ i < n) (hn : n ≤ 100000) : qa_T E qm_PC_checkIndex 0 0 [.int (qa_i i), .int (qa_i n), w] σ (fun o9 τ => o9 = .inl (some (.int (qa_i i))) ∧ τ = σ) := by
  rcases hw with rfl | ⟨q, rfl⟩
  · refine qa_enterF (by decide +kernel) rfl qm_PC_checkIndex_ok rfl rfl (fun Q9 hQ => ?_)
    refine qa_iload_n (pc' := 1) ⟨rfl, rfl⟩ rfl ?_
    refine qa_if_lt (pc' := 4) (tgt := 9) ⟨rfl, rfl⟩ rfl (by omega) (fun hc1 => ?_) (fun hc1 => ?_)
    · exact absurd hc1 (by omega)
    · refine qa_iload_n (pc' := 5) ⟨rfl, rfl⟩ rfl ?_
      refine qa_iload_n (pc' := 6) ⟨rfl, rfl⟩ rfl ?_
      refine qa_icmp_lt (pc' := 9) (tgt := 16) ⟨rfl, rfl⟩ rfl (by omega) (by omega) (fun hc2 => ?_) (fun hc2 => ?_)
      · refine qa_iload_n (pc' := 17) ⟨rfl, rfl⟩ rfl ?_
        refine qa_ireturn rfl rfl rfl (hQ _ _ ⟨rfl, rfl⟩)
      · exact absurd hc2 (by omega)
  · refine qa_enterF (by decide +kernel) rfl qm_PC_checkIndex_ok rfl rfl (fun Q9 hQ => ?_)
    refine qa_iload_n (pc' := 1) ⟨rfl, rfl⟩ rfl ?_
    refine qa_if_lt (pc' := 4) (tgt := 9) ⟨rfl, rfl⟩ rfl (by omega) (fun hc1 => ?_) (fun hc1 => ?_)
    · exact absurd hc1 (by omega)
    · refine qa_iload_n (pc' := 5) ⟨rfl, rfl⟩ rfl ?_
      refine qa_iload_n (pc' := 6) ⟨rfl, rfl⟩ rfl ?_
      refine qa_icmp_lt (pc' := 9) (tgt := 16) ⟨rfl, rfl⟩ rfl (by omega) (by omega) (fun hc2 => ?_) (fun hc2 => ?_)
      · refine qa_iload_n (pc' := 17) ⟨rfl, rfl⟩ rfl ?_
        refine qa_ireturn rfl rfl rfl (hQ _ _ ⟨rfl, rfl⟩)
      · exact absurd hc2 (by omega)
theorem c_ST_checkIndex {E : qa_V} {σ : qa_S} {i n : Int} (hz : qa_Sb E) (hi : 0 ≤ i ∧ i < n) (hn : n ≤ 100000) : qa_T E qm_ST_checkIndex 0 0 [.int (qa_i i), .int (qa_i n)] σ (fun o9 τ => o9 = .inl none ∧ τ = σ) := by
  refine qa_enterF (by decide +kernel) rfl qm_ST_checkIndex_ok rfl rfl (fun Q9 hQ => ?_)
  refine qa_iload_n (pc' := 1) ⟨rfl, rfl⟩ rfl ?_
  refine qa_iload_n (pc' := 2) ⟨rfl, rfl⟩ rfl ?_
  refine qa_gets (j := 16) (pc' := 5) ⟨rfl, rfl⟩ rfl qs_13_1053 rfl ?_
  refine qa_callS rfl qf_PC_checkIndex rfl ql_13_1059 (c_PC_checkIndex (E := E) hz.2 hi hn) rfl rfl (qa_lt9 rfl) (qa_le9 rfl) (qa_le9 rfl) (qa_le9 rfl) (fun o9 τ9 hq9 => ?_)
  obtain ⟨rfl, hq9⟩ := hq9
  replace hq9 := hq9.symm; subst hq9
  refine qa_nx (pc' := 8) (st' := [_]) rfl rfl rfl rfl ?_
  refine qa_pop (pc' := 9) ⟨rfl, rfl⟩ rfl ?_
  refine qa_return rfl rfl (hQ _ _ ⟨rfl, rfl⟩)
theorem c_AB_charAt {E : qa_V} {σ : qa_S} {b v : Nat} {t : List Int} {j : Int} (hz : qa_Sb E) (hB : sR_B σ.1 b v t) (hj : 0 ≤ j ∧ j < t.length) : qa_T E qm_AB_charAt 0 0 [.ref b, .int (qa_i j)] σ (fun o9 τ => o9 = .inl (some (.int (qa_i (t.getD j.toNat 0)))) ∧ τ = σ) := by
  refine qa_enterF (by decide +kernel) rfl qm_AB_charAt_ok rfl rfl (fun Q9 hQ => ?_)
  obtain ⟨ml, cap, f, hb, hv, hn, hc9, h7, hf⟩ := hB
  have h7j := h7 j
  refine qa_aload_n (pc' := 1) ⟨rfl, rfl⟩ rfl ?_
  refine qa_getf (pc' := 4) ⟨rfl, rfl⟩ qg_12_22 (by assumption) rfl ?_
  refine qa_istore_n (L' := [(0, _), (1, _), (2, _)]) (pc' := 5) ⟨rfl, rfl⟩ rfl rfl ?_
  refine qa_aload_n (pc' := 6) ⟨rfl, rfl⟩ rfl ?_
  refine qa_getf (pc' := 9) ⟨rfl, rfl⟩ qg_12_15 (by assumption) rfl ?_
  refine qa_astore_n (L' := [(0, _), (1, _), (2, _), (3, _)]) (pc' := 10) ⟨rfl, rfl⟩ rfl rfl ?_
  refine qa_aload_n (pc' := 11) ⟨rfl, rfl⟩ rfl ?_
  refine qa_getf (pc' := 14) ⟨rfl, rfl⟩ qg_12_79 (by assumption) rfl ?_
  refine qa_aload_n (pc' := 15) ⟨rfl, rfl⟩ rfl ?_
  refine qa_alen (pc' := 16) ⟨rfl, rfl⟩ (by assumption) ?_
  refine qa_iload_n (pc' := 17) ⟨rfl, rfl⟩ rfl ?_
  refine qa_ishrX (z := (cap : Int)) (pc' := 18) ⟨rfl, rfl⟩ (qa_shr0 _) ?_
  refine qa_callS rfl qf_MA_min rfl ql_12_138 (c_MA_min (E := E) (by omega) (by omega)) rfl rfl (qa_lt9 rfl) (qa_le9 rfl) (qa_le9 rfl) (qa_le9 rfl) (fun o9 τ9 hq9 => ?_)
  obtain ⟨rfl, hq9⟩ := hq9
  replace hq9 := hq9.symm; subst hq9
  refine qa_nx (pc' := 21) (st' := [_]) rfl rfl rfl rfl ?_
  rw [if_pos (show (t.length : Int) ≤ (cap : Int) by omega)]
  refine qa_istore (L' := [(0, _), (1, _), (2, _), (3, _), (4, _)]) (pc' := 23) ⟨rfl, rfl⟩ rfl rfl ?_
  refine qa_iload_n (pc' := 24) ⟨rfl, rfl⟩ rfl ?_
  refine qa_iload (pc' := 26) ⟨rfl, rfl⟩ rfl ?_
  refine qa_callS rfl qf_ST_checkIndex rfl ql_12_144 (c_ST_checkIndex (E := E) hz (by omega) (by omega)) rfl rfl (qa_lt9 rfl) (qa_le9 rfl) (qa_le9 rfl) (qa_le9 rfl) (fun o9 τ9 hq9 => ?_)
  obtain ⟨rfl, hq9⟩ := hq9
  replace hq9 := hq9.symm; subst hq9
  refine qa_nx (pc' := 29) (st' := []) rfl rfl rfl rfl ?_
  refine qa_iload_n (pc' := 30) ⟨rfl, rfl⟩ rfl ?_
  refine qa_if_ne (pc' := 33) (tgt := 42) ⟨rfl, rfl⟩ rfl (by omega) (fun hc1 => ?_) (fun hc1 => ?_)
  · exact absurd hc1 (by omega)
  · refine qa_aload_n (pc' := 34) ⟨rfl, rfl⟩ rfl ?_
    refine qa_iload_n (pc' := 35) ⟨rfl, rfl⟩ rfl ?_
    refine qa_baload (pc' := 36) ⟨rfl, rfl⟩ (by assumption) (by omega) ?_
    refine qa_sipush (z := 255) (pc' := 39) ⟨rfl, rfl⟩ rfl ?_
    refine qa_iandX (z := f j) (pc' := 40) ⟨rfl, rfl⟩ (qa_by9 h7j).2.2.2 ?_
    refine qa_i2c (pc' := 41) ⟨rfl, rfl⟩ (by omega) (by omega) ?_
    refine qa_ireturn rfl rfl (by have := lg_i2c_word (v := qa_i (f j)) (by rw [qa_i_toInt (by omega)]; omega) (by rw [qa_i_toInt (by omega)]; omega); exact congrArg Value.int this) (hQ _ _ ⟨by rw [sB_get hf hj.1 hj.2], rfl⟩)
theorem c_SB_charAt {E : qa_V} {σ : qa_S} {b v : Nat} {t : List Int} {j : Int} (hz : qa_Sb E) (hB : sR_B σ.1 b v t) (hj : 0 ≤ j ∧ j < t.length) : qa_T E qm_SB_charAt 0 0 [.ref b, .int (qa_i j)] σ (fun o9 τ => o9 = .inl (some (.int (qa_i (t.getD j.toNat 0)))) ∧ τ = σ) := by
  refine qa_enterF (by decide +kernel) rfl qm_SB_charAt_ok rfl rfl (fun Q9 hQ => ?_)
  have hB9 := hB
  obtain ⟨ml, cap, f, hb, hv, hn, hc9, h7, hf⟩ := hB
  have h7j := h7 j
  refine qa_aload_n (pc' := 1) ⟨rfl, rfl⟩ rfl ?_
  refine qa_iload_n (pc' := 2) ⟨rfl, rfl⟩ rfl ?_
  refine qa_callS2 rfl qh_AB_charAt rfl qhm_AB_charAt (by decide +kernel) qhl_11_329 qhs_AB_charAt qh_sup (c_AB_charAt (E := E) hz hB9 hj) hb rfl qin_8 rfl rfl (qa_lt9 rfl) (qa_le9 rfl) (qa_le9 rfl) (qa_le9 rfl) (fun o9 τ9 hq9 => ?_)
  obtain ⟨rfl, hq9⟩ := hq9
  replace hq9 := hq9.symm; subst hq9
  refine qa_nx (pc' := 5) (st' := [_]) rfl rfl rfl rfl ?_
  rw [sB_get hf hj.1 hj.2]
  refine qa_ireturn rfl rfl (by have := lg_i2c_word (v := qa_i (f j)) (by rw [qa_i_toInt (by omega)]; omega) (by rw [qa_i_toInt (by omega)]; omega); exact congrArg Value.int this) (hQ _ _ ⟨by rw [sB_get hf hj.1 hj.2], rfl⟩)
theorem c_AS_newLength {E : qa_V} {σ : qa_S} {o m p : Int} (ho : 0 ≤ o ∧ o ≤ 1000) (hm : 0 ≤ m ∧ m ≤ 1000) (hp : 1 ≤ p ∧ p ≤ 1010) : qa_T E qm_AS_newLength 0 0 [.int (qa_i o), .int (qa_i m), .int (qa_i p)] σ (fun o9 τ => o9 = .inl (some (.int (qa_i (o + if p ≤ m then m else p)))) ∧ τ = σ) := by
  refine qa_enterF (by decide +kernel) rfl qm_AS_newLength_ok rfl rfl (fun Q9 hQ => ?_)
  have hmx : 1 ≤ (if p ≤ m then m else p) ∧ (if p ≤ m then m else p) ≤ 1010 := by split <;> omega
  refine qa_iload_n (pc' := 1) ⟨rfl, rfl⟩ rfl ?_
  refine qa_iload_n (pc' := 2) ⟨rfl, rfl⟩ rfl ?_
  refine qa_iload_n (pc' := 3) ⟨rfl, rfl⟩ rfl ?_
  refine qa_callS rfl qf_MA_max rfl ql_20_194 (c_MA_max (E := E) (by omega) (by omega)) rfl rfl (qa_lt9 rfl) (qa_le9 rfl) (qa_le9 rfl) (qa_le9 rfl) (fun o9 τ9 hq9 => ?_)
  obtain ⟨rfl, hq9⟩ := hq9
  replace hq9 := hq9.symm; subst hq9
  refine qa_nx (pc' := 6) (st' := [_, _]) rfl rfl rfl rfl ?_
  generalize (if p ≤ m then m else p) = mx at *
  refine qa_iadd (pc' := 7) ⟨rfl, rfl⟩ rfl ?_
  refine qa_istore_n (L' := [(0, _), (1, _), (2, _), (3, _)]) (pc' := 8) ⟨rfl, rfl⟩ rfl rfl ?_
  refine qa_iconst (pc' := 9) ⟨rfl, rfl⟩ ?_
  refine qa_iload_n (pc' := 10) ⟨rfl, rfl⟩ rfl ?_
  refine qa_icmp_ge (pc' := 13) (tgt := 21) ⟨rfl, rfl⟩ rfl (by omega) (by omega) (fun hc1 => ?_) (fun hc1 => ?_)
  · exact absurd hc1 (by omega)
  · refine qa_iload_n (pc' := 14) ⟨rfl, rfl⟩ rfl ?_
    refine qa_ldc (z := 2147483639) (pc' := 16) ⟨rfl, rfl⟩ qk_20_200 ?_
    refine qa_icmp_gt (pc' := 19) (tgt := 21) ⟨rfl, rfl⟩ rfl (by omega) (by omega) (fun hc2 => ?_) (fun hc2 => ?_)
    · exact absurd hc2 (by omega)
    · refine qa_iload_n (pc' := 20) ⟨rfl, rfl⟩ rfl ?_
      refine qa_ireturn rfl rfl rfl (hQ _ _ ⟨rfl, rfl⟩)
theorem c_AB_newCapacity {E : qa_V} {σ : qa_S} {b v cap : Nat} {ml n N : Int} {f : Int → Int} (hb : σ.1 b = some (qa_SbF v ml n)) (hv : σ.1 v = some (qa_ba cap f)) (hN : cap < N ∧ N ≤ cap + 2 ∧ cap ≤ 150) : qa_T E qm_AB_newCapacity 0 0 [.ref b, .int (qa_i N)] σ (fun o9 τ => o9 = .inl (some (.int (qa_i (2 * cap + 2)))) ∧ τ = σ) := by
  refine qa_enterF (by decide +kernel) rfl qm_AB_newCapacity_ok rfl rfl (fun Q9 hQ => ?_)
  refine qa_aload_n (pc' := 1) ⟨rfl, rfl⟩ rfl ?_
  refine qa_getf (pc' := 4) ⟨rfl, rfl⟩ qg_12_15 (by assumption) rfl ?_
  refine qa_alen (pc' := 5) ⟨rfl, rfl⟩ (by assumption) ?_
  refine qa_istore_n (L' := [(0, _), (1, _), (2, _)]) (pc' := 6) ⟨rfl, rfl⟩ rfl rfl ?_
  refine qa_iload_n (pc' := 7) ⟨rfl, rfl⟩ rfl ?_
  refine qa_aload_n (pc' := 8) ⟨rfl, rfl⟩ rfl ?_
  refine qa_getf (pc' := 11) ⟨rfl, rfl⟩ qg_12_22 (by assumption) rfl ?_
  refine qa_ishlX (z := N) (pc' := 12) ⟨rfl, rfl⟩ (qa_shl0 _) ?_
  refine qa_istore_n (L' := [(0, _), (1, _), (2, _), (3, _)]) (pc' := 13) ⟨rfl, rfl⟩ rfl rfl ?_
  refine qa_iload_n (pc' := 14) ⟨rfl, rfl⟩ rfl ?_
  refine qa_iload_n (pc' := 15) ⟨rfl, rfl⟩ rfl ?_
  refine qa_isub (z := N - cap) (pc' := 16) ⟨rfl, rfl⟩ rfl ?_
  refine qa_istore (L' := [(0, _), (1, _), (2, _), (3, _), (4, _)]) (pc' := 18) ⟨rfl, rfl⟩ rfl rfl ?_
  refine qa_iload_n (pc' := 19) ⟨rfl, rfl⟩ rfl ?_
  refine qa_iload (pc' := 21) ⟨rfl, rfl⟩ rfl ?_
  refine qa_iload_n (pc' := 22) ⟨rfl, rfl⟩ rfl ?_
  refine qa_iconst (pc' := 23) ⟨rfl, rfl⟩ ?_
  refine qa_aload_n (pc' := 24) ⟨rfl, rfl⟩ rfl ?_
  refine qa_getf (pc' := 27) ⟨rfl, rfl⟩ qg_12_22 (by assumption) rfl ?_
  refine qa_ishlX (z := 2) (pc' := 28) ⟨rfl, rfl⟩ (qa_shl0 _) ?_
  refine qa_iadd (z := (cap : Int) + 2) (pc' := 29) ⟨rfl, rfl⟩ rfl ?_
  refine qa_callS rfl qf_AS_newLength rfl ql_12_114 (c_AS_newLength (E := E) (by omega) (by omega) (by omega)) rfl rfl (qa_lt9 rfl) (qa_le9 rfl) (qa_le9 rfl) (qa_le9 rfl) (fun o9 τ9 hq9 => ?_)
  obtain ⟨rfl, hq9⟩ := hq9
  replace hq9 := hq9.symm; subst hq9
  refine qa_nx (pc' := 32) (st' := [_]) rfl rfl rfl rfl ?_
  rw [show (cap : Int) + (if (cap : Int) + 2 ≤ N - cap then N - cap else (cap : Int) + 2) = 2 * cap + 2 by split <;> omega]
  refine qa_istore (L' := [(0, _), (1, _), (2, _), (3, _), (4, _), (5, _)]) (pc' := 34) ⟨rfl, rfl⟩ rfl rfl ?_
  refine qa_iload (pc' := 36) ⟨rfl, rfl⟩ rfl ?_
  refine qa_ldc (z := 2147483647) (pc' := 38) ⟨rfl, rfl⟩ qk_12_39 ?_
  refine qa_icmp_ne (pc' := 41) (tgt := 51) ⟨rfl, rfl⟩ rfl (by omega) (by omega) (fun hc1 => ?_) (fun hc1 => ?_)
  · refine qa_iload (pc' := 53) ⟨rfl, rfl⟩ rfl ?_
    refine qa_aload_n (pc' := 54) ⟨rfl, rfl⟩ rfl ?_
    refine qa_getf (pc' := 57) ⟨rfl, rfl⟩ qg_12_22 (by assumption) rfl ?_
    refine qa_ishrX (z := 2 * (cap : Int) + 2) (pc' := 58) ⟨rfl, rfl⟩ (qa_shr0 _) ?_
    refine qa_ireturn rfl rfl rfl (hQ _ _ ⟨rfl, rfl⟩)
  · exact absurd hc1 (by omega)
theorem c_AR_copyOf {E : qa_V} {σ : qa_S} {v cap : Nat} {n : Int} {f : Int → Int} (hlo : E.1 ≤ v) (hlo2 : E.1 ≤ σ.2) (hlt : v < σ.2) (hv : σ.1 v = some (qa_ba cap f)) (h7 : sp_B7 f) (hn : n = 2 * cap + 2) (hc9 : cap ≤ 74) : qa_T E qm_AR_copyOf 1 150 [.ref v, .int (qa_i n)] σ (fun o9 τ => o9 = .inl (some (.ref σ.2)) ∧ τ.2 = σ.2 + 1 ∧ (∀ q, q ≠ σ.2 → τ.1 q = σ.1 q) ∧ ∃ f1 : Int → Int, τ.1 σ.2 = some (qa_ba (2 * cap + 2) f1) ∧ sp_B7 f1 ∧ ∀ j : Int, 0 ≤ j → j < cap → f1 j = f j) := by
  refine qa_enterF (by decide +kernel) rfl qm_AR_copyOf_ok rfl rfl (fun Q9 hQ => ?_)
  refine qa_iload_n (pc' := 1) ⟨rfl, rfl⟩ rfl ?_
  refine qa_aload_n (pc' := 2) ⟨rfl, rfl⟩ rfl ?_
  refine qa_alen (pc' := 3) ⟨rfl, rfl⟩ (by assumption) ?_
  refine qa_icmp_ne (pc' := 6) (tgt := 14) ⟨rfl, rfl⟩ rfl (by omega) (by omega) (fun hc1 => ?_) (fun hc1 => ?_)
  · subst hn
    refine qa_iload_n (pc' := 15) ⟨rfl, rfl⟩ rfl ?_
    refine qa_less (kc' := 0 + 1) (ks' := 0 + (2 * cap + 2)) (by omega) (by omega) ?_
    refine qa_newarr (pc' := 17) (t := 2) (N := 2 * cap + 2) (y := (2 * cap + 2, .inl (fun q => qa_i ((fun _ : Int => 0) q)))) ⟨rfl, rfl⟩ rfl rfl qa_ac_byte rfl (by omega) (fun _ _ => rfl) (by show (2 * cap + 2) * 1 ≤ 536870912; omega) (fun _ _ => Iff.rfl) ?_
    refine qa_gn (fun τ1 e1 w1 f1 => ?_)
    replace hv := (f1 _ (by omega)).trans hv
    replace w1 : _ = some (qa_ba (2 * cap + 2) (fun _ => 0)) := w1
    refine qa_astore_n (L' := [(0, _), (1, _), (2, _)]) (pc' := 18) ⟨rfl, rfl⟩ rfl rfl ?_
    refine qa_aload_n (pc' := 19) ⟨rfl, rfl⟩ rfl ?_
    refine qa_iconst (pc' := 20) ⟨rfl, rfl⟩ ?_
    refine qa_aload_n (pc' := 21) ⟨rfl, rfl⟩ rfl ?_
    refine qa_iconst (pc' := 22) ⟨rfl, rfl⟩ ?_
    refine qa_aload_n (pc' := 23) ⟨rfl, rfl⟩ rfl ?_
    refine qa_alen (pc' := 24) ⟨rfl, rfl⟩ (by assumption) ?_
    refine qa_iload_n (pc' := 25) ⟨rfl, rfl⟩ rfl ?_
    refine qa_callS rfl qf_MA_min rfl ql_19_304 (c_MA_min (E := E) (by omega) (by omega)) rfl rfl (qa_lt9 rfl) (qa_le9 rfl) (qa_le9 rfl) (qa_le9 rfl) (fun o9 τ9 hq9 => ?_)
    obtain ⟨rfl, hq9⟩ := hq9
    replace hq9 := hq9.symm; subst hq9
    refine qa_nx (pc' := 28) (st' := [_, _, _, _, _]) rfl rfl rfl rfl ?_
    rw [if_pos (show (cap : Int) ≤ 2 * (cap : Int) + 2 by omega)]
    refine qa_copy (pc' := 31) (t := 2) (f := f) (g := fun _ => 0) ⟨rfl, rfl⟩ qac_19_150 qa_acN qa_acS qa_acI rfl rfl hv w1 hlo hlo2 (by omega) (fun j => (qa_by9 (h7 j)).2.2.1) (qa_le9 rfl) ?_
    refine qa_gz (fun τ2 e2 w2 f2 => ?_)
    refine qa_aload_n (pc' := 32) ⟨rfl, rfl⟩ rfl ?_
    refine qa_areturn rfl rfl (Or.inr ⟨_, rfl⟩) (hQ _ _ ⟨rfl, e2.trans e1, fun q hq => (f2 q hq).trans (f1 q hq), _, w2, fun j => ?_, fun j j0 j1 => qa_cp_0 ⟨j0, j1⟩⟩)
    unfold qa_cp; split; · exact h7 _
    · exact ⟨by show (0 : Int) ≤ 0; decide, by show (0 : Int) ≤ 127; decide⟩
  · exact absurd hc1 (by omega)
theorem c_AB_ensure {E : qa_V} {σ : qa_S} {b v cap : Nat} {ml n N : Int} {f : Int → Int} (hlo : E.1 ≤ b) (hlo1 : E.1 ≤ v) (hlt : b < σ.2 ∧ v < σ.2) (hb : σ.1 b = some (qa_SbF v ml n)) (hv : σ.1 v = some (qa_ba cap f)) (h7 : sp_B7 f) (hN : 0 ≤ N ∧ N ≤ cap + 2 ∧ N ≤ 74 ∧ cap ≤ 150) : qa_T E qm_AB_ensureCapacityInternal 1 150 [.ref b, .int (qa_i N)] σ (fun o9 τ => o9 = .inl none ∧ σ.2 ≤ τ.2 ∧ (∀ q, q ≠ b → q < σ.2 → τ.1 q = σ.1 q) ∧ ∃ (v1 cap1 : Nat) (f1 : Int → Int), τ.1 b = some (qa_SbF v1 ml n) ∧ τ.1 v1 = some (qa_ba cap1 f1) ∧ sp_B7 f1 ∧ (∀ j : Int, 0 ≤ j → j < cap → f1 j = f j) ∧ N ≤ cap1 ∧ cap ≤ cap1 ∧ cap1 ≤ 150 ∧ (v1 = v ∨ (σ.2 ≤ v1 ∧ v1 < τ.2)) ∧ (N ≤ cap → v1 = v)) := by
  refine qa_enterF (by decide +kernel) rfl qm_AB_ensureCapacityInternal_ok rfl rfl (fun Q9 hQ => ?_)
  refine qa_aload_n (pc' := 1) ⟨rfl, rfl⟩ rfl ?_
  refine qa_getf (pc' := 4) ⟨rfl, rfl⟩ qg_12_15 (by assumption) rfl ?_
  refine qa_alen (pc' := 5) ⟨rfl, rfl⟩ (by assumption) ?_
  refine qa_aload_n (pc' := 6) ⟨rfl, rfl⟩ rfl ?_
  refine qa_getf (pc' := 9) ⟨rfl, rfl⟩ qg_12_22 (by assumption) rfl ?_
  refine qa_ishrX (z := (cap : Int)) (pc' := 10) ⟨rfl, rfl⟩ (qa_shr0 _) ?_
  refine qa_istore_n (L' := [(0, _), (1, _), (2, _)]) (pc' := 11) ⟨rfl, rfl⟩ rfl rfl ?_
  refine qa_iload_n (pc' := 12) ⟨rfl, rfl⟩ rfl ?_
  refine qa_iload_n (pc' := 13) ⟨rfl, rfl⟩ rfl ?_
  refine qa_isub (z := N - cap) (pc' := 14) ⟨rfl, rfl⟩ rfl ?_
  refine qa_if_le (pc' := 17) (tgt := 38) ⟨rfl, rfl⟩ rfl (by omega) (fun hc1 => ?_) (fun hc1 => ?_)
  · refine qa_return rfl rfl (hQ _ _ ⟨rfl, Nat.le_refl _, fun _ _ _ => rfl, v, cap, f, hb, hv, h7, fun _ _ _ => rfl, by omega, by omega, by omega, Or.inl rfl, fun _ => rfl⟩)
  · refine qa_aload_n (pc' := 18) ⟨rfl, rfl⟩ rfl ?_
    refine qa_aload_n (pc' := 19) ⟨rfl, rfl⟩ rfl ?_
    refine qa_getf (pc' := 22) ⟨rfl, rfl⟩ qg_12_15 (by assumption) rfl ?_
    refine qa_aload_n (pc' := 23) ⟨rfl, rfl⟩ rfl ?_
    refine qa_iload_n (pc' := 24) ⟨rfl, rfl⟩ rfl ?_
    refine qa_callU2 (C := "java/lang/StringBuilder") (xc := (qa_y qm_AB_newCapacity).cls) rfl qh_AB_newCapacity rfl qhm_AB_newCapacity qhl_12_104 qhs_AB_newCapacity qh_sel_newCapacity (c_AB_newCapacity (E := E) hb hv (by omega)) hb rfl rfl rfl (qa_lt9 rfl) (qa_le9 rfl) (qa_le9 rfl) (qa_le9 rfl) (fun o9 τ9 hq9 => ?_)
    obtain ⟨rfl, hq9⟩ := hq9
    replace hq9 := hq9.symm; subst hq9
    refine qa_nx (pc' := 27) (st' := [_, _, _]) rfl rfl rfl rfl ?_
    refine qa_aload_n (pc' := 28) ⟨rfl, rfl⟩ rfl ?_
    refine qa_getf (pc' := 31) ⟨rfl, rfl⟩ qg_12_22 (by assumption) rfl ?_
    refine qa_ishlX (z := 2 * (cap : Int) + 2) (pc' := 32) ⟨rfl, rfl⟩ (qa_shl0 _) ?_
    refine qa_callS rfl qf_AR_copyOf rfl ql_12_108 (c_AR_copyOf (E := E) hlo1 (by omega) hlt.2 hv h7 rfl (by omega)) rfl rfl (qa_lt9 rfl) (qa_le9 rfl) (qa_le9 rfl) (qa_le9 rfl) (fun o9 τ9 hq9 => ?_)
    obtain ⟨rfl, e1, fr1, f1, w1, g7, gf⟩ := hq9
    refine qa_nx (pc' := 35) (kc' := 0) (ks' := 0) (st' := [_, _]) rfl rfl rfl rfl ?_
    replace hb := (fr1 _ (by omega)).trans hb
    refine qa_putf (fs' := [_, _, _, _]) (pc' := 38) ⟨rfl, rfl⟩ qg_12_15 qw_8 (by assumption) (by omega) rfl (fun r hr => by cases hr; exact ⟨rfl, Or.inl rfl⟩) rfl rfl ?_
    refine qa_gz (fun τ1 e1b w1b f1b => ?_)
    
    refine qa_return rfl rfl (hQ _ _ ⟨rfl, by omega, fun q q1 q2 => (f1b q q1).trans (fr1 q (by omega)), _, 2 * cap + 2, f1, w1b, (f1b _ (by omega)).trans w1, g7, gf, by omega, by omega, by omega, Or.inr ⟨Nat.le_refl _, by omega⟩, fun h => absurd h (by omega)⟩)
theorem c_AB_setLength {E : qa_V} {σ : qa_S} {b v : Nat} {t : List Int} (hz : qa_Sb E) (hlo : E.1 ≤ b) (hlo1 : E.1 ≤ v) (hlt : b < σ.2 ∧ v < σ.2) (hB : sR_B σ.1 b v t) : qa_T E qm_AB_setLength 1 150 [.ref b, .int (qa_i 0)] σ (fun o9 τ => o9 = .inl none ∧ σ.2 ≤ τ.2 ∧ (∀ q, q ≠ b → q < σ.2 → τ.1 q = σ.1 q) ∧ sR_B τ.1 b v []) := by
  refine qa_enterF (by decide +kernel) rfl qm_AB_setLength_ok rfl rfl (fun Q9 hQ => ?_)
  obtain ⟨ml, cap, f, hb, hv, hn, hc9, h7, hf⟩ := hB
  refine qa_iload_n (pc' := 1) ⟨rfl, rfl⟩ rfl ?_
  refine qa_if_ge (pc' := 4) (tgt := 13) ⟨rfl, rfl⟩ rfl (by omega) (fun hc1 => ?_) (fun hc1 => ?_)
  · refine qa_aload_n (pc' := 14) ⟨rfl, rfl⟩ rfl ?_
    refine qa_iload_n (pc' := 15) ⟨rfl, rfl⟩ rfl ?_
    refine qa_callU2 (C := "java/lang/StringBuilder") (xc := (qa_y qm_AB_ensureCapacityInternal).cls) rfl qh_AB_ensureCapacityInternal rfl qhm_AB_ensureCapacityInternal qhl_12_100 qhs_AB_ensureCapacityInternal qh_sel_ensureCapacityInternal (c_AB_ensure (E := E) hlo hlo1 hlt hb hv h7 (by omega)) hb rfl rfl rfl (qa_lt9 rfl) (qa_le9 rfl) (qa_le9 rfl) (qa_le9 rfl) (fun o9 τ9 hq9 => ?_)
    obtain ⟨rfl, e1, fr1, v1, cap1, f1, w1, w1v, g7, gf, n1, n2, n3, n4, n5⟩ := hq9
    refine qa_nx (pc' := 18) (st' := []) rfl rfl rfl rfl ?_
    obtain rfl := n5 (by omega)
    refine qa_aload_n (pc' := 19) ⟨rfl, rfl⟩ rfl ?_
    refine qa_getf (pc' := 22) ⟨rfl, rfl⟩ qg_12_79 (by assumption) rfl ?_
    refine qa_iload_n (pc' := 23) ⟨rfl, rfl⟩ rfl ?_
    refine qa_icmp_ge (pc' := 26) (tgt := 63) ⟨rfl, rfl⟩ rfl (by omega) (by omega) (fun hc2 => ?_) (fun hc2 => ?_)
    · refine qa_aload_n (pc' := 64) ⟨rfl, rfl⟩ rfl ?_
      refine qa_getf (pc' := 67) ⟨rfl, rfl⟩ qg_12_79 (by assumption) rfl ?_
      refine qa_iload_n (pc' := 68) ⟨rfl, rfl⟩ rfl ?_
      refine qa_icmp_le (pc' := 71) (tgt := 76) ⟨rfl, rfl⟩ rfl (by omega) (by omega) (fun hc3 => ?_) (fun hc3 => ?_)
      · refine qa_aload_n (pc' := 77) ⟨rfl, rfl⟩ rfl ?_
        refine qa_iload_n (pc' := 78) ⟨rfl, rfl⟩ rfl ?_
        refine qa_putf (fs' := [_, _, _, _]) (pc' := 81) ⟨rfl, rfl⟩ qg_12_79 qw_8 (by assumption) (by omega) rfl (fun r hr => by cases hr; exact ⟨rfl, Or.inl rfl⟩) rfl rfl ?_
        refine qa_gz (fun τ5 e5 w5 f5 => ?_)
        
        refine qa_return rfl rfl (hQ _ _ ⟨rfl, by omega, fun q q1 q2 => (f5 q q1).trans (fr1 q q1 q2), _, cap1, f1, w5, (f5 _ (by intro h; rw [h] at hv; exact absurd (hb.symm.trans hv) (by intro h9; cases h9))).trans w1v, Nat.zero_le _, n3, g7, fun j hj => absurd hj (Nat.not_lt_zero j)⟩)
      · refine qa_aload_n (pc' := 72) ⟨rfl, rfl⟩ rfl ?_
        refine qa_iconst (pc' := 73) ⟨rfl, rfl⟩ ?_
        refine qa_putf (fs' := [_, _, _, _]) (pc' := 76) ⟨rfl, rfl⟩ qg_12_73 qw_8 (by assumption) (by omega) rfl (fun r hr => by cases hr; exact ⟨rfl, Or.inl rfl⟩) rfl rfl ?_
        refine qa_gz (fun τ11 e11 w11 f11 => ?_)
        
        refine qa_aload_n (pc' := 77) ⟨rfl, rfl⟩ rfl ?_
        refine qa_iload_n (pc' := 78) ⟨rfl, rfl⟩ rfl ?_
        refine qa_putf (fs' := [_, _, _, _]) (pc' := 81) ⟨rfl, rfl⟩ qg_12_79 qw_8 (by assumption) (by omega) rfl (fun r hr => by cases hr; exact ⟨rfl, Or.inl rfl⟩) rfl rfl ?_
        refine qa_gz (fun τ12 e12 w12 f12 => ?_)
        
        refine qa_return rfl rfl (hQ _ _ ⟨rfl, by omega, fun q q1 q2 => (f12 q q1).trans ((f11 q q1).trans (fr1 q q1 q2)), _, cap1, f1, w12, (f12 _ (by intro h; rw [h] at hv; exact absurd (hb.symm.trans hv) (by intro h9; cases h9))).trans ((f11 _ (by intro h; rw [h] at hv; exact absurd (hb.symm.trans hv) (by intro h9; cases h9))).trans w1v), Nat.zero_le _, n3, g7, fun j hj => absurd hj (Nat.not_lt_zero j)⟩)
    · exact absurd hc2 (by omega)
  · exact absurd hc1 (by omega)
theorem c_SB_setLength {E : qa_V} {σ : qa_S} {b v : Nat} {t : List Int} (hz : qa_Sb E) (hlo : E.1 ≤ b) (hlo1 : E.1 ≤ v) (hlt : b < σ.2 ∧ v < σ.2) (hB : sR_B σ.1 b v t) : qa_T E qm_SB_setLength 1 150 [.ref b, .int (qa_i 0)] σ (fun o9 τ => o9 = .inl none ∧ σ.2 ≤ τ.2 ∧ (∀ q, q ≠ b → q < σ.2 → τ.1 q = σ.1 q) ∧ sR_B τ.1 b v []) := by
  refine qa_enterF (by decide +kernel) rfl qm_SB_setLength_ok rfl rfl (fun Q9 hQ => ?_)
  have hB9 := hB
  obtain ⟨ml, cap, f, hb, hv, hn, hc9, h7, hf⟩ := hB
  refine qa_aload_n (pc' := 1) ⟨rfl, rfl⟩ rfl ?_
  refine qa_iload_n (pc' := 2) ⟨rfl, rfl⟩ rfl ?_
  refine qa_callS2 rfl qh_AB_setLength rfl qhm_AB_setLength (by decide +kernel) qhl_11_333 qhs_AB_setLength qh_sup (c_AB_setLength (E := E) hz hlo hlo1 hlt hB9) hb rfl qin_8 rfl rfl (qa_lt9 rfl) (qa_le9 rfl) (qa_le9 rfl) (qa_le9 rfl) (fun o9 τ9 hq9 => ?_)
  obtain ⟨rfl, e1, f1, w1⟩ := hq9
  refine qa_nx (pc' := 5) (st' := []) rfl rfl rfl rfl ?_
  refine qa_return rfl rfl (hQ _ _ ⟨rfl, e1, f1, w1⟩)
theorem c_AB_appendC {E : qa_V} {σ : qa_S} {b v : Nat} {t : List Int} {x : Int} (hz : qa_Sb E) (hlo : E.1 ≤ b) (hlo1 : E.1 ≤ v) (hlt : b < σ.2 ∧ v < σ.2) (hB : sR_B σ.1 b v t) (hx : 0 ≤ x ∧ x ≤ 127) (hl9 : t.length < 74) : qa_T E qm_AB_append_3 1 150 [.ref b, .int (qa_i x)] σ (fun o9 τ => o9 = .inl (some (.ref b)) ∧ ∃ v1 : Nat, sB_G σ τ b v v1 ∧ sR_B τ.1 b v1 (t ++ [x])) := by
  refine qa_enterF (by decide +kernel) rfl qm_AB_append_3_ok rfl rfl (fun Q9 hQ => ?_)
  obtain ⟨ml, cap, f, hb, hv, hn, hc9, h7, hf⟩ := hB
  have hx9 := qa_by9 hx
  refine qa_aload_n (pc' := 1) ⟨rfl, rfl⟩ rfl ?_
  refine qa_aload_n (pc' := 2) ⟨rfl, rfl⟩ rfl ?_
  refine qa_getf (pc' := 5) ⟨rfl, rfl⟩ qg_12_79 (by assumption) rfl ?_
  refine qa_iconst (pc' := 6) ⟨rfl, rfl⟩ ?_
  refine qa_iadd (z := (t.length : Int) + 1) (pc' := 7) ⟨rfl, rfl⟩ rfl ?_
  refine qa_callU2 (C := "java/lang/StringBuilder") (xc := (qa_y qm_AB_ensureCapacityInternal).cls) rfl qh_AB_ensureCapacityInternal rfl qhm_AB_ensureCapacityInternal qhl_12_100 qhs_AB_ensureCapacityInternal qh_sel_ensureCapacityInternal (c_AB_ensure (E := E) hlo hlo1 hlt hb hv h7 (by omega)) hb rfl rfl rfl (qa_lt9 rfl) (qa_le9 rfl) (qa_le9 rfl) (qa_le9 rfl) (fun o9 τ9 hq9 => ?_)
  obtain ⟨rfl, e1, fr1, v1, cap1, f1, w1, w1v, g7, gf, n1, n2, n3, n4, n5⟩ := hq9
  refine qa_nx (pc' := 10) (st' := []) rfl rfl rfl rfl ?_
  have hne : v1 ≠ b := by intro h; rw [h] at w1v; exact absurd (w1.symm.trans w1v) (by intro h9; cases h9)
  have hlo2 : E.1 ≤ v1 := by omega
  refine qa_aload_n (pc' := 11) ⟨rfl, rfl⟩ rfl ?_
  refine qa_callU2 (C := "java/lang/StringBuilder") (xc := (qa_y qm_AB_isLatin1).cls) rfl qh_AB_isLatin1 rfl qhm_AB_isLatin1 qhl_12_83 qhs_AB_isLatin1 qh_sel_isLatin1 (c_AB_isLatin1 (E := E) hz w1) w1 rfl rfl rfl (qa_lt9 rfl) (qa_le9 rfl) (qa_le9 rfl) (qa_le9 rfl) (fun o9 τ9 hq9 => ?_)
  obtain ⟨rfl, hq9⟩ := hq9
  replace hq9 := hq9.symm; subst hq9
  refine qa_nx (pc' := 14) (st' := [_]) rfl rfl rfl rfl ?_
  refine qa_if_eq (pc' := 17) (tgt := 45) ⟨rfl, rfl⟩ rfl (by omega) (fun hc2 => ?_) (fun hc2 => ?_)
  · exact absurd hc2 (by omega)
  · refine qa_iload_n (pc' := 18) ⟨rfl, rfl⟩ rfl ?_
    refine qa_callS rfl qf_S1_canEncode rfl ql_12_191 (c_S1_canEncode (E := E) hx) rfl rfl (qa_lt9 rfl) (qa_le9 rfl) (qa_le9 rfl) (qa_le9 rfl) (fun o9 τ9 hq9 => ?_)
    obtain ⟨rfl, hq9⟩ := hq9
    replace hq9 := hq9.symm; subst hq9
    refine qa_nx (pc' := 21) (st' := [_]) rfl rfl rfl rfl ?_
    refine qa_if_eq (pc' := 24) (tgt := 45) ⟨rfl, rfl⟩ rfl (by omega) (fun hc3 => ?_) (fun hc3 => ?_)
    · exact absurd hc3 (by omega)
    · refine qa_aload_n (pc' := 25) ⟨rfl, rfl⟩ rfl ?_
      refine qa_getf (pc' := 28) ⟨rfl, rfl⟩ qg_12_15 (by assumption) rfl ?_
      refine qa_aload_n (pc' := 29) ⟨rfl, rfl⟩ rfl ?_
      refine qa_dup (pc' := 30) ⟨rfl, rfl⟩ rfl ?_
      refine qa_getf (pc' := 33) ⟨rfl, rfl⟩ qg_12_79 (by assumption) rfl ?_
      refine qa_dup_x1 (pc' := 34) ⟨rfl, rfl⟩ rfl rfl ?_
      refine qa_iconst (pc' := 35) ⟨rfl, rfl⟩ ?_
      refine qa_iadd (z := ((t ++ [x]).length : Int)) (pc' := 36) ⟨rfl, rfl⟩ (by simp) ?_
      refine qa_putf (fs' := [_, _, _, _]) (pc' := 39) ⟨rfl, rfl⟩ qg_12_79 qw_8 (by assumption) (by omega) rfl (fun r hr => by cases hr; exact ⟨rfl, Or.inl rfl⟩) rfl rfl ?_
      refine qa_gz (fun τ11 e11 w11 f11 => ?_)
      replace w1v := (f11 _ (by omega)).trans w1v
      skip
      refine qa_iload_n (pc' := 40) ⟨rfl, rfl⟩ rfl ?_
      refine qa_i2b (pc' := 41) (z := x) ⟨rfl, rfl⟩ hx9.1 ?_
      refine qa_bastore (pc' := 42) ⟨rfl, rfl⟩ w1v hlo2 (by omega) hx9.2.1 ?_
      refine qa_gz (fun τ12 e12 w12 f12 => ?_)
      refine qa_goto (pc' := 45) (tgt := 75) ⟨rfl, rfl⟩ rfl ?_
      refine qa_aload_n (pc' := 76) ⟨rfl, rfl⟩ rfl ?_
      refine qa_areturn rfl rfl (Or.inl ⟨_, rfl⟩) (hQ _ _ ⟨rfl, v1, ⟨by omega, fun q q1 q2 q3 => (f12 q (by omega)).trans ((f11 q q1).trans (fr1 q q1 q3)), by omega⟩, ml, cap1, _, (f12 _ (Ne.symm hne)).trans w11, w12, by rw [List.length_append]; simp; omega, n3, fun j => ?_, sB_add (fun j hj => by rw [hf j hj, gf j (by omega) (by omega)])⟩)
      by_cases e : j = t.length
      · rw [e, qa_up_eq]; exact hx
      · rw [qa_up_ne e]; exact g7 j
theorem c_SB_appendC {E : qa_V} {σ : qa_S} {b v : Nat} {t : List Int} {x : Int} (hz : qa_Sb E) (hlo : E.1 ≤ b) (hlo1 : E.1 ≤ v) (hlt : b < σ.2 ∧ v < σ.2) (hB : sR_B σ.1 b v t) (hx : 0 ≤ x ∧ x ≤ 127) (hl9 : t.length < 74) : qa_T E qm_SB_append_3 1 150 [.ref b, .int (qa_i x)] σ (fun o9 τ => o9 = .inl (some (.ref b)) ∧ ∃ v1 : Nat, sB_G σ τ b v v1 ∧ sR_B τ.1 b v1 (t ++ [x])) := by
  refine qa_enterF (by decide +kernel) rfl qm_SB_append_3_ok rfl rfl (fun Q9 hQ => ?_)
  have hB9 := hB
  obtain ⟨ml, cap, f, hb, hv, hn, hc9, h7, hf⟩ := hB
  refine qa_aload_n (pc' := 1) ⟨rfl, rfl⟩ rfl ?_
  refine qa_iload_n (pc' := 2) ⟨rfl, rfl⟩ rfl ?_
  refine qa_callS2 rfl qh_AB_append_3 rfl qhm_AB_append_3 (by decide +kernel) qhl_11_50 qhs_AB_append_3 qh_sup (c_AB_appendC (E := E) hz hlo hlo1 hlt hB9 hx hl9) hb rfl qin_8 rfl rfl (qa_lt9 rfl) (qa_le9 rfl) (qa_le9 rfl) (qa_le9 rfl) (fun o9 τ9 hq9 => ?_)
  obtain ⟨rfl, v1, w1, w2⟩ := hq9
  refine qa_nx (pc' := 5) (st' := [_]) rfl rfl rfl rfl ?_
  refine qa_pop (pc' := 6) ⟨rfl, rfl⟩ rfl ?_
  refine qa_aload_n (pc' := 7) ⟨rfl, rfl⟩ rfl ?_
  refine qa_areturn rfl rfl (Or.inl ⟨_, rfl⟩) (hQ _ _ ⟨rfl, v1, w1, w2⟩)
theorem c_IN_stringSize {E : qa_V} {σ : qa_S} {x : Int} (hx : 0 ≤ x ∧ x ≤ 99) : qa_T E qm_IN_stringSize 0 0 [.int (qa_i x)] σ (fun o9 τ => o9 = .inl (some (.int (qa_i (if x ≤ 9 then 1 else 2)))) ∧ τ = σ) := by
  refine qa_enterF (by decide +kernel) rfl qm_IN_stringSize_ok rfl rfl (fun Q9 hQ => ?_)
  refine qa_iconst (pc' := 1) ⟨rfl, rfl⟩ ?_
  refine qa_istore_n (L' := [(0, _), (1, _)]) (pc' := 2) ⟨rfl, rfl⟩ rfl rfl ?_
  refine qa_iload_n (pc' := 3) ⟨rfl, rfl⟩ rfl ?_
  refine qa_if_lt (pc' := 6) (tgt := 11) ⟨rfl, rfl⟩ rfl (by omega) (fun hc1 => ?_) (fun hc1 => ?_)
  · exact absurd hc1 (by omega)
  · refine qa_iconst (pc' := 7) ⟨rfl, rfl⟩ ?_
    refine qa_istore_n (L' := [(0, _), (1, _)]) (pc' := 8) ⟨rfl, rfl⟩ rfl rfl ?_
    refine qa_iload_n (pc' := 9) ⟨rfl, rfl⟩ rfl ?_
    refine qa_ineg (z := -x) (pc' := 10) ⟨rfl, rfl⟩ rfl ?_
    refine qa_istore_n (L' := [(0, _), (1, _)]) (pc' := 11) ⟨rfl, rfl⟩ rfl rfl ?_
    refine qa_bipush (z := (-10)) (pc' := 13) ⟨rfl, rfl⟩ rfl ?_
    refine qa_istore_n (L' := [(0, _), (1, _), (2, _)]) (pc' := 14) ⟨rfl, rfl⟩ rfl rfl ?_
    refine qa_iconst (pc' := 15) ⟨rfl, rfl⟩ ?_
    refine qa_istore_n (L' := [(0, _), (1, _), (2, _), (3, _)]) (pc' := 16) ⟨rfl, rfl⟩ rfl rfl ?_
    have e : x ≤ 9 ∨ 10 ≤ x := by omega
    refine qa_iload_n (pc' := 17) ⟨rfl, rfl⟩ rfl ?_
    refine qa_bipush (z := 10) (pc' := 19) ⟨rfl, rfl⟩ rfl ?_
    refine qa_icmp_ge (pc' := 22) (tgt := 42) ⟨rfl, rfl⟩ rfl (by omega) (by omega) (fun hc2 => ?_) (fun hc2 => ?_)
    · exact absurd hc2 (by omega)
    · refine qa_iload_n (pc' := 23) ⟨rfl, rfl⟩ rfl ?_
      refine qa_iload_n (pc' := 24) ⟨rfl, rfl⟩ rfl ?_
      refine qa_icmp_le (pc' := 27) (tgt := 31) ⟨rfl, rfl⟩ rfl (by omega) (by omega) (fun hc3 => ?_) (fun hc3 => ?_)
      · refine qa_bipush (z := 10) (pc' := 33) ⟨rfl, rfl⟩ rfl ?_
        refine qa_iload_n (pc' := 34) ⟨rfl, rfl⟩ rfl ?_
        refine qa_imul (z := (-100)) (pc' := 35) ⟨rfl, rfl⟩ rfl ?_
        refine qa_istore_n (L' := [(0, _), (1, _), (2, _), (3, _)]) (pc' := 36) ⟨rfl, rfl⟩ rfl rfl ?_
        refine qa_iinc (L' := [(0, _), (1, _), (2, _), (3, _)]) (z := 2) (pc' := 39) ⟨rfl, rfl⟩ rfl rfl rfl rfl ?_
        refine qa_goto (pc' := 42) (tgt := 16) ⟨rfl, rfl⟩ rfl ?_
        refine qa_iload_n (pc' := 17) ⟨rfl, rfl⟩ rfl ?_
        refine qa_bipush (z := 10) (pc' := 19) ⟨rfl, rfl⟩ rfl ?_
        refine qa_icmp_ge (pc' := 22) (tgt := 42) ⟨rfl, rfl⟩ rfl (by omega) (by omega) (fun hc4 => ?_) (fun hc4 => ?_)
        · exact absurd hc4 (by omega)
        · refine qa_iload_n (pc' := 23) ⟨rfl, rfl⟩ rfl ?_
          refine qa_iload_n (pc' := 24) ⟨rfl, rfl⟩ rfl ?_
          refine qa_icmp_le (pc' := 27) (tgt := 31) ⟨rfl, rfl⟩ rfl (by omega) (by omega) (fun hc5 => ?_) (fun hc5 => ?_)
          · exact absurd hc5 (by omega)
          · refine qa_iload_n (pc' := 28) ⟨rfl, rfl⟩ rfl ?_
            refine qa_iload_n (pc' := 29) ⟨rfl, rfl⟩ rfl ?_
            refine qa_iadd (pc' := 30) ⟨rfl, rfl⟩ rfl ?_
            refine qa_ireturn rfl rfl rfl (hQ _ _ ⟨by rw [if_neg (by omega)]; rfl, rfl⟩)
      · refine qa_iload_n (pc' := 28) ⟨rfl, rfl⟩ rfl ?_
        refine qa_iload_n (pc' := 29) ⟨rfl, rfl⟩ rfl ?_
        refine qa_iadd (pc' := 30) ⟨rfl, rfl⟩ rfl ?_
        refine qa_ireturn rfl rfl rfl (hQ _ _ ⟨by rw [if_pos (by omega)]; rfl, rfl⟩)
theorem c_IN_getChars {E : qa_V} {σ : qa_S} {v cap : Nat} {Z : Nat → Nat} {x N : Int} {f : Int → Int} (hZ : qa_St E Z σ.1) (hlo : E.1 ≤ v) (hv : σ.1 v = some (qa_ba cap f)) (hx : 0 ≤ x ∧ x ≤ 99) (hN : (if x ≤ 9 then 1 else 2) ≤ N ∧ N ≤ cap ∧ N ≤ 1000) : qa_T E qm_IN_getChars 0 0 [.int (qa_i x), .int (qa_i N), .ref v] σ (fun o9 τ => (∃ r : Int, o9 = .inl (some (.int (qa_i r)))) ∧ τ.2 = σ.2 ∧ (∀ q, q ≠ v → τ.1 q = σ.1 q) ∧ τ.1 v = some (qa_ba cap (if x ≤ 9 then qa_up f (N - 1) (48 + x) else qa_up (qa_up f (N - 1) (48 + x % 10)) (N - 2) (48 + x / 10)))) := by
  refine qa_enterF (by decide +kernel) rfl qm_IN_getChars_ok rfl rfl (fun Q9 hQ => ?_)
  obtain ⟨zl, z0, z2, z15, z13, z14, zj, zh0, zh1, zh2, zh3, zk⟩ := hZ
  refine qa_iload_n (pc' := 1) ⟨rfl, rfl⟩ rfl ?_
  refine qa_istore (L' := [(0, _), (1, _), (2, _), (5, _)]) (pc' := 3) ⟨rfl, rfl⟩ rfl rfl ?_
  refine qa_iload_n (pc' := 4) ⟨rfl, rfl⟩ rfl ?_
  have e9 : (if x ≤ 9 then (1 : Int) else 2) = if x ≤ 9 then 1 else 2 := rfl
  refine qa_if_ge (pc' := 7) (tgt := 11) ⟨rfl, rfl⟩ rfl (by omega) (fun hc1 => ?_) (fun hc1 => ?_)
  · refine qa_iconst (pc' := 12) ⟨rfl, rfl⟩ ?_
    refine qa_istore (L' := [(0, _), (1, _), (2, _), (5, _), (6, _)]) (pc' := 14) ⟨rfl, rfl⟩ rfl rfl ?_
    refine qa_iload (pc' := 16) ⟨rfl, rfl⟩ rfl ?_
    refine qa_if_ne (pc' := 19) (tgt := 22) ⟨rfl, rfl⟩ rfl (by omega) (fun hc2 => ?_) (fun hc2 => ?_)
    · exact absurd hc2 (by decide)
    · refine qa_iload_n (pc' := 20) ⟨rfl, rfl⟩ rfl ?_
      refine qa_ineg (z := -x) (pc' := 21) ⟨rfl, rfl⟩ rfl ?_
      refine qa_istore_n (L' := [(0, _), (1, _), (2, _), (5, _), (6, _)]) (pc' := 22) ⟨rfl, rfl⟩ rfl rfl ?_
      refine qa_iload_n (pc' := 23) ⟨rfl, rfl⟩ rfl ?_
      refine qa_bipush (z := (-100)) (pc' := 25) ⟨rfl, rfl⟩ rfl ?_
      refine qa_icmp_gt (pc' := 28) (tgt := 72) ⟨rfl, rfl⟩ rfl (by omega) (by omega) (fun hc3 => ?_) (fun hc3 => ?_)
      · refine qa_aload_n (pc' := 73) ⟨rfl, rfl⟩ rfl ?_
        refine qa_iinc (L' := [(0, _), (1, _), (2, _), (5, _), (6, _)]) (z := N - 1) (pc' := 76) ⟨rfl, rfl⟩ rfl (by omega) rfl rfl ?_
        refine qa_iload (pc' := 78) ⟨rfl, rfl⟩ rfl ?_
        refine qa_gets (j := 13) (pc' := 81) ⟨rfl, rfl⟩ rfl qs_16_83 z13 ?_
        refine qa_iload_n (pc' := 82) ⟨rfl, rfl⟩ rfl ?_
        refine qa_ineg (z := x) (pc' := 83) ⟨rfl, rfl⟩ (by omega) ?_
        refine qa_baload (pc' := 84) ⟨rfl, rfl⟩ zh2 (by omega) ?_
        refine qa_bastore (pc' := 85) (v := 48 + x % 10) ⟨rfl, rfl⟩ hv hlo (by split at hN <;> omega) (qa_by9 (by omega)).2.1 ?_
        refine qa_gz (fun τ1 e1 w1 f1 => ?_)
        have zlt := zl 3
        replace zh3 := (f1 _ (by omega)).trans zh3
        refine qa_iload_n (pc' := 86) ⟨rfl, rfl⟩ rfl ?_
        refine qa_bipush (z := (-9)) (pc' := 88) ⟨rfl, rfl⟩ rfl ?_
        refine qa_icmp_ge (pc' := 91) (tgt := 104) ⟨rfl, rfl⟩ rfl (by omega) (by omega) (fun hc4 => ?_) (fun hc4 => ?_)
        · refine qa_iload (pc' := 106) ⟨rfl, rfl⟩ rfl ?_
          refine qa_if_eq (pc' := 109) (tgt := 118) ⟨rfl, rfl⟩ rfl (by omega) (fun hc5 => ?_) (fun hc5 => ?_)
          · refine qa_iload (pc' := 120) ⟨rfl, rfl⟩ rfl ?_
            refine qa_ireturn rfl rfl rfl (hQ _ _ ⟨⟨_, rfl⟩, e1, f1, ?_⟩)
            rw [if_pos (by omega)]; rw [show 48 + x = 48 + x % 10 by omega]; exact w1
          · exact absurd hc5 (by decide)
        · refine qa_aload_n (pc' := 92) ⟨rfl, rfl⟩ rfl ?_
          refine qa_iinc (L' := [(0, _), (1, _), (2, _), (5, _), (6, _)]) (z := N - 2) (pc' := 95) ⟨rfl, rfl⟩ rfl (by omega) rfl rfl ?_
          refine qa_iload (pc' := 97) ⟨rfl, rfl⟩ rfl ?_
          refine qa_gets (j := 14) (pc' := 100) ⟨rfl, rfl⟩ rfl qs_16_87 z14 ?_
          refine qa_iload_n (pc' := 101) ⟨rfl, rfl⟩ rfl ?_
          refine qa_ineg (z := x) (pc' := 102) ⟨rfl, rfl⟩ (by omega) ?_
          refine qa_baload (pc' := 103) ⟨rfl, rfl⟩ zh3 (by omega) ?_
          refine qa_bastore (pc' := 104) (v := 48 + x / 10) ⟨rfl, rfl⟩ w1 hlo (by split at hN <;> omega) (qa_by9 (by omega)).2.1 ?_
          refine qa_gz (fun τ2 e2 w2 f2 => ?_)
          refine qa_iload (pc' := 106) ⟨rfl, rfl⟩ rfl ?_
          refine qa_if_eq (pc' := 109) (tgt := 118) ⟨rfl, rfl⟩ rfl (by omega) (fun hc5 => ?_) (fun hc5 => ?_)
          · refine qa_iload (pc' := 120) ⟨rfl, rfl⟩ rfl ?_
            refine qa_ireturn rfl rfl rfl (hQ _ _ ⟨⟨_, rfl⟩, e2.trans e1, fun q hq => (f2 q hq).trans (f1 q hq), ?_⟩)
            rw [if_neg (by omega)]; exact w2
          · exact absurd hc5 (by decide)
      · exact absurd hc3 (by omega)
  · exact absurd hc1 (by omega)
theorem c_AB_appendI {E : qa_V} {σ : qa_S} {b v : Nat} {t : List Int} {Z : Nat → Nat} {x : Int} (hz : qa_Sb E) (hZ : qa_St E Z σ.1) (hlo : E.1 ≤ b) (hlo1 : E.1 ≤ v) (hlt : b < σ.2 ∧ v < σ.2) (hB : sR_B σ.1 b v t) (hx : 0 ≤ x ∧ x ≤ 99) (hl9 : t.length < 73) : qa_T E qm_AB_append_2 1 150 [.ref b, .int (qa_i x)] σ (fun o9 τ => o9 = .inl (some (.ref b)) ∧ ∃ v1 : Nat, sB_G σ τ b v v1 ∧ sR_B τ.1 b v1 (t ++ sp_dg x)) := by
  refine qa_enterF (by decide +kernel) rfl qm_AB_append_2_ok rfl rfl (fun Q9 hQ => ?_)
  obtain ⟨ml, cap, f, hb, hv, hn, hc9, h7, hf⟩ := hB
  have hdl := sp_dg_len x
  have hz9 : (((t ++ sp_dg x).length : Nat) : Int) = t.length + if x ≤ 9 then 1 else 2 := by rw [List.length_append, hdl]; split <;> omega
  have hzb : (t.length : Int) + 1 ≤ (t ++ sp_dg x).length ∧ ((t ++ sp_dg x).length : Int) ≤ t.length + 2 := by rw [hz9]; split <;> omega
  refine qa_aload_n (pc' := 1) ⟨rfl, rfl⟩ rfl ?_
  refine qa_getf (pc' := 4) ⟨rfl, rfl⟩ qg_12_79 (by assumption) rfl ?_
  refine qa_istore_n (L' := [(0, _), (1, _), (2, _)]) (pc' := 5) ⟨rfl, rfl⟩ rfl rfl ?_
  refine qa_iload_n (pc' := 6) ⟨rfl, rfl⟩ rfl ?_
  refine qa_iload_n (pc' := 7) ⟨rfl, rfl⟩ rfl ?_
  refine qa_callS rfl qf_IN_stringSize rfl ql_12_245 (c_IN_stringSize (E := E) hx) rfl rfl (qa_lt9 rfl) (qa_le9 rfl) (qa_le9 rfl) (qa_le9 rfl) (fun o9 τ9 hq9 => ?_)
  obtain ⟨rfl, hq9⟩ := hq9
  replace hq9 := hq9.symm; subst hq9
  refine qa_nx (pc' := 10) (st' := [_, _]) rfl rfl rfl rfl ?_
  refine qa_iadd (z := ((t ++ sp_dg x).length : Int)) (pc' := 11) ⟨rfl, rfl⟩ hz9.symm ?_
  refine qa_istore_n (L' := [(0, _), (1, _), (2, _), (3, _)]) (pc' := 12) ⟨rfl, rfl⟩ rfl rfl ?_
  refine qa_aload_n (pc' := 13) ⟨rfl, rfl⟩ rfl ?_
  refine qa_iload_n (pc' := 14) ⟨rfl, rfl⟩ rfl ?_
  refine qa_callU2 (C := "java/lang/StringBuilder") (xc := (qa_y qm_AB_ensureCapacityInternal).cls) rfl qh_AB_ensureCapacityInternal rfl qhm_AB_ensureCapacityInternal qhl_12_100 qhs_AB_ensureCapacityInternal qh_sel_ensureCapacityInternal (c_AB_ensure (E := E) hlo hlo1 hlt hb hv h7 (by omega)) hb rfl rfl rfl (qa_lt9 rfl) (qa_le9 rfl) (qa_le9 rfl) (qa_le9 rfl) (fun o9 τ9 hq9 => ?_)
  obtain ⟨rfl, e1, fr1, v1, cap1, f1, w1, w1v, g7, gf, n1, n2, n3, n4, n5⟩ := hq9
  refine qa_nx (pc' := 17) (st' := []) rfl rfl rfl rfl ?_
  have hne : v1 ≠ b := by intro h; rw [h] at w1v; exact absurd (w1.symm.trans w1v) (by intro h9; cases h9)
  have hlo2 : E.1 ≤ v1 := by omega
  refine qa_aload_n (pc' := 18) ⟨rfl, rfl⟩ rfl ?_
  refine qa_callU2 (C := "java/lang/StringBuilder") (xc := (qa_y qm_AB_isLatin1).cls) rfl qh_AB_isLatin1 rfl qhm_AB_isLatin1 qhl_12_83 qhs_AB_isLatin1 qh_sel_isLatin1 (c_AB_isLatin1 (E := E) hz w1) w1 rfl rfl rfl (qa_lt9 rfl) (qa_le9 rfl) (qa_le9 rfl) (qa_le9 rfl) (fun o9 τ9 hq9 => ?_)
  obtain ⟨rfl, hq9⟩ := hq9
  replace hq9 := hq9.symm; subst hq9
  refine qa_nx (pc' := 21) (st' := [_]) rfl rfl rfl rfl ?_
  refine qa_if_eq (pc' := 24) (tgt := 37) ⟨rfl, rfl⟩ rfl (by omega) (fun hc2 => ?_) (fun hc2 => ?_)
  · exact absurd hc2 (by omega)
  · refine qa_iload_n (pc' := 25) ⟨rfl, rfl⟩ rfl ?_
    refine qa_iload_n (pc' := 26) ⟨rfl, rfl⟩ rfl ?_
    refine qa_aload_n (pc' := 27) ⟨rfl, rfl⟩ rfl ?_
    refine qa_getf (pc' := 30) ⟨rfl, rfl⟩ qg_12_15 (by assumption) rfl ?_
    replace hZ := hZ.to (fun q hq => fr1 q (by omega) (by omega))
    refine qa_callS rfl qf_IN_getChars rfl ql_12_248 (c_IN_getChars (E := E) hZ hlo2 w1v hx (by rw [hz9] at *; split at hz9 <;> omega)) rfl rfl (qa_lt9 rfl) (qa_le9 rfl) (qa_le9 rfl) (qa_le9 rfl) (fun o9 τ9 hq9 => ?_)
    obtain ⟨⟨r9, rfl⟩, e2, f2, w2⟩ := hq9
    refine qa_nx (pc' := 33) (st' := [_]) rfl rfl rfl rfl ?_
    replace w1 := (f2 _ (Ne.symm hne)).trans w1
    refine qa_pop (pc' := 34) ⟨rfl, rfl⟩ rfl ?_
    refine qa_goto (pc' := 37) (tgt := 48) ⟨rfl, rfl⟩ rfl ?_
    refine qa_aload_n (pc' := 49) ⟨rfl, rfl⟩ rfl ?_
    refine qa_iload_n (pc' := 50) ⟨rfl, rfl⟩ rfl ?_
    refine qa_putf (fs' := [_, _, _, _]) (pc' := 53) ⟨rfl, rfl⟩ qg_12_79 qw_8 (by assumption) (by omega) rfl (fun r hr => by cases hr; exact ⟨rfl, Or.inl rfl⟩) rfl rfl ?_
    refine qa_gz (fun τ3 e3 w3 f3 => ?_)
    skip
    refine qa_aload_n (pc' := 54) ⟨rfl, rfl⟩ rfl ?_
    refine qa_areturn rfl rfl (Or.inl ⟨_, rfl⟩) (hQ _ _ ⟨rfl, v1, ⟨by omega, fun q q1 q2 q3 => (f3 q q1).trans ((f2 q (by omega)).trans (fr1 q q1 q3)), by omega⟩, ml, cap1, _, w3, (f3 _ hne).trans w2, by omega, n3, fun j => ?_, ?_⟩)
    · split
      · unfold qa_up; split; (omega); (exact g7 j)
      · unfold qa_up; split; (omega); (split; (omega); (exact g7 j))
    · have hf9 : ∀ j : Nat, j < t.length → t[j]? = some (f1 j) := fun j hj => by rw [hf j hj, gf j (by omega) (by omega)]
      unfold sp_dg at *
      by_cases e : x ≤ 9
      · rw [if_pos e] at *; rw [if_pos e]; rw [show ((t ++ [48 + x]).length : Int) - 1 = t.length by rw [hz9]; omega]; exact sB_add hf9
      · rw [if_neg e] at *; rw [if_neg e]; rw [show ((t ++ [48 + x / 10, 48 + x % 10]).length : Int) - 1 = t.length + 1 by rw [hz9]; omega, show ((t ++ [48 + x / 10, 48 + x % 10]).length : Int) - 2 = t.length by rw [hz9]; omega]
        intro j hj
        have hj2 : j < t.length + 2 := by simpa using hj
        by_cases j1 : j < t.length
        · rw [List.getElem?_append_left j1, hf9 j j1, qa_up_ne (by omega), qa_up_ne (by omega)]
        · by_cases j2 : j = t.length
          · subst j2; rw [List.getElem?_append_right (Nat.le_refl _), qa_up_eq]; simp
          · have j3 : j = t.length + 1 := by omega
            subst j3; rw [List.getElem?_append_right (by omega), qa_up_ne (by omega), show ((t.length + 1 : Nat) : Int) = t.length + 1 by omega, qa_up_eq]; simp
theorem c_SB_appendI {E : qa_V} {σ : qa_S} {b v : Nat} {t : List Int} {Z : Nat → Nat} {x : Int} (hz : qa_Sb E) (hZ : qa_St E Z σ.1) (hlo : E.1 ≤ b) (hlo1 : E.1 ≤ v) (hlt : b < σ.2 ∧ v < σ.2) (hB : sR_B σ.1 b v t) (hx : 0 ≤ x ∧ x ≤ 99) (hl9 : t.length < 73) : qa_T E qm_SB_append_2 1 150 [.ref b, .int (qa_i x)] σ (fun o9 τ => o9 = .inl (some (.ref b)) ∧ ∃ v1 : Nat, sB_G σ τ b v v1 ∧ sR_B τ.1 b v1 (t ++ sp_dg x)) := by
  refine qa_enterF (by decide +kernel) rfl qm_SB_append_2_ok rfl rfl (fun Q9 hQ => ?_)
  have hB9 := hB
  obtain ⟨ml, cap, f, hb, hv, hn, hc9, h7, hf⟩ := hB
  refine qa_aload_n (pc' := 1) ⟨rfl, rfl⟩ rfl ?_
  refine qa_iload_n (pc' := 2) ⟨rfl, rfl⟩ rfl ?_
  refine qa_callS2 rfl qh_AB_append_2 rfl qhm_AB_append_2 (by decide +kernel) qhl_11_53 qhs_AB_append_2 qh_sup (c_AB_appendI (E := E) hz hZ hlo hlo1 hlt hB9 hx hl9) hb rfl qin_8 rfl rfl (qa_lt9 rfl) (qa_le9 rfl) (qa_le9 rfl) (qa_le9 rfl) (fun o9 τ9 hq9 => ?_)
  obtain ⟨rfl, v1, w1, w2⟩ := hq9
  refine qa_nx (pc' := 5) (st' := [_]) rfl rfl rfl rfl ?_
  refine qa_pop (pc' := 6) ⟨rfl, rfl⟩ rfl ?_
  refine qa_aload_n (pc' := 7) ⟨rfl, rfl⟩ rfl ?_
  refine qa_areturn rfl rfl (Or.inl ⟨_, rfl⟩) (hQ _ _ ⟨rfl, v1, w1, w2⟩)
theorem c_AB_init {E : qa_V} {σ : qa_S} {b : Nat} (hz : qa_Sb E) (hlo : E.1 ≤ b) (hn : σ.2 = b + 1) (hb : σ.1 b = some (.inl (8, [.null, .int (qa_i 0), .int (qa_i 0), .int (qa_i 0)]))) : qa_T E qm_AB_init 1 16 [.ref b, .int (qa_i 16)] σ (fun o9 τ => o9 = .inl none ∧ τ.2 = b + 2 ∧ (∀ q, (q < b ∨ b + 2 ≤ q) → τ.1 q = σ.1 q) ∧ sR_B τ.1 b (b + 1) []) := by
  refine qa_enterF (by decide +kernel) rfl qm_AB_init_ok rfl rfl (fun Q9 hQ => ?_)
  have e0 := hn
  have fr : ∀ q, (q < b ∨ b + 2 ≤ q) → σ.1 q = σ.1 q := fun _ _ => rfl
  refine qa_aload_n (pc' := 1) ⟨rfl, rfl⟩ rfl ?_
  refine qa_objI (pc' := 4) ⟨rfl, rfl⟩ qoi_12_3 qoi_i qoi_c (qa_le9 rfl) ?_
  refine qa_gets (j := 0) (pc' := 7) ⟨rfl, rfl⟩ rfl qs_12_18 hz.1 ?_
  refine qa_if_eq (pc' := 10) (tgt := 25) ⟨rfl, rfl⟩ rfl (by omega) (fun hc1 => ?_) (fun hc1 => ?_)
  · exact absurd hc1 (by omega)
  · refine qa_aload_n (pc' := 11) ⟨rfl, rfl⟩ rfl ?_
    refine qa_iload_n (pc' := 12) ⟨rfl, rfl⟩ rfl ?_
    refine qa_newarr (pc' := 14) (t := 2) (N := 16) (y := (16, .inl (fun q => qa_i ((fun _ : Int => 0) q)))) ⟨rfl, rfl⟩ rfl rfl qa_ac_byte rfl (by omega) (fun _ _ => rfl) (qa_le9 rfl) (fun _ _ => Iff.rfl) ?_
    refine qa_gn (fun τ1 e1 w1 f1 => ?_)
    replace w1 : _ = some (qa_ba 16 (fun _ => 0)) := w1
    rw [e0] at e1 w1 f1 ⊢
    replace hb := (f1 _ (by omega)).trans hb
    replace fr := fun q hq => (f1 q (by have := hq; omega)).trans (fr q hq)
    replace e0 := e1
    refine qa_putf (fs' := [_, _, _, _]) (pc' := 17) ⟨rfl, rfl⟩ qg_12_15 qw_8 (by assumption) (by omega) rfl (fun r hr => by cases hr; exact ⟨rfl, Or.inl rfl⟩) rfl rfl ?_
    refine qa_gz (fun τ2 e2 w2 f2 => ?_)
    replace w1 := (f2 _ (by omega)).trans w1
    replace fr := fun q hq => (f2 q (by have := hq; omega)).trans (fr q hq)
    replace e0 := e2.trans e0
    refine qa_aload_n (pc' := 18) ⟨rfl, rfl⟩ rfl ?_
    refine qa_iconst (pc' := 19) ⟨rfl, rfl⟩ ?_
    refine qa_putf (fs' := [_, _, _, _]) (pc' := 22) ⟨rfl, rfl⟩ qg_12_22 qw_8 (by assumption) (by omega) rfl (fun r hr => by cases hr; exact ⟨rfl, Or.inl rfl⟩) rfl rfl ?_
    refine qa_gz (fun τ3 e3 w3 f3 => ?_)
    replace w1 := (f3 _ (by omega)).trans w1
    replace fr := fun q hq => (f3 q (by have := hq; omega)).trans (fr q hq)
    replace e0 := e3.trans e0
    refine qa_goto (pc' := 25) (tgt := 38) ⟨rfl, rfl⟩ rfl ?_
    refine qa_return rfl rfl (hQ _ _ ⟨rfl, by omega, fr, 0, 16, fun _ => 0, w3, w1, Nat.zero_le _, by omega, fun _ => ⟨by show (0 : Int) ≤ 0; decide, by show (0 : Int) ≤ 127; decide⟩, fun j hj => absurd hj (Nat.not_lt_zero j)⟩)
theorem c_SB_init {E : qa_V} {σ : qa_S} {b : Nat} (hz : qa_Sb E) (hlo : E.1 ≤ b) (hn : σ.2 = b + 1) (hb : σ.1 b = some (.inl (8, [.null, .int (qa_i 0), .int (qa_i 0), .int (qa_i 0)]))) : qa_T E qm_SB_init 1 16 [.ref b] σ (fun o9 τ => o9 = .inl none ∧ τ.2 = b + 2 ∧ (∀ q, (q < b ∨ b + 2 ≤ q) → τ.1 q = σ.1 q) ∧ sR_B τ.1 b (b + 1) []) := by
  refine qa_enterF (by decide +kernel) rfl qm_SB_init_ok rfl rfl (fun Q9 hQ => ?_)
  refine qa_aload_n (pc' := 1) ⟨rfl, rfl⟩ rfl ?_
  refine qa_bipush (z := 16) (pc' := 3) ⟨rfl, rfl⟩ rfl ?_
  refine qa_callI rfl qf_AB_init ql_11_1 (c_AB_init (E := E) hz hlo hn hb) rfl rfl (qa_lt9 rfl) (qa_le9 rfl) (qa_le9 rfl) (qa_le9 rfl) (fun o9 τ9 hq9 => ?_)
  obtain ⟨rfl, e1, f1, w1⟩ := hq9
  refine qa_nx (pc' := 6) (st' := []) rfl rfl rfl rfl ?_
  refine qa_return rfl rfl (hQ _ _ ⟨rfl, e1, f1, w1⟩)
theorem c_ST_coder {E : qa_V} {σ : qa_S} {a b : Nat} (hz : qa_Sb E) (hb : σ.1 a = some (.inl (10, [.ref b, .int (qa_i 0)]))) : qa_T E qm_ST_coder 0 0 [.ref a] σ (fun o9 τ => o9 = .inl (some (.int (qa_i 0))) ∧ τ = σ) := by
  refine qa_enterF (by decide +kernel) rfl qm_ST_coder_ok rfl rfl (fun Q9 hQ => ?_)
  refine qa_gets (j := 0) (pc' := 3) ⟨rfl, rfl⟩ rfl qs_13_38 hz.1 ?_
  refine qa_if_eq (pc' := 6) (tgt := 13) ⟨rfl, rfl⟩ rfl (by omega) (fun hc1 => ?_) (fun hc1 => ?_)
  · exact absurd hc1 (by omega)
  · refine qa_aload_n (pc' := 7) ⟨rfl, rfl⟩ rfl ?_
    refine qa_getf (pc' := 10) ⟨rfl, rfl⟩ qg_13_15 (by assumption) rfl ?_
    refine qa_goto (pc' := 13) (tgt := 14) ⟨rfl, rfl⟩ rfl ?_
    refine qa_ireturn rfl rfl rfl (hQ _ _ ⟨rfl, rfl⟩)
theorem c_ST_isLatin1 {E : qa_V} {σ : qa_S} {a b : Nat} (hz : qa_Sb E) (hb : σ.1 a = some (.inl (10, [.ref b, .int (qa_i 0)]))) : qa_T E qm_ST_isLatin1 0 0 [.ref a] σ (fun o9 τ => o9 = .inl (some (.int (qa_i 1))) ∧ τ = σ) := by
  refine qa_enterF (by decide +kernel) rfl qm_ST_isLatin1_ok rfl rfl (fun Q9 hQ => ?_)
  refine qa_gets (j := 0) (pc' := 3) ⟨rfl, rfl⟩ rfl qs_13_38 hz.1 ?_
  refine qa_if_eq (pc' := 6) (tgt := 17) ⟨rfl, rfl⟩ rfl (by omega) (fun hc1 => ?_) (fun hc1 => ?_)
  · exact absurd hc1 (by omega)
  · refine qa_aload_n (pc' := 7) ⟨rfl, rfl⟩ rfl ?_
    refine qa_getf (pc' := 10) ⟨rfl, rfl⟩ qg_13_15 (by assumption) rfl ?_
    refine qa_if_ne (pc' := 13) (tgt := 17) ⟨rfl, rfl⟩ rfl (by omega) (fun hc2 => ?_) (fun hc2 => ?_)
    · exact absurd hc2 (by omega)
    · refine qa_iconst (pc' := 14) ⟨rfl, rfl⟩ ?_
      refine qa_goto (pc' := 17) (tgt := 18) ⟨rfl, rfl⟩ rfl ?_
      refine qa_ireturn rfl rfl rfl (hQ _ _ ⟨rfl, rfl⟩)
theorem c_ST_length {E : qa_V} {σ : qa_S} {a b n : Nat} {f : Int → Int} (hz : qa_Sb E) (hb : σ.1 a = some (.inl (10, [.ref b, .int (qa_i 0)]))) (hv : σ.1 b = some (qa_ba n f)) : qa_T E qm_ST_length 0 0 [.ref a] σ (fun o9 τ => o9 = .inl (some (.int (qa_i (n : Int)))) ∧ τ = σ) := by
  refine qa_enterF (by decide +kernel) rfl qm_ST_length_ok rfl rfl (fun Q9 hQ => ?_)
  refine qa_aload_n (pc' := 1) ⟨rfl, rfl⟩ rfl ?_
  refine qa_getf (pc' := 4) ⟨rfl, rfl⟩ qg_13_9 (by assumption) rfl ?_
  refine qa_alen (pc' := 5) ⟨rfl, rfl⟩ (by assumption) ?_
  refine qa_aload_n (pc' := 6) ⟨rfl, rfl⟩ rfl ?_
  refine qa_callV rfl qf_ST_coder ql_13_335 (c_ST_coder (E := E) hz hb) hb rfl rfl rfl (qa_lt9 rfl) (qa_le9 rfl) (qa_le9 rfl) (qa_le9 rfl) (fun o9 τ9 hq9 => ?_)
  obtain ⟨rfl, hq9⟩ := hq9
  replace hq9 := hq9.symm; subst hq9
  refine qa_nx (pc' := 9) (st' := [_, _]) rfl rfl rfl rfl ?_
  refine qa_ishrX (z := (n : Int)) (pc' := 10) ⟨rfl, rfl⟩ (qa_shr0 _) ?_
  refine qa_ireturn rfl rfl rfl (hQ _ _ ⟨rfl, rfl⟩)
theorem c_S1_charAt {E : qa_V} {σ : qa_S} {b n : Nat} {j : Int} {f : Int → Int} (hz : qa_Sb E) (hv : σ.1 b = some (qa_ba n f)) (h7 : 0 ≤ f j ∧ f j ≤ 127) (hj : 0 ≤ j ∧ j < n) (hn : n ≤ 1000) : qa_T E qm_S1_charAt 0 0 [.ref b, .int (qa_i j)] σ (fun o9 τ => o9 = .inl (some (.int (qa_i (f j)))) ∧ τ = σ) := by
  refine qa_enterF (by decide +kernel) rfl qm_S1_charAt_ok rfl rfl (fun Q9 hQ => ?_)
  refine qa_iload_n (pc' := 1) ⟨rfl, rfl⟩ rfl ?_
  refine qa_aload_n (pc' := 2) ⟨rfl, rfl⟩ rfl ?_
  refine qa_alen (pc' := 3) ⟨rfl, rfl⟩ (by assumption) ?_
  refine qa_callS rfl qf_ST_checkIndex rfl ql_14_9 (c_ST_checkIndex (E := E) hz (by omega) (by omega)) rfl rfl (qa_lt9 rfl) (qa_le9 rfl) (qa_le9 rfl) (qa_le9 rfl) (fun o9 τ9 hq9 => ?_)
  obtain ⟨rfl, hq9⟩ := hq9
  replace hq9 := hq9.symm; subst hq9
  refine qa_nx (pc' := 6) (st' := []) rfl rfl rfl rfl ?_
  refine qa_aload_n (pc' := 7) ⟨rfl, rfl⟩ rfl ?_
  refine qa_iload_n (pc' := 8) ⟨rfl, rfl⟩ rfl ?_
  refine qa_baload (pc' := 9) ⟨rfl, rfl⟩ (by assumption) (by omega) ?_
  refine qa_sipush (z := 255) (pc' := 12) ⟨rfl, rfl⟩ rfl ?_
  refine qa_iandX (z := f j) (pc' := 13) ⟨rfl, rfl⟩ (qa_by9 h7).2.2.2 ?_
  refine qa_i2c (pc' := 14) ⟨rfl, rfl⟩ (by omega) (by omega) ?_
  refine qa_ireturn rfl rfl (by have := lg_i2c_word (v := qa_i (f j)) (by rw [qa_i_toInt (by omega)]; omega) (by rw [qa_i_toInt (by omega)]; omega); exact congrArg Value.int this) (hQ _ _ ⟨rfl, rfl⟩)
theorem c_ST_charAt {E : qa_V} {σ : qa_S} {a b n : Nat} {j : Int} {f : Int → Int} (hz : qa_Sb E) (hb : σ.1 a = some (.inl (10, [.ref b, .int (qa_i 0)]))) (hv : σ.1 b = some (qa_ba n f)) (h7 : 0 ≤ f j ∧ f j ≤ 127) (hj : 0 ≤ j ∧ j < n) (hn : n ≤ 1000) : qa_T E qm_ST_charAt 0 0 [.ref a, .int (qa_i j)] σ (fun o9 τ => o9 = .inl (some (.int (qa_i (f j)))) ∧ τ = σ) := by
  refine qa_enterF (by decide +kernel) rfl qm_ST_charAt_ok rfl rfl (fun Q9 hQ => ?_)
  refine qa_aload_n (pc' := 1) ⟨rfl, rfl⟩ rfl ?_
  refine qa_callV rfl qf_ST_isLatin1 ql_13_492 (c_ST_isLatin1 (E := E) hz hb) hb rfl rfl rfl (qa_lt9 rfl) (qa_le9 rfl) (qa_le9 rfl) (qa_le9 rfl) (fun o9 τ9 hq9 => ?_)
  obtain ⟨rfl, hq9⟩ := hq9
  replace hq9 := hq9.symm; subst hq9
  refine qa_nx (pc' := 4) (st' := [_]) rfl rfl rfl rfl ?_
  refine qa_if_eq (pc' := 7) (tgt := 16) ⟨rfl, rfl⟩ rfl (by omega) (fun hc1 => ?_) (fun hc1 => ?_)
  · exact absurd hc1 (by omega)
  · refine qa_aload_n (pc' := 8) ⟨rfl, rfl⟩ rfl ?_
    refine qa_getf (pc' := 11) ⟨rfl, rfl⟩ qg_13_9 (by assumption) rfl ?_
    refine qa_iload_n (pc' := 12) ⟨rfl, rfl⟩ rfl ?_
    refine qa_callS rfl qf_S1_charAt rfl ql_13_495 (c_S1_charAt (E := E) hz hv h7 hj hn) rfl rfl (qa_lt9 rfl) (qa_le9 rfl) (qa_le9 rfl) (qa_le9 rfl) (fun o9 τ9 hq9 => ?_)
    obtain ⟨rfl, hq9⟩ := hq9
    replace hq9 := hq9.symm; subst hq9
    refine qa_nx (pc' := 15) (st' := [_]) rfl rfl rfl rfl ?_
    refine qa_ireturn rfl rfl (by have := lg_i2c_word (v := qa_i (f j)) (by rw [qa_i_toInt (by omega)]; omega) (by rw [qa_i_toInt (by omega)]; omega); exact congrArg Value.int this) (hQ _ _ ⟨rfl, rfl⟩)
