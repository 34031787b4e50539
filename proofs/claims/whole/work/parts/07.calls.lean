/-- own's method reference idx is y -/
def qa_Lk (own idx : Nat) (y : MethodName) : Prop := Cond.methodLink (qa_R own) idx y ∈ qa_tb ∨ ∃ host : String, Cond.methodLinkNest (qa_R own) idx y host ∈ lw_tbl
def qa_Fa (M : qa_M) (n : Nat) : Prop := qa_cw M ∈ qa_tb ∧ Cond.initialized (qa_y M).cls ∈ qa_tb ∧ ((qa_y M).cls ≠ "java/lang/invoke/MethodHandle" ∧ (qa_y M).cls ≠ "java/lang/invoke/VarHandle") ∧ (parseMethodDescriptor (qa_y M).desc).map (fun d => d.parameters.length) = some n ∧ qa_ml M ≤ 21
def qa_FaS (M : qa_M) (n : Nat) : Prop := qa_Fa M n ∧ Cond.static (qa_y M) ∈ qa_tb
def qa_FaV (M : qa_M) (n : Nat) : Prop := qa_Fa M n ∧ qa_hh M = [] ∧ Cond.instanceMethod (qa_y M) ∈ qa_tb ∧ Cond.selects (qa_y M).cls (qa_y M) (qa_y M) ∈ qa_tb
def qa_FaI (M : qa_M) (n : Nat) : Prop := qa_Fa M n ∧ qa_hh M = [] ∧ qa_rt M = none ∧ (qa_y M).name = "<init>" ∧ Cond.instanceMethod (qa_y M) ∈ qa_tb
theorem qa_cw0 {M : qa_M} (h : qa_hh M = []) : qa_cw M = Cond.code (qa_y M) (qa_by M) (qa_ml M) (qa_rt M) := by unfold qa_cw; rw [h]; rfl
theorem qa_cw1 {M : qa_M} {h0 : Nat × Nat × Nat × Nat} {ht : List (Nat × Nat × Nat × Nat)} (h : qa_hh M = h0 :: ht) : qa_cw M = Cond.codeWith (qa_y M) (qa_by M) (qa_ml M) (qa_rt M) (qa_hh M) := by unfold qa_cw; rw [h]; rfl
theorem qa_goodC {M : qa_M} {ws : List Cond} (h : qa_cw M ∈ qa_tb) (hw : ∀ w ∈ ws, w ∈ qa_tb) : GoodIn qa_tb (ws ++ (qa_cw M :: qa_tb)) := qa_goodIn fun w h9 => (List.mem_append.mp h9).elim (hw w) (fun h9 => (List.mem_cons.mp h9).elim (fun e => by rw [e]; exact h) id)
section QC
variable {E : qa_V} {M : qa_M} {Q : qa_O → qa_S → Prop} {kc ks pc pc' : Nat} {L L' : qa_L} {st rest : List Value} {σ : qa_S}
theorem qa_runW {G : qa_G} {p : Program} {l : Launch} {e : Env} {R : Room} {s : State} {m : MethodId} {args a : Array Value} {below : List Frame} {meth : Method} {c : Code} {H : Heap} {locs : List Loc} {cells slots mc ms : Nat} {ls : Array Slot} {st0 : List Value} {Q1 : qa_O → qa_S → Prop}
    (hr : vx_Run p l e R s m args below meth c H locs cells slots mc ms (F0 m pc ls st0) rest (qa_Qc E G Q1 a) (qa_Xc E G Q1) (fun q => E.1 ≤ q)) (ok : qa_OK M) (C : qa_C E M G p l R s m args meth c) (hS : va_S (fun q => E.1 ≤ q) s.heap H locs) (hL : lv_has ls (qa_ml M) L) (hc : cells + kc ≤ R.cells) (hs : slots + ks ≤ R.slots) (h1 : mc ≤ kc) (h2 : ms ≤ ks)
    (kk : ∀ o t, Q1 o t → qa_N E M Q (kc - mc) (ks - ms) pc L rest o t) : W p l e R s m args below meth c H locs cells slots (vx_MQ below (qa_Qc E G Q) (qa_Xc E G Q) args s R.cells R.slots (fun q => E.1 ≤ q)) (F0 m pc ls st0) := by
  intro T hT X
  rcases hr T hT X with ⟨v, st₀, t, T', L9, h0, X', hL9, e1, e2, ⟨v', σ1, hv, hq, hR1, hF⟩, stp⟩ | ⟨q, st₀, t, T', L9, E1, ce, h0, X', hL9, e1, e2, ⟨k, σ1, hk, hq, hR1, hF⟩, hce, hcv, hcl, stp⟩
  · cases hv
    obtain ⟨k1, k2, k3⟩ := vx_keep h0 e1 hS (fun q _ h => h) (fun q h => h) hL9 hF
    have hal : t.vm.Alike s.vm := by rw [← e2]; exact X'.warmed.alike.symm
    obtain ⟨t2, a1, b1⟩ := kk _ _ hq G p l e R s m args below meth c T'.heap (locs ++ L9) (cells + mc) (slots + ms) ls ok C (by rw [e1]; exact hR1.moved hal) k3 hL (by omega) (by omega) T' rfl X'
    exact ⟨t2, stp t2 a1, b1⟩
  · subst hk
    obtain ⟨k1, k2, k3⟩ := vx_keep h0 e1 hS (fun q _ h => h) (fun q h => h) hL9 hF
    have hal : t.vm.Alike s.vm := by rw [← e2]; exact X'.warmed.alike.symm
    obtain ⟨t2, a1, b1⟩ := kk _ _ hq G p l e R s m args below meth c T'.heap (locs ++ L9) (cells + mc) (slots + ms) ls rest q ce ok C (by rw [e1]; exact hR1.moved hal) k3 hL (by omega) (by omega) (by rw [e1]; exact hce) hcv hcl T' rfl X'
    exact ⟨t2, stp.trans a1, b1⟩
set_option maxRecDepth 8192 in
theorem qa_ar9 {a b d r : Nat} (h2 : 40 * b + 400 ≤ r) (hd : a < b) (hl : d ≤ 21) : 8 + (d + 11) + (40 * a + 400) ≤ r := by omega
theorem qa_roomC {M1 : qa_M} {G : qa_G} {p : Program} {l : Launch} {R : Room} {s : State} {m : MethodId} {args : Array Value} {meth : Method} {c : Code} {mc ms : Nat} (C : qa_C E M G p l R s m args meth c) (hd : qa_d M1 < qa_d M) (hl : qa_ml M1 ≤ 21) : (qa_rm M1 mc ms).frames + 1 ≤ R.frames ∧ 8 + (qa_ml M1 + 11) + (qa_rm M1 mc ms).locals ≤ R.locals := by
  have h1 := C.2.2.2.2.2.2.2.2.2.1
  have h2 := C.2.2.2.2.2.2.2.2.2.2.1
  refine ⟨?_, ?_⟩
  · simp only [qa_rm]; omega
  · simp only [qa_rm]; exact qa_ar9 h2 hd hl
theorem qa_preS {G : qa_G} {s : State} {H : Heap} {locs : List Loc} {as : List Value} (hR : qa_R9 E G s σ H) (hS : va_S (fun q => E.1 ≤ q) s.heap H locs) (hE : E.1 ≤ s.heap.size) (hK : qa_K E G s) : PreS s H (qa_Pc E G as σ) as :=
  ⟨qa_Pc.blind E G as σ, fun U hU hW => ⟨rfl, by rw [hU]; exact hR.moved hW.alike, hK.moved hW (fun q hq hq9 => by rw [hU]; exact hS.2.1 q hq hq9), by rw [hU]; exact Nat.le_trans hE hS.1⟩⟩
theorem qa_preV {G : qa_G} {s : State} {H : Heap} {locs : List Loc} {as fs : List Value} {b ci : Nat} {nm : String} (hx : σ.1 b = some (.inl (ci, fs))) (hnm : (qa_cl[ci]?).map (fun r => r.1) = some nm) (hR : qa_R9 E G s σ H) (hS : va_S (fun q => E.1 ≤ q) s.heap H locs) (hE : E.1 ≤ s.heap.size) (hK : qa_K E G s) : PreV s H nm b (qa_Pc E G (.ref b :: as) σ) as := by
  refine ⟨qa_Pc.blind E G (.ref b :: as) σ, ?_, (qa_preS hR hS hE hK).2⟩
  obtain ⟨cell, g1, g2, g3, g4, g5⟩ := (hR.2 b _ hx).1
  cases hci : qa_cl[ci]? with
  | none => rw [hci] at hnm; cases hnm
  | some r =>
    rw [hci] at hnm
    cases hnm
    exact ⟨cell, g1, g4, by rw [g2]; exact (hK.1 ci r hci).2⟩
theorem qa_callS {M1 : qa_M} {n idx mc ms : Nat} {as : List Value} {Q1 : qa_O → qa_S → Prop} (hd : qa_cd M pc = some (.invokestatic idx, 3)) (hF : qa_FaS M1 n) (hh0 : qa_hh M1 = []) (hlk : qa_Lk (qa_ow M) idx (qa_y M1)) (hT : qa_T E M1 mc ms as σ Q1) (hn : as.length = n) (hst : st = as.reverse ++ rest) (hdep : qa_d M1 < qa_d M) (hsum : (rest.map fun v => v.category).sum ≤ 8) (h1 : mc ≤ kc) (h2 : ms ≤ ks)
    (k : ∀ o t, Q1 o t → qa_N E M Q (kc - mc) (ks - ms) pc L rest o t) : qa_W E M Q kc ks pc L st σ := by
  subst hst
  intro G p l e R s m args below meth c H locs cells slots ls ok C hR hS hL hc hs
  have hts := C.2.2.2.2.2.2.2.2.2.2.2.2.2
  have hK := C.2.2.2.2.2.2.2.2.2.2.2.2.1
  have hE := C.2.2.2.2.2.2.2.2.2.2.2.1
  obtain ⟨⟨f1, f2, f3, f4, f5⟩, f6⟩ := hF
  have hcw := qa_cw0 hh0
  have S : CallFix p m c (qa_by M) (qa_ml M) s args qa_tb (qa_R (qa_ow M)) := ⟨C.1, C.2.1, C.2.2.1, C.2.2.2.2.2.1, hts⟩
  rcases hlk with hlk | ⟨host, hlk⟩
  · refine qa_runW (vx_runS S (hT G l C.2.2.2.2.2.2.2.2.1) (va_cwS n hts (qa_goodC f1 (fun w hw => ?_)) (by rw [hcw]) rfl rfl ⟨f3.1, f3.2, f4⟩ (qa_roomC C hdep f5)) (qa_preS hR hS hE hK) rfl hn hL.1 rfl (lv_room hsum) (ok _ _ _ hd) ⟨by omega, by omega⟩) ok C hS hL hc hs h1 h2 k
    simp only [List.mem_cons, List.not_mem_nil, or_false] at hw
    rcases hw with rfl | rfl | rfl
    · exact hlk
    · exact f6
    · exact f2
  · have hnw := hK.2.2.1 _ hlk rfl
    exact qa_runW (vx_runSN S (hT G l C.2.2.2.2.2.2.2.2.1) ⟨va_cnB n hts (qa_goodC (ws := []) f1 (fun _ h => nomatch h)) (by rw [hcw]) rfl rfl hnw (hts _ f2) ⟨f3.1, f3.2, f4⟩ (qa_roomC C hdep f5), hts _ f6, trivial⟩ (qa_preS hR hS hE hK) rfl hn hL.1 rfl (lv_room hsum) (ok _ _ _ hd) ⟨by omega, by omega⟩) ok C hS hL hc hs h1 h2 k
theorem qa_callSX {M1 : qa_M} {n idx mc ms : Nat} {as : List Value} {Q1 : qa_O → qa_S → Prop} {h0 : Nat × Nat × Nat × Nat} {ht : List (Nat × Nat × Nat × Nat)} (hd : qa_cd M pc = some (.invokestatic idx, 3)) (hF : qa_FaS M1 n) (hh0 : qa_hh M1 = h0 :: ht) (hlk : Cond.methodLink (qa_R (qa_ow M)) idx (qa_y M1) ∈ qa_tb) (hT : qa_T E M1 mc ms as σ Q1) (hn : as.length = n) (hst : st = as.reverse ++ rest) (hdep : qa_d M1 < qa_d M) (hsum : (rest.map fun v => v.category).sum ≤ 8) (h1 : mc ≤ kc) (h2 : ms ≤ ks)
    (k : ∀ o t, Q1 o t → qa_N E M Q (kc - mc) (ks - ms) pc L rest o t) : qa_W E M Q kc ks pc L st σ := by
  subst hst
  intro G p l e R s m args below meth c H locs cells slots ls ok C hR hS hL hc hs
  have hts := C.2.2.2.2.2.2.2.2.2.2.2.2.2
  have hK := C.2.2.2.2.2.2.2.2.2.2.2.2.1
  have hE := C.2.2.2.2.2.2.2.2.2.2.2.1
  obtain ⟨⟨f1, f2, f3, f4, f5⟩, f6⟩ := hF
  have hcw := qa_cw1 hh0
  have S : CallFix p m c (qa_by M) (qa_ml M) s args qa_tb (qa_R (qa_ow M)) := ⟨C.1, C.2.1, C.2.2.1, C.2.2.2.2.2.1, hts⟩
  refine qa_runW (vx_runSX S (hT G l C.2.2.2.2.2.2.2.2.1) (vx_cwSW n hts (qa_goodC f1 (fun w hw => ?_)) (by rw [hcw]) rfl rfl ⟨f3.1, f3.2, f4⟩ (qa_roomC C hdep f5)) (qa_preS hR hS hE hK) rfl hn hL.1 rfl (lv_room hsum) (ok _ _ _ hd) ⟨by omega, by omega⟩) ok C hS hL hc hs h1 h2 k
  simp only [List.mem_cons, List.not_mem_nil, or_false] at hw
  rcases hw with rfl | rfl | rfl
  · exact hlk
  · exact f6
  · exact f2
theorem qa_callV {M1 : qa_M} {n idx mc ms b ci : Nat} {as fs : List Value} {Q1 : qa_O → qa_S → Prop} (hd : qa_cd M pc = some (.invokevirtual idx, 3)) (hF : qa_FaV M1 n) (hlk : qa_Lk (qa_ow M) idx (qa_y M1)) (hT : qa_T E M1 mc ms (.ref b :: as) σ Q1) (hx : σ.1 b = some (.inl (ci, fs))) (hnm : (qa_cl[ci]?).map (fun r => r.1) = some (qa_y M1).cls) (hn : as.length = n) (hst : st = as.reverse ++ .ref b :: rest) (hdep : qa_d M1 < qa_d M) (hsum : (rest.map fun v => v.category).sum ≤ 8) (h1 : mc ≤ kc) (h2 : ms ≤ ks)
    (k : ∀ o t, Q1 o t → qa_N E M Q (kc - mc) (ks - ms) pc L rest o t) : qa_W E M Q kc ks pc L st σ := by
  subst hst
  intro G p l e R s m args below meth c H locs cells slots ls ok C hR hS hL hc hs
  have hts := C.2.2.2.2.2.2.2.2.2.2.2.2.2
  have hK := C.2.2.2.2.2.2.2.2.2.2.2.2.1
  have hE := C.2.2.2.2.2.2.2.2.2.2.2.1
  obtain ⟨⟨f1, f2, f3, f4, f5⟩, hh0, f6, f7⟩ := hF
  have hcw := qa_cw0 hh0
  have S : CallFix p m c (qa_by M) (qa_ml M) s args qa_tb (qa_R (qa_ow M)) := ⟨C.1, C.2.1, C.2.2.1, C.2.2.2.2.2.1, hts⟩
  rcases hlk with hlk | ⟨host, hlk⟩
  · refine qa_runW (vx_runV S (hT G l C.2.2.2.2.2.2.2.2.1) (cwV n hts (qa_goodC f1 (fun w hw => ?_)) (by rw [hcw]) rfl rfl ⟨rfl, f3.1, f3.2, f4⟩ (qa_roomC C hdep f5)) (qa_preV hx hnm hR hS hE hK) rfl hn hL.1 rfl (lv_room hsum) (ok _ _ _ hd) ⟨by omega, by omega⟩) ok C hS hL hc hs h1 h2 k
    simp only [List.mem_cons, List.not_mem_nil, or_false] at hw
    rcases hw with rfl | rfl | rfl | rfl
    · exact hlk
    · exact f6
    · exact f7
    · exact f2
  · have hnw := hK.2.2.1 _ hlk rfl
    exact qa_runW (vx_runVN S (hT G l C.2.2.2.2.2.2.2.2.1) ⟨va_cnB n hts (qa_goodC (ws := []) f1 (fun _ h => nomatch h)) (by rw [hcw]) rfl rfl hnw (hts _ f2) ⟨f3.1, f3.2, f4⟩ (qa_roomC C hdep f5), hts _ f6, hts _ f7⟩ (qa_preV hx hnm hR hS hE hK) rfl hn hL.1 rfl (lv_room hsum) (ok _ _ _ hd) ⟨by omega, by omega⟩) ok C hS hL hc hs h1 h2 k
theorem qa_callI {M1 : qa_M} {n idx mc ms b : Nat} {as : List Value} {Q1 : qa_O → qa_S → Prop} (hd : qa_cd M pc = some (.invokespecial idx, 3)) (hF : qa_FaI M1 n) (hlk : qa_Lk (qa_ow M) idx (qa_y M1)) (hT : qa_T E M1 mc ms (.ref b :: as) σ Q1) (hn : as.length = n) (hst : st = as.reverse ++ .ref b :: rest) (hdep : qa_d M1 < qa_d M) (hsum : (rest.map fun v => v.category).sum ≤ 8) (h1 : mc ≤ kc) (h2 : ms ≤ ks)
    (k : ∀ o t, Q1 o t → qa_N E M Q (kc - mc) (ks - ms) pc L rest o t) : qa_W E M Q kc ks pc L st σ := by
  subst hst
  intro G p l e R s m args below meth c H locs cells slots ls ok C hR hS hL hc hs
  have hts := C.2.2.2.2.2.2.2.2.2.2.2.2.2
  have hK := C.2.2.2.2.2.2.2.2.2.2.2.2.1
  have hE := C.2.2.2.2.2.2.2.2.2.2.2.1
  obtain ⟨⟨f1, f2, f3, f4, f5⟩, hh0, hrt, hnm, f6⟩ := hF
  have hcw := qa_cw0 hh0
  rw [hrt] at hcw
  have S : CallFix p m c (qa_by M) (qa_ml M) s args qa_tb (qa_R (qa_ow M)) := ⟨C.1, C.2.1, C.2.2.1, C.2.2.2.2.2.1, hts⟩
  rcases hlk with hlk | ⟨host, hlk⟩
  · exact qa_runW (vx_runI S (hT G l C.2.2.2.2.2.2.2.2.1) (cwI n hts (qa_goodC (ws := []) f1 (fun _ h => nomatch h)) (by rw [hcw]) rfl rfl (hts _ f2) (hts _ hlk) (hts _ f6) hnm ⟨f3.1, f3.2, f4⟩ (qa_roomC C hdep f5)) (qa_preS hR hS hE hK) rfl hn hL.1 rfl (lv_room hsum) (ok _ _ _ hd) ⟨by omega, by omega⟩) ok C hS hL hc hs h1 h2 k
  · have hnw := hK.2.2.1 _ hlk rfl
    exact qa_runW (vx_runIN S (hT G l C.2.2.2.2.2.2.2.2.1) ⟨va_cnB n hts (qa_goodC (ws := []) f1 (fun _ h => nomatch h)) (by rw [hcw]) rfl rfl hnw (hts _ f2) ⟨f3.1, f3.2, f4⟩ (qa_roomC C hdep f5), hnm, hts _ f6⟩ (qa_preS hR hS hE hK) rfl hn hL.1 rfl (lv_room hsum) (ok _ _ _ hd) ⟨by omega, by omega⟩) ok C hS hL hc hs h1 h2 k
/-- a class's own special call of an instance method of a class over it -/
theorem qa_callSU {M1 : qa_M} {n n9 idx mc ms b ci : Nat} {as fs : List Value} {Q1 : qa_O → qa_S → Prop} {nm : String} (hd : qa_cd M pc = some (.invokespecial idx, 3)) (hF : qa_FaV M1 n) (hno : (qa_y M1).name ≠ "<init>") (hlk : Cond.methodLink (qa_R (qa_ow M)) idx (qa_y M1) ∈ qa_tb) (hsm : Cond.sameMethod (qa_y M1).cls (qa_y M1).cls (qa_y M1).name (qa_y M1).desc ∈ qa_tb) (hsup : Cond.superclass (qa_R (qa_ow M)) (qa_y M1).cls ∈ qa_tb) (hT : qa_T E M1 mc ms (.ref b :: as) σ Q1) (hx : σ.1 b = some (.inl (ci, fs))) (hnm : (qa_cl[ci]?).map (fun r => r.1) = some nm) (hin : Cond.instantiable nm n9 ∈ qa_tb) (hn : as.length = n) (hst : st = as.reverse ++ .ref b :: rest) (hdep : qa_d M1 < qa_d M) (hsum : (rest.map fun v => v.category).sum ≤ 8) (h1 : mc ≤ kc) (h2 : ms ≤ ks)
    (k : ∀ o t, Q1 o t → qa_N E M Q (kc - mc) (ks - ms) pc L rest o t) : qa_W E M Q kc ks pc L st σ := by
  subst hst
  intro G p l e R s m args below meth c H locs cells slots ls ok C hR hS hL hc hs
  have hts := C.2.2.2.2.2.2.2.2.2.2.2.2.2
  have hK := C.2.2.2.2.2.2.2.2.2.2.2.2.1
  have hE := C.2.2.2.2.2.2.2.2.2.2.2.1
  obtain ⟨⟨f1, f2, f3, f4, f5⟩, hh0, f6, f7⟩ := hF
  have hcw := qa_cw0 hh0
  have S : CallFix p m c (qa_by M) (qa_ml M) s args qa_tb (qa_R (qa_ow M)) := ⟨C.1, C.2.1, C.2.2.1, C.2.2.2.2.2.1, hts⟩
  obtain ⟨cC, kC, i1, i2, i3, -⟩ := Cond.instantiable_spec (hts _ hin)
  refine qa_runW (vx_runSU (C := nm) (cC := cC) ⟨i1, kC, i2, i3⟩ S (hT G l C.2.2.2.2.2.2.2.2.1) (va_cwSU n hts (qa_goodC f1 (fun w hw => ?_)) (by rw [hcw]) rfl rfl ⟨hno, f4⟩ (qa_roomC C hdep f5)) (qa_preV hx hnm hR hS hE hK) rfl hn hL.1 rfl (lv_room hsum) (ok _ _ _ hd) ⟨by omega, by omega⟩) ok C hS hL hc hs h1 h2 k
  simp only [List.mem_cons, List.not_mem_nil, or_false] at hw
  rcases hw with rfl | rfl | rfl | rfl | rfl
  · exact hlk
  · exact hsm
  · exact hsup
  · exact f6
  · exact f2
/-- not caught here -/
theorem qa_Zout {k : Nat} (h0 : (tableOf (qa_hh M)).all (fun x => !covers x pc) = true) (hQ : Q (.inr k) σ) : qa_WX E M Q kc ks pc L k σ := by
  intro G p l e R s m args below meth c H locs cells slots ls rest q ce ok C hR hS hL hc hs hce hv hcl
  refine vx_out ?_ C.2.2.2.2.1 hce hv hcl (fun t ht hW => ⟨k, σ, rfl, hQ, ht ▸ hR.moved hW, hS.F ht⟩) hS.2.2 (by omega) (by omega)
  rw [C.2.2.2.2.2.2.2.1]
  intro x hx
  have h9 : (!covers x pc) = true := List.all_eq_true.mp h0 x hx
  cases hcv : covers x pc with
  | false => rfl
  | true => rw [hcv] at h9; cases h9
/-- caught by the row x of the table -/
theorem qa_Zcatch {k j : Nat} (pre : List ExceptionTableEntry) (x : ExceptionTableEntry) (suf : List ExceptionTableEntry) (js : List Nat) (hsplit : tableOf (qa_hh M) = pre ++ x :: suf) (hk : k < 6)
    (hpass : ∀ z ∈ pre, z.catchType ≠ 0 ∧ ∃ j, j < 6 ∧ k ≠ j ∧ Cond.classLink (qa_R (qa_ow M)) z.catchType (qa_X j) ∈ qa_tb) (hx : covers x pc = true) (h0 : x.catchType ≠ 0) (hlink : Cond.classLink (qa_R (qa_ow M)) x.catchType (qa_X k) ∈ qa_tb) (hcast : Cond.castable (qa_X k) (qa_X k) ∈ lw_tbl)
    (kk : ∀ q : Nat, qa_W E M Q kc ks x.handlerPc L [.ref q] σ) : qa_WX E M Q kc ks pc L k σ := by
  intro G p l e R s m args below meth c H locs cells slots ls rest q ce ok C hR hS hL hc hs hce hv hcl
  have hts := C.2.2.2.2.2.2.2.2.2.2.2.2.2
  have hK := C.2.2.2.2.2.2.2.2.2.2.2.2.1
  refine vx_catch C.2.2.2.2.2.1 pre x suf (C.2.2.2.2.2.2.2.1.trans hsplit) (fun z hz => ?_) hx h0 (hts _ hlink) (va_Nw.use rfl (hK.2.2.1 _ hcast rfl)) hce hv hcl (kk q G p l e R s m args below meth c H locs cells slots ls ok C hR hS hL hc hs)
  obtain ⟨z0, j, hj, hkj, hw⟩ := hpass z hz
  exact Or.inr ⟨z0, _, hts _ hw, hK.2.2.2.2.2.2.2.2.1 k j hk hj hkj⟩
def qa_thw (w : Cond) : Bool := decide (w ∈ lw_tbl) && (goodWord w || (qa_nw w && w.onTables))
/-- own's throw of qa_X k with a text: its links -/
def qa_Th (own ik is ic k : Nat) : Prop := ∃ (names : List String) (text : String), Bundle.fit (qa_X k) = true ∧ names.all Bundle.fit = true ∧ names.length ≤ 5 ∧ Cond.classLink (qa_R own) ik (qa_X k) ∈ qa_tb ∧ Cond.initialized (qa_X k) ∈ qa_tb ∧ Cond.stringRef (qa_R own) is text ∈ lw_tbl ∧ (vx_atS (qa_R own) ic (qa_X k) names).all qa_thw = true
theorem qa_th_at {G : qa_G} {s : State} {args : Array Value} {w : Cond} (hts : ∀ w ∈ qa_tb, w.before args s = true) (hK : qa_K E G s) (h : qa_thw w = true) : w.before args s = true := by
  unfold qa_thw at h
  simp only [Bool.and_eq_true, Bool.or_eq_true, decide_eq_true_eq] at h
  rcases h.2 with h2 | h2
  · exact hts _ (List.mem_filter.mpr ⟨h.1, h2⟩)
  · exact va_Nw.use h2.2 (hK.2.2.1 _ h.1 h2.1)
theorem qa_th_ot {w : Cond} (h : qa_thw w = true) : vx_ot w = true := by
  unfold qa_thw at h
  simp only [Bool.and_eq_true, Bool.or_eq_true, decide_eq_true_eq] at h
  simp only [vx_ot, Bool.or_eq_true]
  rcases h.2 with h2 | h2
  · exact Or.inr h2
  · exact Or.inl h2.2
theorem qa_throwS {ik is ic k : Nat} (hh0 : qa_hh M = []) (d0 : qa_cd M pc = some (.new ik, 3)) (d3 : qa_cd M (pc + 3) = some (.dup, 1)) (d4 : qa_cd M (pc + 4) = some (.ldc is, 2)) (d6 : qa_cd M (pc + 6) = some (.invokespecial ic, 3)) (d9 : qa_cd M (pc + 9) = some (.athrow, 1)) (ht : qa_Th (qa_ow M) ik is ic k) (hsum : (st.map fun v => v.category).sum ≤ 8)
    (hQ : ∀ n, σ.2 ≤ n → Q (.inr k) (σ.1, n)) : qa_W E M Q (kc + 1) (ks + 6) pc L st σ := by
  intro G p l e R s m args below meth c H locs cells slots ls ok C hR hS hL hc hs
  have hts := C.2.2.2.2.2.2.2.2.2.2.2.2.2
  have hK := C.2.2.2.2.2.2.2.2.2.2.2.2.1
  have r1 := C.2.2.2.2.2.2.2.2.2.1
  have r2 := C.2.2.2.2.2.2.2.2.2.2.1
  obtain ⟨names, text, t1, t2, t3, t4, t5, t6, t7⟩ := ht
  obtain ⟨sa, hsa⟩ := hK.2.2.2.2.2.2.2.1 _ _ _ t6
  have t7' := List.all_eq_true.mp t7
  refine vx_throwS C.1 C.2.1 C.2.2.2.2.2.2.2.2.1 C.2.2.2.2.2.1 t1 (List.all_eq_true.mp t2) (hts _ t4) (hts _ t5) hsa (fun w hw => qa_th_at hts hK (t7' w hw)) (fun w hw => ?_) hK.2.2.2.2.2.1 hK.2.2.2.2.2.2.1 hS (hL.1.trans C.2.2.1.symm) (ok _ _ _ d0) (ok _ _ _ d3) (ok _ _ _ d4) (ok _ _ _ d6) (ok _ _ _ d9) (fun x hx => ?_) (by omega) (by omega) (by omega) (by omega) C.2.2.2.2.1 (fun t hal hsz hkp => ⟨k, (σ.1, t.heap.size), rfl, hQ _ (by rw [← hR.1]; exact hsz), ?_, ?_⟩) hS.2.2 (by omega) (by omega)
  · rcases List.mem_cons.mp hw with rfl | hw
    · unfold vx_ot; rw [qa_good t4]; simp
    · rcases List.mem_cons.mp hw with rfl | hw
      · unfold vx_ot; rw [qa_good t5]; simp
      · exact qa_th_ot (t7' w hw)
  · rw [C.2.2.2.2.2.2.2.1, hh0] at hx
    exact absurd hx (by simp [tableOf])
  · have h9 := hR.grow (n := t.heap.size - H.size) (H1 := t.heap) (by omega) hkp
    have e9 : σ.2 + (t.heap.size - H.size) = t.heap.size := by rw [← hR.1]; omega
    rw [e9] at h9
    exact h9.moved hal
  · exact ⟨Nat.le_trans hS.1 hsz, fun q h1 h2 => (hkp q (Nat.lt_of_lt_of_le h1 hS.1)).trans (hS.2.1 q h1 h2)⟩
theorem qa_throwW {ik is ic k : Nat} (hh0 : qa_hh M = []) (d0 : qa_cd M pc = some (.new ik, 3)) (d3 : qa_cd M (pc + 3) = some (.dup, 1)) (d4 : qa_cd M (pc + 4) = some (.ldc_w is, 3)) (d6 : qa_cd M (pc + 7) = some (.invokespecial ic, 3)) (d9 : qa_cd M (pc + 10) = some (.athrow, 1)) (ht : qa_Th (qa_ow M) ik is ic k) (hsum : (st.map fun v => v.category).sum ≤ 8)
    (hQ : ∀ n, σ.2 ≤ n → Q (.inr k) (σ.1, n)) : qa_W E M Q (kc + 1) (ks + 6) pc L st σ := by
  intro G p l e R s m args below meth c H locs cells slots ls ok C hR hS hL hc hs
  have hts := C.2.2.2.2.2.2.2.2.2.2.2.2.2
  have hK := C.2.2.2.2.2.2.2.2.2.2.2.2.1
  have r1 := C.2.2.2.2.2.2.2.2.2.1
  have r2 := C.2.2.2.2.2.2.2.2.2.2.1
  obtain ⟨names, text, t1, t2, t3, t4, t5, t6, t7⟩ := ht
  obtain ⟨sa, hsa⟩ := hK.2.2.2.2.2.2.2.1 _ _ _ t6
  have t7' := List.all_eq_true.mp t7
  refine vx_throwSW C.1 C.2.1 C.2.2.2.2.2.2.2.2.1 C.2.2.2.2.2.1 t1 (List.all_eq_true.mp t2) (hts _ t4) (hts _ t5) hsa (fun w hw => qa_th_at hts hK (t7' w hw)) (fun w hw => ?_) hK.2.2.2.2.2.1 hK.2.2.2.2.2.2.1 hS (hL.1.trans C.2.2.1.symm) (ok _ _ _ d0) (ok _ _ _ d3) (ok _ _ _ d4) (ok _ _ _ d6) (ok _ _ _ d9) (fun x hx => ?_) (by omega) (by omega) (by omega) (by omega) C.2.2.2.2.1 (fun t hal hsz hkp => ⟨k, (σ.1, t.heap.size), rfl, hQ _ (by rw [← hR.1]; exact hsz), ?_, ?_⟩) hS.2.2 (by omega) (by omega)
  · rcases List.mem_cons.mp hw with rfl | hw
    · unfold vx_ot; rw [qa_good t4]; simp
    · rcases List.mem_cons.mp hw with rfl | hw
      · unfold vx_ot; rw [qa_good t5]; simp
      · exact qa_th_ot (t7' w hw)
  · rw [C.2.2.2.2.2.2.2.1, hh0] at hx
    exact absurd hx (by simp [tableOf])
  · have h9 := hR.grow (n := t.heap.size - H.size) (H1 := t.heap) (by omega) hkp
    have e9 : σ.2 + (t.heap.size - H.size) = t.heap.size := by rw [← hR.1]; omega
    rw [e9] at h9
    exact h9.moved hal
  · exact ⟨Nat.le_trans hS.1 hsz, fun q h1 h2 => (hkp q (Nat.lt_of_lt_of_le h1 hS.1)).trans (hS.2.1 q h1 h2)⟩
end QC
