/-! A throw of NoSuchElementException with a text. Its constructor hands the text on by another entry of its constant pool than the kit's throw rows are written for; qx_ctor follows the library's BundleOwnThrow (ctorThrowS) with the first link's own bytes, and shows less of the cell. -/
section NX
variable {p : Program} {l : Launch} {e : Env} {R : Room} {s : State} {m : MethodId} {args : Array Value} {below : List Frame} {meth : Method} {c : Code} {T : State} {locs : List Loc} {cells slots : Nat}
abbrev qx_X : String := "java/util/NoSuchElementException"
def qx_by : ByteArray := ⟨#[0x2a, 0x2b, 0xb7, 0x00, 0x0d, 0xb1]⟩
theorem qx_d0 : decode qx_by 0 = .ok (.aload_n 0, 1) := by decide +kernel
theorem qx_d1 : decode qx_by 1 = .ok (.aload_n 1, 1) := by decide +kernel
theorem qx_d2 : decode qx_by 2 = .ok (.invokespecial 13, 3) := by decide +kernel
theorem qx_d5 : decode qx_by 5 = .ok (.return_, 1) := by decide +kernel
def qx_ws1 : List Cond := Bundle.passSAtoms qx_X "java/lang/RuntimeException" 13 qx_by
def qx_ws2 : List Cond := Bundle.chainSAtoms "java/lang/RuntimeException" ["java/lang/Exception"]
def qx_ws3 (own : String) (ic : Nat) : List Cond := [.methodLink own ic (Bundle.initS qx_X), .instantiable qx_X 6, .selects qx_X Bundle.tFill0 Bundle.tFill0, .selects qx_X Bundle.tFill Bundle.tFill,
  .lays qx_X Bundle.tN "cause" "Ljava/lang/Throwable;", .lays qx_X Bundle.tN "stackTrace" Bundle.steD, .lays qx_X Bundle.tN "suppressedExceptions" Bundle.listD, .lays qx_X Bundle.tN "detailMessage" "Ljava/lang/String;",
  .fieldLink Bundle.tN 198 Bundle.tN "backtrace" "Ljava/lang/Object;", .lays Bundle.tN Bundle.tN "backtrace" "Ljava/lang/Object;", .lays qx_X Bundle.tN "backtrace" "Ljava/lang/Object;"]
def qx_ws0 : List Cond := Bundle.throwableAtoms ++ Bundle.throwableSAtoms
def qx_at (own : String) (ic : Nat) : List Cond := (qx_ws0 ++ (qx_ws1 ++ (qx_ws2 ++ qx_ws3 own ic))).filter vx_no
set_option maxHeartbeats 2000000 in
theorem qx_ctor (X : Stand p l e R s m args below meth c T locs cells slots) (hexec : p.tables.exec = Jvm.exec) (htr : e.platform.stackTraces = false) {own : String} {ic : Nat} (hown : s.vm.findClass own = some m.cls)
    (h0 : ∀ w ∈ qx_ws0, w.before args s = true) (h1 : ∀ w ∈ qx_ws1, w.before args s = true) (h2 : ∀ w ∈ qx_ws2, w.before args s = true) (h3 : ∀ w ∈ qx_ws3 own ic, w.before args s = true)
    (hU : (Cond.isRef (.static Bundle.tN "UNASSIGNED_STACK" Bundle.steD)).before args s = true) (hN : (Cond.isRef (.static Bundle.tN "SUPPRESSED_SENTINEL" Bundle.listD)).before args s = true)
    (hlocs : ∀ x ∈ locs, ∀ cell, s.heap[x.base]? = some cell → cell.vm.isStatics = false) {a : Addr} {cX : ClassId} {kX : Class} (hfX : s.vm.findClass qx_X = some cX) (hkX : s.vm.classes[cX]? = some kX) (hcell : T.heap[a]? = some (freshCell cX kX)) (hnew : s.heap.size ≤ a)
    {msg : Value} (hmsg : msg.isRef = true) {g : JFrame} (hg : g.method = m) (hsize : g.locals.size = c.maxLocals) (hlocked : g.locked = none) (hentered : g.entered = []) {rest : List Value} (hstack : g.stack = msg :: .ref a :: .ref a :: rest)
    (hd : decode c.code g.pc = .ok (.invokespecial ic, 3)) (hda : decode c.code (g.pc + 3) = .ok (.athrow, 1)) (hout : ∀ x ∈ c.exceptionTable.toList, covers x (g.pc + 3) = false) (hRf : 6 < R.frames) (hRl : 2 * g.monitorRoom + ((Value.ref a :: rest).map fun v => v.category).sum + 100 ≤ R.locals) (hlocks : meth.locks = false) :
    ∃ U : State, Steps p.tables e below (T.setTop g) U ∧ U.status = .running ∧ Ended U below (.threw a) ∧ s.WarmedH U.vm ∧ s.sameButNew ({ U with vm := s.vm } : State) locs cells slots ∧ ∃ ce, U.heap[a]? = some ce ∧ ce.vm = .none ∧ ce.cls = cX := by
  have hpf := X.admits.platform
  have p1 : e.platform.frameOwnsMonitors = true := by rw [hpf]
  have p2 : e.platform.finalization = false := by rw [hpf]
  have p3 : e.platform.magicAccessors = ({} : Platform).magicAccessors := by rw [hpf]
  have a3 : ∀ w, w ∈ qx_ws3 own ic → w.holds args s none s [] = true := fun w hw => h3 w hw
  -- what Throwable is, the way up
  obtain ⟨TC, Z0, L, -, Y⟩ := ThrowableC.of_atoms (args := args) p1 p2 p3 (fun w hw => h0 w (List.mem_append_left _ hw))
  obtain ⟨Z, M, LZ, LM, hnZ⟩ := Init0T.ofS_atoms (args := args) p3 L Y (fun w hw => h0 w (List.mem_append_right _ hw))
  obtain ⟨P0, L0, hm0, hs0⟩ := PassC.ofS_atoms (args := args) (s := s) p3 (X := qx_X) (Y := "java/lang/RuntimeException") (by decide) (by decide) qx_d0 qx_d1 qx_d2 qx_d5 h1
  obtain ⟨P1, Ps, hlen, L1, hL, hm1, hlk1, hlk⟩ := Bundle.chainS (args := args) p3 hnZ ["java/lang/Exception"] "java/lang/RuntimeException" (by decide) (by decide) h2
  have hup : P0.sup = P1.m := Option.some.inj (hs0.symm.trans hm1)
  have hfc : s.vm.findClass qx_X = some P0.m.cls := findClass_of_methodNamed hm0
  have hcx : cX = P0.m.cls := Option.some.inj (hfX.symm.trans hfc)
  subst hcx
  obtain ⟨c1, k1, hc1, hk, hord, -, -, -⟩ := Cond.instantiable_spec (a3 (.instantiable qx_X 6) (by simp [qx_ws3]))
  cases Option.some.inj (hc1.symm.trans hfc)
  cases Option.some.inj (hkX.symm.trans hk)
  have sel : ∀ (y : MethodName) (r : MethodId), s.methodNamed? y = some r → (y.cls ≠ "java/lang/invoke/MethodHandle" ∧ y.cls ≠ "java/lang/invoke/VarHandle") → (Cond.selects qx_X y y).holds args s none s [] = true → selectMethod e.platform s.vm P0.m.cls r = .method r := fun y r hy hne hw => by
    obtain ⟨c2, r2, m2, q1, q2, q3, q4, -⟩ := Cond.selects_spec hw
    cases Option.some.inj (q1.symm.trans hfc)
    cases Option.some.inj (q2.symm.trans (State.methodFound?_of_named hy hne))
    cases Option.some.inj (q3.symm.trans hy)
    rw [Launch.admits_selectMethod X.admits]
    exact q4
  have s0 := sel _ _ Y.fill0 (by decide) (a3 (.selects qx_X Bundle.tFill0 Bundle.tFill0) (by simp [qx_ws3]))
  have s1 := sel _ _ Y.fill (by decide) (a3 (.selects qx_X Bundle.tFill Bundle.tFill) (by simp [qx_ws3]))
  -- Throwable's statics
  obtain ⟨cS, hcS, hiS⟩ := Y.statics
  obtain ⟨u0, hu0⟩ := Cond.staticRefV Y.unassigned L.unassignedStatic L.statics hcS hiS hU
  obtain ⟨sen, hsen⟩ := Cond.staticRefV Y.sentinel L.sentinelStatic L.statics hcS hiS hN
  obtain ⟨cS1, hcS1, heS, -, hkeep⟩ := X.same.2.2.2.2.2 TC.aS cS hcS
  have hno : ∀ i, (⟨TC.aS, i⟩ : Loc) ∉ locs := fun i hi => by have := hlocs _ hi cS hcS; rw [hiS] at this; cases this
  have hkn : cS1.vm ≠ .unknown := by
    rw [heS]
    intro hu
    rw [show cS.vm = .unknown from hu] at hiS
    cases hiS
  have hne : TC.aS ≠ a := Nat.ne_of_lt (Nat.lt_of_lt_of_le (Array.getElem?_eq_some_iff.mp hcS).1 hnew)
  -- where the new cell's fields lie
  obtain ⟨iM, hfM⟩ := Y.msg
  obtain ⟨ci9, i9, fB, hk9, hg9, ha9, hsB, -, hnB, htB, hfB⟩ := Cond.ownField (t := .object "java/lang/Object") Y.found L.cls (by decide +kernel) (a3 (.fieldLink Bundle.tN 198 Bundle.tN "backtrace" "Ljava/lang/Object;") (by simp [qx_ws3])) (a3 (.lays Bundle.tN Bundle.tN "backtrace" "Ljava/lang/Object;") (by simp [qx_ws3])) e.platform p3
  obtain ⟨tC, dC, hdC, nC⟩ := Cond.laysAt hfc hk Y.cause (a3 (.lays qx_X Bundle.tN "cause" "Ljava/lang/Throwable;") (by simp [qx_ws3]))
  obtain ⟨tS, dS, hdS, nS⟩ := Cond.laysAt hfc hk Y.stack (a3 (.lays qx_X Bundle.tN "stackTrace" Bundle.steD) (by simp [qx_ws3]))
  obtain ⟨tP, dP, hdP, nP⟩ := Cond.laysAt hfc hk Y.supp (a3 (.lays qx_X Bundle.tN "suppressedExceptions" Bundle.listD) (by simp [qx_ws3]))
  obtain ⟨tM, dM, hdM, nM⟩ := Cond.laysAt hfc hk hfM (a3 (.lays qx_X Bundle.tN "detailMessage" "Ljava/lang/String;") (by simp [qx_ws3]))
  obtain ⟨tB, dB, hdB, nB⟩ := Cond.laysAt hfc hk hfB (a3 (.lays qx_X Bundle.tN "backtrace" "Ljava/lang/Object;") (by simp [qx_ws3]))
  have b1 := Cond.laysApart hdB hdC nB nC (by rw [hnB, Y.causeName]; decide)
  have b2 := Cond.laysApart hdB hdS nB nS (by rw [hnB, Y.stackName]; decide)
  have b3 := Cond.laysApart hdB hdP nB nP (by rw [hnB, Y.suppName]; decide)
  have hskip : SkipFacts TC e.platform s (fun u => u) u0 ((preparedCellV TC.toThrowableT (freshCell P0.m.cls kX) a u0 sen).withEntry T.cur) := by
    refine ⟨{ ci198 := ci9, i198 := i9, fBack := fB }, ⟨hk9, hg9, ha9, hsB⟩, ?_, fun _ _ => rfl⟩
    have hz := fresh_default (c := P0.m.cls) tB
    rw [htB] at hz
    simpa [preparedCellV, Cell.setSlot, Cell.withEntry, Array.getElem?_setIfInBounds, b1, b2, b3, b1.symm, b2.symm, b3.symm, defaultValue] using hz
  -- into the constructor
  obtain ⟨tm, mC, cC, kC, v1, hn1, -, -, -, -, -, -, -, hw1, st1⟩ := Steps.initColdS (tb := p.tables) (e := e) (below := below) (s := s) (U := T) X.here hexec X.warmed p3 hown (t := Bundle.initS qx_X) rfl rfl (by decide)
    (a3 (.methodLink own ic (Bundle.initS qx_X)) (by simp [qx_ws3])) (h1 (.instanceMethod (Bundle.initS qx_X)) (by simp [qx_ws1, Bundle.passSAtoms])) (bytes := qx_by) (maxL := 2) (h1 (.code (Bundle.initS qx_X) qx_by 2 none) (by simp [qx_ws1, Bundle.passSAtoms]))
    (f := g) hg (a := a) (msg := msg) (rest := .ref a :: rest) hstack hd
  cases Option.some.inj (hn1.symm.trans hm0)
  have X1 := X.noted hw1
  -- up to Throwable's and back
  obtain ⟨v2, X2, st2⟩ := X1.ctorMessageOffV hexec (g := { g with stack := .ref a :: rest }) hg hsize TC L Z LZ M LM (P0 :: P1 :: Ps)
    (fun P hP => by
      rcases List.mem_cons.mp hP with rfl | hP
      · exact L0
      · rcases List.mem_cons.mp hP with rfl | hP
        · exact L1
        · exact hL P hP) ⟨hup, hlk1, hlk⟩ (u0 := u0) (sen := sen) (self := a) hmsg (cell := freshCell P0.m.cls kX) (cellS := cS1)
    hcell (fun _ => by simp) (by simp) rfl rfl s0 s1 hcS1 hne hkn (by rw [hkeep _ (hno _)]; exact hu0) (by rw [hkeep _ (hno _)]; exact hsen)
    (Takes.of_laid hk hord tC (by rw [Y.causeType]; rfl)) (Takes.of_laid hk hord tS (by rw [Y.stackType]; exact fits_refV_array _ u0)) (Takes.of_laid hk hord tP (by rw [Y.suppType]; exact fits_refV_object _ sen))
    (Takes.of_laid hk hord tM (by rw [Y.msgType]; exact fits_refV_object _ ⟨msg, hmsg⟩)) Y.objLocals hskip htr [] hd
    (by simp only [List.length_cons] at hlen ⊢; simp at hlen; omega) (by simp only [List.length_cons] at hlen ⊢; simp at hlen; show 2 * g.monitorRoom + _ + _ ≤ _; omega)
  obtain ⟨hwk, hrun, hend, hW9, hsm⟩ := X2.athrowLeaves hexec (g := { g with stack := .ref a :: rest, pc := g.pc + 3 }) hg hlocked hentered hout (a := a) (rest := rest) rfl hda
  have hlt : a < ((T.setVm v1).setVm v2).heap.size := (Array.getElem?_eq_some_iff.mp hcell).1
  have hU9 := heapAt_setCell_self (s := (T.setVm v1).setVm v2) (plainBareV TC.toThrowableT (freshCell P0.m.cls kX) a u0 sen msg) hlt
  refine ⟨_, st1 _ (fun acts => ?_), hrun, hend, hW9, hsm.weaken (fun y hy hly => ?_) (Nat.le_refl _) (Nat.le_refl _), _, hU9, rfl, rfl⟩
  · rw [doInvoke_state]
    exact st2 _ hwk
  · rcases List.mem_append.mp hy with h9 | h9
    · exact h9
    · exfalso
      have hb9 : y.base = a := by
        simp only [List.mem_cons, List.not_mem_nil, or_false] at h9
        rcases h9 with rfl | rfl | rfl | rfl | rfl <;> rfl
      rw [hb9] at hly
      exact Nat.not_lt.mpr hnew hly
end NX
def qa_ThN (own ik is ic : Nat) : Prop := ∃ text : String, Cond.classLink (qa_R own) ik (qa_X 3) ∈ qa_tb ∧ Cond.initialized (qa_X 3) ∈ qa_tb ∧ Cond.stringRef (qa_R own) is text ∈ lw_tbl ∧ (qx_at (qa_R own) ic).all qa_thw = true
section QNX
variable {E : qa_V} {M : qa_M} {Q : qa_O → qa_S → Prop} {kc ks pc : Nat} {L : qa_L} {st : List Value} {σ : qa_S}
theorem qa_throwN {ik is ic : Nat} (hh0 : qa_hh M = []) (d0 : qa_cd M pc = some (.new ik, 3)) (d3 : qa_cd M (pc + 3) = some (.dup, 1)) (d4 : qa_cd M (pc + 4) = some (.ldc_w is, 3)) (d7 : qa_cd M (pc + 7) = some (.invokespecial ic, 3)) (d10 : qa_cd M (pc + 10) = some (.athrow, 1)) (ht : qa_ThN (qa_ow M) ik is ic) (hsum : (st.map fun v => v.category).sum ≤ 8)
    (hQ : ∀ n, σ.2 ≤ n → Q (.inr 3) (σ.1, n)) : qa_W E M Q (kc + 1) (ks + 6) pc L st σ := by
  intro G p l e R s m args below meth c H locs cells slots ls ok C hR hS hL hc hs
  have hts := C.2.2.2.2.2.2.2.2.2.2.2.2.2
  have hK := C.2.2.2.2.2.2.2.2.2.2.2.2.1
  have r1 := C.2.2.2.2.2.2.2.2.2.1
  have r2 := C.2.2.2.2.2.2.2.2.2.2.1
  have hown := C.2.2.2.2.2.1
  obtain ⟨text, t4, t5, t6, t7⟩ := ht
  obtain ⟨sa, hsa⟩ := hK.2.2.2.2.2.2.2.1 _ _ _ t6
  have t7' := List.all_eq_true.mp t7
  intro T hT X
  have htr : e.platform.stackTraces = false := (show e.platform.stackTraces = l.stackTraces by rw [X.admits.platform]).trans C.2.2.2.2.2.2.2.2.1
  have Y := vx_rebase X (R' := { frames := R.frames, locals := R.locals, cells := 1, slots := 6 }) (Nat.le_refl _) (Nat.le_refl _) (show cells + 1 ≤ R.cells by omega) (show slots + 6 ≤ R.slots by omega)
  obtain ⟨s1, hA⟩ : ∃ z, z = (T.setVm s.vm).setFrames (.invoking m args :: below) := ⟨_, rfl⟩
  rw [← hA] at Y
  have hvm : s1.vm = s.vm := by rw [hA]; rfl
  have hhp : s1.heap = H := by rw [hA]; exact hT
  have hW0 : s.WarmedH s1.vm := by rw [hvm]; exact State.WarmedH.refl s
  have hat : ∀ w ∈ qx_at (qa_R (qa_ow M)) ic, w.before args s1 = true := fun w hw => vx_ot_at hW0 hvm.symm (qa_th_ot (t7' w hw)) (qa_th_at hts hK (t7' w hw))
  have hk1 : (Cond.classLink (qa_R (qa_ow M)) ik (qa_X 3)).before args s1 = true := vx_ot_at hW0 hvm.symm (by unfold vx_ot; rw [qa_good t4]; simp) (hts _ t4)
  have hi1 : (Cond.initialized (qa_X 3)).before args s1 = true := vx_ot_at hW0 hvm.symm (by unfold vx_ot; rw [qa_good t5]; simp) (hts _ t5)
  have hU1 : vx_Zq Bundle.tN "UNASSIGNED_STACK" Bundle.steD (fun q => E.1 ≤ q) s1 s1.heap := by rw [hhp]; exact vx_Zq.moved hW0.alike (hK.2.2.2.2.2.1.kept hS.2.1)
  have hN1 : vx_Zq Bundle.tN "SUPPRESSED_SENTINEL" Bundle.listD (fun q => E.1 ≤ q) s1 s1.heap := by rw [hhp]; exact vx_Zq.moved hW0.alike (hK.2.2.2.2.2.2.1.kept hS.2.1)
  have h9 : ∀ w ∈ qx_ws0 ++ (qx_ws1 ++ (qx_ws2 ++ qx_ws3 (qa_R (qa_ow M)) ic)), w.before args s1 = true := vx_own hat (vx_isRefq hU1.1) (vx_isRefq hN1.1) hU1.2.word hN1.2.word
  have hown1 : s1.vm.findClass (qa_R (qa_ow M)) = some m.cls := by rw [hvm]; exact hown
  have h93 : ∀ w ∈ qx_ws3 (qa_R (qa_ow M)) ic, w.before args s1 = true := fun w hw => h9 w (List.mem_append_right _ (List.mem_append_right _ (List.mem_append_right _ hw)))
  obtain ⟨v1, cX, kX, hfX, hkX, -, -, X1, st1⟩ := Y.newCold C.1 (own := qa_R (qa_ow M)) (C := qa_X 3) (index := ik) (n := 6) hown1 hk1 (h93 _ (by simp [qx_ws3, qx_X, qa_X])) hi1
    (g := F0 m pc ls st) rfl (by rw [C.2.1]; exact ok _ _ _ d0) (Nat.le_refl _) (Nat.le_refl _)
  generalize hT1 : (T.setVm v1).pushCell { cls := cX, slots := kX.instanceTypes.map defaultValue, vm := .none } = T1 at X1 st1
  have hcat : (Value.ref T.heap.size).category = 1 := rfl
  have hcellA : T1.heap[T.heap.size]? = some (freshCell cX kX) := by rw [← hT1]; exact State.heap_pushCell_size _ _
  have e3 : decode c.code (pc + 3) = .ok (.dup, 1) := by rw [C.2.1]; exact ok _ _ _ d3
  have e4 : decode c.code (pc + 4) = .ok (.ldc_w is, 3) := by rw [C.2.1]; exact ok _ _ _ d4
  have hstr : vk_R (qa_R (qa_ow M)) is text sa s1 := vk_R.warm hW0 hsa
  obtain ⟨U, hst, hrun, hend, hW, hsame, ce, hce, hcv, hcc⟩ := qx_ctor X1 C.1 htr (own := qa_R (qa_ow M)) (ic := ic) hown1 (fun w hw => h9 w (List.mem_append_left _ hw)) (fun w hw => h9 w (List.mem_append_right _ (List.mem_append_left _ hw))) (fun w hw => h9 w (List.mem_append_right _ (List.mem_append_right _ (List.mem_append_left _ hw)))) h93
    (vx_isRefq hU1.1) (vx_isRefq hN1.1) (fun x hx => nomatch hx) hfX hkX hcellA (by rw [hhp, hT]; exact Nat.le_refl _) (msg := .ref sa) rfl
    (g := { method := m, pc := pc + 7, locals := ls, stack := .ref sa :: .ref T.heap.size :: .ref T.heap.size :: st, locked := none }) rfl (hL.1.trans C.2.2.1.symm) rfl rfl (rest := st) rfl
    (by rw [C.2.1]; exact ok _ _ _ d7) (by rw [C.2.1]; exact ok _ _ _ d10) (fun x hx => by rw [C.2.2.2.2.2.2.2.1, hh0] at hx; exact absurd hx (by simp [tableOf])) (by show 6 < R.frames; omega) (by show 2 * 0 + _ + 100 ≤ R.locals; simp only [List.map_cons, List.sum_cons, hcat]; omega) C.2.2.2.2.1
  obtain ⟨f1, f2⟩ := vx_frame hsame
  rw [hhp] at f1 f2
  have hWs : s.WarmedH U.vm := State.WarmedH.trans hW0 hW
  have hcl : s.vm.findClass (qa_X 3) = some ce.cls := by rw [hcc, ← hvm]; exact hfX
  have hall : s.sameButNew ({ U with vm := s.vm } : State) locs (cells + 1) (slots + 6) := by
    subst hA
    obtain ⟨g1, g2⟩ := hsame
    rw [State.setFrames_setFrames] at g1
    have g3 : (T.setVm s.vm).sameButNew ({ U with vm := s.vm } : State) [] (0 + 1) (0 + 6) := ⟨g1, g2⟩
    have g4 := X.same.trans g3
    rw [List.append_nil] at g4
    exact g4
  have hR9 : qa_R9 E G U (σ.1, U.heap.size) U.heap := by
    have h8 := hR.grow (n := U.heap.size - H.size) (H1 := U.heap) (by omega) (fun q hq => f2 q hq (fun z hz => nomatch hz))
    have e9 : σ.2 + (U.heap.size - H.size) = U.heap.size := by rw [← hR.1]; omega
    rw [e9] at h8
    exact h8.moved hWs.alike
  refine ⟨U, ?_, .threw T.heap.size, hrun, hend, Or.inr ⟨T.heap.size, rfl, qa_X 3, ce, locs, ⟨3, (σ.1, U.heap.size), rfl, hQ _ (by rw [← hR.1]; exact f1), hR9, ?_⟩, hce, hcv, hcl, hWs, hall.mono (by omega) (by omega), hS.2.2⟩⟩
  · refine st1 _ ?_
    show Steps p.tables e below (T1.setTop { method := m, pc := pc + 3, locals := ls, stack := .ref T.heap.size :: st, locked := none }) _
    have hexec := C.1
    jvm_step X1.here [X1.here.top, hexec, e3, Value.category]
    exact X1.ldcStringW C.1 (own := qa_R (qa_ow M)) (text := text) (index := is) (a := sa) hown1 hstr.1 hstr.2
      (g := { method := m, pc := pc + 4, locals := ls, stack := .ref T.heap.size :: .ref T.heap.size :: st, locked := none }) rfl e4 _ hst
  · exact ⟨Nat.le_trans hS.1 f1, fun q q1 q2 => (f2 q (Nat.lt_of_lt_of_le q1 hS.1) (fun z hz => nomatch hz)).trans (hS.2.1 q q1 q2)⟩
theorem qa_throwNS {ik is ic : Nat} (hh0 : qa_hh M = []) (d0 : qa_cd M pc = some (.new ik, 3)) (d3 : qa_cd M (pc + 3) = some (.dup, 1)) (d4 : qa_cd M (pc + 4) = some (.ldc is, 2)) (d7 : qa_cd M (pc + 6) = some (.invokespecial ic, 3)) (d10 : qa_cd M (pc + 9) = some (.athrow, 1)) (ht : qa_ThN (qa_ow M) ik is ic) (hsum : (st.map fun v => v.category).sum ≤ 8)
    (hQ : ∀ n, σ.2 ≤ n → Q (.inr 3) (σ.1, n)) : qa_W E M Q (kc + 1) (ks + 6) pc L st σ := by
  intro G p l e R s m args below meth c H locs cells slots ls ok C hR hS hL hc hs
  have hts := C.2.2.2.2.2.2.2.2.2.2.2.2.2
  have hK := C.2.2.2.2.2.2.2.2.2.2.2.2.1
  have r1 := C.2.2.2.2.2.2.2.2.2.1
  have r2 := C.2.2.2.2.2.2.2.2.2.2.1
  have hown := C.2.2.2.2.2.1
  obtain ⟨text, t4, t5, t6, t7⟩ := ht
  obtain ⟨sa, hsa⟩ := hK.2.2.2.2.2.2.2.1 _ _ _ t6
  have t7' := List.all_eq_true.mp t7
  intro T hT X
  have htr : e.platform.stackTraces = false := (show e.platform.stackTraces = l.stackTraces by rw [X.admits.platform]).trans C.2.2.2.2.2.2.2.2.1
  have Y := vx_rebase X (R' := { frames := R.frames, locals := R.locals, cells := 1, slots := 6 }) (Nat.le_refl _) (Nat.le_refl _) (show cells + 1 ≤ R.cells by omega) (show slots + 6 ≤ R.slots by omega)
  obtain ⟨s1, hA⟩ : ∃ z, z = (T.setVm s.vm).setFrames (.invoking m args :: below) := ⟨_, rfl⟩
  rw [← hA] at Y
  have hvm : s1.vm = s.vm := by rw [hA]; rfl
  have hhp : s1.heap = H := by rw [hA]; exact hT
  have hW0 : s.WarmedH s1.vm := by rw [hvm]; exact State.WarmedH.refl s
  have hat : ∀ w ∈ qx_at (qa_R (qa_ow M)) ic, w.before args s1 = true := fun w hw => vx_ot_at hW0 hvm.symm (qa_th_ot (t7' w hw)) (qa_th_at hts hK (t7' w hw))
  have hk1 : (Cond.classLink (qa_R (qa_ow M)) ik (qa_X 3)).before args s1 = true := vx_ot_at hW0 hvm.symm (by unfold vx_ot; rw [qa_good t4]; simp) (hts _ t4)
  have hi1 : (Cond.initialized (qa_X 3)).before args s1 = true := vx_ot_at hW0 hvm.symm (by unfold vx_ot; rw [qa_good t5]; simp) (hts _ t5)
  have hU1 : vx_Zq Bundle.tN "UNASSIGNED_STACK" Bundle.steD (fun q => E.1 ≤ q) s1 s1.heap := by rw [hhp]; exact vx_Zq.moved hW0.alike (hK.2.2.2.2.2.1.kept hS.2.1)
  have hN1 : vx_Zq Bundle.tN "SUPPRESSED_SENTINEL" Bundle.listD (fun q => E.1 ≤ q) s1 s1.heap := by rw [hhp]; exact vx_Zq.moved hW0.alike (hK.2.2.2.2.2.2.1.kept hS.2.1)
  have h9 : ∀ w ∈ qx_ws0 ++ (qx_ws1 ++ (qx_ws2 ++ qx_ws3 (qa_R (qa_ow M)) ic)), w.before args s1 = true := vx_own hat (vx_isRefq hU1.1) (vx_isRefq hN1.1) hU1.2.word hN1.2.word
  have hown1 : s1.vm.findClass (qa_R (qa_ow M)) = some m.cls := by rw [hvm]; exact hown
  have h93 : ∀ w ∈ qx_ws3 (qa_R (qa_ow M)) ic, w.before args s1 = true := fun w hw => h9 w (List.mem_append_right _ (List.mem_append_right _ (List.mem_append_right _ hw)))
  obtain ⟨v1, cX, kX, hfX, hkX, -, -, X1, st1⟩ := Y.newCold C.1 (own := qa_R (qa_ow M)) (C := qa_X 3) (index := ik) (n := 6) hown1 hk1 (h93 _ (by simp [qx_ws3, qx_X, qa_X])) hi1
    (g := F0 m pc ls st) rfl (by rw [C.2.1]; exact ok _ _ _ d0) (Nat.le_refl _) (Nat.le_refl _)
  generalize hT1 : (T.setVm v1).pushCell { cls := cX, slots := kX.instanceTypes.map defaultValue, vm := .none } = T1 at X1 st1
  have hcat : (Value.ref T.heap.size).category = 1 := rfl
  have hcellA : T1.heap[T.heap.size]? = some (freshCell cX kX) := by rw [← hT1]; exact State.heap_pushCell_size _ _
  have e3 : decode c.code (pc + 3) = .ok (.dup, 1) := by rw [C.2.1]; exact ok _ _ _ d3
  have e4 : decode c.code (pc + 4) = .ok (.ldc is, 2) := by rw [C.2.1]; exact ok _ _ _ d4
  have hstr : vk_R (qa_R (qa_ow M)) is text sa s1 := vk_R.warm hW0 hsa
  obtain ⟨U, hst, hrun, hend, hW, hsame, ce, hce, hcv, hcc⟩ := qx_ctor X1 C.1 htr (own := qa_R (qa_ow M)) (ic := ic) hown1 (fun w hw => h9 w (List.mem_append_left _ hw)) (fun w hw => h9 w (List.mem_append_right _ (List.mem_append_left _ hw))) (fun w hw => h9 w (List.mem_append_right _ (List.mem_append_right _ (List.mem_append_left _ hw)))) h93
    (vx_isRefq hU1.1) (vx_isRefq hN1.1) (fun x hx => nomatch hx) hfX hkX hcellA (by rw [hhp, hT]; exact Nat.le_refl _) (msg := .ref sa) rfl
    (g := { method := m, pc := pc + 6, locals := ls, stack := .ref sa :: .ref T.heap.size :: .ref T.heap.size :: st, locked := none }) rfl (hL.1.trans C.2.2.1.symm) rfl rfl (rest := st) rfl
    (by rw [C.2.1]; exact ok _ _ _ d7) (by rw [C.2.1]; exact ok _ _ _ d10) (fun x hx => by rw [C.2.2.2.2.2.2.2.1, hh0] at hx; exact absurd hx (by simp [tableOf])) (by show 6 < R.frames; omega) (by show 2 * 0 + _ + 100 ≤ R.locals; simp only [List.map_cons, List.sum_cons, hcat]; omega) C.2.2.2.2.1
  obtain ⟨f1, f2⟩ := vx_frame hsame
  rw [hhp] at f1 f2
  have hWs : s.WarmedH U.vm := State.WarmedH.trans hW0 hW
  have hcl : s.vm.findClass (qa_X 3) = some ce.cls := by rw [hcc, ← hvm]; exact hfX
  have hall : s.sameButNew ({ U with vm := s.vm } : State) locs (cells + 1) (slots + 6) := by
    subst hA
    obtain ⟨g1, g2⟩ := hsame
    rw [State.setFrames_setFrames] at g1
    have g3 : (T.setVm s.vm).sameButNew ({ U with vm := s.vm } : State) [] (0 + 1) (0 + 6) := ⟨g1, g2⟩
    have g4 := X.same.trans g3
    rw [List.append_nil] at g4
    exact g4
  have hR9 : qa_R9 E G U (σ.1, U.heap.size) U.heap := by
    have h8 := hR.grow (n := U.heap.size - H.size) (H1 := U.heap) (by omega) (fun q hq => f2 q hq (fun z hz => nomatch hz))
    have e9 : σ.2 + (U.heap.size - H.size) = U.heap.size := by rw [← hR.1]; omega
    rw [e9] at h8
    exact h8.moved hWs.alike
  refine ⟨U, ?_, .threw T.heap.size, hrun, hend, Or.inr ⟨T.heap.size, rfl, qa_X 3, ce, locs, ⟨3, (σ.1, U.heap.size), rfl, hQ _ (by rw [← hR.1]; exact f1), hR9, ?_⟩, hce, hcv, hcl, hWs, hall.mono (by omega) (by omega), hS.2.2⟩⟩
  · refine st1 _ ?_
    show Steps p.tables e below (T1.setTop { method := m, pc := pc + 3, locals := ls, stack := .ref T.heap.size :: st, locked := none }) _
    have hexec := C.1
    jvm_step X1.here [X1.here.top, hexec, e3, Value.category]
    exact X1.ldcString C.1 (own := qa_R (qa_ow M)) (text := text) (index := is) (a := sa) hown1 hstr.1 hstr.2
      (g := { method := m, pc := pc + 4, locals := ls, stack := .ref T.heap.size :: .ref T.heap.size :: st, locked := none }) rfl e4 _ hst
  · exact ⟨Nat.le_trans hS.1 f1, fun q q1 q2 => (f2 q (Nat.lt_of_lt_of_le q1 hS.1) (fun z hz => nomatch hz)).trans (hS.2.1 q q1 q2)⟩
end QNX
theorem qtn_1_93_95_97 : qa_ThN 1 93 95 97 := ⟨"the note is a rest", (qa_wj 4 90 (by decide +kernel) (by decide +kernel)), (qa_wj 1 27 (by decide +kernel) (by decide +kernel)), (qa_wm 4 99 (by decide +kernel)), by decide +kernel⟩
theorem qtn_1_93_418_97 : qa_ThN 1 93 418 97 := ⟨"there is none", (qa_wj 4 90 (by decide +kernel) (by decide +kernel)), (qa_wj 1 27 (by decide +kernel) (by decide +kernel)), (qa_wm 4 136 (by decide +kernel)), by decide +kernel⟩
theorem qtn_1_93_410_97 : qa_ThN 1 93 410 97 := ⟨"the part has no notes", (qa_wj 4 90 (by decide +kernel) (by decide +kernel)), (qa_wj 1 27 (by decide +kernel) (by decide +kernel)), (qa_wm 4 184 (by decide +kernel)), by decide +kernel⟩
theorem qtn_1_93_412_97 : qa_ThN 1 93 412 97 := ⟨"no call was rejected", (qa_wj 4 90 (by decide +kernel) (by decide +kernel)), (qa_wj 1 27 (by decide +kernel) (by decide +kernel)), (qa_wm 7 190 (by decide +kernel)), by decide +kernel⟩
theorem qtn_1_93_356_97 : qa_ThN 1 93 356 97 := ⟨"no command was rejected latest", (qa_wj 4 90 (by decide +kernel) (by decide +kernel)), (qa_wj 1 27 (by decide +kernel) (by decide +kernel)), (qa_wm 7 205 (by decide +kernel)), by decide +kernel⟩
