/-! eleven rows of eleven ints, made at once -/
def sx_o (c : ClassId) (h i : Nat) : Cell := arrV c 11 (fun j => if j < i then .ref (h + 1 + j) else .null)
def sx_r (d : ClassId) : Cell := arrV d 11 (fun _ => .int 0)
def sx_T (T : State) (c d : ClassId) : Nat → State
  | 0 => T.pushCell (sx_o c T.heap.size 0)
  | i + 1 => ((sx_T T c d i).pushCell (sx_r d)).setCell T.heap.size (sx_o c T.heap.size (i + 1))
theorem sx_o_s (c : ClassId) (h i : Nat) : (sx_o c h i).setSlot i (.ref (h + 1 + i)) = sx_o c h (i + 1) := by
  unfold sx_o
  rw [arrV_store]
  congr 1
  funext j
  unfold updV
  by_cases e : j = i
  · rw [if_pos e, if_pos (by omega), e]
  · rw [if_neg e]
    show (if j < i then Value.ref (h + 1 + j) else Value.null) = _
    by_cases e2 : j < i
    · rw [if_pos e2, if_pos (by omega)]
    · rw [if_neg e2, if_neg (by omega)]
theorem sx_o_z (c : ClassId) (h i : Nat) : (sx_o c h i).cls = c ∧ (sx_o c h i).vm = .none ∧ (sx_o c h i).slots.size = 11 := ⟨rfl, rfl, arrV_size _ _ _⟩
theorem sx_T_f (T : State) (c d : ClassId) : ∀ i : Nat, (sx_T T c d i).heap.size = T.heap.size + 1 + i ∧ (sx_T T c d i).heap[T.heap.size]? = some (sx_o c T.heap.size i) ∧ (sx_T T c d i).vm = T.vm ∧ (sx_T T c d i).slotsUsed = T.slotsUsed + 11 + 11 * i ∧ (∀ a, a < T.heap.size → (sx_T T c d i).heap[a]? = T.heap[a]?) ∧ ∀ j, j < i → (sx_T T c d i).heap[T.heap.size + 1 + j]? = some (sx_r d)
  | 0 => by
    have hz := (sx_o_z c T.heap.size 0).2.2
    refine ⟨by simp [sx_T], by simp [sx_T], rfl, by simp [sx_T, hz], fun a ha => ?_, fun j hj => absurd hj (Nat.not_lt_zero _)⟩
    exact State.heap_pushCell_of_lt _ _ ha
  | i + 1 => by
    obtain ⟨f1, f2, f3, f4, f5, f6⟩ := sx_T_f T c d i
    have hr : (sx_r d).slots.size = 11 := arrV_size _ _ _
    have hlt : T.heap.size < (sx_T T c d i).heap.size := by omega
    have hb : ((sx_T T c d i).pushCell (sx_r d)).heap[T.heap.size]? = some (sx_o c T.heap.size i) := by
      rw [State.heap_pushCell_of_lt _ _ hlt]; exact f2
    refine ⟨?_, State.heap_setCell_self hb, by simp [sx_T, f3], ?_, fun a ha => ?_, fun j hj => ?_⟩
    · simp [sx_T, State.setCell, f1]; omega
    · simp [sx_T, f4, hr]; omega
    · show (((sx_T T c d i).pushCell (sx_r d)).setCell T.heap.size _).heap[a]? = _
      rw [State.heap_setCell_other (Nat.ne_of_gt ha), State.heap_pushCell_of_lt _ _ (show a < (sx_T T c d i).heap.size by omega)]
      exact f5 a ha
    · show (((sx_T T c d i).pushCell (sx_r d)).setCell T.heap.size _).heap[T.heap.size + 1 + j]? = _
      rw [State.heap_setCell_other (show T.heap.size ≠ T.heap.size + 1 + j by omega)]
      by_cases e : j = i
      · subst e
        rw [← f1]
        exact State.heap_pushCell_size _ _
      · rw [State.heap_pushCell_of_lt _ _ (show T.heap.size + 1 + j < (sx_T T c d i).heap.size by omega)]
        exact f6 j (by omega)
theorem sx_T_top (T : State) (f : JFrame) (c d : ClassId) : ∀ i : Nat, sx_T (T.setTop f) c d i = (sx_T T c d i).setTop f
  | 0 => rfl
  | i + 1 => by
    unfold sx_T
    rw [sx_T_top T f c d i]
    rfl
theorem qa_11 : ¬ qa_i 11 < 0 ∧ (qa_i 11).toNatClampNeg = 11 := by decide +kernel
section MU
variable {E : CtlPost} {e : Env} {b : Bool} {acts : List Action} {s : State}
theorem sx_make1 {d dd : ClassId} {k : Class} (hk : s.vm.classes[d]? = some k) (hkind : k.kind = .array dd .int) (hl : ¬ 11 > e.platform.arrayLengthLimit) (hh : ¬ 11 * componentBytes .int > e.platform.maxHeapBytes) (h1 : s.heap.size < e.platform.maxCells) (h2 : s.slotsUsed + 11 ≤ e.platform.maxSlots) {Q : Addr → Pre}
    (hq : ∀ acts', Q s.heap.size b acts' (s.pushCell (sx_r d))) : wp (multianewarray.make d [qa_i 11]) Q E e b acts s := by
  rw [multianewarray.make]
  simp only [wp_bind', W.ite, qa_11.1, if_false, wp_pure', W.theClass, hk, hkind, Option.some.injEq, exists_eq_left']
  rw [qa_11.2]
  refine W.newArray_of hk hkind hl hh h1 h2 rfl fun acts' => ?_
  have := hq acts'
  unfold sx_r at this
  rw [← arrV_new] at this
  exact this
theorem sx_make2 {c d dd : ClassId} {k kd : Class} (hk : s.vm.classes[c]? = some k) (hkind : k.kind = .array d (.array .int)) (hkd : s.vm.classes[d]? = some kd) (hkindd : kd.kind = .array dd .int) (hl : ¬ 11 > e.platform.arrayLengthLimit) (hh : ¬ 11 * componentBytes (.array .int) > e.platform.maxHeapBytes) (hh2 : ¬ 11 * componentBytes .int > e.platform.maxHeapBytes) (h1 : s.heap.size + 12 ≤ e.platform.maxCells) (h2 : s.slotsUsed + 132 ≤ e.platform.maxSlots) {Q : Addr → Pre}
    (hq : ∀ b' acts', Q s.heap.size b' acts' (sx_T s c d 11)) : wp (multianewarray.make c [qa_i 11, qa_i 11]) Q E e b acts s := by
  have hfind : ([qa_i 11].find? (· < 0)) = none := by simp [qa_11.1]
  rw [multianewarray.make]
  simp only [wp_bind', W.ite, qa_11.1, if_false, wp_pure', W.theClass, hk, hkind, Option.some.injEq, exists_eq_left']
  rw [qa_11.2]
  refine W.newArray_of hk hkind hl hh (by omega) (by omega) rfl fun acts0 => ?_
  have e0 : s.pushCell { cls := c, slots := Array.replicate 11 .null } = sx_T s c d 0 := by
    show _ = s.pushCell (sx_o c s.heap.size 0)
    congr 1
    first | done | exact arrV_new c 11 .null
  rw [e0]
  simp only [hfind]
  rw [ite_self, wp_bind', Std.Legacy.Range.forIn_eq_forIn_range']
  have hsz : ([:11] : Std.Legacy.Range).size = 11 := by simp [Std.Legacy.Range.size]
  rw [hsz]
  show wp (forIn (List.range' 0 11 1) PUnit.unit _) _ E e b _ _
  refine wp_forIn_inv (fun rest u => ∃ i, i ≤ 11 ∧ rest = List.range' i (11 - i) ∧ u = sx_T s c d i) _ _ ⟨0, Nat.zero_le _, rfl, rfl⟩ ?_ ?_
  · rintro x rest u b' acts' Q' ⟨i, hi, hl2, rfl⟩ hnext
    have hlt : i < 11 := by
      rcases Nat.lt_or_ge i 11 with h | h
      · exact h
      · rw [show 11 - i = 0 by omega] at hl2; simp at hl2
    obtain ⟨rfl, hrest⟩ : x = i ∧ rest = List.range' (i + 1) (11 - (i + 1)) := by
      rw [show 11 - i = (11 - (i + 1)) + 1 by omega, List.range'_succ] at hl2
      exact ⟨(List.cons.inj hl2).1, (List.cons.inj hl2).2⟩
    obtain ⟨f1, f2, f3, f4, f5, f6⟩ := sx_T_f s c d x
    obtain ⟨o1, o2, o3⟩ := sx_o_z c s.heap.size x
    simp only [wp_bind']
    refine sx_make1 (by rw [f3]; exact hkd) hkindd hl hh2 (by rw [f1]; omega) (by rw [f4]; omega) fun acts2 => ?_
    have hlt0 : s.heap.size < (sx_T s c d x).heap.size := by rw [f1]; omega
    simp only [wp_bind', W.writeLoc, wp_pure']
    refine ⟨sx_o c s.heap.size x, by rw [State.heap_pushCell_of_lt _ _ hlt0]; exact f2, by rw [o2]; simp, by rw [o3]; exact hlt, ?_, hnext _ _ _ ⟨x + 1, hlt, hrest, ?_⟩⟩
    · rw [o1, o2]
      simp [State.fitsSlot, State.slotType?, f3, hk, hkind]
      rfl
    · rw [f1, sx_o_s]; rfl
  · rintro u b' acts' ⟨i, hi, hl2, rfl⟩
    have hi11 : i = 11 := by
      rcases Nat.lt_or_ge i 11 with h | h
      · rw [show 11 - i = (11 - (i + 1)) + 1 by omega, List.range'_succ] at hl2; cases hl2
      · omega
    subst hi11
    simp only [wp_pure']
    exact hq _ _
end MU
theorem sx_over {args : Array Value} {first s : State} {o : Option Outcome} {idx : List Nat} {t : FieldType} (h : (Cond.arrayOver (.array t)).holds args first o s idx = true) : ∃ d c k, s.vm.findClass (FieldType.array t).toString = some d ∧ s.vm.classes[c]? = some k ∧ k.kind = .array d (.array t) ∧ s.vm.findClass ("[" ++ (FieldType.array t).toString) = some c := by
  simp only [Cond.holds, Cond.value, beq_iff_eq] at h
  cases hc : s.vm.findClass (FieldType.array t).toString with
  | none => simp [hc] at h
  | some d =>
    simp only [hc, Option.bind_some, Option.bind_eq_some_iff, Option.map_eq_some_iff] at h
    obtain ⟨c, hi, k, hk, hb⟩ := h
    obtain ⟨hlt, hp, -⟩ := Array.findIdx?_eq_some_iff_getElem.mp hi
    have hkk : s.vm.classes[c] = k := (Array.getElem?_eq_some_iff.mp hk).2
    rw [hkk] at hp
    cases hkind : k.kind with
    | array component ty =>
      rw [hkind] at hb hp
      simp at hb hp
      exact ⟨d, c, k, rfl, hk, by rw [hkind, hp, hb.1], hb.2⟩
    | _ => rw [hkind] at hb; simp at hb
section MW
variable {p : Program} {l : Launch} {e : Env} {R : Room} {s : State} {m : MethodId} {args : Array Value} {below : List Frame} {meth : Method} {c : Code} {T : State} {locs : List Loc} {cells slots : Nat}
theorem sx_stand (X : Stand p l e R s m args below meth c T locs cells slots) (cA d : ClassId) : ∀ i : Nat, Stand p l e R s m args below meth c (sx_T T cA d i) (locs ++ (List.range i).map fun j => ⟨T.heap.size, j⟩) (cells + 1 + i) (slots + 11 + 11 * i)
  | 0 => by
    have h := X.pushed (sx_o cA T.heap.size 0)
    rw [(sx_o_z cA T.heap.size 0).2.2] at h
    simpa [sx_T] using h
  | i + 1 => by
    have Xi := sx_stand X cA d i
    obtain ⟨f1, f2, f3, f4, f5, f6⟩ := sx_T_f T cA d i
    have hlt : T.heap.size < (sx_T T cA d i).heap.size := by rw [f1]; omega
    have hcell : ((sx_T T cA d i).pushCell (sx_r d)).heap[T.heap.size]? = some (sx_o cA T.heap.size i) := by rw [State.heap_pushCell_of_lt _ _ hlt]; exact f2
    have h := (Xi.pushed (sx_r d)).stored hcell i (.ref (T.heap.size + 1 + i))
    rw [show (sx_r d).slots.size = 11 from arrV_size _ _ _, sx_o_s] at h
    have e2 : (locs ++ (List.range (i + 1)).map fun j => (⟨T.heap.size, j⟩ : Loc)) = (locs ++ (List.range i).map fun j => (⟨T.heap.size, j⟩ : Loc)) ++ [⟨T.heap.size, i⟩] := by simp [List.range_succ, List.append_assoc]
    have e3 : slots + 11 + 11 * (i + 1) = slots + 11 + 11 * i + 11 := by omega
    rw [e2, e3]
    exact h
theorem sx_step (X : Stand p l e R s m args below meth c T locs cells slots) (hexec : p.tables.exec = Jvm.exec) {own : String} {index : Nat} (hown : s.vm.findClass own = some m.cls) (hclink : (Cond.classLink own index ("[" ++ (FieldType.array .int).toString)).before args s = true)
    (hover : qa_AI s) (harr : (Cond.arrayClass .int).before args s = true) {g : JFrame} (hg : g.method = m) (hdg : decode c.code g.pc = .ok (.multianewarray index 2, 4)) {rest : List Value} (hstack : g.stack = .int (qa_i 11) :: .int (qa_i 11) :: rest) (hcells : cells + 12 ≤ R.cells) (hslots : slots + 132 ≤ R.slots) :
    ∃ (vm₁ : Vm) (cA d : ClassId), s.WarmedH vm₁ ∧ s.vm.findClass ("[" ++ (FieldType.array .int).toString) = some cA ∧ s.vm.findClass (FieldType.array .int).toString = some d ∧
      Stand p l e R s m args below meth c (sx_T (T.setVm vm₁) cA d 11) locs (cells + 12) (slots + 132) ∧
      ∀ target, Steps p.tables e below ((sx_T (T.setVm vm₁) cA d 11).setTop { g with pc := g.pc + 4, stack := .ref T.heap.size :: rest }) target → Steps p.tables e below (T.setTop g) target := by
  subst hg
  have hpl : e.platform.magicAccessors = ({} : Platform).magicAccessors := by rw [X.admits.platform]
  obtain ⟨d, cA, kA, hd, hkA, hkindA, hnameA⟩ := hover
  obtain ⟨d2, kC, cc, hd2, hkC, hkindC⟩ := Cond.arrayClass_spec harr
  have ed : d2 = d := Option.some.inj (hd2.symm.trans hd)
  subst ed
  obtain ⟨c0, hfc0, hcl⟩ := Cond.classLink_spec hown hclink e.platform hpl
  cases hnameA.symm.trans hfc0
  obtain ⟨hg1, hwarm, hready⟩ := State.classEntry (e := e) X.warmed hcl
  generalize T.vm.noted g.method.cls index (.cls cA) = vm₁ at hg1 hwarm hready
  have hal : s.vm.Alike vm₁ := hwarm.alike
  obtain ⟨kA1, hkA1, heA⟩ := hal.2.2 _ _ hkA
  obtain ⟨kC1, hkC1, heC⟩ := hal.2.2 _ _ hkC
  have hkindA1 : kA1.kind = .array d2 (.array .int) := by rw [heA]; exact hkindA
  have hkindC1 : kC1.kind = .array cc .int := by rw [heC]; exact hkindC
  have X1 := X.noted hwarm
  obtain ⟨hr1, hr2⟩ := X.roomAbove hcells hslots
  have XF := sx_stand X1 cA d2 11
  have XG : Stand p l e R s g.method args below meth c (sx_T (T.setVm vm₁) cA d2 11) locs (cells + 12) (slots + 132) := by
    refine Stand.dropFresh (J := (List.range 11).map fun j => ⟨T.heap.size, j⟩) XF fun x hx => ?_
    obtain ⟨j, -, rfl⟩ := List.mem_map.mp hx
    exact X.heapGrown
  refine ⟨vm₁, cA, d2, hwarm, hnameA, hd, XG, fun target hrest => ?_⟩
  have hl1 : ¬ 11 > e.platform.arrayLengthLimit := by rw [Launch.admits_arrayLengthLimit X.admits]; decide
  have hh1 : ¬ 11 * componentBytes (.array .int) > e.platform.maxHeapBytes := by rw [Launch.admits_maxHeapBytes X.admits]; decide
  have hh2 : ¬ 11 * componentBytes .int > e.platform.maxHeapBytes := by rw [Launch.admits_maxHeapBytes X.admits]; decide
  jvm_step X.here [hexec, hdg]
  simp only [multianewarray.sem, wp_bind', W.resolveClassAt_links (State.method?_setTop g X.here.top) hg1]
  rw [W.popN, if_neg (by decide)]
  refine ⟨g, State.topJava?_setTop' (s := T.setVm vm₁) g X.here.top, [.int (qa_i 11), .int (qa_i 11)], rest, rfl, hstack, ?_⟩
  simp only [List.mapM_cons, List.mapM_nil, wp_bind', wp_pure']
  refine sx_make2 (k := kA1) (kd := kC1) (d := d2) (dd := cc) hkA1 hkindA1 hkC1 hkindC1 hl1 hh1 hh2 (by show T.heap.size + 12 ≤ _; omega) (by show T.slotsUsed + 132 ≤ _; omega) fun b' acts' => ?_
  have eS : ((T.setTop g).setVm vm₁).setTop { g with stack := rest } = (T.setVm vm₁).setTop { g with stack := rest } := by
    show ((T.setVm vm₁).setTop g).setTop _ = _
    rw [State.setTop_setTop]
  rw [eS, sx_T_top]
  simp only [wp_bind', W.mark, W.pushRef, State.topJava?_setTop' _ XG.here.top, Option.some.injEq, exists_eq_left', State.setTop_setTop, State.heap_setTop]
  intro acts
  simp [jvm, XG.here.top]
  exact hrest
end MW
