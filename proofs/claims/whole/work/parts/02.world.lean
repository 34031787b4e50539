/-! THE ABSTRACT MACHINE'S WORLD: a heap of known cells (objects by the number of their class, arrays by the number of their type), the next address; what a JVM state must be to hold it -/
abbrev qa_E : Type := (Nat × List Value) ⊕ (Nat × vp_A)
abbrev qa_H : Type := Nat → Option qa_E
abbrev qa_S : Type := qa_H × Nat
abbrev qa_L : Type := List (Nat × Value)
/-- the run's own names: a class's number in the JVM, its fields' slots, an array type's class -/
abbrev qa_G : Type := (Nat → ClassId) × (Nat → Nat → Nat) × (Nat → ClassId)
/-- the first address that may be written, what the static fields hold -/
abbrev qa_V : Type := Nat × (Nat → Value)
abbrev qa_O : Type := Option Value ⊕ Nat
/-- a method: its class's number, its name, code, locals, answer, handlers, depth, the decoded code -/
abbrev qa_M : Type := Nat × MethodName × ByteArray × Nat × Option FieldType × List (Nat × Nat × Nat × Nat) × Nat × (Nat → Option (Instr × Nat))
abbrev qa_ow (M : qa_M) : Nat := M.1
abbrev qa_y (M : qa_M) : MethodName := M.2.1
abbrev qa_by (M : qa_M) : ByteArray := M.2.2.1
abbrev qa_ml (M : qa_M) : Nat := M.2.2.2.1
abbrev qa_rt (M : qa_M) : Option FieldType := M.2.2.2.2.1
abbrev qa_hh (M : qa_M) : List (Nat × Nat × Nat × Nat) := M.2.2.2.2.2.1
abbrev qa_d (M : qa_M) : Nat := M.2.2.2.2.2.2.1
abbrev qa_cd (M : qa_M) : Nat → Option (Instr × Nat) := M.2.2.2.2.2.2.2
def qa_set (h : qa_H) (a : Nat) (x : qa_E) : qa_H := fun q => if q = a then some x else h q
theorem qa_set_eq (h : qa_H) (a : Nat) (x : qa_E) : qa_set h a x a = some x := if_pos rfl
theorem qa_set_ne {h : qa_H} {a : Nat} {x : qa_E} {q : Nat} (hq : q ≠ a) : qa_set h a x q = h q := if_neg hq
/-- what an array's place holds -/
def qa_val (x : vp_A) (j : Nat) : Value := match x.2 with
  | .inl f => .int (f j)
  | .inr (.inl f) => .long (f j)
  | .inr (.inr (.inl f)) => .float (f j)
  | .inr (.inr (.inr (.inl f))) => .double (f j)
  | .inr (.inr (.inr (.inr f))) => va_rf (f j)
theorem qa_cell (cA : ClassId) (x : vp_A) : vp_cell cA x = arrV cA x.1 (qa_val x) := by
  obtain ⟨n, y⟩ := x
  rcases y with f | f | f | f | f <;> rfl
/-- a field's slot -/
def qa_Sl (s : State) (o n d : String) (i : Nat) : Prop := ∃ (cf : ClassId) (kf : Class) (fi : Nat) (fd : Field), s.fieldFound? o n d = some (cf, kf, fi, fd) ∧ fd.slot = i ∧ fd.isStatic = false
theorem qa_Sl.moved {u U : State} {o n d : String} {i : Nat} (hvm : u.vm.Alike U.vm) (h : qa_Sl u o n d i) : qa_Sl U o n d i := by
  obtain ⟨cf, kf, fi, fd, h1, h2⟩ := h
  obtain ⟨k', hi', -⟩ := State.fieldFound?_setVm hvm h1
  exact ⟨cf, k', fi, fd, hi', h2⟩
/-- to read -/
def qa_atW (G : qa_G) (s : State) (a : Nat) (x : qa_E) (H : Heap) : Prop := match x with
  | .inl (ci, fs) => ∃ cell : Cell, H[a]? = some cell ∧ cell.cls = G.1 ci ∧ cell.vm ≠ .unknown ∧ cell.vm.isStatics = false ∧ ∀ (k : Nat) (v : Value), fs[k]? = some v → cell.slots[G.2.1 ci k]? = some v
  | .inr (t, y) => ∃ (cell : Cell) (ty : FieldType), qa_ty[t]? = some ty ∧ H[a]? = some cell ∧ s.isArrayOf cell ty ∧ cell.vm ≠ .unknown ∧ y.1 ≤ cell.slots.size ∧ cell.slots.size.toInt32 = Int32.ofNat y.1 ∧ ∀ j : Nat, j < y.1 → cell.slots[j]? = some (qa_val y j)
/-- to write -/
def qa_atS (G : qa_G) (a : Nat) (x : qa_E) (H : Heap) : Prop := match x with
  | .inl (ci, fs) => ∃ r : vw_C, qa_cl[ci]? = some r ∧ fs.length = r.2.2 ∧ t_OB a (G.1 ci) r.2.2 (G.2.1 ci) H (vp_V fs)
  | .inr (t, y) => H[a]? = some (vp_cell (G.2.2 t) y)
def qa_at (E : qa_V) (G : qa_G) (s : State) (a : Nat) (x : qa_E) (H : Heap) : Prop := qa_atW G s a x H ∧ (E.1 ≤ a → qa_atS G a x H)
def qa_R9 (E : qa_V) (G : qa_G) (s : State) (σ : qa_S) (H : Heap) : Prop := H.size = σ.2 ∧ ∀ (a : Nat) (x : qa_E), σ.1 a = some x → qa_at E G s a x H
def qa_nw : Cond → Bool
  | .fieldLinkNest .. => true
  | .methodLinkNest .. => true
  | .castable .. => true
  | .declares .. => true
  | _ => false
/-- what a run knows of the JVM's tables, statics and texts -/
def qa_X (k : Nat) : String := match k with
  | 0 => "java/lang/IndexOutOfBoundsException"
  | 1 => "java/lang/IllegalArgumentException"
  | 2 => "java/lang/UnsupportedOperationException"
  | 3 => "java/util/NoSuchElementException"
  | 4 => "java/lang/ArithmeticException"
  | _ => "java/lang/IllegalStateException"
/-- the class of the int arrays' arrays -/
def qa_AI (s : State) : Prop := ∃ (d c : ClassId) (k : Class), s.vm.findClass (FieldType.array .int).toString = some d ∧ s.vm.classes[c]? = some k ∧ k.kind = .array d (.array .int) ∧ s.vm.findClass ("[" ++ (FieldType.array .int).toString) = some c
theorem qa_AI.moved {u U : State} (hvm : u.vm.Alike U.vm) (h : qa_AI u) : qa_AI U := by
  obtain ⟨d, c, k, h1, h2, h3, h4⟩ := h
  obtain ⟨k', hk', he⟩ := hvm.2.2 _ _ h2
  exact ⟨d, c, k', by rw [hvm.findClass]; exact h1, hk', by rw [he]; exact h3, by rw [hvm.findClass]; exact h4⟩
def qa_K (E : qa_V) (G : qa_G) (s : State) : Prop :=
  (∀ (ci : Nat) (r : vw_C), qa_cl[ci]? = some r → (∀ k, k < r.2.2 → qa_Sl s (r.2.1 k).1 (r.2.1 k).2.1 (r.2.1 k).2.2.1 (G.2.1 ci k)) ∧ s.vm.findClass r.1 = some (G.1 ci)) ∧
  (∀ (t : Nat) (ty : FieldType), qa_ty[t]? = some ty → ArrOfT s (G.2.2 t) ty ∧ va_RA s (G.2.2 t) ty) ∧
  (∀ w ∈ lw_tbl, qa_nw w = true → va_Nw w s) ∧
  (∀ C : String, Cond.arrayOver (.object C) ∈ lw_tbl → va_AO C s) ∧
  (∀ (k : Nat) (z : String × String × String), qa_st[k]? = some z → va_Z z.1 z.2.1 z.2.2 (E.2 k) (fun q => E.1 ≤ q) s s.heap) ∧
  vx_Zq Bundle.tN "UNASSIGNED_STACK" Bundle.steD (fun q => E.1 ≤ q) s s.heap ∧ vx_Zq Bundle.tN "SUPPRESSED_SENTINEL" Bundle.listD (fun q => E.1 ≤ q) s s.heap ∧
  (∀ (own : String) (k : Nat) (tx : String), Cond.stringRef own k tx ∈ lw_tbl → ∃ sa : Nat, vk_R own k tx sa s) ∧
  (∀ k j : Nat, k < 6 → j < 6 → k ≠ j → va_Nc (qa_X k) (qa_X j) s) ∧ qa_AI s
theorem qa_K.moved {E : qa_V} {G : qa_G} {s U : State} (h : qa_K E G s) (hW : s.WarmedH U.vm) (hk : ∀ q : Nat, q < s.heap.size → ¬ E.1 ≤ q → U.heap[q]? = s.heap[q]?) : qa_K E G U := by
  obtain ⟨h1, h2, h3, h4, h5, h6, h7, h8, h9, h10⟩ := h
  have hvm := hW.alike
  refine ⟨fun ci r hr => ⟨fun k hk => ((h1 ci r hr).1 k hk).moved hvm, by rw [hvm.findClass]; exact (h1 ci r hr).2⟩, fun t ty ht => ⟨arrOfT_moved hvm (h2 t ty ht).1, (h2 t ty ht).2.moved hvm⟩, fun w hw hn => ?_, fun C hC => (h4 C hC).moved hvm, fun k z hz => va_Z.kept (va_Z.moved hvm (h5 k z hz)) hk, vx_Zq.kept (vx_Zq.moved hvm h6) hk, vx_Zq.kept (vx_Zq.moved hvm h7) hk, fun own k tx hw => ?_, fun k j hk1 hj hne => (h9 k j hk1 hj hne).moved hvm, h10.moved hvm⟩
  · have h0 := h3 w hw hn
    cases w <;> first | exact va_Nw.warmF hW h0 | exact va_Nw.warmM hW h0 | exact va_Nw.warmC hW h0 | exact va_Nw.warmD hW h0 | (simp [qa_nw] at hn)
  · obtain ⟨sa, h0⟩ := h8 own k tx hw
    exact ⟨sa, vk_R.warm hW h0⟩
theorem qa_atW.moved {G : qa_G} {u U : State} {a : Nat} {x : qa_E} {H : Heap} (hvm : u.vm.Alike U.vm) (h : qa_atW G u a x H) : qa_atW G U a x H := by
  rcases x with ⟨ci, fs⟩ | ⟨t, y⟩
  · exact h
  · obtain ⟨cell, ty, h1, h2, h3, h4⟩ := h
    exact ⟨cell, ty, h1, h2, State.isArrayOf_alike hvm h3, h4⟩
theorem qa_atW.kept {G : qa_G} {s : State} {a : Nat} {x : qa_E} {H H1 : Heap} (hq : H1[a]? = H[a]?) (h : qa_atW G s a x H) : qa_atW G s a x H1 := by
  rcases x with ⟨ci, fs⟩ | ⟨t, y⟩
  · obtain ⟨cell, h1, h2⟩ := h
    exact ⟨cell, by rw [hq]; exact h1, h2⟩
  · obtain ⟨cell, ty, h1, h2, h3⟩ := h
    exact ⟨cell, ty, h1, by rw [hq]; exact h2, h3⟩
theorem qa_atS.kept {G : qa_G} {a : Nat} {x : qa_E} {H H1 : Heap} (hq : H1[a]? = H[a]?) (h : qa_atS G a x H) : qa_atS G a x H1 := by
  rcases x with ⟨ci, fs⟩ | ⟨t, y⟩
  · obtain ⟨r, h1, h2, h3⟩ := h
    exact ⟨r, h1, h2, h3.kept hq⟩
  · exact hq.trans h
theorem qa_R9.moved {E : qa_V} {G : qa_G} {u U : State} {σ : qa_S} {H : Heap} (hvm : u.vm.Alike U.vm) (h : qa_R9 E G u σ H) : qa_R9 E G U σ H := ⟨h.1, fun a x hx => ⟨(h.2 a x hx).1.moved hvm, (h.2 a x hx).2⟩⟩
theorem qa_atW.lt {G : qa_G} {s : State} {a : Nat} {x : qa_E} {H : Heap} (h : qa_atW G s a x H) : a < H.size := by
  rcases x with ⟨ci, fs⟩ | ⟨t, y⟩
  · obtain ⟨cell, h1, -⟩ := h
    exact (Array.getElem?_eq_some_iff.mp h1).1
  · obtain ⟨cell, ty, -, h1, -⟩ := h
    exact (Array.getElem?_eq_some_iff.mp h1).1
/-- an object that is to be written is one that can be read -/
theorem qa_atS.W1 {E : qa_V} {G : qa_G} {s : State} {a ci : Nat} {fs : List Value} {H : Heap} (h : qa_atS G a (.inl (ci, fs)) H) : qa_atW G s a (.inl (ci, fs)) H := by
  obtain ⟨r, h1, h2, cell, q1, q2, q3, q4⟩ := h
  refine ⟨cell, q1, q2, (by rw [q3]; exact fun h => nomatch h), (by rw [q3]; rfl), fun k v hv => ?_⟩
  have hk : k < r.2.2 := by rw [← h2]; exact (List.getElem?_eq_some_iff.mp hv).1
  rw [q4 k hk]
  simp [vp_V, hv]
theorem qa_atS.W2 {E : qa_V} {G : qa_G} {s : State} {a t : Nat} {y : vp_A} {ty : FieldType} {H : Heap} (hty : qa_ty[t]? = some ty) (hA : ArrOfT s (G.2.2 t) ty) (h : qa_atS G a (.inr (t, y)) H) : qa_atW G s a (.inr (t, y)) H := by
  refine ⟨_, ty, hty, h, ?_, ?_, ?_, ?_, ?_⟩
  · rw [qa_cell]; exact hA _ _
  · rw [qa_cell]; exact fun h => nomatch h
  · rw [qa_cell, arrV_size]; exact Nat.le_refl _
  · rw [qa_cell, arrV_size]
  · intro j hj
    rw [qa_cell]
    exact arrV_read _ _ hj
/-- one cell is written -/
theorem qa_R9.set {E : qa_V} {G : qa_G} {s : State} {σ : qa_S} {H H1 : Heap} {a : Nat} {x : qa_E} (h : qa_R9 E G s σ H) (hz : H1.size = H.size) (oq : ∀ q : Nat, q ≠ a → H1[q]? = H[q]?) (hx : qa_at E G s a x H1) : qa_R9 E G s (qa_set σ.1 a x, σ.2) H1 := by
  refine ⟨hz.trans h.1, fun b y hy => ?_⟩
  by_cases hb : b = a
  · subst hb
    have hy : qa_set σ.1 b x b = some y := hy
    rw [qa_set_eq] at hy
    cases hy
    exact hx
  · have hy : qa_set σ.1 a x b = some y := hy
    rw [qa_set_ne hb] at hy
    obtain ⟨h1, h2⟩ := h.2 b y hy
    exact ⟨h1.kept (oq b hb), fun hl => (h2 hl).kept (oq b hb)⟩
/-- a cell is made -/
theorem qa_R9.push {E : qa_V} {G : qa_G} {s : State} {σ : qa_S} {H H1 : Heap} {x : qa_E} (h : qa_R9 E G s σ H) (hz : H1.size = H.size + 1) (oq : ∀ q : Nat, q < H.size → H1[q]? = H[q]?) (hx : qa_at E G s σ.2 x H1) : qa_R9 E G s (qa_set σ.1 σ.2 x, σ.2 + 1) H1 := by
  refine ⟨by rw [hz, h.1], fun b y hy => ?_⟩
  by_cases hb : b = σ.2
  · subst hb
    have hy : qa_set σ.1 σ.2 x σ.2 = some y := hy
    rw [qa_set_eq] at hy
    cases hy
    exact hx
  · have hy : qa_set σ.1 σ.2 x b = some y := hy
    rw [qa_set_ne hb] at hy
    obtain ⟨h1, h2⟩ := h.2 b y hy
    have hlt := h1.lt
    exact ⟨h1.kept (oq b hlt), fun hl => (h2 hl).kept (oq b hlt)⟩
/-- a cell that nobody speaks of is made -/
theorem qa_R9.grow {E : qa_V} {G : qa_G} {s : State} {σ : qa_S} {H H1 : Heap} {n : Nat} (h : qa_R9 E G s σ H) (hz : H1.size = H.size + n) (oq : ∀ q : Nat, q < H.size → H1[q]? = H[q]?) : qa_R9 E G s (σ.1, σ.2 + n) H1 := by
  refine ⟨by rw [hz, h.1], fun b y hy => ?_⟩
  obtain ⟨h1, h2⟩ := h.2 b y hy
  have hlt := h1.lt
  exact ⟨h1.kept (oq b hlt), fun hl => (h2 hl).kept (oq b hlt)⟩
