def qa_tb : List Cond := lw_tbl.filter goodWord
theorem qa_wi {w : Cond} (i : Nat) (h : lw_tbl[i]? = some w) (hg : goodWord w = true) : w ∈ qa_tb := List.mem_filter.mpr ⟨List.mem_of_getElem? h, hg⟩
theorem qa_good {w : Cond} (h : w ∈ qa_tb) : goodWord w = true := (List.mem_filter.mp h).2
theorem qa_goodIn {ws : List Cond} (h : ∀ w ∈ ws, w ∈ qa_tb) : GoodIn qa_tb ws := fun w hw => ⟨h w hw, good_of_word (qa_good (h w hw))⟩
def qa_OK (M : qa_M) : Prop := ∀ (pc : Nat) (i : Instr) (n : Nat), qa_cd M pc = some (i, n) → decode (qa_by M) pc = .ok (i, n)
def qa_cwo (y : MethodName) (b : ByteArray) (n : Nat) (r : Option FieldType) (hh : List (Nat × Nat × Nat × Nat)) : Cond := match hh with
  | [] => .code y b n r
  | x :: t => .codeWith y b n r (x :: t)
def qa_cw (M : qa_M) : Cond := qa_cwo (qa_y M) (qa_by M) (qa_ml M) (qa_rt M) (qa_hh M)
def qa_rm (M : qa_M) (mc ms : Nat) : Room := { frames := qa_d M + 24, cells := mc, slots := ms, locals := 40 * qa_d M + 400 }
def qa_C (E : qa_V) (M : qa_M) (G : qa_G) (p : Program) (l : Launch) (R : Room) (s : State) (m : MethodId) (args : Array Value) (meth : Method) (c : Code) : Prop :=
  p.tables.exec = Jvm.exec ∧ c.code = qa_by M ∧ c.maxLocals = qa_ml M ∧ meth.sig.returnType = qa_rt M ∧ meth.locks = false ∧ s.vm.findClass (qa_R (qa_ow M)) = some m.cls ∧ meth.name = (qa_y M).name ∧
  c.exceptionTable.toList = tableOf (qa_hh M) ∧ l.stackTraces = false ∧ qa_d M + 24 ≤ R.frames ∧ 40 * qa_d M + 400 ≤ R.locals ∧ E.1 ≤ s.heap.size ∧ qa_K E G s ∧ ∀ w ∈ qa_tb, w.before args s = true
def qa_Pc (E : qa_V) (G : qa_G) (as : List Value) (σ : qa_S) : Array Value → State → Prop := fun v U => v = as.toArray ∧ qa_R9 E G U σ U.heap ∧ qa_K E G U ∧ E.1 ≤ U.heap.size
def qa_Qc (E : qa_V) (G : qa_G) (Q : qa_O → qa_S → Prop) : Array Value → State → Outcome → State → Prop := fun _ st o t => ∃ (v : Option Value) (σ : qa_S), o = .returned v ∧ Q (.inl v) σ ∧ qa_R9 E G t σ t.heap ∧ va_F (fun q => E.1 ≤ q) st t
def qa_Xc (E : qa_V) (G : qa_G) (Q : qa_O → qa_S → Prop) : String → State → State → Prop := fun C st t => ∃ (k : Nat) (σ : qa_S), C = qa_X k ∧ Q (.inr k) σ ∧ qa_R9 E G t σ t.heap ∧ va_F (fun q => E.1 ≤ q) st t
def qa_T (E : qa_V) (M : qa_M) (mc ms : Nat) (as : List Value) (σ : qa_S) (Q : qa_O → qa_S → Prop) : Prop := ∀ (G : qa_G) (l : Launch), l.stackTraces = false →
  vx_Met l (qa_y M) (qa_cw M :: qa_tb) (qa_rm M mc ms) (qa_Pc E G as σ) (qa_Qc E G Q) (qa_Xc E G Q) mc ms (fun q => E.1 ≤ q)
/-- a place in a body, from which it goes on to an end that Q allows -/
def qa_W (E : qa_V) (M : qa_M) (Q : qa_O → qa_S → Prop) (kc ks pc : Nat) (L : qa_L) (st : List Value) (σ : qa_S) : Prop :=
  ∀ (G : qa_G) (p : Program) (l : Launch) (e : Env) (R : Room) (s : State) (m : MethodId) (args : Array Value) (below : List Frame) (meth : Method) (c : Code) (H : Heap) (locs : List Loc) (cells slots : Nat) (ls : Array Slot),
    qa_OK M → qa_C E M G p l R s m args meth c → qa_R9 E G s σ H → va_S (fun q => E.1 ≤ q) s.heap H locs → lv_has ls (qa_ml M) L → cells + kc ≤ R.cells → slots + ks ≤ R.slots →
    W p l e R s m args below meth c H locs cells slots (vx_MQ below (qa_Qc E G Q) (qa_Xc E G Q) args s R.cells R.slots (fun q => E.1 ≤ q)) (F0 m pc ls st)
/-- .. where an exception of the class number k has been thrown over it -/
def qa_WX (E : qa_V) (M : qa_M) (Q : qa_O → qa_S → Prop) (kc ks pc : Nat) (L : qa_L) (k : Nat) (σ : qa_S) : Prop :=
  ∀ (G : qa_G) (p : Program) (l : Launch) (e : Env) (R : Room) (s : State) (m : MethodId) (args : Array Value) (below : List Frame) (meth : Method) (c : Code) (H : Heap) (locs : List Loc) (cells slots : Nat) (ls : Array Slot) (rest : List Value) (q : Addr) (ce : Cell),
    qa_OK M → qa_C E M G p l R s m args meth c → qa_R9 E G s σ H → va_S (fun q => E.1 ≤ q) s.heap H locs → lv_has ls (qa_ml M) L → cells + kc ≤ R.cells → slots + ks ≤ R.slots →
    H[q]? = some ce → ce.vm = .none → s.vm.findClass (qa_X k) = some ce.cls →
    vx_W p l e R s m args below meth c H locs cells slots (vx_MQ below (qa_Qc E G Q) (qa_Xc E G Q) args s R.cells R.slots (fun q => E.1 ≤ q)) (F0 m pc ls rest) q
/-- behind a call -/
def qa_N (E : qa_V) (M : qa_M) (Q : qa_O → qa_S → Prop) (kc ks pc : Nat) (L : qa_L) (rest : List Value) (o : qa_O) (σ : qa_S) : Prop := match o with
  | .inl v => qa_W E M Q kc ks (pc + 3) L (v.toList ++ rest) σ
  | .inr k => qa_WX E M Q kc ks pc L k σ
theorem qa_Pc.blind (E : qa_V) (G : qa_G) (as : List Value) (σ : qa_S) : FrameBlind (qa_Pc E G as σ) := fun a U g mk h =>
  ⟨h.1, h.2.1.moved (u := U) (U := U.calling g mk a) (Vm.Alike.refl U.vm), h.2.2.1.moved (s := U) (U := U.calling g mk a) (State.WarmedH.refl U) (fun _ _ _ => rfl), h.2.2.2⟩
theorem qa_enter {E : qa_V} {M : qa_M} {mc ms : Nat} {as : List Value} {σ : qa_S} {Q : qa_O → qa_S → Prop} (hy : plainName (qa_y M).cls = true) (hh0 : qa_hh M = []) (hok : qa_OK M) (hown : (qa_y M).cls = qa_R (qa_ow M)) (hsl : Nat.ble (lg_sl as).length (qa_ml M) = true)
    (body : qa_W E M Q mc ms 0 (lv_args 0 as) [] σ) : qa_T E M mc ms as σ Q := by
  intro G l hl
  refine vx_ofW (cc := qa_by M) (maxL := qa_ml M) (ret := qa_rt M) (ws' := qa_tb) hy (by unfold qa_cw; rw [hh0]; rfl) ?_
  intro p e s m args below meth c s₁ B hml hx hP
  obtain ⟨hargs, hR, hK, hE⟩ := hP
  subst hargs
  rw [lg_entry_eq]
  refine body G p l e (qa_rm M mc ms) s m as.toArray below meth c s.heap [] 0 0 _ hok ⟨B.exec, B.bytes, hml, B.returns, B.notSynchronized, ?_, (name_of_methodNamed B.named B.method).1, ?_, hl, Nat.le_refl _, Nat.le_refl _, hE, hK, ?_⟩ hR va_S.rf (lv_entry as (Nat.le_of_ble_eq_true hsl)) (Nat.le_of_eq (Nat.zero_add _)) (Nat.le_of_eq (Nat.zero_add _))
  · rw [← hown]; exact findClass_of_methodNamed B.named
  · rw [hh0]
    have h0 : c.exceptionTable.toList = [] := List.eq_nil_iff_forall_not_mem.mpr fun x hx' => hx x hx'
    rw [h0]; rfl
  · exact fun w hw => atoms_spec (ws := qa_cw M :: qa_tb) B.pre _ (List.mem_cons_of_mem _ hw)
theorem qa_enterH {E : qa_V} {M : qa_M} {mc ms : Nat} {as : List Value} {σ : qa_S} {Q : qa_O → qa_S → Prop} {h0 : Nat × Nat × Nat × Nat} {ht : List (Nat × Nat × Nat × Nat)} (hy : plainName (qa_y M).cls = true) (hh0 : qa_hh M = h0 :: ht) (hok : qa_OK M) (hown : (qa_y M).cls = qa_R (qa_ow M)) (hsl : Nat.ble (lg_sl as).length (qa_ml M) = true)
    (body : qa_W E M Q mc ms 0 (lv_args 0 as) [] σ) : qa_T E M mc ms as σ Q := by
  intro G l hl
  have hcw : qa_cw M = Cond.codeWith (qa_y M) (qa_by M) (qa_ml M) (qa_rt M) (qa_hh M) := by unfold qa_cw; rw [hh0]; rfl
  refine vx_ofWH (cc := qa_by M) (maxL := qa_ml M) (ret := qa_rt M) (hh := qa_hh M) (ws' := qa_tb) hy (by rw [hcw]) ?_
  intro p e s m args below meth c s₁ B hml hP
  obtain ⟨hargs, hR, hK, hE⟩ := hP
  subst hargs
  rw [lg_entry_eq]
  refine body G p l e (qa_rm M mc ms) s m as.toArray below meth c s.heap [] 0 0 _ hok ⟨B.exec, B.bytes, hml, B.returns, B.notSynchronized, ?_, (name_of_methodNamed B.named B.method).1, ?_, hl, Nat.le_refl _, Nat.le_refl _, hE, hK, ?_⟩ hR va_S.rf (lv_entry as (Nat.le_of_ble_eq_true hsl)) (Nat.le_of_eq (Nat.zero_add _)) (Nat.le_of_eq (Nat.zero_add _))
  · rw [← hown]; exact findClass_of_methodNamed B.named
  · exact vx_table (x := qa_y M) B (atoms_spec (ws := qa_cw M :: qa_tb) B.pre _ (by rw [hcw]; exact List.mem_cons_self))
  · exact fun w hw => atoms_spec (ws := qa_cw M :: qa_tb) B.pre _ (List.mem_cons_of_mem _ hw)
theorem qa_T.mono {E : qa_V} {M : qa_M} {mc ms : Nat} {as : List Value} {σ : qa_S} {Q Q1 : qa_O → qa_S → Prop} (h : qa_T E M mc ms as σ Q) (hQ : ∀ o t, Q o t → Q1 o t) : qa_T E M mc ms as σ Q1 := by
  intro G l hl
  refine MetFree.mono (h G l hl) (fun _ _ q => q) (fun _ _ _ _ _ q => q) (fun a st o t _ hq => ?_)
  rcases hq with ⟨⟨v, σ1, e1, e2, e3⟩, e4⟩ | ⟨q, e1, E1, ce, L, ⟨k, σ1, f1, f2, f3⟩, e3⟩
  · exact Or.inl ⟨⟨v, σ1, e1, hQ _ _ e2, e3⟩, e4⟩
  · exact Or.inr ⟨q, e1, E1, ce, L, ⟨k, σ1, f1, hQ _ _ f2, f3⟩, e3⟩
