abbrev qa_op (M : qa_M) (pc : Nat) (i : Instr) (n pc' : Nat) : Prop := qa_cd M pc = some (i, n) ∧ pc + n = pc'
def qa_get : qa_L → Nat → Option Value
  | [], _ => none
  | (j, v) :: r, i => bif Nat.beq j i then some v else qa_get r i
theorem qa_get_mem {i : Nat} {v : Value} : ∀ {L : qa_L}, qa_get L i = some v → (i, v) ∈ L
  | [], h => nomatch h
  | (j, w) :: r, h => by
    unfold qa_get at h
    cases hb : Nat.beq j i with
    | true =>
      rw [hb] at h
      have h1 : w = v := Option.some.inj h
      have h2 : j = i := Nat.eq_of_beq_eq_true hb
      rw [h1, h2]
      exact List.mem_cons_self
    | false =>
      rw [hb] at h
      exact List.mem_cons_of_mem _ (qa_get_mem h)
theorem qa_getl {ls : Array Slot} {nL i : Nat} {L : qa_L} {v : Value} (hL : lv_has ls nL L) (h : qa_get L i = some v) : ls[i]? = some (.val v) := hL.2.2 _ (qa_get_mem h)
def qa_ins (i : Nat) (v : Value) : qa_L → qa_L
  | [] => [(i, v)]
  | (j, w) :: r => bif Nat.blt j i then (j, w) :: qa_ins i v r else (i, v) :: (j, w) :: r
theorem qa_ins_mem {i : Nat} {v : Value} {q : Nat × Value} : ∀ {L : qa_L}, q ∈ qa_ins i v L → q ∈ (i, v) :: L
  | [], h => h
  | (j, w) :: r, h => by
    unfold qa_ins at h
    cases hb : Nat.blt j i with
    | true =>
      rw [hb] at h
      rcases List.mem_cons.mp h with h | h
      · rw [h]; exact List.mem_cons_of_mem _ List.mem_cons_self
      · rcases List.mem_cons.mp (qa_ins_mem h) with h | h
        · rw [h]; exact List.mem_cons_self
        · exact List.mem_cons_of_mem _ (List.mem_cons_of_mem _ h)
    | false =>
      rw [hb] at h
      exact h
def qa_put1 (i : Nat) (v : Value) (L : qa_L) : qa_L := qa_ins i v (L.filter (fun q => !(q.1 == i) && !(q.1 + 1 == i && q.2.category == 2)))
def qa_put2 (i : Nat) (v : Value) (L : qa_L) : qa_L := qa_ins i v (L.filter (fun q => !(q.1 == i) && (!(q.1 == i + 1) && !(q.1 + 1 == i && q.2.category == 2))))
theorem qa_ins_has {ls : Array Slot} {nL i : Nat} {v : Value} {L : qa_L} (h : lv_has ls nL ((i, v) :: L)) : lv_has ls nL (qa_ins i v L) := ⟨h.1, h.2.1, fun q hq => h.2.2 q (qa_ins_mem hq)⟩
section QR
variable {E : qa_V} {M : qa_M} {Q : qa_O → qa_S → Prop} {kc ks pc pc' : Nat} {L L' : qa_L} {st : List Value} {σ : qa_S}
theorem qa_sub {ks' : List Nat} (hl : lv_pick L ks' = L') (k : qa_W E M Q kc ks pc L' st σ) : qa_W E M Q kc ks pc L st σ := by
  intro G p l e R s m args below meth c H locs cells slots ls ok C hR hS hL hc hs
  exact k G p l e R s m args below meth c H locs cells slots ls ok C hR hS (lv_sub hL ks' hl) hc hs
theorem qa_less {kc' ks' : Nat} (h1 : kc' ≤ kc) (h2 : ks' ≤ ks) (k : qa_W E M Q kc' ks' pc L st σ) : qa_W E M Q kc ks pc L st σ := by
  intro G p l e R s m args below meth c H locs cells slots ls ok C hR hS hL hc hs
  exact k G p l e R s m args below meth c H locs cells slots ls ok C hR hS hL (by omega) (by omega)
theorem qa_le {Q' : qa_O → qa_S → Prop} (hQ : ∀ o t, Q' o t → Q o t) (k : qa_W E M Q' kc ks pc L st σ) : qa_W E M Q kc ks pc L st σ := by
  intro G p l e R s m args below meth c H locs cells slots ls ok C hR hS hL hc hs T hT X
  obtain ⟨t, a1, o, b1, b2, b3⟩ := k G p l e R s m args below meth c H locs cells slots ls ok C hR hS hL hc hs T hT X
  refine ⟨t, a1, o, b1, b2, ?_⟩
  rcases b3 with ⟨⟨v, σ1, e1, e2, e3⟩, e4⟩ | ⟨q, e1, E1, ce, L1, ⟨k1, σ1, f1, f2, f3⟩, e3⟩
  · exact Or.inl ⟨⟨v, σ1, e1, hQ _ _ e2, e3⟩, e4⟩
  · exact Or.inr ⟨q, e1, E1, ce, L1, ⟨k1, σ1, f1, hQ _ _ f2, f3⟩, e3⟩
theorem qa_to {st' : List Value} {σ' : qa_S} (h1 : L' = L) (h2 : st' = st) (h3 : σ' = σ) (k : qa_W E M Q kc ks pc L' st' σ') : qa_W E M Q kc ks pc L st σ := by
  subst h1; subst h2; subst h3; exact k
theorem qa_iconst {n : Int} (hd : qa_op M pc (.iconst n) 1 pc') 
    (k : qa_W E M Q kc ks pc' L (.int (qa_i n) :: st) σ) : qa_W E M Q kc ks pc L (st) σ := by
  obtain ⟨hd, rfl⟩ := hd
  intro G p l e R s m args below meth c H locs cells slots ls ok C hR hS hL hc hs
  exact lv_iconst C.1 C.2.1 (ok _ _ _ hd) rfl (k G p l e R s m args below meth c H locs cells slots ls ok C hR hS hL hc hs)
theorem qa_bipush {n z : Int} (hd : qa_op M pc (.bipush n) 2 pc') (hv : (Int8.ofInt n).toInt32 = qa_i z)
    (k : qa_W E M Q kc ks pc' L (.int (qa_i z) :: st) σ) : qa_W E M Q kc ks pc L (st) σ := by
  obtain ⟨hd, rfl⟩ := hd
  intro G p l e R s m args below meth c H locs cells slots ls ok C hR hS hL hc hs
  exact lv_bipush C.1 C.2.1 (ok _ _ _ hd) hv (k G p l e R s m args below meth c H locs cells slots ls ok C hR hS hL hc hs)
theorem qa_sipush {n z : Int} (hd : qa_op M pc (.sipush n) 3 pc') (hv : (Int16.ofInt n).toInt32 = qa_i z)
    (k : qa_W E M Q kc ks pc' L (.int (qa_i z) :: st) σ) : qa_W E M Q kc ks pc L (st) σ := by
  obtain ⟨hd, rfl⟩ := hd
  intro G p l e R s m args below meth c H locs cells slots ls ok C hR hS hL hc hs
  exact lv_sipush C.1 C.2.1 (ok _ _ _ hd) hv (k G p l e R s m args below meth c H locs cells slots ls ok C hR hS hL hc hs)
theorem qa_lconst {n : Fin 2} {z : Int} (hd : qa_op M pc (.lconst n) 1 pc') (hv : Int64.ofNat (n : Nat) = qa_l z)
    (k : qa_W E M Q kc ks pc' L (.long (qa_l z) :: st) σ) : qa_W E M Q kc ks pc L (st) σ := by
  obtain ⟨hd, rfl⟩ := hd
  intro G p l e R s m args below meth c H locs cells slots ls ok C hR hS hL hc hs
  exact lv_lconst C.1 C.2.1 (ok _ _ _ hd) hv (k G p l e R s m args below meth c H locs cells slots ls ok C hR hS hL hc hs)
theorem qa_ldc {idx : Nat} {z : Int} (hd : qa_op M pc (.ldc idx) 2 pc') (hw : Cond.constant (qa_R (qa_ow M)) idx (qa_i z) ∈ qa_tb)
    (k : qa_W E M Q kc ks pc' L (.int (qa_i z) :: st) σ) : qa_W E M Q kc ks pc L (st) σ := by
  obtain ⟨hd, rfl⟩ := hd
  intro G p l e R s m args below meth c H locs cells slots ls ok C hR hS hL hc hs
  exact lv_ldc C.1 C.2.1 C.2.2.2.2.2.1 (C.2.2.2.2.2.2.2.2.2.2.2.2.2 _ hw) (ok _ _ _ hd) (k G p l e R s m args below meth c H locs cells slots ls ok C hR hS hL hc hs)
theorem qa_ldcw {idx : Nat} {z : Int} (hd : qa_op M pc (.ldc_w idx) 3 pc') (hw : Cond.constant (qa_R (qa_ow M)) idx (qa_i z) ∈ qa_tb)
    (k : qa_W E M Q kc ks pc' L (.int (qa_i z) :: st) σ) : qa_W E M Q kc ks pc L (st) σ := by
  obtain ⟨hd, rfl⟩ := hd
  intro G p l e R s m args below meth c H locs cells slots ls ok C hR hS hL hc hs
  exact lv_ldcw C.1 C.2.1 C.2.2.2.2.2.1 (C.2.2.2.2.2.2.2.2.2.2.2.2.2 _ hw) (ok _ _ _ hd) (k G p l e R s m args below meth c H locs cells slots ls ok C hR hS hL hc hs)
theorem qa_ldc2 {idx : Nat} {z : Int} (hd : qa_op M pc (.ldc2_w idx) 3 pc') (hw : Cond.constantLong (qa_R (qa_ow M)) idx (qa_l z) ∈ qa_tb)
    (k : qa_W E M Q kc ks pc' L (.long (qa_l z) :: st) σ) : qa_W E M Q kc ks pc L (st) σ := by
  obtain ⟨hd, rfl⟩ := hd
  intro G p l e R s m args below meth c H locs cells slots ls ok C hR hS hL hc hs
  exact lv_ldc2 C.1 C.2.1 C.2.2.2.2.2.1 (C.2.2.2.2.2.2.2.2.2.2.2.2.2 _ hw) (ok _ _ _ hd) (k G p l e R s m args below meth c H locs cells slots ls ok C hR hS hL hc hs)
theorem qa_null  (hd : qa_op M pc (.aconst_null) 1 pc') 
    (k : qa_W E M Q kc ks pc' L (.null :: st) σ) : qa_W E M Q kc ks pc L (st) σ := by
  obtain ⟨hd, rfl⟩ := hd
  intro G p l e R s m args below meth c H locs cells slots ls ok C hR hS hL hc hs
  exact lv_null C.1 C.2.1 (ok _ _ _ hd) (k G p l e R s m args below meth c H locs cells slots ls ok C hR hS hL hc hs)
theorem qa_fconst0  (hd : qa_op M pc (.fconst 0) 1 pc') 
    (k : qa_W E M Q kc ks pc' L (.float FP.fconst0 :: st) σ) : qa_W E M Q kc ks pc L (st) σ := by
  obtain ⟨hd, rfl⟩ := hd
  intro G p l e R s m args below meth c H locs cells slots ls ok C hR hS hL hc hs
  exact lv_fconst0 C.1 C.2.1 (ok _ _ _ hd) (k G p l e R s m args below meth c H locs cells slots ls ok C hR hS hL hc hs)
theorem qa_fconst1  (hd : qa_op M pc (.fconst 1) 1 pc') 
    (k : qa_W E M Q kc ks pc' L (.float FP.fconst1 :: st) σ) : qa_W E M Q kc ks pc L (st) σ := by
  obtain ⟨hd, rfl⟩ := hd
  intro G p l e R s m args below meth c H locs cells slots ls ok C hR hS hL hc hs
  exact lv_fconst1 C.1 C.2.1 (ok _ _ _ hd) (k G p l e R s m args below meth c H locs cells slots ls ok C hR hS hL hc hs)
theorem qa_fconst2  (hd : qa_op M pc (.fconst 2) 1 pc') 
    (k : qa_W E M Q kc ks pc' L (.float FP.fconst2 :: st) σ) : qa_W E M Q kc ks pc L (st) σ := by
  obtain ⟨hd, rfl⟩ := hd
  intro G p l e R s m args below meth c H locs cells slots ls ok C hR hS hL hc hs
  exact lv_fconst2 C.1 C.2.1 (ok _ _ _ hd) (k G p l e R s m args below meth c H locs cells slots ls ok C hR hS hL hc hs)
theorem qa_dconst0  (hd : qa_op M pc (.dconst 0) 1 pc') 
    (k : qa_W E M Q kc ks pc' L (.double FP.dconst0 :: st) σ) : qa_W E M Q kc ks pc L (st) σ := by
  obtain ⟨hd, rfl⟩ := hd
  intro G p l e R s m args below meth c H locs cells slots ls ok C hR hS hL hc hs
  exact lv_dconst0 C.1 C.2.1 (ok _ _ _ hd) (k G p l e R s m args below meth c H locs cells slots ls ok C hR hS hL hc hs)
theorem qa_dconst1  (hd : qa_op M pc (.dconst 1) 1 pc') 
    (k : qa_W E M Q kc ks pc' L (.double FP.dconst1 :: st) σ) : qa_W E M Q kc ks pc L (st) σ := by
  obtain ⟨hd, rfl⟩ := hd
  intro G p l e R s m args below meth c H locs cells slots ls ok C hR hS hL hc hs
  exact lv_dconst1 C.1 C.2.1 (ok _ _ _ hd) (k G p l e R s m args below meth c H locs cells slots ls ok C hR hS hL hc hs)
theorem qa_iload_n {j : Fin 4} {x : Int32} (hd : qa_op M pc (.iload_n j) 1 pc') (hl : qa_get L (j : Nat) = some (.int x))
    (k : qa_W E M Q kc ks pc' L (.int x :: st) σ) : qa_W E M Q kc ks pc L (st) σ := by
  obtain ⟨hd, rfl⟩ := hd
  intro G p l e R s m args below meth c H locs cells slots ls ok C hR hS hL hc hs
  exact lv_iload_n C.1 C.2.1 (ok _ _ _ hd) rfl (qa_getl hL hl) (k G p l e R s m args below meth c H locs cells slots ls ok C hR hS hL hc hs)
theorem qa_iload {j : Nat} {x : Int32} (hd : qa_op M pc (.iload j) 2 pc') (hl : qa_get L j = some (.int x))
    (k : qa_W E M Q kc ks pc' L (.int x :: st) σ) : qa_W E M Q kc ks pc L (st) σ := by
  obtain ⟨hd, rfl⟩ := hd
  intro G p l e R s m args below meth c H locs cells slots ls ok C hR hS hL hc hs
  exact lv_iload C.1 C.2.1 (ok _ _ _ hd) (qa_getl hL hl) (k G p l e R s m args below meth c H locs cells slots ls ok C hR hS hL hc hs)
theorem qa_istore_n {j : Fin 4} {x : Int32} (hd : qa_op M pc (.istore_n j) 1 pc') (hn : Nat.blt (j : Nat) (qa_ml M) = true) (hl : qa_put1 (j : Nat) (.int x) L = L')
    (k : qa_W E M Q kc ks pc' L' (st) σ) : qa_W E M Q kc ks pc L (.int x :: st) σ := by
  obtain ⟨hd, rfl⟩ := hd
  intro G p l e R s m args below meth c H locs cells slots ls ok C hR hS hL hc hs
  refine lv_istore_n C.1 C.2.1 (ok _ _ _ hd) rfl hL (by simpa [Nat.blt_eq] using hn) rfl (fun ls' hL' => ?_)
  have hL' := qa_ins_has hL'
  exact k G p l e R s m args below meth c H locs cells slots ls' ok C hR hS (hl ▸ hL') hc hs
theorem qa_istore {j : Nat} {x : Int32} (hd : qa_op M pc (.istore j) 2 pc') (hn : Nat.blt j (qa_ml M) = true) (hl : qa_put1 j (.int x) L = L')
    (k : qa_W E M Q kc ks pc' L' (st) σ) : qa_W E M Q kc ks pc L (.int x :: st) σ := by
  obtain ⟨hd, rfl⟩ := hd
  intro G p l e R s m args below meth c H locs cells slots ls ok C hR hS hL hc hs
  refine lv_istore C.1 C.2.1 (ok _ _ _ hd) hL (by simpa [Nat.blt_eq] using hn) rfl (fun ls' hL' => ?_)
  have hL' := qa_ins_has hL'
  exact k G p l e R s m args below meth c H locs cells slots ls' ok C hR hS (hl ▸ hL') hc hs
theorem qa_lload_n {j : Fin 4} {x : Int64} (hd : qa_op M pc (.lload_n j) 1 pc') (hl : qa_get L (j : Nat) = some (.long x))
    (k : qa_W E M Q kc ks pc' L (.long x :: st) σ) : qa_W E M Q kc ks pc L (st) σ := by
  obtain ⟨hd, rfl⟩ := hd
  intro G p l e R s m args below meth c H locs cells slots ls ok C hR hS hL hc hs
  exact lv_lload_n C.1 C.2.1 (ok _ _ _ hd) rfl (qa_getl hL hl) (k G p l e R s m args below meth c H locs cells slots ls ok C hR hS hL hc hs)
theorem qa_lload {j : Nat} {x : Int64} (hd : qa_op M pc (.lload j) 2 pc') (hl : qa_get L j = some (.long x))
    (k : qa_W E M Q kc ks pc' L (.long x :: st) σ) : qa_W E M Q kc ks pc L (st) σ := by
  obtain ⟨hd, rfl⟩ := hd
  intro G p l e R s m args below meth c H locs cells slots ls ok C hR hS hL hc hs
  exact lv_lload C.1 C.2.1 (ok _ _ _ hd) (qa_getl hL hl) (k G p l e R s m args below meth c H locs cells slots ls ok C hR hS hL hc hs)
theorem qa_lstore_n {j : Fin 4} {x : Int64} (hd : qa_op M pc (.lstore_n j) 1 pc') (hn : Nat.blt ((j : Nat) + 1) (qa_ml M) = true) (hl : qa_put2 (j : Nat) (.long x) L = L')
    (k : qa_W E M Q kc ks pc' L' (st) σ) : qa_W E M Q kc ks pc L (.long x :: st) σ := by
  obtain ⟨hd, rfl⟩ := hd
  intro G p l e R s m args below meth c H locs cells slots ls ok C hR hS hL hc hs
  refine lv_lstore_n C.1 C.2.1 (ok _ _ _ hd) rfl hL (by simpa [Nat.blt_eq] using hn) rfl (fun ls' hL' => ?_)
  have hL' := qa_ins_has hL'
  exact k G p l e R s m args below meth c H locs cells slots ls' ok C hR hS (hl ▸ hL') hc hs
theorem qa_lstore {j : Nat} {x : Int64} (hd : qa_op M pc (.lstore j) 2 pc') (hn : Nat.blt (j + 1) (qa_ml M) = true) (hl : qa_put2 j (.long x) L = L')
    (k : qa_W E M Q kc ks pc' L' (st) σ) : qa_W E M Q kc ks pc L (.long x :: st) σ := by
  obtain ⟨hd, rfl⟩ := hd
  intro G p l e R s m args below meth c H locs cells slots ls ok C hR hS hL hc hs
  refine lv_lstore C.1 C.2.1 (ok _ _ _ hd) hL (by simpa [Nat.blt_eq] using hn) rfl (fun ls' hL' => ?_)
  have hL' := qa_ins_has hL'
  exact k G p l e R s m args below meth c H locs cells slots ls' ok C hR hS (hl ▸ hL') hc hs
theorem qa_fload_n {j : Fin 4} {x : UInt32} (hd : qa_op M pc (.fload_n j) 1 pc') (hl : qa_get L (j : Nat) = some (.float x))
    (k : qa_W E M Q kc ks pc' L (.float x :: st) σ) : qa_W E M Q kc ks pc L (st) σ := by
  obtain ⟨hd, rfl⟩ := hd
  intro G p l e R s m args below meth c H locs cells slots ls ok C hR hS hL hc hs
  exact lv_fload_n C.1 C.2.1 (ok _ _ _ hd) rfl (qa_getl hL hl) (k G p l e R s m args below meth c H locs cells slots ls ok C hR hS hL hc hs)
theorem qa_fload {j : Nat} {x : UInt32} (hd : qa_op M pc (.fload j) 2 pc') (hl : qa_get L j = some (.float x))
    (k : qa_W E M Q kc ks pc' L (.float x :: st) σ) : qa_W E M Q kc ks pc L (st) σ := by
  obtain ⟨hd, rfl⟩ := hd
  intro G p l e R s m args below meth c H locs cells slots ls ok C hR hS hL hc hs
  exact lv_fload C.1 C.2.1 (ok _ _ _ hd) (qa_getl hL hl) (k G p l e R s m args below meth c H locs cells slots ls ok C hR hS hL hc hs)
theorem qa_fstore_n {j : Fin 4} {x : UInt32} (hd : qa_op M pc (.fstore_n j) 1 pc') (hn : Nat.blt (j : Nat) (qa_ml M) = true) (hl : qa_put1 (j : Nat) (.float x) L = L')
    (k : qa_W E M Q kc ks pc' L' (st) σ) : qa_W E M Q kc ks pc L (.float x :: st) σ := by
  obtain ⟨hd, rfl⟩ := hd
  intro G p l e R s m args below meth c H locs cells slots ls ok C hR hS hL hc hs
  refine lv_fstore_n C.1 C.2.1 (ok _ _ _ hd) rfl hL (by simpa [Nat.blt_eq] using hn) rfl (fun ls' hL' => ?_)
  have hL' := qa_ins_has hL'
  exact k G p l e R s m args below meth c H locs cells slots ls' ok C hR hS (hl ▸ hL') hc hs
theorem qa_fstore {j : Nat} {x : UInt32} (hd : qa_op M pc (.fstore j) 2 pc') (hn : Nat.blt j (qa_ml M) = true) (hl : qa_put1 j (.float x) L = L')
    (k : qa_W E M Q kc ks pc' L' (st) σ) : qa_W E M Q kc ks pc L (.float x :: st) σ := by
  obtain ⟨hd, rfl⟩ := hd
  intro G p l e R s m args below meth c H locs cells slots ls ok C hR hS hL hc hs
  refine lv_fstore C.1 C.2.1 (ok _ _ _ hd) hL (by simpa [Nat.blt_eq] using hn) rfl (fun ls' hL' => ?_)
  have hL' := qa_ins_has hL'
  exact k G p l e R s m args below meth c H locs cells slots ls' ok C hR hS (hl ▸ hL') hc hs
theorem qa_dload_n {j : Fin 4} {x : UInt64} (hd : qa_op M pc (.dload_n j) 1 pc') (hl : qa_get L (j : Nat) = some (.double x))
    (k : qa_W E M Q kc ks pc' L (.double x :: st) σ) : qa_W E M Q kc ks pc L (st) σ := by
  obtain ⟨hd, rfl⟩ := hd
  intro G p l e R s m args below meth c H locs cells slots ls ok C hR hS hL hc hs
  exact lv_dload_n C.1 C.2.1 (ok _ _ _ hd) rfl (qa_getl hL hl) (k G p l e R s m args below meth c H locs cells slots ls ok C hR hS hL hc hs)
theorem qa_dload {j : Nat} {x : UInt64} (hd : qa_op M pc (.dload j) 2 pc') (hl : qa_get L j = some (.double x))
    (k : qa_W E M Q kc ks pc' L (.double x :: st) σ) : qa_W E M Q kc ks pc L (st) σ := by
  obtain ⟨hd, rfl⟩ := hd
  intro G p l e R s m args below meth c H locs cells slots ls ok C hR hS hL hc hs
  exact lv_dload C.1 C.2.1 (ok _ _ _ hd) (qa_getl hL hl) (k G p l e R s m args below meth c H locs cells slots ls ok C hR hS hL hc hs)
theorem qa_dstore_n {j : Fin 4} {x : UInt64} (hd : qa_op M pc (.dstore_n j) 1 pc') (hn : Nat.blt ((j : Nat) + 1) (qa_ml M) = true) (hl : qa_put2 (j : Nat) (.double x) L = L')
    (k : qa_W E M Q kc ks pc' L' (st) σ) : qa_W E M Q kc ks pc L (.double x :: st) σ := by
  obtain ⟨hd, rfl⟩ := hd
  intro G p l e R s m args below meth c H locs cells slots ls ok C hR hS hL hc hs
  refine lv_dstore_n C.1 C.2.1 (ok _ _ _ hd) rfl hL (by simpa [Nat.blt_eq] using hn) rfl (fun ls' hL' => ?_)
  have hL' := qa_ins_has hL'
  exact k G p l e R s m args below meth c H locs cells slots ls' ok C hR hS (hl ▸ hL') hc hs
theorem qa_dstore {j : Nat} {x : UInt64} (hd : qa_op M pc (.dstore j) 2 pc') (hn : Nat.blt (j + 1) (qa_ml M) = true) (hl : qa_put2 j (.double x) L = L')
    (k : qa_W E M Q kc ks pc' L' (st) σ) : qa_W E M Q kc ks pc L (.double x :: st) σ := by
  obtain ⟨hd, rfl⟩ := hd
  intro G p l e R s m args below meth c H locs cells slots ls ok C hR hS hL hc hs
  refine lv_dstore C.1 C.2.1 (ok _ _ _ hd) hL (by simpa [Nat.blt_eq] using hn) rfl (fun ls' hL' => ?_)
  have hL' := qa_ins_has hL'
  exact k G p l e R s m args below meth c H locs cells slots ls' ok C hR hS (hl ▸ hL') hc hs
theorem qa_aload_n {j : Fin 4} {x : Nat} (hd : qa_op M pc (.aload_n j) 1 pc') (hl : qa_get L (j : Nat) = some (.ref x))
    (k : qa_W E M Q kc ks pc' L (.ref x :: st) σ) : qa_W E M Q kc ks pc L (st) σ := by
  obtain ⟨hd, rfl⟩ := hd
  intro G p l e R s m args below meth c H locs cells slots ls ok C hR hS hL hc hs
  exact lv_aload_n C.1 C.2.1 (ok _ _ _ hd) rfl (qa_getl hL hl) (k G p l e R s m args below meth c H locs cells slots ls ok C hR hS hL hc hs)
theorem qa_aload {j : Nat} {x : Nat} (hd : qa_op M pc (.aload j) 2 pc') (hl : qa_get L j = some (.ref x))
    (k : qa_W E M Q kc ks pc' L (.ref x :: st) σ) : qa_W E M Q kc ks pc L (st) σ := by
  obtain ⟨hd, rfl⟩ := hd
  intro G p l e R s m args below meth c H locs cells slots ls ok C hR hS hL hc hs
  exact lv_aload C.1 C.2.1 (ok _ _ _ hd) (qa_getl hL hl) (k G p l e R s m args below meth c H locs cells slots ls ok C hR hS hL hc hs)
theorem qa_astore_n {j : Fin 4} {x : Nat} (hd : qa_op M pc (.astore_n j) 1 pc') (hn : Nat.blt (j : Nat) (qa_ml M) = true) (hl : qa_put1 (j : Nat) (.ref x) L = L')
    (k : qa_W E M Q kc ks pc' L' (st) σ) : qa_W E M Q kc ks pc L (.ref x :: st) σ := by
  obtain ⟨hd, rfl⟩ := hd
  intro G p l e R s m args below meth c H locs cells slots ls ok C hR hS hL hc hs
  refine lv_astore_n C.1 C.2.1 (ok _ _ _ hd) rfl hL (by simpa [Nat.blt_eq] using hn) rfl (fun ls' hL' => ?_)
  have hL' := qa_ins_has hL'
  exact k G p l e R s m args below meth c H locs cells slots ls' ok C hR hS (hl ▸ hL') hc hs
theorem qa_astore {j : Nat} {x : Nat} (hd : qa_op M pc (.astore j) 2 pc') (hn : Nat.blt j (qa_ml M) = true) (hl : qa_put1 j (.ref x) L = L')
    (k : qa_W E M Q kc ks pc' L' (st) σ) : qa_W E M Q kc ks pc L (.ref x :: st) σ := by
  obtain ⟨hd, rfl⟩ := hd
  intro G p l e R s m args below meth c H locs cells slots ls ok C hR hS hL hc hs
  refine lv_astore C.1 C.2.1 (ok _ _ _ hd) hL (by simpa [Nat.blt_eq] using hn) rfl (fun ls' hL' => ?_)
  have hL' := qa_ins_has hL'
  exact k G p l e R s m args below meth c H locs cells slots ls' ok C hR hS (hl ▸ hL') hc hs
theorem qa_iinc {j : Nat} {n x z : Int} (hd : qa_op M pc (.iinc j n) 3 pc') (hg : qa_get L j = some (.int (qa_i x))) (hz : x + n = z) (hn : Nat.blt j (qa_ml M) = true) (hl : qa_put1 j (.int (qa_i z)) L = L')
    (k : qa_W E M Q kc ks pc' L' (st) σ) : qa_W E M Q kc ks pc L (st) σ := by
  obtain ⟨hd, rfl⟩ := hd
  intro G p l e R s m args below meth c H locs cells slots ls ok C hR hS hL hc hs
  obtain ⟨q, hq⟩ := List.getElem?_of_mem (qa_get_mem hg)
  refine lv_iinc C.1 C.2.1 (ok _ _ _ hd) hL hq (v := qa_i z) (by rw [← hz]; exact qa_i_add x n) (by simpa [Nat.blt_eq] using hn) rfl (fun ls' hL' => ?_)
  have hL' := qa_ins_has hL'
  exact k G p l e R s m args below meth c H locs cells slots ls' ok C hR hS (hl ▸ hL') hc hs
theorem qa_iadd {a b z : Int} (hd : qa_op M pc (.iadd) 1 pc') (hz : a + b = z)
    (k : qa_W E M Q kc ks pc' L (.int (qa_i z) :: st) σ) : qa_W E M Q kc ks pc L (.int (qa_i b) :: .int (qa_i a) :: st) σ := by
  obtain ⟨hd, rfl⟩ := hd
  intro G p l e R s m args below meth c H locs cells slots ls ok C hR hS hL hc hs
  refine lv_iadd C.1 C.2.1 (ok _ _ _ hd) ?_
  rw [qa_i_add, hz]
  exact k G p l e R s m args below meth c H locs cells slots ls ok C hR hS hL hc hs
theorem qa_isub {a b z : Int} (hd : qa_op M pc (.isub) 1 pc') (hz : a - b = z)
    (k : qa_W E M Q kc ks pc' L (.int (qa_i z) :: st) σ) : qa_W E M Q kc ks pc L (.int (qa_i b) :: .int (qa_i a) :: st) σ := by
  obtain ⟨hd, rfl⟩ := hd
  intro G p l e R s m args below meth c H locs cells slots ls ok C hR hS hL hc hs
  refine lv_isub C.1 C.2.1 (ok _ _ _ hd) ?_
  rw [qa_i_sub, hz]
  exact k G p l e R s m args below meth c H locs cells slots ls ok C hR hS hL hc hs
theorem qa_imul {a b z : Int} (hd : qa_op M pc (.imul) 1 pc') (hz : a * b = z)
    (k : qa_W E M Q kc ks pc' L (.int (qa_i z) :: st) σ) : qa_W E M Q kc ks pc L (.int (qa_i b) :: .int (qa_i a) :: st) σ := by
  obtain ⟨hd, rfl⟩ := hd
  intro G p l e R s m args below meth c H locs cells slots ls ok C hR hS hL hc hs
  refine lv_imul C.1 C.2.1 (ok _ _ _ hd) ?_
  rw [qa_i_mul, hz]
  exact k G p l e R s m args below meth c H locs cells slots ls ok C hR hS hL hc hs
theorem qa_ladd {a b z : Int} (hd : qa_op M pc (.ladd) 1 pc') (hz : a + b = z)
    (k : qa_W E M Q kc ks pc' L (.long (qa_l z) :: st) σ) : qa_W E M Q kc ks pc L (.long (qa_l b) :: .long (qa_l a) :: st) σ := by
  obtain ⟨hd, rfl⟩ := hd
  intro G p l e R s m args below meth c H locs cells slots ls ok C hR hS hL hc hs
  refine lv_ladd C.1 C.2.1 (ok _ _ _ hd) ?_
  rw [qa_l_add, hz]
  exact k G p l e R s m args below meth c H locs cells slots ls ok C hR hS hL hc hs
theorem qa_lsub {a b z : Int} (hd : qa_op M pc (.lsub) 1 pc') (hz : a - b = z)
    (k : qa_W E M Q kc ks pc' L (.long (qa_l z) :: st) σ) : qa_W E M Q kc ks pc L (.long (qa_l b) :: .long (qa_l a) :: st) σ := by
  obtain ⟨hd, rfl⟩ := hd
  intro G p l e R s m args below meth c H locs cells slots ls ok C hR hS hL hc hs
  refine lv_lsub C.1 C.2.1 (ok _ _ _ hd) ?_
  rw [qa_l_sub, hz]
  exact k G p l e R s m args below meth c H locs cells slots ls ok C hR hS hL hc hs
theorem qa_lmul {a b z : Int} (hd : qa_op M pc (.lmul) 1 pc') (hz : a * b = z)
    (k : qa_W E M Q kc ks pc' L (.long (qa_l z) :: st) σ) : qa_W E M Q kc ks pc L (.long (qa_l b) :: .long (qa_l a) :: st) σ := by
  obtain ⟨hd, rfl⟩ := hd
  intro G p l e R s m args below meth c H locs cells slots ls ok C hR hS hL hc hs
  refine lv_lmul C.1 C.2.1 (ok _ _ _ hd) ?_
  rw [qa_l_mul, hz]
  exact k G p l e R s m args below meth c H locs cells slots ls ok C hR hS hL hc hs
theorem qa_ineg {a z : Int} (hd : qa_op M pc (.ineg) 1 pc') (hz : -a = z)
    (k : qa_W E M Q kc ks pc' L (.int (qa_i z) :: st) σ) : qa_W E M Q kc ks pc L (.int (qa_i a) :: st) σ := by
  obtain ⟨hd, rfl⟩ := hd
  intro G p l e R s m args below meth c H locs cells slots ls ok C hR hS hL hc hs
  refine lv_ineg C.1 C.2.1 (ok _ _ _ hd) ?_
  rw [qa_i_neg, hz]
  exact k G p l e R s m args below meth c H locs cells slots ls ok C hR hS hL hc hs
theorem qa_idiv {a b z : Int} (hd : qa_op M pc (.idiv) 1 pc') (ha : qa_in a) (hb : qa_in b) (h0 : 0 ≤ a) (h1 : 0 < b) (hz : a / b = z)
    (k : qa_W E M Q kc ks pc' L (.int (qa_i z) :: st) σ) : qa_W E M Q kc ks pc L (.int (qa_i b) :: .int (qa_i a) :: st) σ := by
  obtain ⟨hd, rfl⟩ := hd
  intro G p l e R s m args below meth c H locs cells slots ls ok C hR hS hL hc hs
  refine lv_idiv C.1 C.2.1 (ok _ _ _ hd) (qa_i_ne0 hb (by omega)) ?_
  rw [qa_i_div ha hb h0 h1, hz]
  exact k G p l e R s m args below meth c H locs cells slots ls ok C hR hS hL hc hs
theorem qa_irem {a b z : Int} (hd : qa_op M pc (.irem) 1 pc') (ha : qa_in a) (hb : qa_in b) (h0 : 0 ≤ a) (h1 : 0 < b) (hz : a % b = z)
    (k : qa_W E M Q kc ks pc' L (.int (qa_i z) :: st) σ) : qa_W E M Q kc ks pc L (.int (qa_i b) :: .int (qa_i a) :: st) σ := by
  obtain ⟨hd, rfl⟩ := hd
  intro G p l e R s m args below meth c H locs cells slots ls ok C hR hS hL hc hs
  refine lv_irem C.1 C.2.1 (ok _ _ _ hd) (qa_i_ne0 hb (by omega)) ?_
  rw [qa_i_rem ha hb h0 h1, hz]
  exact k G p l e R s m args below meth c H locs cells slots ls ok C hR hS hL hc hs
theorem qa_idivX {a b z : Int} (hd : qa_op M pc (.idiv) 1 pc') (hb : qa_in b) (h1 : b ≠ 0) (hz : qa_i a / qa_i b = qa_i z)
    (k : qa_W E M Q kc ks pc' L (.int (qa_i z) :: st) σ) : qa_W E M Q kc ks pc L (.int (qa_i b) :: .int (qa_i a) :: st) σ := by
  obtain ⟨hd, rfl⟩ := hd
  intro G p l e R s m args below meth c H locs cells slots ls ok C hR hS hL hc hs
  refine lv_idiv C.1 C.2.1 (ok _ _ _ hd) (qa_i_ne0 hb h1) ?_
  rw [hz]
  exact k G p l e R s m args below meth c H locs cells slots ls ok C hR hS hL hc hs
theorem qa_iremX {a b z : Int} (hd : qa_op M pc (.irem) 1 pc') (hb : qa_in b) (h1 : b ≠ 0) (hz : qa_i a - qa_i a / qa_i b * qa_i b = qa_i z)
    (k : qa_W E M Q kc ks pc' L (.int (qa_i z) :: st) σ) : qa_W E M Q kc ks pc L (.int (qa_i b) :: .int (qa_i a) :: st) σ := by
  obtain ⟨hd, rfl⟩ := hd
  intro G p l e R s m args below meth c H locs cells slots ls ok C hR hS hL hc hs
  refine lv_irem C.1 C.2.1 (ok _ _ _ hd) (qa_i_ne0 hb h1) ?_
  rw [hz]
  exact k G p l e R s m args below meth c H locs cells slots ls ok C hR hS hL hc hs
theorem qa_ldiv {a b z : Int} (hd : qa_op M pc (.ldiv) 1 pc') (ha : qa_ln a) (hb : qa_ln b) (h0 : 0 ≤ a) (h1 : 0 < b) (hz : a / b = z)
    (k : qa_W E M Q kc ks pc' L (.long (qa_l z) :: st) σ) : qa_W E M Q kc ks pc L (.long (qa_l b) :: .long (qa_l a) :: st) σ := by
  obtain ⟨hd, rfl⟩ := hd
  intro G p l e R s m args below meth c H locs cells slots ls ok C hR hS hL hc hs
  refine lv_ldiv C.1 C.2.1 (ok _ _ _ hd) (qa_l_ne0 hb (by omega)) ?_
  rw [qa_l_div ha hb h0 h1, hz]
  exact k G p l e R s m args below meth c H locs cells slots ls ok C hR hS hL hc hs
theorem qa_iandX {a b z : Int} (hd : qa_op M pc (.iand) 1 pc') (hz : qa_i a &&& qa_i b = qa_i z)
    (k : qa_W E M Q kc ks pc' L (.int (qa_i z) :: st) σ) : qa_W E M Q kc ks pc L (.int (qa_i b) :: .int (qa_i a) :: st) σ := by
  obtain ⟨hd, rfl⟩ := hd
  intro G p l e R s m args below meth c H locs cells slots ls ok C hR hS hL hc hs
  refine lv_iand C.1 C.2.1 (ok _ _ _ hd) ?_
  rw [hz]
  exact k G p l e R s m args below meth c H locs cells slots ls ok C hR hS hL hc hs
theorem qa_iorX {a b z : Int} (hd : qa_op M pc (.ior) 1 pc') (hz : qa_i a ||| qa_i b = qa_i z)
    (k : qa_W E M Q kc ks pc' L (.int (qa_i z) :: st) σ) : qa_W E M Q kc ks pc L (.int (qa_i b) :: .int (qa_i a) :: st) σ := by
  obtain ⟨hd, rfl⟩ := hd
  intro G p l e R s m args below meth c H locs cells slots ls ok C hR hS hL hc hs
  refine lv_ior C.1 C.2.1 (ok _ _ _ hd) ?_
  rw [hz]
  exact k G p l e R s m args below meth c H locs cells slots ls ok C hR hS hL hc hs
theorem qa_ixorX {a b z : Int} (hd : qa_op M pc (.ixor) 1 pc') (hz : qa_i a ^^^ qa_i b = qa_i z)
    (k : qa_W E M Q kc ks pc' L (.int (qa_i z) :: st) σ) : qa_W E M Q kc ks pc L (.int (qa_i b) :: .int (qa_i a) :: st) σ := by
  obtain ⟨hd, rfl⟩ := hd
  intro G p l e R s m args below meth c H locs cells slots ls ok C hR hS hL hc hs
  refine lv_ixor C.1 C.2.1 (ok _ _ _ hd) ?_
  rw [hz]
  exact k G p l e R s m args below meth c H locs cells slots ls ok C hR hS hL hc hs
theorem qa_ishlX {a b z : Int} (hd : qa_op M pc (.ishl) 1 pc') (hz : qa_i a <<< (qa_i b &&& 31) = qa_i z)
    (k : qa_W E M Q kc ks pc' L (.int (qa_i z) :: st) σ) : qa_W E M Q kc ks pc L (.int (qa_i b) :: .int (qa_i a) :: st) σ := by
  obtain ⟨hd, rfl⟩ := hd
  intro G p l e R s m args below meth c H locs cells slots ls ok C hR hS hL hc hs
  refine lv_ishl C.1 C.2.1 (ok _ _ _ hd) ?_
  rw [hz]
  exact k G p l e R s m args below meth c H locs cells slots ls ok C hR hS hL hc hs
theorem qa_ishrX {a b z : Int} (hd : qa_op M pc (.ishr) 1 pc') (hz : qa_i a >>> (qa_i b &&& 31) = qa_i z)
    (k : qa_W E M Q kc ks pc' L (.int (qa_i z) :: st) σ) : qa_W E M Q kc ks pc L (.int (qa_i b) :: .int (qa_i a) :: st) σ := by
  obtain ⟨hd, rfl⟩ := hd
  intro G p l e R s m args below meth c H locs cells slots ls ok C hR hS hL hc hs
  refine lv_ishr C.1 C.2.1 (ok _ _ _ hd) ?_
  rw [hz]
  exact k G p l e R s m args below meth c H locs cells slots ls ok C hR hS hL hc hs
theorem qa_iushrX {a b z : Int} (hd : qa_op M pc (.iushr) 1 pc') (hz : ((qa_i a).toUInt32 >>> ((qa_i b).toUInt32 &&& Int32.toUInt32 31)).toInt32 = qa_i z)
    (k : qa_W E M Q kc ks pc' L (.int (qa_i z) :: st) σ) : qa_W E M Q kc ks pc L (.int (qa_i b) :: .int (qa_i a) :: st) σ := by
  obtain ⟨hd, rfl⟩ := hd
  intro G p l e R s m args below meth c H locs cells slots ls ok C hR hS hL hc hs
  exact lv_iushr C.1 C.2.1 (ok _ _ _ hd) hz (k G p l e R s m args below meth c H locs cells slots ls ok C hR hS hL hc hs)
theorem qa_lshlX {a b z : Int} (hd : qa_op M pc (.lshl) 1 pc') (hz : qa_l a <<< ((qa_i b).toInt64 &&& 63) = qa_l z)
    (k : qa_W E M Q kc ks pc' L (.long (qa_l z) :: st) σ) : qa_W E M Q kc ks pc L (.int (qa_i b) :: .long (qa_l a) :: st) σ := by
  obtain ⟨hd, rfl⟩ := hd
  intro G p l e R s m args below meth c H locs cells slots ls ok C hR hS hL hc hs
  exact lv_lshl C.1 C.2.1 (ok _ _ _ hd) hz (k G p l e R s m args below meth c H locs cells slots ls ok C hR hS hL hc hs)
theorem qa_lorX {a b z : Int} (hd : qa_op M pc (.lor) 1 pc') (hz : qa_l a ||| qa_l b = qa_l z)
    (k : qa_W E M Q kc ks pc' L (.long (qa_l z) :: st) σ) : qa_W E M Q kc ks pc L (.long (qa_l b) :: .long (qa_l a) :: st) σ := by
  obtain ⟨hd, rfl⟩ := hd
  intro G p l e R s m args below meth c H locs cells slots ls ok C hR hS hL hc hs
  refine lv_lor C.1 C.2.1 (ok _ _ _ hd) ?_
  rw [hz]
  exact k G p l e R s m args below meth c H locs cells slots ls ok C hR hS hL hc hs
theorem qa_i2l {a : Int} (hd : qa_op M pc (.i2l) 1 pc') (ha : qa_in a)
    (k : qa_W E M Q kc ks pc' L (.long (qa_l a) :: st) σ) : qa_W E M Q kc ks pc L (.int (qa_i a) :: st) σ := by
  obtain ⟨hd, rfl⟩ := hd
  intro G p l e R s m args below meth c H locs cells slots ls ok C hR hS hL hc hs
  exact lv_i2l C.1 C.2.1 (ok _ _ _ hd) (qa_ci2l ha) (k G p l e R s m args below meth c H locs cells slots ls ok C hR hS hL hc hs)
theorem qa_l2i {a : Int} (hd : qa_op M pc (.l2i) 1 pc') 
    (k : qa_W E M Q kc ks pc' L (.int (qa_i a) :: st) σ) : qa_W E M Q kc ks pc L (.long (qa_l a) :: st) σ := by
  obtain ⟨hd, rfl⟩ := hd
  intro G p l e R s m args below meth c H locs cells slots ls ok C hR hS hL hc hs
  exact lv_l2i C.1 C.2.1 (ok _ _ _ hd) (qa_cl2i a) (k G p l e R s m args below meth c H locs cells slots ls ok C hR hS hL hc hs)
theorem qa_i2c {a : Int} (hd : qa_op M pc (.i2c) 1 pc') (ha : 0 ≤ a) (hb : a < 65536)
    (k : qa_W E M Q kc ks pc' L (.int (qa_i a) :: st) σ) : qa_W E M Q kc ks pc L (.int (qa_i a) :: st) σ := by
  obtain ⟨hd, rfl⟩ := hd
  intro G p l e R s m args below meth c H locs cells slots ls ok C hR hS hL hc hs
  exact lv_i2c C.1 C.2.1 (ok _ _ _ hd) (qa_ci2c ha hb) (k G p l e R s m args below meth c H locs cells slots ls ok C hR hS hL hc hs)
theorem qa_i2b {a z : Int} (hd : qa_op M pc (.i2b) 1 pc') (hz : (qa_i a).toInt8.toInt32 = qa_i z)
    (k : qa_W E M Q kc ks pc' L (.int (qa_i z) :: st) σ) : qa_W E M Q kc ks pc L (.int (qa_i a) :: st) σ := by
  obtain ⟨hd, rfl⟩ := hd
  intro G p l e R s m args below meth c H locs cells slots ls ok C hR hS hL hc hs
  exact lv_i2b C.1 C.2.1 (ok _ _ _ hd) hz (k G p l e R s m args below meth c H locs cells slots ls ok C hR hS hL hc hs)
theorem qa_i2f {x : Int32} (hd : qa_op M pc (.i2f) 1 pc') 
    (k : qa_W E M Q kc ks pc' L (.float (FP.i2f x) :: st) σ) : qa_W E M Q kc ks pc L (.int x :: st) σ := by
  obtain ⟨hd, rfl⟩ := hd
  intro G p l e R s m args below meth c H locs cells slots ls ok C hR hS hL hc hs
  exact lv_i2f C.1 C.2.1 (ok _ _ _ hd) (k G p l e R s m args below meth c H locs cells slots ls ok C hR hS hL hc hs)
theorem qa_i2d {x : Int32} (hd : qa_op M pc (.i2d) 1 pc') 
    (k : qa_W E M Q kc ks pc' L (.double (FP.i2d x) :: st) σ) : qa_W E M Q kc ks pc L (.int x :: st) σ := by
  obtain ⟨hd, rfl⟩ := hd
  intro G p l e R s m args below meth c H locs cells slots ls ok C hR hS hL hc hs
  exact lv_i2d C.1 C.2.1 (ok _ _ _ hd) (k G p l e R s m args below meth c H locs cells slots ls ok C hR hS hL hc hs)
theorem qa_f2i {x : UInt32} (hd : qa_op M pc (.f2i) 1 pc') 
    (k : qa_W E M Q kc ks pc' L (.int (FP.f2i x) :: st) σ) : qa_W E M Q kc ks pc L (.float x :: st) σ := by
  obtain ⟨hd, rfl⟩ := hd
  intro G p l e R s m args below meth c H locs cells slots ls ok C hR hS hL hc hs
  exact lv_f2i C.1 C.2.1 (ok _ _ _ hd) (k G p l e R s m args below meth c H locs cells slots ls ok C hR hS hL hc hs)
theorem qa_f2d {x : UInt32} (hd : qa_op M pc (.f2d) 1 pc') (hne : vf_n64 (FP.f2d x))
    (k : qa_W E M Q kc ks pc' L (.double (FP.f2d x) :: st) σ) : qa_W E M Q kc ks pc L (.float x :: st) σ := by
  obtain ⟨hd, rfl⟩ := hd
  intro G p l e R s m args below meth c H locs cells slots ls ok C hR hS hL hc hs
  exact lv_f2d C.1 C.2.1 (ok _ _ _ hd) hne (k G p l e R s m args below meth c H locs cells slots ls ok C hR hS hL hc hs)
theorem qa_fdiv {x y : UInt32} (hd : qa_op M pc (.fdiv) 1 pc') (hne : vf_n32 (FP.fdiv x y))
    (k : qa_W E M Q kc ks pc' L (.float (FP.fdiv x y) :: st) σ) : qa_W E M Q kc ks pc L (.float y :: .float x :: st) σ := by
  obtain ⟨hd, rfl⟩ := hd
  intro G p l e R s m args below meth c H locs cells slots ls ok C hR hS hL hc hs
  exact lv_fdiv C.1 C.2.1 (ok _ _ _ hd) hne (k G p l e R s m args below meth c H locs cells slots ls ok C hR hS hL hc hs)
theorem qa_fmul {x y : UInt32} (hd : qa_op M pc (.fmul) 1 pc') (hne : vf_n32 (FP.fmul x y))
    (k : qa_W E M Q kc ks pc' L (.float (FP.fmul x y) :: st) σ) : qa_W E M Q kc ks pc L (.float y :: .float x :: st) σ := by
  obtain ⟨hd, rfl⟩ := hd
  intro G p l e R s m args below meth c H locs cells slots ls ok C hR hS hL hc hs
  exact lv_fmul C.1 C.2.1 (ok _ _ _ hd) hne (k G p l e R s m args below meth c H locs cells slots ls ok C hR hS hL hc hs)
theorem qa_ddiv {x y : UInt64} (hd : qa_op M pc (.ddiv) 1 pc') (hne : vf_n64 (FP.ddiv x y))
    (k : qa_W E M Q kc ks pc' L (.double (FP.ddiv x y) :: st) σ) : qa_W E M Q kc ks pc L (.double y :: .double x :: st) σ := by
  obtain ⟨hd, rfl⟩ := hd
  intro G p l e R s m args below meth c H locs cells slots ls ok C hR hS hL hc hs
  exact lv_ddiv C.1 C.2.1 (ok _ _ _ hd) hne (k G p l e R s m args below meth c H locs cells slots ls ok C hR hS hL hc hs)
theorem qa_fcmp {x y : UInt32} {op : CmpOp} (hd : qa_op M pc (.fcmp op) 1 pc') 
    (k : qa_W E M Q kc ks pc' L (.int (Op.cmpValue (FP.fcmp x y) op) :: st) σ) : qa_W E M Q kc ks pc L (.float y :: .float x :: st) σ := by
  obtain ⟨hd, rfl⟩ := hd
  intro G p l e R s m args below meth c H locs cells slots ls ok C hR hS hL hc hs
  exact lv_fcmp C.1 C.2.1 (ok _ _ _ hd) (k G p l e R s m args below meth c H locs cells slots ls ok C hR hS hL hc hs)
theorem qa_lcmp {a b : Int} (hd : qa_op M pc (.lcmp) 1 pc') (ha : qa_ln a) (hb : qa_ln b)
    (k : qa_W E M Q kc ks pc' L (.int (qa_i (qa_sg a b)) :: st) σ) : qa_W E M Q kc ks pc L (.long (qa_l b) :: .long (qa_l a) :: st) σ := by
  obtain ⟨hd, rfl⟩ := hd
  intro G p l e R s m args below meth c H locs cells slots ls ok C hR hS hL hc hs
  refine W.lcmp C.1 C.2.1 (ok _ _ _ hd) ?_
  rw [qa_cmp ha hb]
  exact k G p l e R s m args below meth c H locs cells slots ls ok C hR hS hL hc hs
theorem qa_icmp_eq {a b off : Int} {tgt : Nat} (hd : qa_op M pc (.if_icmp .eq off) 3 pc') (ht : (pc : Int) + off = (tgt : Int)) (ha : qa_in a) (hb : qa_in b)
    (kt : a = b → qa_W E M Q kc ks tgt L st σ) (kf : ¬ a = b → qa_W E M Q kc ks pc' L st σ) : qa_W E M Q kc ks pc L (.int (qa_i b) :: .int (qa_i a) :: st) σ := by
  obtain ⟨hd, rfl⟩ := hd
  intro G p l e R s m args below meth c H locs cells slots ls ok C hR hS hL hc hs
  have kt := fun h => kt h G p l e R s m args below meth c H locs cells slots ls ok C hR hS hL hc hs
  have kf := fun h => kf h G p l e R s m args below meth c H locs cells slots ls ok C hR hS hL hc hs
  exact lv_icmp_eq C.1 C.2.1 (ok _ _ _ hd) ht (fun h => kt ((qa_i_eq ha hb).mp h)) (fun h => kf (fun q => h ((qa_i_eq ha hb).mpr q)))
theorem qa_if_eq {a off : Int} {tgt : Nat} (hd : qa_op M pc (.ifCond .eq off) 3 pc') (ht : (pc : Int) + off = (tgt : Int)) (ha : qa_in a)
    (kt : a = 0 → qa_W E M Q kc ks tgt L st σ) (kf : ¬ a = 0 → qa_W E M Q kc ks pc' L st σ) : qa_W E M Q kc ks pc L (.int (qa_i a) :: st) σ := by
  obtain ⟨hd, rfl⟩ := hd
  have hb : qa_in 0 := by omega
  intro G p l e R s m args below meth c H locs cells slots ls ok C hR hS hL hc hs
  have kt := fun h => kt h G p l e R s m args below meth c H locs cells slots ls ok C hR hS hL hc hs
  have kf := fun h => kf h G p l e R s m args below meth c H locs cells slots ls ok C hR hS hL hc hs
  exact lv_if_eq C.1 C.2.1 (ok _ _ _ hd) ht (fun h => kt ((qa_i_eq ha hb).mp h)) (fun h => kf (fun q => h ((qa_i_eq ha hb).mpr q)))
theorem qa_icmp_ne {a b off : Int} {tgt : Nat} (hd : qa_op M pc (.if_icmp .ne off) 3 pc') (ht : (pc : Int) + off = (tgt : Int)) (ha : qa_in a) (hb : qa_in b)
    (kt : ¬ a = b → qa_W E M Q kc ks tgt L st σ) (kf : a = b → qa_W E M Q kc ks pc' L st σ) : qa_W E M Q kc ks pc L (.int (qa_i b) :: .int (qa_i a) :: st) σ := by
  obtain ⟨hd, rfl⟩ := hd
  intro G p l e R s m args below meth c H locs cells slots ls ok C hR hS hL hc hs
  have kt := fun h => kt h G p l e R s m args below meth c H locs cells slots ls ok C hR hS hL hc hs
  have kf := fun h => kf h G p l e R s m args below meth c H locs cells slots ls ok C hR hS hL hc hs
  exact lv_icmp_ne C.1 C.2.1 (ok _ _ _ hd) ht (fun h => kt (fun q => h ((qa_i_eq ha hb).mpr q))) (fun h => kf ((qa_i_eq ha hb).mp h))
theorem qa_if_ne {a off : Int} {tgt : Nat} (hd : qa_op M pc (.ifCond .ne off) 3 pc') (ht : (pc : Int) + off = (tgt : Int)) (ha : qa_in a)
    (kt : ¬ a = 0 → qa_W E M Q kc ks tgt L st σ) (kf : a = 0 → qa_W E M Q kc ks pc' L st σ) : qa_W E M Q kc ks pc L (.int (qa_i a) :: st) σ := by
  obtain ⟨hd, rfl⟩ := hd
  have hb : qa_in 0 := by omega
  intro G p l e R s m args below meth c H locs cells slots ls ok C hR hS hL hc hs
  have kt := fun h => kt h G p l e R s m args below meth c H locs cells slots ls ok C hR hS hL hc hs
  have kf := fun h => kf h G p l e R s m args below meth c H locs cells slots ls ok C hR hS hL hc hs
  exact lv_if_ne C.1 C.2.1 (ok _ _ _ hd) ht (fun h => kt (fun q => h ((qa_i_eq ha hb).mpr q))) (fun h => kf ((qa_i_eq ha hb).mp h))
theorem qa_icmp_lt {a b off : Int} {tgt : Nat} (hd : qa_op M pc (.if_icmp .lt off) 3 pc') (ht : (pc : Int) + off = (tgt : Int)) (ha : qa_in a) (hb : qa_in b)
    (kt : a < b → qa_W E M Q kc ks tgt L st σ) (kf : b ≤ a → qa_W E M Q kc ks pc' L st σ) : qa_W E M Q kc ks pc L (.int (qa_i b) :: .int (qa_i a) :: st) σ := by
  obtain ⟨hd, rfl⟩ := hd
  intro G p l e R s m args below meth c H locs cells slots ls ok C hR hS hL hc hs
  have kt := fun h => kt h G p l e R s m args below meth c H locs cells slots ls ok C hR hS hL hc hs
  have kf := fun h => kf h G p l e R s m args below meth c H locs cells slots ls ok C hR hS hL hc hs
  exact lv_icmp_lt C.1 C.2.1 (ok _ _ _ hd) ht (fun h => kt ((qa_i_lt ha hb).mp h)) (fun h => kf (Int.not_lt.mp fun q => h ((qa_i_lt ha hb).mpr q)))
theorem qa_if_lt {a off : Int} {tgt : Nat} (hd : qa_op M pc (.ifCond .lt off) 3 pc') (ht : (pc : Int) + off = (tgt : Int)) (ha : qa_in a)
    (kt : a < 0 → qa_W E M Q kc ks tgt L st σ) (kf : 0 ≤ a → qa_W E M Q kc ks pc' L st σ) : qa_W E M Q kc ks pc L (.int (qa_i a) :: st) σ := by
  obtain ⟨hd, rfl⟩ := hd
  have hb : qa_in 0 := by omega
  intro G p l e R s m args below meth c H locs cells slots ls ok C hR hS hL hc hs
  have kt := fun h => kt h G p l e R s m args below meth c H locs cells slots ls ok C hR hS hL hc hs
  have kf := fun h => kf h G p l e R s m args below meth c H locs cells slots ls ok C hR hS hL hc hs
  exact lv_if_lt C.1 C.2.1 (ok _ _ _ hd) ht (fun h => kt ((qa_i_lt ha hb).mp h)) (fun h => kf (Int.not_lt.mp fun q => h ((qa_i_lt ha hb).mpr q)))
theorem qa_icmp_ge {a b off : Int} {tgt : Nat} (hd : qa_op M pc (.if_icmp .ge off) 3 pc') (ht : (pc : Int) + off = (tgt : Int)) (ha : qa_in a) (hb : qa_in b)
    (kt : b ≤ a → qa_W E M Q kc ks tgt L st σ) (kf : a < b → qa_W E M Q kc ks pc' L st σ) : qa_W E M Q kc ks pc L (.int (qa_i b) :: .int (qa_i a) :: st) σ := by
  obtain ⟨hd, rfl⟩ := hd
  intro G p l e R s m args below meth c H locs cells slots ls ok C hR hS hL hc hs
  have kt := fun h => kt h G p l e R s m args below meth c H locs cells slots ls ok C hR hS hL hc hs
  have kf := fun h => kf h G p l e R s m args below meth c H locs cells slots ls ok C hR hS hL hc hs
  exact lv_icmp_ge C.1 C.2.1 (ok _ _ _ hd) ht (fun h => kt ((qa_i_le hb ha).mp h)) (fun h => kf (Int.not_le.mp fun q => h ((qa_i_le hb ha).mpr q)))
theorem qa_if_ge {a off : Int} {tgt : Nat} (hd : qa_op M pc (.ifCond .ge off) 3 pc') (ht : (pc : Int) + off = (tgt : Int)) (ha : qa_in a)
    (kt : 0 ≤ a → qa_W E M Q kc ks tgt L st σ) (kf : a < 0 → qa_W E M Q kc ks pc' L st σ) : qa_W E M Q kc ks pc L (.int (qa_i a) :: st) σ := by
  obtain ⟨hd, rfl⟩ := hd
  have hb : qa_in 0 := by omega
  intro G p l e R s m args below meth c H locs cells slots ls ok C hR hS hL hc hs
  have kt := fun h => kt h G p l e R s m args below meth c H locs cells slots ls ok C hR hS hL hc hs
  have kf := fun h => kf h G p l e R s m args below meth c H locs cells slots ls ok C hR hS hL hc hs
  exact lv_if_ge C.1 C.2.1 (ok _ _ _ hd) ht (fun h => kt ((qa_i_le hb ha).mp h)) (fun h => kf (Int.not_le.mp fun q => h ((qa_i_le hb ha).mpr q)))
theorem qa_icmp_gt {a b off : Int} {tgt : Nat} (hd : qa_op M pc (.if_icmp .gt off) 3 pc') (ht : (pc : Int) + off = (tgt : Int)) (ha : qa_in a) (hb : qa_in b)
    (kt : b < a → qa_W E M Q kc ks tgt L st σ) (kf : a ≤ b → qa_W E M Q kc ks pc' L st σ) : qa_W E M Q kc ks pc L (.int (qa_i b) :: .int (qa_i a) :: st) σ := by
  obtain ⟨hd, rfl⟩ := hd
  intro G p l e R s m args below meth c H locs cells slots ls ok C hR hS hL hc hs
  have kt := fun h => kt h G p l e R s m args below meth c H locs cells slots ls ok C hR hS hL hc hs
  have kf := fun h => kf h G p l e R s m args below meth c H locs cells slots ls ok C hR hS hL hc hs
  exact lv_icmp_gt C.1 C.2.1 (ok _ _ _ hd) ht (fun h => kt ((qa_i_lt hb ha).mp h)) (fun h => kf (Int.not_lt.mp fun q => h ((qa_i_lt hb ha).mpr q)))
theorem qa_if_gt {a off : Int} {tgt : Nat} (hd : qa_op M pc (.ifCond .gt off) 3 pc') (ht : (pc : Int) + off = (tgt : Int)) (ha : qa_in a)
    (kt : 0 < a → qa_W E M Q kc ks tgt L st σ) (kf : a ≤ 0 → qa_W E M Q kc ks pc' L st σ) : qa_W E M Q kc ks pc L (.int (qa_i a) :: st) σ := by
  obtain ⟨hd, rfl⟩ := hd
  have hb : qa_in 0 := by omega
  intro G p l e R s m args below meth c H locs cells slots ls ok C hR hS hL hc hs
  have kt := fun h => kt h G p l e R s m args below meth c H locs cells slots ls ok C hR hS hL hc hs
  have kf := fun h => kf h G p l e R s m args below meth c H locs cells slots ls ok C hR hS hL hc hs
  exact lv_if_gt C.1 C.2.1 (ok _ _ _ hd) ht (fun h => kt ((qa_i_lt hb ha).mp h)) (fun h => kf (Int.not_lt.mp fun q => h ((qa_i_lt hb ha).mpr q)))
theorem qa_icmp_le {a b off : Int} {tgt : Nat} (hd : qa_op M pc (.if_icmp .le off) 3 pc') (ht : (pc : Int) + off = (tgt : Int)) (ha : qa_in a) (hb : qa_in b)
    (kt : a ≤ b → qa_W E M Q kc ks tgt L st σ) (kf : b < a → qa_W E M Q kc ks pc' L st σ) : qa_W E M Q kc ks pc L (.int (qa_i b) :: .int (qa_i a) :: st) σ := by
  obtain ⟨hd, rfl⟩ := hd
  intro G p l e R s m args below meth c H locs cells slots ls ok C hR hS hL hc hs
  have kt := fun h => kt h G p l e R s m args below meth c H locs cells slots ls ok C hR hS hL hc hs
  have kf := fun h => kf h G p l e R s m args below meth c H locs cells slots ls ok C hR hS hL hc hs
  exact lv_icmp_le C.1 C.2.1 (ok _ _ _ hd) ht (fun h => kt ((qa_i_le ha hb).mp h)) (fun h => kf (Int.not_le.mp fun q => h ((qa_i_le ha hb).mpr q)))
theorem qa_if_le {a off : Int} {tgt : Nat} (hd : qa_op M pc (.ifCond .le off) 3 pc') (ht : (pc : Int) + off = (tgt : Int)) (ha : qa_in a)
    (kt : a ≤ 0 → qa_W E M Q kc ks tgt L st σ) (kf : 0 < a → qa_W E M Q kc ks pc' L st σ) : qa_W E M Q kc ks pc L (.int (qa_i a) :: st) σ := by
  obtain ⟨hd, rfl⟩ := hd
  have hb : qa_in 0 := by omega
  intro G p l e R s m args below meth c H locs cells slots ls ok C hR hS hL hc hs
  have kt := fun h => kt h G p l e R s m args below meth c H locs cells slots ls ok C hR hS hL hc hs
  have kf := fun h => kf h G p l e R s m args below meth c H locs cells slots ls ok C hR hS hL hc hs
  exact lv_if_le C.1 C.2.1 (ok _ _ _ hd) ht (fun h => kt ((qa_i_le ha hb).mp h)) (fun h => kf (Int.not_le.mp fun q => h ((qa_i_le ha hb).mpr q)))
theorem qa_goto {off : Int} (hd : qa_op M pc (.goto off) 3 pc') {tgt : Nat} (ht : (pc : Int) + off = (tgt : Int))
    (k : qa_W E M Q kc ks tgt L (st) σ) : qa_W E M Q kc ks pc L (st) σ := by
  obtain ⟨hd, rfl⟩ := hd
  intro G p l e R s m args below meth c H locs cells slots ls ok C hR hS hL hc hs
  exact lv_goto C.1 C.2.1 (ok _ _ _ hd) ht (k G p l e R s m args below meth c H locs cells slots ls ok C hR hS hL hc hs)
theorem qa_ifnull {a : Nat} {off : Int} (hd : qa_op M pc (.ifnull off) 3 pc') 
    (k : qa_W E M Q kc ks pc' L (st) σ) : qa_W E M Q kc ks pc L (.ref a :: st) σ := by
  obtain ⟨hd, rfl⟩ := hd
  intro G p l e R s m args below meth c H locs cells slots ls ok C hR hS hL hc hs
  exact lv_ifnull C.1 C.2.1 (ok _ _ _ hd) (k G p l e R s m args below meth c H locs cells slots ls ok C hR hS hL hc hs)
theorem qa_ifnonnull {a tgt : Nat} {off : Int} (hd : qa_op M pc (.ifnonnull off) 3 pc') (ht : (pc : Int) + off = (tgt : Int))
    (k : qa_W E M Q kc ks tgt L (st) σ) : qa_W E M Q kc ks pc L (.ref a :: st) σ := by
  obtain ⟨hd, rfl⟩ := hd
  intro G p l e R s m args below meth c H locs cells slots ls ok C hR hS hL hc hs
  exact lv_ifnonnull C.1 C.2.1 (ok _ _ _ hd) ht (k G p l e R s m args below meth c H locs cells slots ls ok C hR hS hL hc hs)
theorem qa_tabOut {d lo hi a : Int} {offs : Array Int} {n tgt : Nat} (hd : qa_cd M pc = some (.tableswitch d lo hi offs, n)) (ha : qa_in a) (h : a < lo ∨ hi < a) (ht : (pc : Int) + d = (tgt : Int))
    (k : qa_W E M Q kc ks tgt L st σ) : qa_W E M Q kc ks pc L (.int (qa_i a) :: st) σ := by
  intro G p l e R s m args below meth c H locs cells slots ls ok C hR hS hL hc hs
  exact lv_tableOut C.1 C.2.1 (ok _ _ _ hd) (by rw [qa_i_toInt ha]; exact h) ht (k G p l e R s m args below meth c H locs cells slots ls ok C hR hS hL hc hs)
theorem qa_tabIn {d lo hi a off : Int} {offs : Array Int} {n tgt : Nat} (hd : qa_cd M pc = some (.tableswitch d lo hi offs, n)) (ha : qa_in a) (h1 : lo ≤ a) (h2 : a ≤ hi) (ho : offs[(a - lo).toNat]? = some off) (ht : (pc : Int) + off = (tgt : Int))
    (k : qa_W E M Q kc ks tgt L st σ) : qa_W E M Q kc ks pc L (.int (qa_i a) :: st) σ := by
  intro G p l e R s m args below meth c H locs cells slots ls ok C hR hS hL hc hs
  exact lv_tableIn C.1 C.2.1 (ok _ _ _ hd) (by rw [qa_i_toInt ha]; omega) (by rw [qa_i_toInt ha]; omega) (by rw [qa_i_toInt ha]; exact ho) ht (k G p l e R s m args below meth c H locs cells slots ls ok C hR hS hL hc hs)
theorem qa_look {d a off : Int} {ps : Array (Int × Int)} {n tgt : Nat} (hd : qa_cd M pc = some (.lookupswitch d ps, n)) (hp : (ps.toList.zip (ps.toList.drop 1)).all (fun (a, next) => a.1 < next.1) = true) (ha : qa_in a) (ho : Op.lookupswitch.offset ps.toList d a = off) (ht : (pc : Int) + off = (tgt : Int))
    (k : qa_W E M Q kc ks tgt L st σ) : qa_W E M Q kc ks pc L (.int (qa_i a) :: st) σ := by
  intro G p l e R s m args below meth c H locs cells slots ls ok C hR hS hL hc hs
  exact lv_lookup C.1 C.2.1 (ok _ _ _ hd) hp (by rw [qa_i_toInt ha]; exact ho) ht (k G p l e R s m args below meth c H locs cells slots ls ok C hR hS hL hc hs)
theorem qa_dup {v : Value} (hd : qa_op M pc (.dup) 1 pc') (hv : v.category = 1)
    (k : qa_W E M Q kc ks pc' L (v :: v :: st) σ) : qa_W E M Q kc ks pc L (v :: st) σ := by
  obtain ⟨hd, rfl⟩ := hd
  intro G p l e R s m args below meth c H locs cells slots ls ok C hR hS hL hc hs
  exact lv_dup C.1 C.2.1 (ok _ _ _ hd) hv (k G p l e R s m args below meth c H locs cells slots ls ok C hR hS hL hc hs)
theorem qa_pop {v : Value} (hd : qa_op M pc (.pop) 1 pc') (hv : v.category = 1)
    (k : qa_W E M Q kc ks pc' L (st) σ) : qa_W E M Q kc ks pc L (v :: st) σ := by
  obtain ⟨hd, rfl⟩ := hd
  intro G p l e R s m args below meth c H locs cells slots ls ok C hR hS hL hc hs
  exact lv_pop C.1 C.2.1 (ok _ _ _ hd) hv (k G p l e R s m args below meth c H locs cells slots ls ok C hR hS hL hc hs)
theorem qa_dup_x1 {v w : Value} (hd : qa_op M pc (.dup_x1) 1 pc') (hv : v.category = 1) (hw : w.category = 1)
    (k : qa_W E M Q kc ks pc' L (v :: w :: v :: st) σ) : qa_W E M Q kc ks pc L (v :: w :: st) σ := by
  obtain ⟨hd, rfl⟩ := hd
  intro G p l e R s m args below meth c H locs cells slots ls ok C hR hS hL hc hs
  exact lv_dup_x1 C.1 C.2.1 (ok _ _ _ hd) hv hw (k G p l e R s m args below meth c H locs cells slots ls ok C hR hS hL hc hs)
theorem qa_dup_x2 {v w u : Value} (hd : qa_op M pc (.dup_x2) 1 pc') (hv : v.category = 1) (hw : w.category = 1) (hu : u.category = 1)
    (k : qa_W E M Q kc ks pc' L (v :: w :: u :: v :: st) σ) : qa_W E M Q kc ks pc L (v :: w :: u :: st) σ := by
  obtain ⟨hd, rfl⟩ := hd
  intro G p l e R s m args below meth c H locs cells slots ls ok C hR hS hL hc hs
  exact lv_dup_x2 C.1 C.2.1 (ok _ _ _ hd) hv hw hu (k G p l e R s m args below meth c H locs cells slots ls ok C hR hS hL hc hs)
theorem qa_dup2 {v w : Value} (hd : qa_op M pc (.dup2) 1 pc') (hv : v.category = 1) (hw : w.category = 1)
    (k : qa_W E M Q kc ks pc' L (v :: w :: v :: w :: st) σ) : qa_W E M Q kc ks pc L (v :: w :: st) σ := by
  obtain ⟨hd, rfl⟩ := hd
  intro G p l e R s m args below meth c H locs cells slots ls ok C hR hS hL hc hs
  exact lv_dup2_11 C.1 C.2.1 (ok _ _ _ hd) hv hw (k G p l e R s m args below meth c H locs cells slots ls ok C hR hS hL hc hs)
theorem qa_dup2L {v : Value} (hd : qa_op M pc (.dup2) 1 pc') (hv : v.category = 2)
    (k : qa_W E M Q kc ks pc' L (v :: v :: st) σ) : qa_W E M Q kc ks pc L (v :: st) σ := by
  obtain ⟨hd, rfl⟩ := hd
  intro G p l e R s m args below meth c H locs cells slots ls ok C hR hS hL hc hs
  exact lv_dup2_2 C.1 C.2.1 (ok _ _ _ hd) hv (k G p l e R s m args below meth c H locs cells slots ls ok C hR hS hL hc hs)
theorem qa_ireturn {x : Int32} {ty : FieldType} (hd : qa_cd M pc = some (.ireturn, 1)) (hr : qa_rt M = some ty) (hn : narrow ty (.int x) = .int x) (hQ : Q (.inl (some (.int x))) σ) : qa_W E M Q kc ks pc L [.int x] σ := by
  intro G p l e R s m args below meth c H locs cells slots ls ok C hR hS hL hc hs
  exact W.widen (Nat.le_trans (Nat.le_add_right _ _) hc) (Nat.le_trans (Nat.le_add_right _ _) hs) (vx_ret (W.zret C.1 C.2.1 (C.2.2.2.1.trans hr) hn (fun t ht hW => ⟨_, σ, rfl, hQ, (ht ▸ hR.moved hW.alike), hS.F ht⟩) hS.2.2 (ok _ _ _ hd) C.2.2.2.2.1))
theorem qa_lreturn {x : Int64} (hd : qa_cd M pc = some (.lreturn, 1)) (hr : qa_rt M = some .long) (hQ : Q (.inl (some (.long x))) σ) : qa_W E M Q kc ks pc L [.long x] σ := by
  intro G p l e R s m args below meth c H locs cells slots ls ok C hR hS hL hc hs
  exact W.widen (Nat.le_trans (Nat.le_add_right _ _) hc) (Nat.le_trans (Nat.le_add_right _ _) hs) (vx_ret (W.lret C.1 C.2.1 (C.2.2.2.1.trans hr) (fun t ht hW => ⟨_, σ, rfl, hQ, (ht ▸ hR.moved hW.alike), hS.F ht⟩) hS.2.2 (ok _ _ _ hd) C.2.2.2.2.1))
theorem qa_freturn {x : UInt32} (hd : qa_cd M pc = some (.freturn, 1)) (hr : qa_rt M = some .float) (hQ : Q (.inl (some (.float x))) σ) : qa_W E M Q kc ks pc L [.float x] σ := by
  intro G p l e R s m args below meth c H locs cells slots ls ok C hR hS hL hc hs
  exact W.widen (Nat.le_trans (Nat.le_add_right _ _) hc) (Nat.le_trans (Nat.le_add_right _ _) hs) (vx_ret (W.fret C.1 C.2.1 (C.2.2.2.1.trans hr) (fun t ht hW => ⟨_, σ, rfl, hQ, (ht ▸ hR.moved hW.alike), hS.F ht⟩) hS.2.2 (ok _ _ _ hd) C.2.2.2.2.1))
theorem qa_dreturn {x : UInt64} (hd : qa_cd M pc = some (.dreturn, 1)) (hr : qa_rt M = some .double) (hQ : Q (.inl (some (.double x))) σ) : qa_W E M Q kc ks pc L [.double x] σ := by
  intro G p l e R s m args below meth c H locs cells slots ls ok C hR hS hL hc hs
  exact W.widen (Nat.le_trans (Nat.le_add_right _ _) hc) (Nat.le_trans (Nat.le_add_right _ _) hs) (vx_ret (W.dret C.1 C.2.1 (C.2.2.2.1.trans hr) (fun t ht hW => ⟨_, σ, rfl, hQ, (ht ▸ hR.moved hW.alike), hS.F ht⟩) hS.2.2 (ok _ _ _ hd) C.2.2.2.2.1))
theorem qa_areturn {x : Nat} {ty : FieldType} (hd : qa_cd M pc = some (.areturn, 1)) (hr : qa_rt M = some ty) (hty : (∃ n, ty = .object n) ∨ ∃ t, ty = .array t) (hQ : Q (.inl (some (.ref x))) σ) : qa_W E M Q kc ks pc L [.ref x] σ := by
  intro G p l e R s m args below meth c H locs cells slots ls ok C hR hS hL hc hs
  exact W.widen (Nat.le_trans (Nat.le_add_right _ _) hc) (Nat.le_trans (Nat.le_add_right _ _) hs) (vx_ret (W.aret C.1 C.2.1 (C.2.2.2.1.trans hr) hty (Or.inr ⟨_, rfl⟩) (fun t ht hW => ⟨_, σ, rfl, hQ, (ht ▸ hR.moved hW.alike), hS.F ht⟩) hS.2.2 (ok _ _ _ hd) C.2.2.2.2.1))
theorem qa_return (hd : qa_cd M pc = some (.return_, 1)) (hr : qa_rt M = none) (hQ : Q (.inl none) σ) : qa_W E M Q kc ks pc L [] σ := by
  intro G p l e R s m args below meth c H locs cells slots ls ok C hR hS hL hc hs
  exact W.widen (Nat.le_trans (Nat.le_add_right _ _) hc) (Nat.le_trans (Nat.le_add_right _ _) hs) (vx_ret (W.vret C.1 C.2.1 (C.2.2.2.1.trans hr) (fun t ht hW => ⟨_, σ, rfl, hQ, (ht ▸ hR.moved hW.alike), hS.F ht⟩) hS.2.2 (ok _ _ _ hd) C.2.2.2.2.1))
end QR
