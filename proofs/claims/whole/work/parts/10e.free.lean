/-- a body of a class some of whose other methods are run by the machine itself -/
theorem qa_enterF {E : qa_V} {M : qa_M} {mc ms : Nat} {as : List Value} {σ : qa_S} {Q : qa_O → qa_S → Prop} (hy : plainFor (qa_y M) = true) (hh0 : qa_hh M = []) (hok : qa_OK M) (hown : (qa_y M).cls = qa_R (qa_ow M)) (hsl : Nat.ble (lg_sl as).length (qa_ml M) = true)
    (body : ∀ Q9 : qa_O → qa_S → Prop, (∀ o t, Q o t → Q9 o t) → qa_W E M Q9 mc ms 0 (lv_args 0 as) [] σ) : qa_T E M mc ms as σ Q := by
  intro G l hl
  have hcw : qa_cw M = Cond.code (qa_y M) (qa_by M) (qa_ml M) (qa_rt M) := qa_cw0 hh0
  refine MetFree.of_bodySF (code := qa_by M) (maxLocals := qa_ml M) (ret := qa_rt M) hy ?_ ?_
  · intro args s m h hn
    obtain ⟨meth, c, h1, h2, h3, h4, h5, h6, -, -⟩ := Cond.code_spec hn (atoms_spec (ws := qa_cw M :: qa_tb) h _ (by rw [hcw]; exact List.mem_cons_self))
    exact ⟨meth, c, h1, h2, h3, h4, h5, h6⟩
  · intro p e s m args below meth c s₁ B hml hP _
    have hh9 : s₁.heap = s.heap := by rw [B.state]; rfl
    have hw : ∀ w ∈ qa_cw M :: qa_tb, w.before args s = true := atoms_spec (ws := qa_cw M :: qa_tb) B.pre
    have ht : c.exceptionTable.toList = [] := by
      obtain ⟨meth9, c9, h1, h2, -, -, -, -, h7, -⟩ := Cond.code_spec B.named (hw _ (by rw [hcw]; exact List.mem_cons_self))
      cases Option.some.inj (h1.symm.trans B.method)
      cases Option.some.inj (h2.symm.trans (Stand.of_body B).code)
      rw [Array.isEmpty_iff.mp h7]
    obtain ⟨hargs, hR, hK, hE⟩ := hP
    subst hargs
    have hbody := body Q (fun _ _ h => h) G p l e (qa_rm M mc ms) s m as.toArray below meth c s.heap [] 0 0 _ hok ⟨B.exec, B.bytes, hml, B.returns, B.notSynchronized, by rw [← hown]; exact findClass_of_methodNamed B.named, (name_of_methodNamed B.named B.method).1, by rw [hh0, ht]; rfl, hl, Nat.le_refl _, Nat.le_refl _, hE, hK, fun w hw9 => hw w (List.mem_cons_of_mem _ hw9)⟩ hR va_S.rf (lv_entry as (Nat.le_of_ble_eq_true hsl)) (Nat.le_of_eq (Nat.zero_add _)) (Nat.le_of_eq (Nat.zero_add _))
    rw [← lg_entry_eq] at hbody
    obtain ⟨t, a1, o, b1, b2, b3⟩ := hbody s₁ hh9 (Stand.of_body B)
    exact ⟨t, o, a1, b1, b2, b3⟩
