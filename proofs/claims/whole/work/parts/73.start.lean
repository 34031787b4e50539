/-! the start: what the claim gives -/
def lw_fl : List Cond := flatC (Jvm.Cond.and given_1 narrow_1)
def qs_at (N : Nat) (ix : Nat → Nat) (f : Nat → Cond) : Bool := (List.range N).all fun k => decide (lw_fl[ix k]? = some (f k))
theorem qs_of {N : Nat} {ix : Nat → Nat} {f : Nat → Cond} {args : Array Value} {s : State} (hgv : (Jvm.Cond.and given_1 narrow_1).before args s = true) (h : qs_at N ix f = true) (k : Nat) (hk : k < N) : (f k).before args s = true :=
  flat_of_before _ hgv _ (List.mem_of_getElem? (of_decide_eq_true (List.all_eq_true.mp h k (List.mem_range.mpr hk))))
theorem qs_w {args : Array Value} {s : State} (hgv : (Jvm.Cond.and given_1 narrow_1).before args s = true) (i : Nat) {w : Cond} (h : lw_fl[i]? = some w) : w.before args s = true := flat_of_before _ hgv _ (List.mem_of_getElem? h)
def qs_nm (k : Nat) : String := match k with | 0 => "PART" | 1 => "NOTE" | 2 => "REST" | 3 => "LAST" | 4 => "MOVE" | 5 => "TUNE" | 6 => "CUE" | 7 => "ALONE" | 8 => "BAR" | 9 => "TEMPO" | _ => "PLAY"
def qs_st (k : Nat) : Term := .static "CutleryOrchestra$Action" (qs_nm k) "LCutleryOrchestra$Action;"
def qs_sx (k : Nat) : Nat := match k with | 0 => 61 | 1 => 67 | 2 => 70 | 3 => 73 | 4 => 76 | 5 => 79 | 6 => 82 | 7 => 85 | 8 => 88 | 9 => 91 | _ => 94
def qs_tm (k : Nat) : Term := .string "CutleryOrchestra$Action" (qs_sx k)
def qs_ea (k : Nat) : Nat := match k with | 0 => 5 | 1 => 24 | 2 => 28 | 3 => 33 | 4 => 39 | 5 => 46 | 6 => 54 | 7 => 63 | 8 => 73 | 9 => 84 | _ => 96
def qs_ps (k : Nat) : Nat := match k with | 0 => 991 | 1 => 999 | 2 => 1013 | 3 => 1025 | 4 => 1035 | 5 => 1047 | 6 => 1061 | 7 => 1072 | 8 => 1083 | 9 => 1092 | _ => 1105
def qs_vl (k : Nat) : Term := .field (qs_tm k) "java/lang/String" "value" "[B"
def qs_f4 (q : Nat) : Cond := if q % 11 < q / 11 then .not (.eq (qs_st (q % 11)) (qs_st (q / 11))) else .count 1
def qs_f5 (q : Nat) : Cond := if q % 16 < qz_len (q / 16) then .eq (.elem (qs_vl (q / 16)) (.int (Int32.ofNat (q % 16)))) (.int (qa_i (qz_frm (q / 16) ((q % 16 : Nat) : Int)))) else .count 1
theorem qs_F1 : qs_at 11 (fun k => qs_ea k) (fun k => .exactly (qs_st k) "CutleryOrchestra$Action") = true := by decide +kernel
theorem qs_F2 : qs_at 11 (fun k => qs_ea k + 1) (fun k => .eq (.field (qs_st k) "java/lang/Enum" "ordinal" "I") (.int (Int32.ofNat k))) = true := by decide +kernel
theorem qs_F3 : qs_at 11 (fun k => qs_ea k + 2) (fun k => .eq (.field (qs_st k) "CutleryOrchestra$Action" "form" "Ljava/lang/String;") (qs_tm k)) = true := by decide +kernel
theorem qs_F4 : qs_at 121 (fun k => if k % 11 < k / 11 then qs_ea (k / 11) + 3 + k % 11 else 0) (fun k => qs_f4 k) = true := by decide +kernel
theorem qs_S1 : qs_at 11 (fun k => qs_ps k) (fun k => .exactly (qs_tm k) "java/lang/String") = true := by decide +kernel
theorem qs_S2 : qs_at 11 (fun k => qs_ps k + 1) (fun k => .eq (.field (qs_tm k) "java/lang/String" "coder" "B") (.int 0)) = true := by decide +kernel
theorem qs_S3 : qs_at 11 (fun k => qs_ps k + 2) (fun k => .arrayOf (qs_vl k) .byte) = true := by decide +kernel
theorem qs_S4 : qs_at 11 (fun k => qs_ps k + 3) (fun k => .eq (.length (qs_vl k)) (.int (Int32.ofNat (qz_len k)))) = true := by decide +kernel
theorem qs_S5 : qs_at 176 (fun k => if k % 16 < qz_len (k / 16) then qs_ps (k / 16) + 4 + k % 16 else 0) (fun k => qs_f5 k) = true := by decide +kernel
theorem qs_M : qs_at 11 (fun k => 11 + k) (fun k => .eq (.elem (.static "CutleryOrchestra$1" "$SwitchMap$CutleryOrchestra$Action" "[I") (.int (Int32.ofNat k))) (.int (qa_i ((k : Int) + 1)))) = true := by decide +kernel
theorem qs_D1 : qs_at 100 (fun k => 116 + k) (fun k => .eq (.elem (.static "java/lang/Integer" "DigitOnes" "[B") (.int (Int32.ofNat k))) (.int (qa_i (qz_on (k : Int))))) = true := by decide +kernel
theorem qs_D2 : qs_at 100 (fun k => 219 + k) (fun k => .eq (.elem (.static "java/lang/Integer" "DigitTens" "[B") (.int (Int32.ofNat k))) (.int (qa_i (qz_tn (k : Int))))) = true := by decide +kernel
theorem qs_AL : qs_at 11 (fun k => 324 + k) (fun k => .eq (.elem (.static "CutleryOrchestra$Action" "ALL" "[LCutleryOrchestra$Action;") (.int (Int32.ofNat k))) (qs_st k)) = true := by decide +kernel
def qs_xi (q : Nat) : Nat := match q with | 1 => 382 | 2 => 346 | 3 => 401 | 4 => 420 | 5 => 439 | 6 => 365 | 8 => 347 | 9 => 402 | 10 => 421 | 11 => 440 | 12 => 366 | 13 => 383 | 15 => 403 | 16 => 422 | 17 => 441 | 18 => 367 | 19 => 385 | 20 => 349 | 22 => 424 | 23 => 443 | 24 => 368 | 25 => 386 | 26 => 350 | 27 => 405 | 29 => 444 | 30 => 370 | 31 => 389 | 32 => 353 | 33 => 408 | 34 => 427 | _ => 0
def qs_xf (q : Nat) : Cond := if q / 6 = q % 6 then .count 1 else .not (.castable (qa_X (q / 6)) (qa_X (q % 6)))
theorem qs_X : qs_at 36 (fun k => qs_xi k) (fun k => qs_xf k) = true := by decide +kernel
theorem qs_f4' {args : Array Value} {s : State} (hgv : (Jvm.Cond.and given_1 narrow_1).before args s = true) {i j : Nat} (hij : i < j) (hj : j < 11) : (Cond.not (.eq (qs_st i) (qs_st j))).before args s = true := by
  have h := qs_of hgv qs_F4 (11 * j + i) (by omega)
  unfold qs_f4 at h
  rw [show (11 * j + i) % 11 = i by omega, show (11 * j + i) / 11 = j by omega, if_pos hij] at h
  exact h
theorem qz_len_b : ∀ k : Fin 11, qz_len k.val < 16 := by decide +kernel
theorem qs_f5' {args : Array Value} {s : State} (hgv : (Jvm.Cond.and given_1 narrow_1).before args s = true) {k j : Nat} (hk : k < 11) (hj : j < qz_len k) : (Cond.eq (.elem (qs_vl k) (.int (Int32.ofNat j))) (.int (qa_i (qz_frm k (j : Int))))).before args s = true := by
  have hb := qz_len_b ⟨k, hk⟩
  have hb : qz_len k < 16 := hb
  have h := qs_of hgv qs_S5 (16 * k + j) (by omega)
  unfold qs_f5 at h
  rw [show (16 * k + j) % 16 = j by omega, show (16 * k + j) / 16 = k by omega, if_pos hj] at h
  exact h
theorem qs_xf' {args : Array Value} {s : State} (hgv : (Jvm.Cond.and given_1 narrow_1).before args s = true) {k j : Nat} (hk : k < 6) (hj : j < 6) (hkj : k ≠ j) : (Cond.not (.castable (qa_X k) (qa_X j))).before args s = true := by
  have h := qs_of hgv qs_X (6 * k + j) (by omega)
  unfold qs_xf at h
  rw [show (6 * k + j) % 6 = j by omega, show (6 * k + j) / 6 = k by omega, if_neg hkj] at h
  exact h
/-- the actions, their forms, the forms' bytes -/
def qs_ac (s : State) (args : Array Value) (A : Nat → Prop) (ad sk sv : Nat → Nat) : Prop := ∀ k, k < 11 → (qs_st k).eval args s none [] s = some (.ref (ad k)) ∧ va_O "CutleryOrchestra$Action" (ad k) A s s.heap ∧ va_OF "java/lang/Enum" "ordinal" "I" (.int (Int32.ofNat k)) (ad k) A s s.heap ∧ va_OF "CutleryOrchestra$Action" "form" "Ljava/lang/String;" (.ref (sk k)) (ad k) A s s.heap ∧
  va_O "java/lang/String" (sk k) A s s.heap ∧ va_OF "java/lang/String" "coder" "B" (.int 0) (sk k) A s s.heap ∧ va_OF "java/lang/String" "value" "[B" (.ref (sv k)) (sk k) A s s.heap ∧ va_T .byte (sv k) (qz_len k) (fun j => .int (qa_i (qz_frm k (j : Int)))) A s s.heap
theorem qs_acts {args : Array Value} {s : State} {A : Nat → Prop} (hgv : (Jvm.Cond.and given_1 narrow_1).before args s = true) (hA : ∀ a : Nat, a < s.heap.size → ¬ A a) : ∃ ad sk sv : Nat → Nat, qs_ac s args A ad sk sv := by
  have h0 : ∀ k : Nat, ∃ q : Nat × Nat × Nat, k < 11 → (qs_st k).eval args s none [] s = some (.ref q.1) ∧ va_O "CutleryOrchestra$Action" q.1 A s s.heap ∧ va_OF "java/lang/Enum" "ordinal" "I" (.int (Int32.ofNat k)) q.1 A s s.heap ∧ va_OF "CutleryOrchestra$Action" "form" "Ljava/lang/String;" (.ref q.2.1) q.1 A s s.heap ∧
      va_O "java/lang/String" q.2.1 A s s.heap ∧ va_OF "java/lang/String" "coder" "B" (.int 0) q.2.1 A s s.heap ∧ va_OF "java/lang/String" "value" "[B" (.ref q.2.2) q.2.1 A s s.heap ∧ va_T .byte q.2.2 (qz_len k) (fun j => .int (qa_i (qz_frm k (j : Int)))) A s s.heap := by
    intro k
    by_cases hk : k < 11
    · obtain ⟨a, c, cA, kA, q1, q2, q3, q4, q5, q6, -⟩ := Cond.exactly_spec (qs_of hgv qs_F1 k hk)
      obtain ⟨a2, c2, cA2, kA2, r1, r2, r3, r4, r5, r6, -⟩ := Cond.exactly_spec (qs_of hgv qs_S1 k hk)
      have hb : qz_len k < 16 := qz_len_b ⟨k, hk⟩
      obtain ⟨t, ht, hT⟩ := va_Tof (f := fun j => .int (qa_i (qz_frm k (j : Int)))) (A := A) (show qz_len k < 2 ^ 31 by omega) (qs_of hgv qs_S3 k hk) (va_eqt (qs_of hgv qs_S4 k hk)) (fun j hj => va_eqt (qs_f5' hgv hk hj)) hA
      exact ⟨(a, a2, t), fun _ => ⟨q1, ⟨cA, q3, q5, by rw [q6]; exact q2, hA a (Array.getElem?_eq_some_iff.mp q3).1⟩, vk_OFof q1 (va_eqt (qs_of hgv qs_F2 k hk)) hA, vk_OFof q1 (va_eqv (qs_of hgv qs_F3 k hk) r1) hA, ⟨cA2, r3, r5, by rw [r6]; exact r2, hA a2 (Array.getElem?_eq_some_iff.mp r3).1⟩, vk_OFof r1 (va_eqt (qs_of hgv qs_S2 k hk)) hA, vk_OFof r1 ht hA, hT⟩⟩
    · exact ⟨(0, 0, 0), fun h => absurd h hk⟩
  obtain ⟨q, hq⟩ := Classical.axiomOfChoice h0
  exact ⟨fun k => (q k).1, fun k => (q k).2.1, fun k => (q k).2.2, fun k hk => hq k hk⟩
/-- the rows -/
def qs_rw (s : State) (args : Array Value) (A : Nat → Prop) (ad : Nat → Nat) (z : Nat → Nat) : Prop :=
  (Term.eval (.static "CutleryOrchestra$1" "$SwitchMap$CutleryOrchestra$Action" "[I") args s none [] s = some (.ref (z 0)) ∧ va_T .int (z 0) 11 (fun j => .int (qa_i ((j : Int) + 1))) A s s.heap) ∧ (Term.eval (.static "CutleryOrchestra$Action" "ALL" "[LCutleryOrchestra$Action;") args s none [] s = some (.ref (z 1)) ∧ va_T (.object "CutleryOrchestra$Action") (z 1) 11 (fun j => .ref (ad j)) A s s.heap) ∧
  (Term.eval (.static "java/lang/Integer" "DigitOnes" "[B") args s none [] s = some (.ref (z 2)) ∧ va_T .byte (z 2) 100 (fun j => .int (qa_i (qz_on (j : Int)))) A s s.heap) ∧ (Term.eval (.static "java/lang/Integer" "DigitTens" "[B") args s none [] s = some (.ref (z 3)) ∧ va_T .byte (z 3) 100 (fun j => .int (qa_i (qz_tn (j : Int)))) A s s.heap)
theorem qs_rows {args : Array Value} {s : State} {A : Nat → Prop} {ad sk sv : Nat → Nat} (hgv : (Jvm.Cond.and given_1 narrow_1).before args s = true) (hA : ∀ a : Nat, a < s.heap.size → ¬ A a) (hac : qs_ac s args A ad sk sv) : ∃ z : Nat → Nat, qs_rw s args A ad z := by
  obtain ⟨t0, h0, k0⟩ := va_Tof (f := fun j => .int (qa_i ((j : Int) + 1))) (N := 11) (A := A) (by decide) (qs_w hgv 9 (by decide +kernel)) (va_eqt (qs_w hgv 10 (by decide +kernel))) (fun j hj => va_eqt (qs_of hgv qs_M j hj)) hA
  obtain ⟨t1, h1, k1⟩ := va_Tof (f := fun j => .ref (ad j)) (N := 11) (A := A) (by decide) (qs_w hgv 321 (by decide +kernel)) (va_eqt (qs_w hgv 322 (by decide +kernel))) (fun j hj => va_eqv (qs_of hgv qs_AL j hj) (hac j hj).1) hA
  obtain ⟨t2, h2, k2⟩ := va_Tof (f := fun j => .int (qa_i (qz_on (j : Int)))) (N := 100) (A := A) (by decide) (qs_w hgv 114 (by decide +kernel)) (va_eqt (qs_w hgv 115 (by decide +kernel))) (fun j hj => va_eqt (qs_of hgv qs_D1 j hj)) hA
  obtain ⟨t3, h3, k3⟩ := va_Tof (f := fun j => .int (qa_i (qz_tn (j : Int)))) (N := 100) (A := A) (by decide) (qs_w hgv 217 (by decide +kernel)) (va_eqt (qs_w hgv 218 (by decide +kernel))) (fun j hj => va_eqt (qs_of hgv qs_D2 j hj)) hA
  exact ⟨fun k => match k with | 0 => t0 | 1 => t1 | 2 => t2 | _ => t3, ⟨h0, k0⟩, ⟨h1, k1⟩, ⟨h2, k2⟩, ⟨h3, k3⟩⟩
/-- classes and arrays -/
theorem qs_c1 {ci n : Nat} {s : State} {args : Array Value} (hw : qa_Wr ci n) (hts : ∀ w ∈ lw_tbl, w.before args s = true) : ∃ q : ClassId × (Nat → Nat), ∀ r : vw_C, qa_cl[ci]? = some r → (∀ k, k < r.2.2 → qa_Sl s (r.2.1 k).1 (r.2.1 k).2.1 (r.2.1 k).2.2.1 (q.2 k)) ∧ s.vm.findClass r.1 = some q.1 := by
  obtain ⟨r, ty, h1, h2, h3, -⟩ := hw
  have ht : ∀ w ∈ qa_tb, w.before args s = true := fun w h => hts w (List.mem_filter.mp h).1
  obtain ⟨cC, kC, hfc, -⟩ := Cond.instantiable_spec (ht _ h3)
  have h : ∀ k : Nat, ∃ i : Nat, k < r.2.2 → qa_Sl s (r.2.1 k).1 (r.2.1 k).2.1 (r.2.1 k).2.2.1 i := by
    intro k
    by_cases hk : k < r.2.2
    · rcases u_lays (ws := qa_tb) ht h2 hk with h | h
      · obtain ⟨c, k9, cf', kf', fi', fd', r1, r2, hi', r3, -⟩ := Cond.lays_spec h
        exact ⟨fd'.slot, fun _ => ⟨cf', kf', fi', fd', hi', rfl, r3⟩⟩
      · obtain ⟨c, k9, cf', kf', fi', fd', r1, r2, hi', r3, -⟩ := Cond.laysFinal_spec h
        exact ⟨fd'.slot, fun _ => ⟨cf', kf', fi', fd', hi', rfl, r3⟩⟩
    · exact ⟨0, fun h => absurd h hk⟩
  obtain ⟨iS, hi⟩ := Classical.axiomOfChoice h
  refine ⟨(cC, iS), fun r9 h9 => ?_⟩
  cases h1.symm.trans h9
  exact ⟨fun k hk => hi k hk, hfc⟩
theorem qs_sl {o9 n d : String} {v : Value} {a : Nat} {A : Nat → Prop} {s : State} (h : va_OF o9 n d v a A s s.heap) : ∃ i : Nat, qa_Sl s o9 n d i := by
  obtain ⟨cf, k, i, f, cell, h1, h2, -⟩ := h
  exact ⟨f.slot, cf, k, i, f, h1, rfl, h2⟩
theorem qs_c11 {s : State} {args : Array Value} {A : Nat → Prop} {ad sk sv : Nat → Nat} (hac : qs_ac s args A ad sk sv) : ∃ q : ClassId × (Nat → Nat), ∀ r : vw_C, qa_cl[11]? = some r → (∀ k, k < r.2.2 → qa_Sl s (r.2.1 k).1 (r.2.1 k).2.1 (r.2.1 k).2.2.1 (q.2 k)) ∧ s.vm.findClass r.1 = some q.1 := by
  obtain ⟨h1, ⟨cell, g1, g2, g3, g4⟩, h3, h4, -⟩ := hac 0 (by decide)
  obtain ⟨i0, e0⟩ := qs_sl h3
  obtain ⟨i1, e1⟩ := qs_sl h4
  refine ⟨(cell.cls, fun k => match k with | 0 => i0 | _ => i1), fun r hr => ?_⟩
  cases hr
  refine ⟨fun k hk => ?_, g3⟩
  match k, hk with
  | 0, _ => exact e0
  | 1, _ => exact e1
  | k + 2, hk => exact absurd (show k + 2 < 2 from hk) (by omega)
theorem qs_cl {s : State} {args : Array Value} {A : Nat → Prop} {ad sk sv : Nat → Nat} (hts : ∀ w ∈ lw_tbl, w.before args s = true) (hac : qs_ac s args A ad sk sv) : ∀ ci : Nat, ∃ q : ClassId × (Nat → Nat), ∀ r : vw_C, qa_cl[ci]? = some r → (∀ k, k < r.2.2 → qa_Sl s (r.2.1 k).1 (r.2.1 k).2.1 (r.2.1 k).2.2.1 (q.2 k)) ∧ s.vm.findClass r.1 = some q.1 := by
  intro ci
  match ci with
  | 0 => exact qs_c1 qw_0 hts
  | 1 => exact qs_c1 qw_1 hts
  | 2 => exact qs_c1 qw_2 hts
  | 3 => exact qs_c1 qw_3 hts
  | 4 => exact qs_c1 qw_4 hts
  | 5 => exact qs_c1 qw_5 hts
  | 6 => exact qs_c1 qw_6 hts
  | 7 => exact qs_c1 qw_7 hts
  | 8 => exact qs_c1 qw_8 hts
  | 9 => exact qs_c1 qw_9 hts
  | 10 => exact qs_c1 qw_10 hts
  | 11 => exact qs_c11 hac
  | ci + 12 => exact ⟨(0, fun _ => 0), fun r hr => by cases hr⟩
theorem qs_a1 {s : State} {args : Array Value} {ty : FieldType} (h : (Cond.arrayClass ty).before args s = true) : ∃ cA : ClassId, ArrOfT s cA ty ∧ s.vm.findClass ("[" ++ ty.toString) = some cA := by
  obtain ⟨c, k, comp, h1, h2, h3⟩ := Cond.arrayClass_spec h
  exact ⟨c, fun n z => ⟨(fun q h => by cases h), k, h2, comp, h3⟩, h1⟩
theorem qs_a2 {s : State} {args : Array Value} {n : String} (h : (Cond.arrayOver (.object n)).before args s = true) : ∃ cA : ClassId, ArrOfT s cA (.object n) ∧ va_RA s cA (.object n) := by
  obtain ⟨comp, c, k, h1, -, h3, h4, h5⟩ := Cond.arrayOver_spec h
  exact ⟨c, fun n z => ⟨(fun q h => by cases h), k, h3, comp, h4⟩, k, comp, h3, h4, h1, h5⟩
theorem qs_a3 {s : State} (h : qa_AI s) : ∃ cA : ClassId, ArrOfT s cA (.array .int) ∧ va_RA s cA (.array .int) := by
  obtain ⟨d, c, k, h1, h2, h3, h4⟩ := h
  exact ⟨c, fun n z => ⟨(fun q h => by cases h), k, h2, d, h3⟩, h4⟩
theorem qs_AI {s : State} {args : Array Value} (hts : ∀ w ∈ lw_tbl, w.before args s = true) : qa_AI s := sx_over (hts _ (qa_wm 1 190 (by decide +kernel)))
theorem qs_ty {s : State} {args : Array Value} (hts : ∀ w ∈ lw_tbl, w.before args s = true) : ∀ t : Nat, ∃ cA : ClassId, ∀ ty : FieldType, qa_ty[t]? = some ty → ArrOfT s cA ty ∧ va_RA s cA ty := by
  intro t
  have mk : ∀ {ty0 : FieldType}, qa_ty[t]? = some ty0 → (∃ cA : ClassId, ArrOfT s cA ty0 ∧ va_RA s cA ty0) → ∃ cA : ClassId, ∀ ty : FieldType, qa_ty[t]? = some ty → ArrOfT s cA ty ∧ va_RA s cA ty := by
    intro ty0 h0 ⟨cA, h1⟩
    exact ⟨cA, fun ty h => by cases h0.symm.trans h; exact h1⟩
  match t with
  | 0 => exact mk rfl (qs_a1 (hts _ (qa_wm 1 71 (by decide +kernel))))
  | 1 => exact mk rfl (qs_a1 (hts _ (qa_wm 10 71 (by decide +kernel))))
  | 2 => exact mk rfl (qs_a1 (hts _ (qa_wm 1 236 (by decide +kernel))))
  | 3 => exact mk rfl (qs_a1 (hts _ (qa_wm 8 79 (by decide +kernel))))
  | 4 => exact mk rfl (qs_a1 (hts _ (qa_wm 10 72 (by decide +kernel))))
  | 5 => exact mk rfl (qs_a2 (hts _ (qa_wm 1 53 (by decide +kernel))))
  | 6 => exact mk rfl (qs_a2 (hts _ (qa_wm 1 170 (by decide +kernel))))
  | 7 => exact mk rfl (qs_a2 (hts _ (qa_wm 1 238 (by decide +kernel))))
  | 8 => exact mk rfl (qs_a3 (qs_AI hts))
  | t + 9 => exact ⟨0, fun ty h => by cases h⟩
theorem qs_K {s : State} {args : Array Value} {ad sk sv : Nat → Nat} {E : qa_V} (hE : E.1 = s.heap.size) (hgv : (Jvm.Cond.and given_1 narrow_1).before args s = true) (hts : ∀ w ∈ lw_tbl, w.before args s = true) (hac : qs_ac s args (fun q => E.1 ≤ q) ad sk sv) (he : ∀ (k : Nat) (z : String × String × String), qa_st[k]? = some z → (Term.static z.1 z.2.1 z.2.2).eval args s none [] s = some (E.2 k)) : ∃ G : qa_G, qa_K E G s := by
  have hA : ∀ a : Nat, a < s.heap.size → ¬ (fun q => E.1 ≤ q) a := fun a ha => by show ¬ E.1 ≤ a; omega
  obtain ⟨g, hg⟩ := Classical.axiomOfChoice (qs_cl hts hac)
  obtain ⟨ga, hga⟩ := Classical.axiomOfChoice (qs_ty hts)
  have h5 : ∀ (k : Nat) (z : String × String × String), qa_st[k]? = some z → va_Z z.1 z.2.1 z.2.2 (E.2 k) (fun q => E.1 ≤ q) s s.heap := fun k z hz => match k, hz with
  | 0, hz => by cases hz; exact va_Zof (hts _ (qa_wm 1 214 (by decide +kernel))) (hts _ (qa_wm 1 11 (by decide +kernel))) (he 0 _ rfl) hA
  | 1, hz => by cases hz; exact va_Zof (hts _ (qa_wm 2 237 (by decide +kernel))) (hts _ (qa_wm 1 15 (by decide +kernel))) (he 1 _ rfl) hA
  | 2, hz => by cases hz; exact va_Zof (hts _ (qa_wm 3 12 (by decide +kernel))) (hts _ (qa_wm 1 17 (by decide +kernel))) (he 2 _ rfl) hA
  | 3, hz => by cases hz; exact va_Zof (hts _ (qa_wm 4 26 (by decide +kernel))) (hts _ (qa_wm 1 15 (by decide +kernel))) (he 3 _ rfl) hA
  | 4, hz => by cases hz; exact va_Zof (hts _ (qa_wm 4 35 (by decide +kernel))) (hts _ (qa_wm 1 15 (by decide +kernel))) (he 4 _ rfl) hA
  | 5, hz => by cases hz; exact va_Zof (hts _ (qa_wm 4 44 (by decide +kernel))) (hts _ (qa_wm 1 15 (by decide +kernel))) (he 5 _ rfl) hA
  | 6, hz => by cases hz; exact va_Zof (hts _ (qa_wm 4 53 (by decide +kernel))) (hts _ (qa_wm 1 15 (by decide +kernel))) (he 6 _ rfl) hA
  | 7, hz => by cases hz; exact va_Zof (hts _ (qa_wm 4 214 (by decide +kernel))) (hts _ (qa_wm 1 15 (by decide +kernel))) (he 7 _ rfl) hA
  | 8, hz => by cases hz; exact va_Zof (hts _ (qa_wm 5 53 (by decide +kernel))) (hts _ (qa_wm 1 15 (by decide +kernel))) (he 8 _ rfl) hA
  | 9, hz => by cases hz; exact va_Zof (hts _ (qa_wm 5 62 (by decide +kernel))) (hts _ (qa_wm 1 15 (by decide +kernel))) (he 9 _ rfl) hA
  | 10, hz => by cases hz; exact va_Zof (hts _ (qa_wm 5 104 (by decide +kernel))) (hts _ (qa_wm 1 15 (by decide +kernel))) (he 10 _ rfl) hA
  | 11, hz => by cases hz; exact va_Zof (hts _ (qa_wm 5 124 (by decide +kernel))) (hts _ (qa_wm 1 15 (by decide +kernel))) (he 11 _ rfl) hA
  | 12, hz => by cases hz; exact va_Zof (hts _ (qa_wm 5 158 (by decide +kernel))) (hts _ (qa_wm 1 15 (by decide +kernel))) (he 12 _ rfl) hA
  | 13, hz => by cases hz; exact va_Zof (hts _ (qa_wm 6 149 (by decide +kernel))) (hts _ (qa_wm 1 29 (by decide +kernel))) (he 13 _ rfl) hA
  | 14, hz => by cases hz; exact va_Zof (hts _ (qa_wm 6 151 (by decide +kernel))) (hts _ (qa_wm 1 29 (by decide +kernel))) (he 14 _ rfl) hA
  | 15, hz => by cases hz; exact va_Zof (hts _ (qa_wm 7 115 (by decide +kernel))) (hts _ (qa_wm 1 15 (by decide +kernel))) (he 15 _ rfl) hA
  | 16, hz => by cases hz; exact va_Zof (hts _ (qa_wm 6 79 (by decide +kernel))) (hts _ (qa_wm 1 35 (by decide +kernel))) (he 16 _ rfl) hA
  | k + 17, hz => by cases hz
  refine ⟨(fun ci => (g ci).1, fun ci => (g ci).2, ga), fun ci r hr => hg ci r hr, fun t ty ht => hga t ty ht, fun w hw hn => va_Nw.of ?_ (hts w hw), fun C hC => va_AO.of (hts _ hC), h5, vx_Zqof (hts _ (qa_wm 3 154 (by decide +kernel))) (hts _ (qa_wm 1 20 (by decide +kernel))) (qs_w hgv 22 (by decide +kernel)) hA, vx_Zqof (hts _ (qa_wm 3 156 (by decide +kernel))) (hts _ (qa_wm 1 20 (by decide +kernel))) (qs_w hgv 23 (by decide +kernel)) hA, fun own k tx hw => ?_, fun k j hk hj hkj => va_Nc.of (qs_xf' hgv hk hj hkj), qs_AI hts⟩
  · cases w <;> first | rfl | (exact absurd hn (by decide)) | (simp [qa_nw] at hn)
  · have h := hts _ hw
    cases hc : s.vm.findClass own with
    | none => simp [Cond.before, Cond.holds, Cond.value, hc] at h
    | some c =>
      obtain ⟨k9, cf, i, a, -, -, -, -, -, h6⟩ := Cond.stringRef_spec hc h
      exact ⟨a, vk_R.of h h6⟩
