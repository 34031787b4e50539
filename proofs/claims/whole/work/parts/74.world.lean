/-! the world at the start -/
theorem qs_pick {N : Nat} {f : Nat → Nat} {x : Nat → qa_E} {W9 : Nat → qa_E → Prop} (hinj : ∀ i j, i < N → j < N → f i = f j → i = j) {h : qa_H} (hW : ∀ a y, h a = some y → W9 a y) (hx : ∀ i, i < N → W9 (f i) (x i)) : ∃ h' : qa_H, (∀ i, i < N → h' (f i) = some (x i)) ∧ (∀ a, (∀ i, i < N → a ≠ f i) → h' a = h a) ∧ ∀ a y, h' a = some y → W9 a y := by
  have h1 : ∀ i, i < N → @dite _ (∃ j, j < N ∧ f i = f j) (Classical.propDecidable _) (fun hh => some (x (Classical.choose hh))) (fun _ => h (f i)) = some (x i) := by
    intro i hi
    have hh : ∃ j, j < N ∧ f i = f j := ⟨i, hi, rfl⟩
    rw [dif_pos hh]
    have hs := Classical.choose_spec hh
    rw [hinj _ _ hs.1 hi hs.2.symm]
  refine ⟨fun a => @dite _ (∃ i, i < N ∧ a = f i) (Classical.propDecidable _) (fun hh => some (x (Classical.choose hh))) (fun _ => h a), h1, fun a ha => ?_, fun a y hy => ?_⟩
  · exact dif_neg (fun hh => by obtain ⟨i, hi, e⟩ := hh; exact ha i hi e)
  · rcases Classical.em (∃ i, i < N ∧ a = f i) with ⟨i, hi, rfl⟩ | hn
    · have h2 : some (x i) = some y := (h1 i hi).symm.trans hy
      cases h2
      exact hx i hi
    · have h2 : h a = some y := (dif_neg hn).symm.trans hy
      exact hW a y h2
theorem qs_fit {s : State} (hf : heapFits s = true) {a i : Nat} {cell : Cell} {ty : FieldType} {v : Value} (hc : s.heap[a]? = some cell) (ha : s.isArrayOf cell ty) (hv : cell.slots[i]? = some v) : fits ty v = true := by
  obtain ⟨hlt, he⟩ := Array.getElem?_eq_some_iff.mp hc
  have h1 := Array.all_eq_true.mp hf a hlt
  rw [he] at h1
  obtain ⟨hi, -⟩ := Array.getElem?_eq_some_iff.mp hv
  have h2 := List.all_eq_true.mp h1 i (List.mem_range.mpr hi)
  rw [hv] at h2
  obtain ⟨n1, k, hk, comp, hkind⟩ := ha
  have h3 : s.fitsSlot cell.cls cell.vm i v = true := h2
  unfold State.fitsSlot State.slotType? at h3
  rw [hk] at h3
  cases hvm : cell.vm with
  | statics q => exact absurd hvm (n1 q)
  | _ => simpa [hvm, hkind] using h3
theorem qs_oa {s : State} (hf : heapFits s = true) {o9 n d : String} {v : Value} {a N : Nat} {ty : FieldType} {f : Nat → Value} {A : Nat → Prop} (h1 : va_OF o9 n d v a A s s.heap) (h2 : va_T ty a N f A s s.heap) : fits ty v = true := by
  obtain ⟨cf, k, i, fd, cell, a1, a2, a3, a4, a5, a6⟩ := h1
  obtain ⟨cell', b1, b2, b3⟩ := h2
  cases a3.symm.trans b1
  exact qs_fit hf a3 b2 a5
theorem qs_tt {s : State} {a n n' : Nat} {ty ty' : FieldType} {f f' : Nat → Value} {A : Nat → Prop} (h1 : va_T ty a n f A s s.heap) (h2 : va_T ty' a n' f' A s s.heap) : ty = ty' := by
  obtain ⟨cell, a1, ⟨-, k, hk, comp, hkind⟩, a3⟩ := h1
  obtain ⟨cell', b1, ⟨-, k', hk', comp', hkind'⟩, b3⟩ := h2
  cases a1.symm.trans b1
  cases hk.symm.trans hk'
  have e := hkind.symm.trans hkind'
  cases e
  rfl
theorem qs_ofu {s : State} {o9 n d : String} {v w : Value} {a : Nat} {A : Nat → Prop} (h1 : va_OF o9 n d v a A s s.heap) (h2 : va_OF o9 n d w a A s s.heap) : v = w := by
  obtain ⟨cf, k, i, fd, cell, a1, a2, a3, a4, a5, a6⟩ := h1
  obtain ⟨cf', k', i', fd', cell', b1, b2, b3, b4, b5, b6⟩ := h2
  cases a3.symm.trans b3
  cases a1.symm.trans b1
  exact Option.some.inj (a5.symm.trans b5)
theorem qs_oo {s : State} {C C' : String} {a : Nat} {A : Nat → Prop} (h1 : va_O C a A s s.heap) (h2 : va_O C' a A s s.heap) : C = C' := by
  obtain ⟨cell, a1, a2, a3, a4⟩ := h1
  obtain ⟨cell', b1, b2, b3, b4⟩ := h2
  cases a1.symm.trans b1
  obtain ⟨k, hk, e⟩ := Vm.findClass_spec a3
  obtain ⟨k', hk', e'⟩ := Vm.findClass_spec b3
  cases hk.symm.trans hk'
  exact e.symm.trans e'
theorem qs_tw {G : qa_G} {s : State} {a n t : Nat} {ty : FieldType} {f : Nat → Value} {A : Nat → Prop} {z : (Nat → Int32) ⊕ (Nat → Int64) ⊕ (Nat → UInt32) ⊕ (Nat → UInt64) ⊕ (Nat → Option Nat)} (h : va_T ty a n f A s s.heap) (ht : qa_ty[t]? = some ty) (hz : ∀ j, j < n → f j = qa_val (n, z) j) : qa_atW G s a (.inr (t, n, z)) s.heap := by
  obtain ⟨cell, a1, a2, a3, a4, a5, a6, a7⟩ := h
  exact ⟨cell, ty, ht, a1, a2, a3, a4, a5, fun j hj => by rw [a6 j hj, hz j hj]⟩
theorem qs_ow {G : qa_G} {s : State} {ci a : Nat} {r : vw_C} {v0 v1 : Value} {A : Nat → Prop} (hr : (∀ k, k < r.2.2 → qa_Sl s (r.2.1 k).1 (r.2.1 k).2.1 (r.2.1 k).2.2.1 (G.2.1 ci k)) ∧ s.vm.findClass r.1 = some (G.1 ci)) (h2 : r.2.2 = 2) (hO : va_O r.1 a A s s.heap)
    (f0 : va_OF (r.2.1 0).1 (r.2.1 0).2.1 (r.2.1 0).2.2.1 v0 a A s s.heap) (f1 : va_OF (r.2.1 1).1 (r.2.1 1).2.1 (r.2.1 1).2.2.1 v1 a A s s.heap) : qa_atW G s a (.inl (ci, [v0, v1])) s.heap := by
  obtain ⟨cell, g1, g2, g3, g4⟩ := hO
  obtain ⟨cf, k, i, f, cell', a1, a2, a3, a4, a5, a6⟩ := f0
  cases g1.symm.trans a3
  obtain ⟨cf', k', i', f', cell'', b1, b2, b3, b4, b5, b6⟩ := f1
  cases g1.symm.trans b3
  refine ⟨cell, g1, Option.some.inj (g3.symm.trans hr.2), a4, g2, fun k9 v hv => ?_⟩
  match k9, hv with
  | 0, hv =>
    cases hv
    obtain ⟨x1, x2, x3, x4, y1, y2, y3⟩ := hr.1 0 (by omega)
    cases a1.symm.trans y1
    rw [← y2]
    exact a5
  | 1, hv =>
    cases hv
    obtain ⟨x1, x2, x3, x4, y1, y2, y3⟩ := hr.1 1 (by omega)
    cases b1.symm.trans y1
    rw [← y2]
    exact b5
  | k9 + 2, hv => cases hv
/-- the byte rows, one after another -/
def qs_dl (i : Nat) : Nat := if i < 11 then qz_len i else 100
def qs_df (i : Nat) : Int → Int := if i < 11 then qz_frm i else if i = 11 then qz_on else qz_tn
def qs_dv (z sv : Nat → Nat) (i : Nat) : Nat := if i < 11 then sv i else if i = 11 then z 2 else z 3
theorem qs_ck : ((List.range 13).all fun i => (List.range 13).all fun j => Nat.beq i j || !decide (Int32.ofNat (qs_dl i) = Int32.ofNat (qs_dl j)) || ((List.range (qs_dl i)).any fun k => !decide (qa_i (qs_df i (k : Int)) = qa_i (qs_df j (k : Int))))) = true := by decide +kernel
theorem qs_dT {s : State} {args : Array Value} {A : Nat → Prop} {ad sk sv z : Nat → Nat} (hac : qs_ac s args A ad sk sv) (hrw : qs_rw s args A ad z) (i : Nat) (hi : i < 13) : va_T .byte (qs_dv z sv i) (qs_dl i) (fun j => .int (qa_i (qs_df i (j : Int)))) A s s.heap := by
  unfold qs_dv qs_dl qs_df
  by_cases h : i < 11
  · simp only [if_pos h]
    exact (hac i h).2.2.2.2.2.2.2
  · simp only [if_neg h]
    by_cases h1 : i = 11
    · simp only [if_pos h1]
      exact hrw.2.2.1.2
    · simp only [if_neg h1]
      exact hrw.2.2.2.2
theorem qs_di {s : State} {args : Array Value} {A : Nat → Prop} {ad sk sv z : Nat → Nat} (hac : qs_ac s args A ad sk sv) (hrw : qs_rw s args A ad z) (i j : Nat) (hi : i < 13) (hj : j < 13) (e : qs_dv z sv i = qs_dv z sv j) : i = j := by
  have h1 := qs_dT hac hrw i hi
  have h2 := qs_dT hac hrw j hj
  rw [← e] at h2
  obtain ⟨cell, a1, a2, a3, a4, a5, a6, a7⟩ := h1
  obtain ⟨cell', b1, b2, b3, b4, b5, b6, b7⟩ := h2
  cases a1.symm.trans b1
  have hck := List.all_eq_true.mp (List.all_eq_true.mp qs_ck i (List.mem_range.mpr hi)) j (List.mem_range.mpr hj)
  simp only [Bool.or_eq_true, Bool.not_eq_true', decide_eq_false_iff_not, List.any_eq_true] at hck
  rcases hck with (hck | hck) | ⟨k, hk, hck⟩
  · exact Nat.eq_of_beq_eq_true hck
  · exact absurd (a5.symm.trans b5) hck
  · have hk' := List.mem_range.mp hk
    have hlen : qs_dl i = qs_dl j := by
      have e9 : Int32.ofNat (qs_dl i) = Int32.ofNat (qs_dl j) := a5.symm.trans b5
      have lb : ∀ i9 : Nat, qs_dl i9 ≤ 100 := by
        intro i9
        unfold qs_dl
        by_cases h9 : i9 < 11
        · rw [if_pos h9]
          have h8 : qz_len i9 < 16 := qz_len_b ⟨i9, h9⟩
          omega
        · rw [if_neg h9]
          exact Nat.le_refl _
      have li := lb i
      have lj := lb j
      have := congrArg Int32.toInt e9
      rw [Int32.toInt_ofNat_of_lt (by omega), Int32.toInt_ofNat_of_lt (by omega)] at this
      omega
    have h3 := (a6 k hk').symm.trans (b6 k (by omega))
    have h4 : (Value.int (qa_i (qs_df i (k : Int)))) = .int (qa_i (qs_df j (k : Int))) := Option.some.inj h3
    have h5 : qa_i (qs_df i (k : Int)) = qa_i (qs_df j (k : Int)) := by injection h4
    exact absurd h5 hck
theorem qs_on : ∀ k : Fin 11, Int32.ofNat k.val = qa_i (k.val : Int) := by decide +kernel
def qs_Z (z ad sk sv : Nat → Nat) (k : Nat) : Nat := if k < 4 then z k else if 10 ≤ k ∧ k < 21 then ad (k - 10) else if 30 ≤ k ∧ k < 41 then sk (k - 30) else if 50 ≤ k ∧ k < 61 then sv (k - 50) else z 0
theorem qs_Za {z ad sk sv : Nat → Nat} {k : Nat} (hk : k < 11) : qs_Z z ad sk sv (10 + k) = ad k ∧ qs_Z z ad sk sv (30 + k) = sk k ∧ qs_Z z ad sk sv (50 + k) = sv k := by
  unfold qs_Z
  refine ⟨?_, ?_, ?_⟩
  · rw [if_neg (by omega), if_pos (by omega)]; congr 1; omega
  · rw [if_neg (by omega), if_neg (by omega), if_pos (by omega)]; congr 1; omega
  · rw [if_neg (by omega), if_neg (by omega), if_neg (by omega), if_pos (by omega)]; congr 1; omega
def qs_e (z ad : Nat → Nat) (v16 : Value) : Nat → Value := fun k => match k with | 0 => .int (qa_i 1) | 1 => .ref (ad 0) | 2 => .ref (z 0) | 3 => .ref (ad 1) | 4 => .ref (ad 2) | 5 => .ref (ad 3) | 6 => .ref (ad 4) | 7 => .ref (ad 5) | 8 => .ref (ad 6) | 9 => .ref (ad 7) | 10 => .ref (ad 8) | 11 => .ref (ad 9) | 12 => .ref (ad 10) | 13 => .ref (z 2) | 14 => .ref (z 3) | 15 => .ref (z 1) | 16 => v16 | _ => .null
theorem qs_he {s : State} {args : Array Value} {A : Nat → Prop} {ad sk sv z : Nat → Nat} {v16 : Value} (hgv : (Jvm.Cond.and given_1 narrow_1).before args s = true) (hac : qs_ac s args A ad sk sv) (hrw : qs_rw s args A ad z) (h16 : (Term.static "jdk/internal/util/Preconditions" "SIOOBE_FORMATTER" "Ljava/util/function/BiFunction;").eval args s none [] s = some v16) : ∀ (k : Nat) (q : String × String × String), qa_st[k]? = some q → (Term.static q.1 q.2.1 q.2.2).eval args s none [] s = some (qs_e z ad v16 k) := fun k q hz => match k, hz with
  | 0, hz => by cases hz; exact va_eqi (qs_w hgv 3585 (by decide +kernel))
  | 1, hz => by cases hz; exact (hac 0 (by decide)).1
  | 2, hz => by cases hz; exact hrw.1.1
  | 3, hz => by cases hz; exact (hac 1 (by decide)).1
  | 4, hz => by cases hz; exact (hac 2 (by decide)).1
  | 5, hz => by cases hz; exact (hac 3 (by decide)).1
  | 6, hz => by cases hz; exact (hac 4 (by decide)).1
  | 7, hz => by cases hz; exact (hac 5 (by decide)).1
  | 8, hz => by cases hz; exact (hac 6 (by decide)).1
  | 9, hz => by cases hz; exact (hac 7 (by decide)).1
  | 10, hz => by cases hz; exact (hac 8 (by decide)).1
  | 11, hz => by cases hz; exact (hac 9 (by decide)).1
  | 12, hz => by cases hz; exact (hac 10 (by decide)).1
  | 13, hz => by cases hz; exact hrw.2.2.1.1
  | 14, hz => by cases hz; exact hrw.2.2.2.1
  | 15, hz => by cases hz; exact hrw.2.1.1
  | 16, hz => by cases hz; exact h16
  | k + 17, hz => by cases hz
theorem qs_sj (z ad sk sv : Nat → Nat) (v16 : Value) : ∀ k, k < 11 → qs_e z ad v16 (qz_sj k) = .ref (qs_Z z ad sk sv (10 + k)) := by
  intro k hk
  rw [(qs_Za hk).1]
  match k, hk with
  | 0, _ => rfl
  | 1, _ => rfl
  | 2, _ => rfl
  | 3, _ => rfl
  | 4, _ => rfl
  | 5, _ => rfl
  | 6, _ => rfl
  | 7, _ => rfl
  | 8, _ => rfl
  | 9, _ => rfl
  | 10, _ => rfl
  | k + 11, hk => omega
theorem qs_heap {E : qa_V} {G : qa_G} {s : State} {args : Array Value} {ad sk sv z : Nat → Nat} {v16 : Value} {b L : Nat} {xs : Nat → Int32} (hE : E = (s.heap.size, qs_e z ad v16)) (hgv : (Jvm.Cond.and given_1 narrow_1).before args s = true) (hfit : heapFits s = true) (hac : qs_ac s args (fun q => s.heap.size ≤ q) ad sk sv) (hrw : qs_rw s args (fun q => s.heap.size ≤ q) ad z) (hK : qa_K E G s) (hL : L ≤ 2048) (hX : va_X b L xs s s.heap) (hb : (Term.arg 0).eval args s none [] s = some (.ref b)) :
    ∃ h0 : qa_H, h0 b = some (qa_ia L (fun j => (xs j.toNat).toInt)) ∧ qa_St E (qs_Z z ad sk sv) h0 ∧ qa_R9 E G s (h0, s.heap.size) s.heap := by
  subst hE
  obtain ⟨scr, x1, x2, x3, x4, x5⟩ := hX
  have hbl : b < s.heap.size := (Array.getElem?_eq_some_iff.mp x1).1
  have hXT : va_T .int b L (fun j => .int (xs j)) (fun q => s.heap.size ≤ q) s s.heap := ⟨scr, x1, x2, x3, by omega, by rw [x4], x5, by show ¬ s.heap.size ≤ b; omega⟩
  have hbz : b ≠ z 0 := va_neR (qs_w hgv 7487 (by decide +kernel)) hb hrw.1.1
  have W1 : ∀ i, i < 11 → qa_atW G s (sk i) (.inl (10, [.ref (sv i), .int (qa_i 0)])) s.heap := fun i hi => qs_ow (r := ("java/lang/String", qa_F10, 2)) (hK.1 10 _ rfl) rfl (hac i hi).2.2.2.2.1 (hac i hi).2.2.2.2.2.2.1 (hac i hi).2.2.2.2.2.1
  have W2 : ∀ i, i < 11 → qa_atW G s (ad i) (.inl (11, [.int (qa_i i), .ref (sk i)])) s.heap := fun i hi => qs_ow (r := ("CutleryOrchestra$Action", qa_F11, 2)) (hK.1 11 _ rfl) rfl (hac i hi).2.1 (by rw [← qs_on ⟨i, hi⟩]; exact (hac i hi).2.2.1) (hac i hi).2.2.2.1
  have W3 : ∀ i, i < 13 → qa_atW G s (qs_dv z sv i) (qa_ba (qs_dl i) (qs_df i)) s.heap := fun i hi => qs_tw (qs_dT hac hrw i hi) rfl (fun j hj => rfl)
  have W4 : qa_atW G s (z 1) (qa_ra 7 11 (fun j => some (qs_Z z ad sk sv (10 + j.toNat)))) s.heap := qs_tw hrw.2.1.2 rfl (fun j hj => by show Value.ref (ad j) = .ref (qs_Z z ad sk sv (10 + ((j : Int)).toNat)); rw [show ((j : Int)).toNat = j from rfl, (qs_Za hj).1])
  have W5 : qa_atW G s (z 0) (qa_ia 11 (fun j => j + 1)) s.heap := qs_tw hrw.1.2 rfl (fun j hj => rfl)
  have W6 : qa_atW G s b (qa_ia L (fun j => (xs j.toNat).toInt)) s.heap := qs_tw hXT rfl (fun j hj => by show Value.int (xs j) = .int (qa_i (xs j).toInt); rw [qa_i_of])
  have I1 : ∀ i j, i < 11 → j < 11 → sk i = sk j → i = j := fun i j hi hj e => by
    have h1 := (hac i hi).2.2.2.2.2.2.1
    have h2 := (hac j hj).2.2.2.2.2.2.1
    rw [← e] at h2
    have h3 := qs_ofu h1 h2
    have h4 : sv i = sv j := by injection h3
    exact qs_di hac hrw i j (by omega) (by omega) (by unfold qs_dv; rw [if_pos hi, if_pos hj]; exact h4)
  have I2 : ∀ i j, i < 11 → j < 11 → ad i = ad j → i = j := fun i j hi hj e => by
    rcases Nat.lt_trichotomy i j with h | h | h
    · exact absurd e (va_neR (qs_f4' hgv h hj) (hac i hi).1 (hac j hj).1)
    · exact h
    · exact absurd e.symm (va_neR (qs_f4' hgv h hi) (hac j hj).1 (hac i hi).1)
  -- objects are no arrays
  have Nr : ∀ {o9 n d : String} {a q N : Nat} {f : Nat → Value}, va_OF o9 n d (.ref q) a (fun q => s.heap.size ≤ q) s s.heap → ¬ va_T .int a N f (fun q => s.heap.size ≤ q) s s.heap ∧ ¬ va_T .byte a N f (fun q => s.heap.size ≤ q) s s.heap := fun h => ⟨fun h2 => Bool.false_ne_true (qs_oa hfit h h2), fun h2 => Bool.false_ne_true (qs_oa hfit h h2)⟩
  have Ni : ∀ {o9 n d E9 : String} {a N : Nat} {v : Int32} {f : Nat → Value}, va_OF o9 n d (.int v) a (fun q => s.heap.size ≤ q) s s.heap → ¬ va_T (.object E9) a N f (fun q => s.heap.size ≤ q) s s.heap := fun h h2 => Bool.false_ne_true (qs_oa hfit h h2)
  obtain ⟨h1, p1, q1, r1⟩ := qs_pick (W9 := fun a y => qa_atW G s a y s.heap) (h := fun _ => none) I1 (fun a y h => by cases h) W1
  obtain ⟨h2, p2, q2, r2⟩ := qs_pick (W9 := fun a y => qa_atW G s a y s.heap) I2 r1 W2
  obtain ⟨h3, p3, q3, r3⟩ := qs_pick (W9 := fun a y => qa_atW G s a y s.heap) (fun i j hi hj e => qs_di hac hrw i j hi hj e) r2 W3
  obtain ⟨h4, p4, q4, r4⟩ := qs_pick (N := 1) (f := fun _ => z 1) (x := fun _ => qa_ra 7 11 (fun j => some (qs_Z z ad sk sv (10 + j.toNat)))) (W9 := fun a y => qa_atW G s a y s.heap) (fun i j hi hj _ => by omega) r3 (fun _ _ => W4)
  obtain ⟨h5, p5, q5, r5⟩ := qs_pick (N := 1) (f := fun _ => z 0) (x := fun _ => qa_ia 11 (fun j => j + 1)) (W9 := fun a y => qa_atW G s a y s.heap) (fun i j hi hj _ => by omega) r4 (fun _ _ => W5)
  obtain ⟨h6, p6, q6, r6⟩ := qs_pick (N := 1) (f := fun _ => b) (x := fun _ => qa_ia L (fun j => (xs j.toNat).toInt)) (W9 := fun a y => qa_atW G s a y s.heap) (fun i j hi hj _ => by omega) r5 (fun _ _ => W6)
  have e6 : ∀ a, a ≠ b → h6 a = h5 a := fun a ha => q6 a (fun _ _ => ha)
  have e5 : ∀ a, a ≠ z 0 → h5 a = h4 a := fun a ha => q5 a (fun _ _ => ha)
  have e4 : ∀ a, a ≠ z 1 → h4 a = h3 a := fun a ha => q4 a (fun _ _ => ha)
  have T0 := hrw.1.2
  have T1 := hrw.2.1.2
  have f0 : h6 (z 0) = some (qa_ia 11 (fun j => j + 1)) := (e6 _ hbz.symm).trans (p5 0 (by decide))
  have f1 : h6 (z 1) = some (qa_ra 7 11 (fun j => some (qs_Z z ad sk sv (10 + j.toNat)))) := (e6 _ (fun e => by rw [e] at T1; exact nomatch qs_tt T1 hXT)).trans ((e5 _ (fun e => by rw [e] at T1; exact nomatch qs_tt T1 T0)).trans (p4 0 (by decide)))
  have f2 : ∀ i, i < 13 → h6 (qs_dv z sv i) = some (qa_ba (qs_dl i) (qs_df i)) := fun i hi => by
    have TD := qs_dT hac hrw i hi
    exact (e6 _ (fun e => by rw [e] at TD; exact nomatch qs_tt TD hXT)).trans ((e5 _ (fun e => by rw [e] at TD; exact nomatch qs_tt TD T0)).trans ((e4 _ (fun e => by rw [e] at TD; exact nomatch qs_tt TD T1)).trans (p3 i hi)))
  have f3 : ∀ i, i < 11 → h6 (ad i) = some (.inl (11, [.int (qa_i i), .ref (sk i)])) := fun i hi => by
    have F := (hac i hi).2.2.2.1
    have F2 := (hac i hi).2.2.1
    refine (e6 _ (fun e => by rw [e] at F; exact (Nr F).1 hXT)).trans ((e5 _ (fun e => by rw [e] at F; exact (Nr F).1 T0)).trans ((e4 _ (fun e => by rw [e] at F2; exact Ni F2 T1)).trans ((q3 _ (fun j hj e => ?_)).trans (p2 i hi))))
    have TD := qs_dT hac hrw j hj
    rw [e] at F
    exact (Nr F).2 TD
  have f4 : ∀ i, i < 11 → h6 (sk i) = some (.inl (10, [.ref (sv i), .int (qa_i 0)])) := fun i hi => by
    have F := (hac i hi).2.2.2.2.2.2.1
    have F2 := (hac i hi).2.2.2.2.2.1
    refine (e6 _ (fun e => by rw [e] at F; exact (Nr F).1 hXT)).trans ((e5 _ (fun e => by rw [e] at F; exact (Nr F).1 T0)).trans ((e4 _ (fun e => by rw [e] at F2; exact Ni F2 T1)).trans ((q3 _ (fun j hj e => ?_)).trans ((q2 _ (fun j hj e => ?_)).trans (p1 i hi)))))
    · have TD := qs_dT hac hrw j hj
      rw [e] at F
      exact (Nr F).2 TD
    · have O1 := (hac i hi).2.2.2.2.1
      have O2 := (hac j hj).2.1
      rw [e] at O1
      exact absurd (qs_oo O1 O2) (by decide)
  have lt : ∀ {a : Nat} {y : qa_E}, h6 a = some y → a < s.heap.size := fun h => (r6 _ _ h).lt
  have zl : ∀ k, qs_Z z ad sk sv k < s.heap.size := by
    intro k
    unfold qs_Z
    split
    · rename_i h
      match k, h with
      | 0, _ => exact lt f0
      | 1, _ => exact lt f1
      | 2, _ => exact lt (f2 11 (by decide))
      | 3, _ => exact lt (f2 12 (by decide))
      | k + 4, h => omega
    · split
      · exact lt (f3 _ (by omega))
      · split
        · exact lt (f4 _ (by omega))
        · split
          · have := lt (f2 (k - 50) (by omega))
            unfold qs_dv at this
            rw [if_pos (by omega)] at this
            exact this
          · exact lt f0
  refine ⟨h6, p6 0 (by decide), ⟨zl, rfl, rfl, rfl, rfl, rfl, qs_sj z ad sk sv v16, f0, ?_, f2 11 (by decide), f2 12 (by decide), fun k hk => ?_⟩, rfl, fun a y hy => ⟨r6 a y hy, fun hle => ?_⟩⟩
  · exact f1
  · obtain ⟨za, zb, zc⟩ := qs_Za (z := z) (ad := ad) (sk := sk) (sv := sv) hk
    rw [za, zb, zc]
    refine ⟨f3 k hk, f4 k hk, ?_⟩
    have h9 := f2 k (by omega)
    unfold qs_dv qs_dl qs_df at h9
    rw [if_pos hk, if_pos hk, if_pos hk] at h9
    exact h9
  · have hlt := lt hy
    have hle : s.heap.size ≤ a := hle
    omega
theorem qs_absel {y : MethodName} {s : State} {args : Array Value} {n : Nat} (hy : y.cls ≠ "java/lang/invoke/MethodHandle" ∧ y.cls ≠ "java/lang/invoke/VarHandle") (hins : (Cond.instantiable "java/lang/StringBuilder" n).before args s = true) (hpriv : (Cond.privateMethod y).before args s = true) (hinst : (Cond.instanceMethod y).before args s = true) (hsame : (Cond.sameMethod y.cls y.cls y.name y.desc).before args s = true) : (Cond.selects "java/lang/StringBuilder" y y).before args s = true := by
  obtain ⟨c, k, hc, hk, -⟩ := Cond.instantiable_spec hins
  obtain ⟨mk, methM, hnamed, hmethM, -, -⟩ := Cond.instanceMethod_spec hinst
  have hfound : s.methodFound? y.cls y.name y.desc = some mk := State.methodFound?_of_named hnamed hy
  have hsel : selectMethod {} s.vm c mk = .method mk := selectMethod_private hmethM (Cond.privateMethod_at hpriv mk methM hnamed hmethM)
  have hfc := findClass_of_methodNamed hnamed
  have hn2 : s.methodNamed? ⟨y.cls, y.name, y.desc⟩ = some mk := hnamed
  have hni : (s.vm.classes[mk.cls]?).any (fun x => !x.isInterface) = true := by
    simp only [Cond.before, Cond.holds, Cond.value, hfc, hfound, hn2] at hsame
    simpa using hsame
  simp only [Cond.before, Cond.holds, Cond.value, hc, hfound, hnamed, hsel]
  simpa using hni
theorem qs_tbl {s : State} {args : Array Value} (hts0 : ∀ w ∈ tables_1, w.before args s = true) : ∀ w ∈ lw_tbl, w.before args s = true := by
  have ha : ∀ w ∈ lw_absel, w.before args s = true := by
    intro w hw
    simp only [lw_absel, List.mem_cons, List.not_mem_nil, or_false] at hw
    rcases hw with rfl | rfl
    · exact qs_absel (n := 4) (by decide) (hts0 _ (List.mem_of_getElem? (i := 205) (by decide +kernel))) (hts0 _ (List.mem_of_getElem? (i := 1233) (by decide +kernel))) (hts0 _ (List.mem_of_getElem? (i := 1234) (by decide +kernel))) (hts0 _ (List.mem_of_getElem? (i := 2237) (by decide +kernel)))
    · exact qs_absel (n := 4) (by decide) (hts0 _ (List.mem_of_getElem? (i := 205) (by decide +kernel))) (hts0 _ (List.mem_of_getElem? (i := 1237) (by decide +kernel))) (hts0 _ (List.mem_of_getElem? (i := 1238) (by decide +kernel))) (hts0 _ (List.mem_of_getElem? (i := 2238) (by decide +kernel)))
  have hp := k2_hts_sels (Ts := tables_1) lw_privs hts0 lw_privs_ok
  intro w hw
  rcases List.mem_append.mp hw with h | h
  · exact hp w (List.mem_append_left _ h)
  · rcases List.mem_append.mp h with h | h
    · exact ha w h
    · exact hts0 w h
