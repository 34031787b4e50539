/-! rows that the law alone needs; the class's object and the model's, side by side -/
section QR8
variable {E : qa_V} {M : qa_M} {Q : qa_O → qa_S → Prop} {kc ks pc pc' : Nat} {L : qa_L} {st : List Value} {σ : qa_S}
theorem qa_daload {a n : Nat} {g : Int → UInt64} {j : Int} (hd : qa_op M pc (.daload) 1 pc') (hx : σ.1 a = some (qa_da n g)) (hj : 0 ≤ j ∧ j < n ∧ j < 2147483648)
    (k : qa_W E M Q kc ks pc' L (.double (g j) :: st) σ) : qa_W E M Q kc ks pc L (.int (qa_i j) :: .ref a :: st) σ := by
  obtain ⟨hd, rfl⟩ := hd
  intro G p l e R s m args below meth c H locs cells slots ls ok C hR hS hL hc hs
  obtain ⟨cell, g1, g2, g3, g4, g5⟩ := qa_at.arr (ty := .double) hR hx rfl hj
  refine W.dald C.1 C.2.1 g1 g2 g3 g4 (v := .double (g j)) ?_ rfl rfl (ok _ _ _ hd) (k G p l e R s m args below meth c H locs cells slots ls ok C hR hS hL hc hs)
  rw [g5]
  show some (Value.double _) = _
  simp only [qa_nat hj.1]
theorem qa_dcmp {x y : UInt64} {op : CmpOp} (hd : qa_op M pc (.dcmp op) 1 pc')
    (k : qa_W E M Q kc ks pc' L (.int (Op.cmpValue (FP.dcmp x y) op) :: st) σ) : qa_W E M Q kc ks pc L (.double y :: .double x :: st) σ := by
  obtain ⟨hd, rfl⟩ := hd
  intro G p l e R s m args below meth c H locs cells slots ls ok C hR hS hL hc hs
  exact lv_dcmp C.1 C.2.1 (ok _ _ _ hd) (k G p l e R s m args below meth c H locs cells slots ls ok C hR hS hL hc hs)
theorem qa_nz {rest : List Value} {k : Nat} (h : qa_WX E M Q kc ks pc L k σ) : qa_N E M Q kc ks pc L rest (.inr k) σ := h
theorem qa_enterHQ {mc ms : Nat} {as : List Value} {h0 : Nat × Nat × Nat × Nat} {ht : List (Nat × Nat × Nat × Nat)} (hy : plainName (qa_y M).cls = true) (hh0 : qa_hh M = h0 :: ht) (hok : qa_OK M) (hown : (qa_y M).cls = qa_R (qa_ow M)) (hsl : Nat.ble (lg_sl as).length (qa_ml M) = true)
    (body : ∀ Q9 : qa_O → qa_S → Prop, (∀ o t, Q o t → Q9 o t) → qa_W E M Q9 mc ms 0 (lv_args 0 as) [] σ) : qa_T E M mc ms as σ Q := qa_enterH hy hh0 hok hown hsl (body Q (fun _ _ h => h))
end QR8
def qx_ty (i : Nat) : Option Nat := match i with | 13 => some 2 | 19 => some 0 | 21 => some 1 | 44 => some 3 | 159 => some 4 | 179 => some 5 | _ => none
theorem qx_l13 : Cond.classLink (qa_R 0) 13 (qa_X 2) ∈ qa_tb := (qa_wj 2 231 (by decide +kernel) (by decide +kernel))
theorem qx_l19 : Cond.classLink (qa_R 0) 19 (qa_X 0) ∈ qa_tb := (qa_wj 3 239 (by decide +kernel) (by decide +kernel))
theorem qx_l21 : Cond.classLink (qa_R 0) 21 (qa_X 1) ∈ qa_tb := (qa_wj 4 20 (by decide +kernel) (by decide +kernel))
theorem qx_l44 : Cond.classLink (qa_R 0) 44 (qa_X 3) ∈ qa_tb := (qa_wj 4 85 (by decide +kernel) (by decide +kernel))
theorem qx_l159 : Cond.classLink (qa_R 0) 159 (qa_X 4) ∈ qa_tb := (qa_wj 5 188 (by decide +kernel) (by decide +kernel))
theorem qx_l179 : Cond.classLink (qa_R 0) 179 (qa_X 5) ∈ qa_tb := (qa_wj 7 68 (by decide +kernel) (by decide +kernel))
theorem qx_c0 : Cond.castable (qa_X 0) (qa_X 0) ∈ lw_tbl := (qa_wm 3 129 (by decide +kernel))
theorem qx_c1 : Cond.castable (qa_X 1) (qa_X 1) ∈ lw_tbl := (qa_wm 3 201 (by decide +kernel))
theorem qx_c2 : Cond.castable (qa_X 2) (qa_X 2) ∈ lw_tbl := (qa_wm 3 217 (by decide +kernel))
theorem qx_c3 : Cond.castable (qa_X 3) (qa_X 3) ∈ lw_tbl := (qa_wm 4 92 (by decide +kernel))
theorem qx_c4 : Cond.castable (qa_X 4) (qa_X 4) ∈ lw_tbl := (qa_wm 5 200 (by decide +kernel))
theorem qx_c5 : Cond.castable (qa_X 5) (qa_X 5) ∈ lw_tbl := (qa_wm 7 80 (by decide +kernel))
theorem qx_lk {i k : Nat} (h : qx_ty i = some k) : Cond.classLink (qa_R 0) i (qa_X k) ∈ qa_tb := by
  unfold qx_ty at h
  split at h <;> cases h <;> first | exact qx_l13 | exact qx_l19 | exact qx_l21 | exact qx_l44 | exact qx_l159 | exact qx_l179
theorem qx_lt {i k : Nat} (h : qx_ty i = some k) : k < 6 := by
  unfold qx_ty at h
  split at h <;> cases h <;> decide
theorem qx_cs {k : Nat} (h : k < 6) : Cond.castable (qa_X k) (qa_X k) ∈ lw_tbl := by
  match k, h with
  | 0, _ => exact qx_c0
  | 1, _ => exact qx_c1
  | 2, _ => exact qx_c2
  | 3, _ => exact qx_c3
  | 4, _ => exact qx_c4
  | 5, _ => exact qx_c5
def qx_ps (k : Nat) (z : ExceptionTableEntry) : Bool := match qx_ty z.catchType with | some j => !Nat.beq j k | none => false
/-- caught by row i of the law's table -/
theorem qa_Zh {E : qa_V} {M : qa_M} {Q : qa_O → qa_S → Prop} {kc ks pc k : Nat} {L : qa_L} {σ : qa_S} (i : Nat) {x : ExceptionTableEntry} (hw : qa_ow M = 0) (hi : (tableOf (qa_hh M))[i]? = some x) (hp : ((tableOf (qa_hh M)).take i).all (qx_ps k) = true) (hx : covers x pc = true) (hc : qx_ty x.catchType = some k)
    (kk : ∀ q : Nat, qa_W E M Q kc ks x.handlerPc L [.ref q] σ) : qa_WX E M Q kc ks pc L k σ := by
  have hk : k < 6 := qx_lt hc
  have h0 : x.catchType ≠ 0 := fun h => by rw [h, show qx_ty 0 = none from rfl] at hc; cases hc
  refine qa_Zcatch (j := 0) ((tableOf (qa_hh M)).take i) x ((tableOf (qa_hh M)).drop (i + 1)) [] ?_ hk (fun z hz => ?_) hx h0 (by rw [hw]; exact qx_lk hc) (qx_cs hk) kk
  · obtain ⟨h1, h2⟩ := List.getElem?_eq_some_iff.mp hi
    have h3 := List.take_append_drop i (tableOf (qa_hh M))
    rw [List.drop_eq_getElem_cons h1, h2] at h3
    exact h3.symm
  · have h9 := List.all_eq_true.mp hp z hz
    unfold qx_ps at h9
    cases hz9 : qx_ty z.catchType with
    | none => rw [hz9] at h9; cases h9
    | some j =>
      rw [hz9] at h9
      refine ⟨?_, j, qx_lt hz9, fun e => ?_, hw ▸ qx_lk hz9⟩
      · intro h
        rw [h, show qx_ty 0 = none from rfl] at hz9
        cases hz9
      · subst e
        have h8 : (!Nat.beq k k) = true := h9
        rw [Nat.beq_refl] at h8
        cases h8
/-! what both objects hold -/
def sJ (msn : Int → Int) (mh : Int → Int → Int) (sp ct : Int) (t u : List Int) (n f : Nat → Int) (sv ps ip li : Int → Int) : Prop :=
  (n 0 = f 3 ∧ (f 3 ≠ 0 → sm_eqv sv msn)) ∧ (ct = f 5 ∧ ∀ j q : Int, 0 ≤ j → j < ct → 0 ≤ q → q < 146 → ps (146 * j + q) = mh ((sp - ct + j + 9) % 9) q) ∧ n 4 = f 6 ∧
  ((n 1 = 0 ∧ f 7 = -1 ∧ f 9 = -1) ∨ (n 1 ≠ 0 ∧ f 7 = n 1 ∧ f 8 = n 2 ∧ (n 1 = 9 → f 9 = n 3 ∧ 1 ≤ n 3 ∧ n 3 ≤ 9) ∧ (n 1 ≠ 9 → f 9 = -1))) ∧
  (f 14 = (t.length : Int) ∧ ∀ j : Nat, j < t.length → t[j]? = some (ip j)) ∧ (f 19 = (u.length : Int) ∧ u.length ≤ 120 ∧ ∀ j : Nat, j < u.length → u[j]? = some (li j))
theorem sJ.same {msn : Int → Int} {mh : Int → Int → Int} {sp ct : Int} {t u : List Int} {n f f' : Nat → Int} {sv ps ip li : Int → Int} (h : sJ msn mh sp ct t u n f sv ps ip li) (hs : sM_same f f') : sJ msn mh sp ct t u n f' sv ps ip li := by
  obtain ⟨s1, s2, s3, s4, s5, s6, s7, s8⟩ := hs
  unfold sJ
  rw [s1, s2, s3, s4, s5, s6, s7, s8]
  exact h
def qI1 (c : Nat) (Z : Nat → Nat) (B : Int) (τ : qa_S) (vi vo : Nat) (m msn : Int → Int) (mh : Int → Int → Int) (sp ct : Int) (t u : List Int) (cs : sc_C) (n f : Nat → Int) (sv ps ip li : Int → Int) : Prop :=
  sR_C τ.1 c vi vo Z B m msn mh sp ct t u cs n ∧ sR_M τ.1 (c + 277) f m sv ps ip li ∧ (c + 290 ≤ τ.2 ∧ vi < τ.2 ∧ vo < τ.2 ∧ (vi = c + 272 ∨ c + 290 ≤ vi) ∧ (vo = c + 276 ∨ c + 290 ≤ vo)) ∧ sJ msn mh sp ct t u n f sv ps ip li
def qI (c : Nat) (Z : Nat → Nat) (B : Int) (τ : qa_S) : Prop := ∃ (vi vo : Nat) (m msn : Int → Int) (mh : Int → Int → Int) (sp ct : Int) (t u : List Int) (cs : sc_C) (n f : Nat → Int) (sv ps ip li : Int → Int), qI1 c Z B τ vi vo m msn mh sp ct t u cs n f sv ps ip li
/-- what the model's call leaves -/
def jM (c : Nat) (Z : Nat → Nat) (B : Int) {α : Type} (C : α → Value) (k : Int) (x : α) (τ2 : qa_S) : qa_O → qa_S → Prop := fun o τ' => ∃ (y : α) (f' : Nat → Int), o = .inl (some (C y)) ∧ (k = 0 → y = x) ∧ τ'.1 (c + 277) = some (qa_MoF (c + 277) f') ∧ f' 12 = k ∧ τ'.2 = τ2.2 ∧ (∀ q, (q < c + 277 ∨ c + 288 ≤ q) → τ'.1 q = τ2.1 q) ∧ qI c Z B τ'
/-- .. whatever else the law wrote before it -/
def jN (E : qa_V) (c : Nat) (Z : Nat → Nat) (B : Int) (N : qa_M) (as : List Value) {α : Type} (C : α → Value) (k : Int) (x : α) (τ : qa_S) : Prop := ∀ τ2 : qa_S, τ2.2 = τ.2 → (∀ q, q ≠ c + 288 → q ≠ c + 289 → τ2.1 q = τ.1 q) → qa_T E N 0 0 (.ref (c + 277) :: as) τ2 (jM c Z B C k x τ2)
/-- what the class's call leaves -/
def jC (E : qa_V) (c : Nat) (Z : Nat → Nat) (B : Int) (N : qa_M) (as : List Value) (X : List Nat) {α : Type} (C : α → Value) (σ : qa_S) : qa_O → qa_S → Prop := fun o9 τ => ∃ (k : Int) (x : α), o9 = qa_ov k X (C x) ∧ (0 ≤ k ∧ k ≤ (X.length : Int)) ∧ σ.2 ≤ τ.2 ∧ (∀ q, (q < c ∨ (c + 277 ≤ q ∧ q < c + 290)) → τ.1 q = σ.1 q) ∧ jN E c Z B N as C k x τ
section SJ
variable {E : qa_V} {σ : qa_S} {c vi vo : Nat} {Z : Nat → Nat} {B : Int} {m msn : Int → Int} {mh : Int → Int → Int} {sp ct : Int} {t u : List Int} {cs : sc_C} {n f : Nat → Int} {sv ps ip li : Int → Int} {mc ms : Nat} {C9 N : qa_M} {a9 as : List Value} {X : List Nat}
theorem jmk {α : Type} {C : α → Value} {B' : Int} {P : qa_O → qa_S → Prop} (I : qI1 c Z B σ vi vo m msn mh sp ct t u cs n f sv ps ip li) (hT : qa_T E C9 mc ms a9 σ P)
    (h : ∀ o τ, P o τ → ∃ (k : Int) (x : α), o = qa_ov k X (C x) ∧ (0 ≤ k ∧ k ≤ (X.length : Int)) ∧ sC_F σ τ c vi vo ∧ ∀ τ2 : qa_S, τ2.2 = τ.2 → (∀ q, q ≠ c + 288 → q ≠ c + 289 → τ2.1 q = τ.1 q) → sR_M τ2.1 (c + 277) f m sv ps ip li → qa_T E N 0 0 (.ref (c + 277) :: as) τ2 (jM c Z B' C k x τ2)) : qa_T E C9 mc ms a9 σ (jC E c Z B' N as X C σ) :=
  hT.mono fun o τ hp => by
    obtain ⟨i1, i2, i3, i4⟩ := I
    obtain ⟨k, x, h1, h2, h3, h4⟩ := h o τ hp
    refine ⟨k, x, h1, h2, h3.1, fun q hq => h3.2 q (by omega) (by omega) (by omega) (by omega), fun τ2 e2 f2 => h4 τ2 e2 f2 (i2.fr (fun q q0 q1 => (f2 q (by omega) (by omega)).trans (h3.2 q (by omega) (by omega) (by omega) (by omega))))⟩
/-- the class's side again where the law and the model have written -/
theorem jfr {h h' : qa_H} (hC : sR_C h c vi vo Z B m msn mh sp ct t u cs n) (hv : (vi = c + 272 ∨ c + 290 ≤ vi) ∧ (vo = c + 276 ∨ c + 290 ≤ vo)) (hf : ∀ q, (q < c + 277 ∨ c + 290 ≤ q) → h' q = h q) : sR_C h' c vi vo Z B m msn mh sp ct t u cs n :=
  hC.fr fun q hq => hf q (by omega)
theorem jfin {α : Type} {C : α → Value} {k : Int} {x y : α} {τ τ2 τ' : qa_S} (hC : sR_C τ.1 c vi vo Z B m msn mh sp ct t u cs n) (hsz : c + 290 ≤ τ.2 ∧ vi < τ.2 ∧ vo < τ.2 ∧ (vi = c + 272 ∨ c + 290 ≤ vi) ∧ (vo = c + 276 ∨ c + 290 ≤ vo)) (e2 : τ2.2 = τ.2) (f2 : ∀ q, q ≠ c + 288 → q ≠ c + 289 → τ2.1 q = τ.1 q) (he : τ'.2 = τ2.2) (hf : ∀ q, (q < c + 277 ∨ c + 288 ≤ q) → τ'.1 q = τ2.1 q)
    (hR : sR_M τ'.1 (c + 277) f m sv ps ip li) (hJ : sJ msn mh sp ct t u n f sv ps ip li) (hk : f 12 = k) (hy : k = 0 → y = x) : jM c Z B C k x τ2 (.inl (some (C y))) τ' := by
  refine ⟨y, f, rfl, hy, hR.1.1, hk, he, hf, vi, vo, m, msn, mh, sp, ct, t, u, cs, n, f, sv, ps, ip, li, jfr hC ⟨hsz.2.2.2.1, hsz.2.2.2.2⟩ (fun q hq => (hf q (by omega)).trans (f2 q (by omega) (by omega))), hR, ⟨by omega, by omega, by omega, hsz.2.2.2.1, hsz.2.2.2.2⟩, hJ⟩
/-- queries -/
theorem jQ0 {r : Int × Int} {P : qa_O → qa_S → Prop} (I : qI1 c Z B σ vi vo m msn mh sp ct t u cs n f sv ps ip li) (hT : qa_T E C9 mc ms a9 σ P) (hP : ∀ o τ, P o τ → o = qa_out X r ∧ sC_F σ τ c vi vo ∧ sR_C τ.1 c vi vo Z B m msn mh sp ct t u cs n) (hr : 0 ≤ r.1 ∧ r.1 ≤ (X.length : Int))
    (hM : ∀ τ2 : qa_S, sR_M τ2.1 (c + 277) f m sv ps ip li → qa_T E N 0 0 (.ref (c + 277) :: as) τ2 (qa_Ms τ2 (c + 277) f m sv ps ip li r)) : qa_T E C9 mc ms a9 σ (jC E c Z (B + 13000) N as X Value.int σ) := by
  refine jmk I hT fun o τ hp => ?_
  obtain ⟨h1, h2, h3⟩ := hP o τ hp
  refine ⟨r.1, qa_i r.2, h1, hr, h2, fun τ2 e2 f2 hR2 => (hM τ2 hR2).mono fun o' τ' hq => ?_⟩
  obtain ⟨⟨v, rfl, hv⟩, he, hf, f', g1, g2, g3⟩ := hq
  have i3 := I.2.2.1
  have hle := h2.1
  exact jfin (C := Value.int) (h3.up (by omega)) ⟨by omega, by omega, by omega, i3.2.2.2.1, i3.2.2.2.2⟩ e2 f2 he (fun q hq => hf q (by omega)) g1 (I.2.2.2.same g3) g2 (fun h => by rw [hv h])
theorem jQ {r : Int × Int} (I : qI1 c Z B σ vi vo m msn mh sp ct t u cs n f sv ps ip li) (hT : qa_T E C9 mc ms a9 σ (qa_q σ (qa_out X r))) (hr : 0 ≤ r.1 ∧ r.1 ≤ (X.length : Int))
    (hM : ∀ τ2 : qa_S, sR_M τ2.1 (c + 277) f m sv ps ip li → qa_T E N 0 0 (.ref (c + 277) :: as) τ2 (qa_Ms τ2 (c + 277) f m sv ps ip li r)) : qa_T E C9 mc ms a9 σ (jC E c Z (B + 13000) N as X Value.int σ) :=
  jQ0 I hT (fun o τ hp => ⟨hp.1, sC_F.rf hp.2.1 hp.2.2, by rw [hp.2.1]; exact I.1⟩) hr hM
/-- .. of other values -/
theorem jV {α : Type} {C : α → Value} {k : Int} {x : α} (I : qI1 c Z B σ vi vo m msn mh sp ct t u cs n f sv ps ip li) (hT : qa_T E C9 mc ms a9 σ (qa_q σ (qa_ov k X (C x)))) (hr : 0 ≤ k ∧ k ≤ (X.length : Int))
    (hM : ∀ τ2 : qa_S, sR_M τ2.1 (c + 277) f m sv ps ip li → qa_T E N 0 0 (.ref (c + 277) :: as) τ2 (qa_Mv C τ2 (c + 277) f k x)) : qa_T E C9 mc ms a9 σ (jC E c Z (B + 13000) N as X C σ) := by
  refine jmk I hT fun o τ hp => ?_
  have hC2 : sR_C τ.1 c vi vo Z B m msn mh sp ct t u cs n := by rw [hp.2.1]; exact I.1
  refine ⟨k, x, hp.1, hr, sC_F.rf hp.2.1 hp.2.2, fun τ2 e2 f2 hR2 => (hM τ2 hR2).mono fun o' τ' hq => ?_⟩
  obtain ⟨⟨v, rfl, hv⟩, he, g1, g2⟩ := hq
  have i3 := I.2.2.1
  have hle := hp.2.2
  exact jfin (C := C) (hC2.up (by omega)) ⟨by omega, by omega, by omega, i3.2.2.2.1, i3.2.2.2.2⟩ e2 f2 he (fun q hq => g2 q (by omega)) (hR2.setF g2 g1) (I.2.2.2.same sM_same.put) rfl hv
/-- changes -/
theorem sJ.chg {k9 : Nat} {r : sp_R} {f' : Nat → Int} {ps' : Int → Int} {sp' ct' : Int} (hs : (0 ≤ sp ∧ sp < 9) ∧ (0 ≤ ct ∧ ct ≤ 8)) (h : sJ msn mh sp ct t u n f sv ps ip li) (hr : r.1 = -10 ∨ r.1 = -11 ∨ -8 ≤ r.1) (hch : sM_ch f f' ps ps' m k9 r) (hsp : sp' = if r.1 < 0 then sp else (sp + 1) % 9) (hct : ct' = if r.1 < 0 then ct else if ct < 8 then ct + 1 else 8) :
    sJ msn (sH_up mh sp m) sp' ct' t u (if r.1 < 0 ∧ -9 ≤ r.1 then sN_rej n (-r.1) r.2.1 else n) f' sv ps' ip li := by
  obtain ⟨⟨a1, a2⟩, ⟨b1, b2⟩, c1, d1, ⟨e1, e2⟩, g1, g2, g3⟩ := h
  obtain ⟨h1, ⟨h2, h3, h4, h5⟩, h6, h7, h8, h9⟩ := hch
  have up : ∀ i q : Int, i ≠ sp → sH_up mh sp m i q = mh i q := fun i q hi => congrFun (if_neg hi) q
  have n0 : ∀ j : Nat, j ≠ 1 → j ≠ 2 → (if r.1 < 0 ∧ -9 ≤ r.1 then sN_rej n (-r.1) r.2.1 else n) j = n j := fun j j1 j2 => by
    split
    · exact (if_neg j1).trans (if_neg j2)
    · rfl
  refine ⟨⟨by rw [n0 0 (by decide) (by decide), h2]; exact a1, by rw [h2]; exact a2⟩, ?_, by rw [n0 4 (by decide) (by decide), h3]; exact c1, ?_, ⟨by rw [h4]; exact e1, e2⟩, by rw [h5]; exact g1, g2, g3⟩
  · by_cases hn : r.1 < 0
    · obtain ⟨p1, p2⟩ := h6 hn
      rw [if_pos hn] at hsp hct
      subst hsp; subst hct
      refine ⟨by rw [p1]; exact b1, fun j q j0 j1 q0 q1 => ?_⟩
      rw [p2, up _ _ (by omega)]
      exact b2 j q j0 j1 q0 q1
    · obtain ⟨p1, p2⟩ := h7 (by omega)
      rw [if_neg hn] at hsp hct
      have ef : f' 5 = ct' := by
        rw [p1, ← b1, hct]
        by_cases h8 : ct = 8
        · rw [if_pos h8, if_neg (by omega)]
        · rw [if_neg h8, if_pos (by omega)]
      refine ⟨ef.symm, fun j q j0 j1 q0 q1 => ?_⟩
      rw [p2 j q j0 (by omega) q0 q1, ef, ← b1]
      by_cases h9 : ct < 8
      · rw [if_pos h9] at hct
        by_cases hj : j = ct' - 1
        · rw [if_pos hj, show (sp' - ct' + j + 9) % 9 = sp by omega]
          exact (congrFun (if_pos rfl) q).symm
        · rw [if_neg hj, if_neg (show ¬ ct = 8 by omega), up _ _ (by omega), b2 j q j0 (by omega) q0 q1]
          congr 1
          omega
      · rw [if_neg h9] at hct
        by_cases hj : j = ct' - 1
        · rw [if_pos hj, show (sp' - ct' + j + 9) % 9 = sp by omega]
          exact (congrFun (if_pos rfl) q).symm
        · rw [if_neg hj, if_pos (show ct = 8 by omega), up _ _ (by omega), b2 (j + 1) q (by omega) (by omega) q0 q1]
          congr 1
          omega
  · by_cases hn : -9 ≤ r.1 ∧ r.1 < 0
    · obtain ⟨p1, p2, p3⟩ := h8 hn
      rw [if_pos (show r.1 < 0 ∧ -9 ≤ r.1 by omega)]
      have q1 : sN_rej n (-r.1) r.2.1 1 = -r.1 := rfl
      have q2 : sN_rej n (-r.1) r.2.1 2 = r.2.1 := rfl
      right
      rw [q1, q2, p1, p2, p3]
      exact ⟨by omega, rfl, rfl, fun h => absurd h (by omega), fun _ => rfl⟩
    · obtain ⟨p1, p2, p3⟩ := h9 hn
      rw [if_neg (show ¬ (r.1 < 0 ∧ -9 ≤ r.1) by omega), p1, p2, p3]
      exact d1
theorem jch {k9 : Nat} {r : sp_R} (I : qI1 c Z B σ vi vo m msn mh sp ct t u cs n f sv ps ip li) (hrk : sm_rk m B r) (hch : ch_o r = qa_ov (if r.1 < 0 then so_pl k9 r.1 else 0) X (.int (qa_i r.1)) ∧ (r.1 < 0 → so_pl k9 r.1 ≤ (X.length : Int)))
    (hT : qa_T E C9 mc ms a9 σ (fun o9 τ => o9 = ch_o r ∧ sC_F σ τ c vi vo ∧ sR_C τ.1 c vi vo Z (B + 13000) r.2.2 msn (sH_up mh sp m) (if r.1 < 0 then sp else (sp + 1) % 9) (if r.1 < 0 then ct else if ct < 8 then ct + 1 else 8) t u cs (if r.1 < 0 ∧ -9 ≤ r.1 then sN_rej n (-r.1) r.2.1 else n)))
    (hM : ∀ τ2 : qa_S, sR_M τ2.1 (c + 277) f m sv ps ip li → qa_T E N 0 0 (.ref (c + 277) :: as) τ2 (qa_Mc τ2 (c + 277) f m sv ps ip li k9 r)) : qa_T E C9 mc ms a9 σ (jC E c Z (B + 13000) N as X Value.int σ) := by
  refine jmk I hT fun o τ hp => ?_
  obtain ⟨h1, h2, h3⟩ := hp
  have hH := I.1.2.2.2.1
  have hb := so_pl_b k9 r.1
  refine ⟨if r.1 < 0 then so_pl k9 r.1 else 0, qa_i r.1, h1.trans hch.1, ?_, h2, fun τ2 e2 f2 hR2 => (qa_Mc.x (hM τ2 hR2)).mono fun o' τ' hq => ?_⟩
  · have := hch.2
    split
    · rename_i h; have := this h; omega
    · omega
  obtain ⟨rfl, he, hf, f', ps', g1, g2⟩ := hq
  have i3 := I.2.2.1
  have hle := h2.1
  have hr9 : r.1 = -10 ∨ r.1 = -11 ∨ -8 ≤ r.1 := by
    by_cases hn : r.1 < 0
    · exact (hrk.2.2 hn).2
    · omega
  refine jfin (C := Value.int) h3 ⟨by omega, by omega, by omega, i3.2.2.2.1, i3.2.2.2.2⟩ e2 f2 he (fun q hq => hf q (by omega)) g1 (sJ.chg ⟨hH.2.2.1, hH.2.2.2.1⟩ I.2.2.2 hr9 g2 rfl rfl) g2.1 (fun h => ?_)
  by_cases hn : r.1 < 0
  · rw [if_pos hn] at h; omega
  · rw [if_neg hn]
end SJ
