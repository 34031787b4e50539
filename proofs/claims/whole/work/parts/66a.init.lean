/-! what is made at the beginning -/
theorem qa_multi {M : qa_M} {E : qa_V} {Q : qa_O → qa_S → Prop} {kc ks pc pc' : Nat} {L : qa_L} {st : List Value} {σ : qa_S} {idx : Nat} (hd : qa_op M pc (.multianewarray idx 2) 4 pc') (hcl : Cond.classLink (qa_R (qa_ow M)) idx ("[" ++ (FieldType.array .int).toString) ∈ qa_tb) (hac : Cond.arrayClass .int ∈ qa_tb)
    (k : ∀ h' : qa_H, h' σ.2 = some (qa_ra 8 11 (fun i => if 0 ≤ i ∧ i < 11 then some (σ.2 + 1 + i.toNat) else none)) → (∀ r : Nat, r < 11 → h' (σ.2 + 1 + r) = some (qa_ia 11 (fun _ => 0))) → (∀ q, (q < σ.2 ∨ σ.2 + 12 ≤ q) → h' q = σ.1 q) → qa_W E M Q kc ks pc' L (.ref σ.2 :: st) (h', σ.2 + 12)) : qa_W E M Q (kc + 12) (ks + 132) pc L (.int (qa_i 11) :: .int (qa_i 11) :: st) σ := by
  obtain ⟨hd, rfl⟩ := hd
  intro G p l e R s m args below meth c H locs cells slots ls ok C hR hS hL hc hs T hT X
  have hts := C.2.2.2.2.2.2.2.2.2.2.2.2.2
  have hK := C.2.2.2.2.2.2.2.2.2.2.2.2.1
  obtain ⟨vm1, cA, d, hW, hfA, hfd, XG, step⟩ := sx_step X C.1 C.2.2.2.2.2.1 (hts _ hcl) hK.2.2.2.2.2.2.2.2.2 (hts _ hac) (g := F0 m pc ls (.int (qa_i 11) :: .int (qa_i 11) :: st)) rfl (by rw [C.2.1]; exact ok _ _ _ hd) rfl (by omega) (by omega)
  obtain ⟨f1, f2, f3, f4, f5, f6⟩ := sx_T_f (T.setVm vm1) cA d 11
  have hTh : (T.setVm vm1).heap = H := hT
  have hz : H.size = σ.2 := hR.1
  rw [hTh, hz] at f1 f2 f6
  rw [hTh, hz] at f5
  rw [show T.heap.size = σ.2 by rw [hT, hz]] at step
  obtain ⟨hA8, hR8⟩ := hK.2.1 8 (.array .int) rfl
  obtain ⟨hA0, hR0⟩ := hK.2.1 0 .int rfl
  have hcA : cA = G.2.2 8 := Option.some.inj (hfA.symm.trans hR8)
  have hcd : d = G.2.2 0 := Option.some.inj (hfd.symm.trans hR0)
  subst hcA
  subst hcd
  obtain ⟨h', hh'⟩ : ∃ h' : qa_H, h' = fun q => if q = σ.2 then some (qa_ra 8 11 (fun i => if 0 ≤ i ∧ i < 11 then some (σ.2 + 1 + i.toNat) else none)) else if σ.2 < q ∧ q < σ.2 + 12 then some (qa_ia 11 (fun _ => 0)) else σ.1 q := ⟨_, rfl⟩
  have g1 : h' σ.2 = some (qa_ra 8 11 (fun i => if 0 ≤ i ∧ i < 11 then some (σ.2 + 1 + i.toNat) else none)) := by rw [hh']; exact if_pos rfl
  have g2 : ∀ q, σ.2 < q ∧ q < σ.2 + 12 → h' q = some (qa_ia 11 (fun _ => 0)) := fun q hq => by rw [hh']; exact (if_neg (by omega)).trans (if_pos hq)
  have g3 : ∀ q, (q < σ.2 ∨ σ.2 + 12 ≤ q) → h' q = σ.1 q := fun q hq => by rw [hh']; exact (if_neg (by omega)).trans (if_neg (by omega))
  have hR' : qa_R9 E G s (h', σ.2 + 12) (sx_T (T.setVm vm1) (G.2.2 8) (G.2.2 0) 11).heap := by
    refine ⟨f1, fun a x hx => ?_⟩
    replace hx : h' a = some x := hx
    by_cases ha : a = σ.2
    · subst ha
      rw [g1] at hx
      obtain rfl := Option.some.inj hx
      have hs1 : qa_atS G σ.2 (qa_ra 8 11 (fun i => if 0 ≤ i ∧ i < 11 then some (σ.2 + 1 + i.toNat) else none)) (sx_T (T.setVm vm1) (G.2.2 8) (G.2.2 0) 11).heap := by
        show _ = some (vp_cell _ _)
        rw [f2, qa_cell]
        refine congrArg some (arrV_eqv _ fun j hj => ?_)
        show (if j < 11 then Value.ref (σ.2 + 1 + j) else Value.null) = va_rf (if 0 ≤ (j : Int) ∧ (j : Int) < 11 then some (σ.2 + 1 + (j : Int).toNat) else none)
        rw [if_pos hj, if_pos (by omega)]
        rfl
      exact ⟨qa_atS.W2 (E := E) rfl hA8 hs1, fun _ => hs1⟩
    · by_cases hb : σ.2 < a ∧ a < σ.2 + 12
      · rw [g2 a hb] at hx
        obtain rfl := Option.some.inj hx
        have hs1 : qa_atS G a (qa_ia 11 (fun _ => 0)) (sx_T (T.setVm vm1) (G.2.2 8) (G.2.2 0) 11).heap := by
          show _ = some (vp_cell _ _)
          have := f6 (a - (σ.2 + 1)) (by omega)
          rw [show σ.2 + 1 + (a - (σ.2 + 1)) = a by omega] at this
          rw [this, qa_cell]
          exact congrArg some (arrV_eqv _ fun j hj => rfl)
        exact ⟨qa_atS.W2 (E := E) rfl hA0 hs1, fun _ => hs1⟩
      · rw [g3 a (by omega)] at hx
        obtain ⟨h1, h2⟩ := hR.2 a x hx
        have hlt := h1.lt
        have hq := f5 a (by omega)
        exact ⟨h1.kept hq, fun hE => (h2 hE).kept hq⟩
  have hS' : va_S (fun q => E.1 ≤ q) s.heap (sx_T (T.setVm vm1) (G.2.2 8) (G.2.2 0) 11).heap locs := ⟨by have := hS.1; omega, fun q q1 q2 => (f5 q (by have := hS.1; omega)).trans (hS.2.1 q q1 q2), hS.2.2⟩
  obtain ⟨t, a1, b1⟩ := k h' g1 (fun r hr => g2 _ (by omega)) g3 G p l e R s m args below meth c (sx_T (T.setVm vm1) (G.2.2 8) (G.2.2 0) 11).heap locs (cells + 12) (slots + 132) ls ok C hR' hS' hL (by omega) (by omega) _ rfl XG
  exact ⟨t, step t a1, b1⟩
theorem qmu_c : Cond.classLink (qa_R 7) 15 ("[" ++ (FieldType.array .int).toString) ∈ qa_tb := (qa_wj 1 189 (by decide +kernel) (by decide +kernel))
theorem qmu_a : Cond.arrayClass .int ∈ qa_tb := (qa_wj 1 71 (by decide +kernel) (by decide +kernel))
theorem qa_lk.setc {τ : qa_S} {a n : Nat} {f g : Int → Int} (h : τ.1 a = some (qa_ca n f)) (hfg : ∀ j : Int, 0 ≤ j → j < n → f j = g j) : qa_lk τ (qa_set τ.1 a (qa_ca n g), τ.2) := by
  refine ⟨rfl, fun b x' hx' => ?_⟩
  by_cases e : b = a
  · subst e
    have h1 : qa_ca n g = x' := Option.some.inj ((qa_set_eq _ _ _).symm.trans hx')
    refine ⟨_, h, Or.inr ⟨_, _, _, _, rfl, h1.symm, fun j hj => ?_⟩⟩
    show qa_i (f j) = qa_i (g j)
    rw [hfg j (by omega) (by omega)]
  · exact ⟨x', (qa_set_ne e).symm.trans hx', Or.inl rfl⟩
set_option maxHeartbeats 16000000 in
theorem c_X_init {E : qa_V} {σ : qa_S} {c : Nat} (hlo : E.1 ≤ c) (hn : σ.2 = c + 1) (hb : σ.1 c = some (.inl (6, [.null, .null]))) : qa_T E qm_X_init 13 142 [.ref c] σ (fun o9 τ => o9 = .inl none ∧ τ.2 = c + 14 ∧ (∀ q, (q < c ∨ c + 14 ≤ q) → τ.1 q = σ.1 q) ∧ sR_X τ.1 c) := by
  refine qa_enterQ (by decide) rfl qm_X_init_ok rfl rfl (fun Q9 hQ => ?_)
  have e0 := hn
  have fr : ∀ q, (q < c ∨ c + 14 ≤ q) → σ.1 q = σ.1 q := fun _ _ => rfl
  refine qa_aload_n (pc' := 1) ⟨rfl, rfl⟩ rfl ?_
  refine qa_objI (pc' := 4) ⟨rfl, rfl⟩ qoi_7_3 qoi_i qoi_c (qa_le9 rfl) ?_
  refine qa_aload_n (pc' := 5) ⟨rfl, rfl⟩ rfl ?_
  refine qa_bipush (z := 10) (pc' := 7) ⟨rfl, rfl⟩ rfl ?_
  refine qa_newarr (pc' := 9) (t := 0) (N := 10) (y := (10, .inl (fun q => qa_i ((fun _ : Int => 0) q)))) ⟨rfl, rfl⟩ rfl rfl qa_ac_int rfl (by omega) (fun _ _ => rfl) (qa_le9 rfl) (fun _ _ => Iff.rfl) ?_
  refine qa_gn (fun τ1 e1 w1 f1 => ?_)
  replace w1 : _ = some (qa_ia 10 (fun _ => 0)) := w1
  rw [e0] at e1 w1 f1 ⊢
  replace hb := (f1 _ (by omega)).trans hb
  replace fr := fun q hq => (f1 q (by have := hq; omega)).trans (fr q hq)
  replace e0 := e1
  have hbo := w1
  refine qa_putf (fs' := [_, _]) (pc' := 12) ⟨rfl, rfl⟩ qg_7_9 qw_6 hb (by omega) rfl (fun r hr => by cases hr; exact ⟨rfl, Or.inr ⟨rfl, rfl, rfl⟩⟩) rfl rfl ?_
  refine qa_gz (fun τ2 e2 w2 f2 => ?_)
  replace hbo := (f2 _ (by omega)).trans hbo
  replace fr := fun q hq => (f2 q (by have := hq; omega)).trans (fr q hq)
  replace e0 := e2.trans e0
  have hb := w2
  refine qa_aload_n (pc' := 13) ⟨rfl, rfl⟩ rfl ?_
  refine qa_bipush (z := 11) (pc' := 15) ⟨rfl, rfl⟩ rfl ?_
  refine qa_bipush (z := 11) (pc' := 17) ⟨rfl, rfl⟩ rfl ?_
  refine qa_multi (pc' := 21) ⟨rfl, rfl⟩ qmu_c qmu_a (fun h9 m1 m2 m3 => ?_)
  rw [e0] at m1 m2 m3 ⊢
  replace hb := (m3 _ (by omega)).trans hb
  replace hbo := (m3 _ (by omega)).trans hbo
  replace fr := fun q hq => (m3 q (by have := hq; omega)).trans (fr q hq)
  have e7 : ((h9, c + 1 + 1 + 12) : qa_S).2 = c + 14 := by show c + 1 + 1 + 12 = c + 14; omega
  generalize hτ : ((h9, c + 1 + 1 + 12) : qa_S) = τ7 at *
  have hτ1 : τ7.1 = h9 := by rw [← hτ]
  rw [← hτ1] at m1 m2 m3 hb hbo fr
  clear e0
  have e0 := e7
  refine qa_putf (fs' := [_, _]) (pc' := 24) ⟨rfl, rfl⟩ qg_7_17 qw_6 hb (by omega) rfl (fun r hr => by cases hr; exact ⟨rfl, Or.inr ⟨rfl, rfl, rfl⟩⟩) rfl rfl ?_
  refine qa_gz (fun τ21 e21 w21 f21 => ?_)
  replace hbo := (f21 _ (by omega)).trans hbo
  replace fr := fun q hq => (f21 q (by have := hq; omega)).trans (fr q hq)
  replace e0 := e21.trans e0
  have hb := w21
  refine qa_return rfl rfl (hQ _ _ ⟨rfl, e0, fr, _, fun _ _ => 0, hb, hbo, rfl, (f21 _ (by omega)).trans m1, fun r hr => (f21 _ (by omega)).trans (m2 r hr), fun _ => rfl, fun _ => rfl⟩)
