section QR2
variable {E : qa_V} {M : qa_M} {Q : qa_O → qa_S → Prop} {kc ks pc pc' : Nat} {L : qa_L} {st : List Value} {σ : qa_S}
/-- an object of a class of which nobody says that it can be made is stored -/
theorem qa_aastoreA {a n t v ci : Nat} {f : Int → Option Nat} {j : Int} {nm : String} {fs : List Value} (hd : qa_op M pc (.aastore) 1 pc') (hx : σ.1 a = some (qa_ra t n f)) (hlo : E.1 ≤ a) (hj : 0 ≤ j ∧ j < n ∧ j < 2147483648) (hv : σ.1 v = some (.inl (ci, fs))) (hty : qa_ty[t]? = some (.object nm)) (hnm : (qa_cl[ci]?).map (fun r => r.1) = some nm) (hin : Cond.initialized nm ∈ qa_tb)
    (k : qa_W E M Q kc ks pc' L st (qa_set σ.1 a (qa_ra t n (qa_upq f j (some v))), σ.2)) : qa_W E M Q kc ks pc L (.ref v :: .int (qa_i j) :: .ref a :: st) σ := by
  obtain ⟨hd, rfl⟩ := hd
  intro G p l e R s m args below meth c H locs cells slots ls ok C hR hS hL hc hs
  have hts := C.2.2.2.2.2.2.2.2.2.2.2.2.2
  have hK := C.2.2.2.2.2.2.2.2.2.2.2.2.1
  obtain ⟨g1, g2, g3, g4⟩ := qa_at.arrS hK hR hx hlo hty hj
  have hi := hts _ hin
  cases i1 : s.vm.findClass nm with
  | none => simp [Cond.before, Cond.holds, Cond.value, i1] at hi
  | some cC =>
  cases i2 : s.vm.classes[cC]? with
  | none => simp [Cond.before, Cond.holds, Cond.value, i1, i2] at hi
  | some kC =>
  obtain ⟨cellV, c1, c2, c3, c4, -⟩ := (hR.2 v _ hv).1
  obtain ⟨kA, comp, k1, k2, k3, -⟩ := (hK.2.1 t _ hty).2
  have hcomp : comp = cC := Option.some.inj (k3.symm.trans i1)
  subst hcomp
  have hcv : cellV.cls = comp := by
    cases hci : qa_cl[ci]? with
    | none => rw [hci] at hnm; cases hnm
    | some r =>
      rw [hci] at hnm
      cases hnm
      rw [c2]
      exact Option.some.inj ((hK.1 ci r hci).2.symm.trans i1)
  have g4' : ¬ qa_i j < 0 ∧ (qa_i j).toNatClampNeg < (vp_cell (G.2.2 t) (n, .inr (.inr (.inr (.inr (fun q : Nat => f q)))))).slots.size := ⟨fun h => g4 (Or.inl h), Nat.not_le.mp fun h => g4 (Or.inr h)⟩
  refine W.aast C.1 C.2.1 g1 (fun q h => by cases h) (fun h => by cases h) k1 k2 rfl i2 g4' c1 (fun q h => by rw [h] at c4; cases c4) (by rw [hcv]; exact i2) (by rw [hcv]; show (comp == comp || _) = true; rw [beq_self_eq_true]; rfl) rfl rfl (ok _ _ _ hd) fun H1 e8 z oq => ?_
  refine k G p l e R s m args below meth c H1 _ cells slots ls ok C (qa_put9 hK hR hty z oq ?_) (hS.put z oq hlo) hL hc hs
  rw [e8, vp_cell_q, vp_cell_q, arrV_store]
  congr 2
  funext q
  simp only [updV, qa_upq, qa_i_ix hj.1 hj.2.2]
  by_cases hq : q = j.toNat
  · rw [if_pos hq, if_pos (by omega)]; rfl
  · rw [if_neg hq, if_neg (by omega)]
theorem qa_getsN {idx j : Nat} {z : String × String × String} {v : Value} {host : String} (hd : qa_op M pc (.getstatic idx) 3 pc') (hz : qa_st[j]? = some z) (hl : Cond.fieldLinkNest (qa_R (qa_ow M)) idx z.1 z.2.1 z.2.2 host ∈ lw_tbl) (hv : E.2 j = v)
    (k : qa_W E M Q kc ks pc' L (v :: st) σ) : qa_W E M Q kc ks pc L st σ := by
  obtain ⟨hd, rfl⟩ := hd
  intro G p l e R s m args below meth c H locs cells slots ls ok C hR hS hL hc hs
  subst hv
  exact va_getsN C.1 C.2.1 ((C.2.2.2.2.2.2.2.2.2.2.2.2.1).2.2.2.2.1 j z hz) hS C.2.2.2.2.2.1 (va_Nw.use rfl ((C.2.2.2.2.2.2.2.2.2.2.2.2.1).2.2.1 _ hl rfl)) (fun _ h => h) (ok _ _ _ hd) (k G p l e R s m args below meth c H locs cells slots ls ok C hR hS hL hc hs)
end QR2
theorem qsn_8_65 : Cond.fieldLinkNest (qa_R 8) 65 "CutleryOrchestra$Action" "ALL" "[LCutleryOrchestra$Action;" "CutleryOrchestra" ∈ lw_tbl := (qa_wm 7 114 (by decide +kernel))
theorem sc_fm_stop {t : List Int} {F : Int → Int} {j : Nat} {s : sc_R} (h : (sc_fm t F j s).1 = 0) : ∀ d : Nat, sc_fm t F (j + d) s = sc_fm t F j s
  | 0 => rfl
  | d + 1 => by
    show sc_st t (F ((j + d : Nat) : Int)) (sc_fm t F (j + d) s) = _
    unfold sc_st
    rw [sc_fm_stop h d, if_pos h]
theorem c_R_readForm {E : qa_V} {σ : qa_S} {r v : Nat} {t : List Int} {tot o at9 : Int} {k : Nat} {Z : Nat → Nat} {ar : Int → Int} (hZ : qa_St E Z σ.1) (k9 : k < 11) (hz : qa_Sb E) (hlo : E.1 ≤ r) (hr : σ.1 r = some (qa_RdF r tot o at9)) (hB : sR_B σ.1 (r + 1) v t) (hv9 : v ≠ r) (ho : 0 ≤ o ∧ o ≤ t.length) (hl : t.length ≤ 60) (ha : σ.1 (r + 4) = some (qa_ia 39 ar)) (ht : 0 ≤ tot ∧ tot ≤ 12) : qa_T E qm_R_readForm 0 0 [.ref r, .ref (Z (30 + k))] σ (fun o9 τ => o9 = .inl (some (.int (qa_i (sc_k t o k).1))) ∧ τ.2 = σ.2 ∧ τ.1 r = some (qa_RdF r tot (sc_k t o k).2.1 ((sc_k t o k).2.2.length : Int)) ∧ τ.1 (r + 4) = some (qa_ia 39 (sc_wr ar (3 * tot) (sc_k t o k).2.2)) ∧ ∀ q, q ≠ r → q ≠ r + 4 → τ.1 q = σ.1 q) := by
  refine qa_enterQ (by decide) rfl qm_R_readForm_ok rfl rfl (fun Q9 hQ => ?_)
  have zl := hZ.1
  have kb := sc_fm_b (F := qz_frm k) ho (qz_len k)
  have ln := sc_ln_b ⟨k, k9⟩
  simp only at ln
  have e0 : σ.2 = σ.2 := rfl
  refine qa_aload_n (pc' := 1) ⟨rfl, rfl⟩ rfl ?_
  refine qa_iconst (pc' := 2) ⟨rfl, rfl⟩ ?_
  refine qa_putf (fs' := [_, _, _, _, _, _]) (pc' := 5) ⟨rfl, rfl⟩ qg_8_82 qw_7 (by assumption) (by omega) rfl (fun r hr => by cases hr; exact ⟨rfl, Or.inl rfl⟩) rfl rfl ?_
  refine qa_gz (fun τ41 e41 w41 f41 => ?_)
  replace e0 := e41.trans e0
  refine qa_iconst (pc' := 6) ⟨rfl, rfl⟩ ?_
  refine qa_istore_n (L' := [(0, _), (1, _), (2, _)]) (pc' := 7) ⟨rfl, rfl⟩ rfl rfl ?_
  have hv94 : v ≠ r + 4 := by intro h; obtain ⟨ml, cap, f, -, hv8, -⟩ := hB; rw [h] at hv8; exact absurd (ha.symm.trans hv8) (by intro h9; cases h9)
  have lp : ∀ (f : Nat) (τ : qa_S) (j : Nat) (s : sc_R), (j + f = qz_len k ∧ τ.2 = σ.2 ∧ sc_fm t (qz_frm k) j (1, o, []) = s ∧ s.1 = 1 ∧ τ.1 r = some (qa_RdF r tot s.2.1 (s.2.2.length : Int)) ∧ τ.1 (r + 4) = some (qa_ia 39 (sc_wr ar (3 * tot) s.2.2)) ∧ ∀ q, q ≠ r → q ≠ r + 4 → τ.1 q = σ.1 q) → qa_W E qm_R_readForm Q9 0 0 7 [(0, .ref r), (1, .ref (Z (30 + k))), (2, .int (qa_i (j : Int)))] [] τ := by
    intro f
    induction f with
    | zero =>
      intro τ j s ⟨hkf, he, hs, h1, hr1, ha1, hfr⟩
      have hZ1 := hZ.to (fun q hq => hfr q (by omega) (by omega))
      have zb := hZ1.2.2.2.2.2.2.2.2.2.2.2 k k9
      have hB1 := hB.fr (hfr (r + 1) (by omega) (by omega)) (hfr v hv9 hv94)
      refine qa_iload_n (pc' := 8) ⟨rfl, rfl⟩ rfl ?_
      refine qa_aload_n (pc' := 9) ⟨rfl, rfl⟩ rfl ?_
      refine qa_callV rfl qf_ST_length ql_8_85 (c_ST_length (E := E) hz zb.2.1 zb.2.2) zb.2.1 rfl rfl rfl (qa_lt9 rfl) (qa_le9 rfl) (qa_le9 rfl) (qa_le9 rfl) (fun o9 τ9 hq9 => ?_)
      obtain ⟨rfl, hq9⟩ := hq9
      replace hq9 := hq9.symm; subst hq9
      refine qa_nx (pc' := 12) (st' := [_, _]) rfl rfl rfl rfl ?_
      refine qa_icmp_ge (pc' := 15) (tgt := 35) ⟨rfl, rfl⟩ rfl (by omega) (by omega) (fun hc1 => ?_) (fun hc1 => ?_)
      · refine qa_iconst (pc' := 36) ⟨rfl, rfl⟩ ?_
        have ej : j = qz_len k := by omega
        subst ej
        refine qa_ireturn rfl rfl rfl (hQ _ _ ?_)
        unfold sc_k; rw [hs]; rw [hs] at kb
        exact ⟨by rw [h1], he, hr1, ha1, hfr⟩
      · exact absurd hc1 (by omega)
    | succ f ih =>
      intro τ j s ⟨hkf, he, hs, h1, hr1, ha1, hfr⟩
      have hZ1 := hZ.to (fun q hq => hfr q (by omega) (by omega))
      have zb := hZ1.2.2.2.2.2.2.2.2.2.2.2 k k9
      have hB1 := hB.fr (hfr (r + 1) (by omega) (by omega)) (hfr v hv9 hv94)
      refine qa_iload_n (pc' := 8) ⟨rfl, rfl⟩ rfl ?_
      refine qa_aload_n (pc' := 9) ⟨rfl, rfl⟩ rfl ?_
      refine qa_callV rfl qf_ST_length ql_8_85 (c_ST_length (E := E) hz zb.2.1 zb.2.2) zb.2.1 rfl rfl rfl (qa_lt9 rfl) (qa_le9 rfl) (qa_le9 rfl) (qa_le9 rfl) (fun o9 τ9 hq9 => ?_)
      obtain ⟨rfl, hq9⟩ := hq9
      replace hq9 := hq9.symm; subst hq9
      refine qa_nx (pc' := 12) (st' := [_, _]) rfl rfl rfl rfl ?_
      refine qa_icmp_ge (pc' := 15) (tgt := 35) ⟨rfl, rfl⟩ rfl (by omega) (by omega) (fun hc1 => ?_) (fun hc1 => ?_)
      · exact absurd hc1 (by omega)
      · have hj9 : j < qz_len k := by omega
        have c3 := sc_ct_3 ⟨k, k9⟩ ⟨j, by omega⟩ hj9
        simp only at c3
        have jb := sc_fm_b (F := qz_frm k) ho j
        rw [hs] at jb
        have jl := jb.2.2.2.1
        refine qa_aload_n (pc' := 16) ⟨rfl, rfl⟩ rfl ?_
        refine qa_aload_n (pc' := 17) ⟨rfl, rfl⟩ rfl ?_
        refine qa_iload_n (pc' := 18) ⟨rfl, rfl⟩ rfl ?_
        refine qa_callV rfl qf_ST_charAt ql_8_88 (c_ST_charAt (E := E) (j := (j : Int)) hz zb.2.1 zb.2.2 (by omega) (by omega) (by omega)) zb.2.1 rfl rfl rfl (qa_lt9 rfl) (qa_le9 rfl) (qa_le9 rfl) (qa_le9 rfl) (fun o9 τ9 hq9 => ?_)
        obtain ⟨rfl, hq9⟩ := hq9
        replace hq9 := hq9.symm; subst hq9
        refine qa_nx (pc' := 21) (st' := [_, _]) rfl rfl rfl rfl ?_
        refine qa_callV rfl qf_R_readSign ql_8_92 (c_R_readSign (E := E) (x := qz_frm k (j : Int)) hz hlo hr1 hB1 hv9 (by omega) hl (by omega) ha1 ht ⟨by omega, fun h => by rw [if_pos h] at c3; omega⟩) hr1 rfl rfl rfl (qa_lt9 rfl) (qa_le9 rfl) (qa_le9 rfl) (qa_le9 rfl) (fun o9 τ9 hq9 => ?_)
        obtain ⟨rfl, e1, w1, w2, f1⟩ := hq9
        refine qa_nx (pc' := 24) (st' := [_]) rfl rfl rfl rfl ?_
        have sb := sc_sg_b (t := t) (x := qz_frm k (j : Int)) (o := s.2.1) ⟨by omega, jb.2.2.1⟩
        have hs1 : sc_fm t (qz_frm k) (j + 1) (1, o, []) = ((sc_sg t (qz_frm k (j : Int)) s.2.1).1, (sc_sg t (qz_frm k (j : Int)) s.2.1).2.1, s.2.2 ++ (sc_sg t (qz_frm k (j : Int)) s.2.1).2.2) := by unfold sc_fm sc_st; rw [hs, if_neg (by omega)]
        have ewr : sc_wr (sc_wr ar (3 * tot) s.2.2) (3 * tot + s.2.2.length) (sc_sg t (qz_frm k (j : Int)) s.2.1).2.2 = sc_wr ar (3 * tot) (s.2.2 ++ (sc_sg t (qz_frm k (j : Int)) s.2.1).2.2) := (sc_wr_app _ _ _ _).symm
        have eln : (s.2.2.length : Int) + ((sc_sg t (qz_frm k (j : Int)) s.2.1).2.2.length : Int) = (((s.2.2 ++ (sc_sg t (qz_frm k (j : Int)) s.2.1).2.2).length : Nat) : Int) := by rw [List.length_append]; omega
        rw [ewr] at w2
        rw [eln] at w1
        refine qa_if_ne (pc' := 27) (tgt := 29) ⟨rfl, rfl⟩ rfl (by omega) (fun hc2 => ?_) (fun hc2 => ?_)
        · refine qa_iinc (L' := [(0, _), (1, _), (2, _)]) (z := ((j + 1 : Nat) : Int)) (pc' := 32) ⟨rfl, rfl⟩ rfl (by omega) rfl rfl ?_
          refine qa_goto (pc' := 35) (tgt := 7) ⟨rfl, rfl⟩ rfl ?_
          refine ih _ (j + 1) _ ⟨by omega, e1.trans he, hs1, by show (sc_sg t (qz_frm k (j : Int)) s.2.1).1 = 1; omega, w1, w2, fun q q1 q2 => (f1 q q1 q2).trans (hfr q q1 q2)⟩
        · refine qa_iconst (pc' := 28) ⟨rfl, rfl⟩ ?_
          have h0 : (sc_sg t (qz_frm k (j : Int)) s.2.1).1 = 0 := by omega
          have est : sc_k t o k = ((sc_sg t (qz_frm k (j : Int)) s.2.1).1, (sc_sg t (qz_frm k (j : Int)) s.2.1).2.1, s.2.2 ++ (sc_sg t (qz_frm k (j : Int)) s.2.1).2.2) := by
            unfold sc_k; rw [← hs1, show qz_len k = j + 1 + (qz_len k - (j + 1)) by omega]; exact sc_fm_stop (by rw [hs1]; exact h0) _
          rw [est] at hQ
          refine qa_ireturn rfl rfl rfl (hQ _ _ ⟨by simp only [h0], e1.trans he, w1, w2, fun q q1 q2 => (f1 q q1 q2).trans (hfr q q1 q2)⟩)
  exact lp (qz_len k) τ41 0 (1, o, []) ⟨by omega, e41, rfl, rfl, w41, (f41 _ (by omega)).trans ha, fun q q1 q2 => f41 q q1⟩
theorem c_R_readCommand {E : qa_V} {σ : qa_S} {r v : Nat} {t : List Int} {tot o at9 : Int} {Z : Nat → Nat} {ar : Int → Int} {fa : Int → Option Nat} (hZ : qa_St E Z σ.1) (hz : qa_Sb E) (hlo : E.1 ≤ r) (hr : σ.1 r = some (qa_RdF r tot o at9)) (hB : sR_B σ.1 (r + 1) v t) (hv9 : v ≠ r) (ho : 0 ≤ o ∧ o ≤ t.length) (hl : t.length ≤ 60) (hv93 : v ≠ r + 3) (ha : σ.1 (r + 4) = some (qa_ia 39 ar)) (hac : σ.1 (r + 3) = some (qa_ra 7 13 fa)) (ht : 0 ≤ tot ∧ tot ≤ 12) (hb9 : ∀ j : Int, -999 ≤ ar j ∧ ar j ≤ 999) : qa_T E qm_R_readCommand 0 0 [.ref r] σ (fun o9 τ => o9 = .inl (some (.int (qa_i (sc_tr t o 11 0 o).1))) ∧ τ.2 = σ.2 ∧ (∀ q, q ≠ r → q ≠ r + 3 → q ≠ r + 4 → τ.1 q = σ.1 q) ∧ ∃ (ar1 : Int → Int) (at1 : Int), τ.1 (r + 4) = some (qa_ia 39 ar1) ∧ (∀ j : Int, -999 ≤ ar1 j ∧ ar1 j ≤ 999) ∧ (∀ j : Int, j < 3 * tot → ar1 j = ar j) ∧ (((sc_tr t o 11 0 o).1 = 0 ∧ τ.1 r = some (qa_RdF r tot (sc_tr t o 11 0 o).2.1 at1) ∧ τ.1 (r + 3) = some (qa_ra 7 13 fa)) ∨ ((sc_tr t o 11 0 o).1 = 1 ∧ τ.1 r = some (qa_RdF r (tot + 1) (sc_tr t o 11 0 o).2.1 at1) ∧ τ.1 (r + 3) = some (qa_ra 7 13 (qa_upq fa tot (some (Z (10 + (sc_tr t o 11 0 o).2.2.1))))) ∧ ∀ j : Nat, j < (sc_tr t o 11 0 o).2.2.2.length → (sc_tr t o 11 0 o).2.2.2[j]? = some (ar1 (3 * tot + j))))) := by
  refine qa_enterQ (by decide) rfl qm_R_readCommand_ok rfl rfl (fun Q9 hQ => ?_)
  have zl := hZ.1
  have hv94 : v ≠ r + 4 := by intro h; obtain ⟨ml, cap, f, -, hv8, -⟩ := hB; rw [h] at hv8; exact absurd (ha.symm.trans hv8) (by intro h9; cases h9)
  refine qa_aload_n (pc' := 1) ⟨rfl, rfl⟩ rfl ?_
  refine qa_getf (pc' := 4) ⟨rfl, rfl⟩ qg_8_54 (by assumption) rfl ?_
  refine qa_istore_n (L' := [(0, _), (1, _)]) (pc' := 5) ⟨rfl, rfl⟩ rfl rfl ?_
  refine qa_iload_n (pc' := 6) ⟨rfl, rfl⟩ rfl ?_
  refine qa_istore_n (L' := [(0, _), (1, _), (2, _)]) (pc' := 7) ⟨rfl, rfl⟩ rfl rfl ?_
  refine qa_iconst (pc' := 8) ⟨rfl, rfl⟩ ?_
  refine qa_istore_n (L' := [(0, _), (1, _), (2, _), (3, _)]) (pc' := 9) ⟨rfl, rfl⟩ rfl rfl ?_
  have lp : ∀ (f : Nat) (τ : qa_S) (k : Nat) (far p a1 : Int) (ar1 : Int → Int), (k + f = 11 ∧ τ.2 = σ.2 ∧ τ.1 r = some (qa_RdF r tot p a1) ∧ τ.1 (r + 4) = some (qa_ia 39 ar1) ∧ (∀ j : Int, -999 ≤ ar1 j ∧ ar1 j ≤ 999) ∧ (∀ j : Int, j < 3 * tot → ar1 j = ar j) ∧ (∀ q, q ≠ r → q ≠ r + 4 → τ.1 q = σ.1 q) ∧ (o ≤ far ∧ far ≤ t.length) ∧ sc_tr t o f k far = sc_tr t o 11 0 o) → qa_W E qm_R_readCommand Q9 0 0 9 [(0, .ref r), (1, .int (qa_i o)), (2, .int (qa_i far)), (3, .int (qa_i (k : Int)))] [] τ := by
    intro f
    induction f with
    | zero =>
      intro τ k far p a1 ar1 ⟨hkf, he, hr1, ha1, hb1, hlt1, hfr, hfar, hs⟩
      have hZ1 := hZ.to (fun q hq => hfr q (by omega) (by omega))
      have z15 := hZ1.2.2.2.1
      have zh1 := hZ1.2.2.2.2.2.2.2.2.1
      refine qa_iload_n (pc' := 10) ⟨rfl, rfl⟩ rfl ?_
      refine qa_getsN (j := 15) (pc' := 13) ⟨rfl, rfl⟩ rfl qsn_8_65 z15 ?_
      refine qa_alen (pc' := 14) ⟨rfl, rfl⟩ zh1 ?_
      refine qa_icmp_ge (pc' := 17) (tgt := 78) ⟨rfl, rfl⟩ rfl (by omega) (by omega) (fun hc1 => ?_) (fun hc1 => ?_)
      · have e0 := he
        refine qa_aload_n (pc' := 79) ⟨rfl, rfl⟩ rfl ?_
        refine qa_iload_n (pc' := 80) ⟨rfl, rfl⟩ rfl ?_
        refine qa_putf (fs' := [_, _, _, _, _, _]) (pc' := 83) ⟨rfl, rfl⟩ qg_8_54 qw_7 (by assumption) (by omega) rfl (fun r hr => by cases hr; exact ⟨rfl, Or.inl rfl⟩) rfl rfl ?_
        refine qa_gz (fun τ21 e21 w21 f21 => ?_)
        replace ha1 := (f21 _ (by omega)).trans ha1
        replace e0 := e21.trans e0
        refine qa_iconst (pc' := 84) ⟨rfl, rfl⟩ ?_
        have hst : sc_tr t o 11 0 o = (0, far, 11, []) := by rw [← hs, show k = 11 by omega]; rfl
        rw [hst] at hQ
        refine qa_ireturn rfl rfl rfl (hQ _ _ ⟨rfl, e0, fun q q1 q2 q3 => (f21 q q1).trans (hfr q q1 q3), ar1, a1, ha1, hb1, hlt1, Or.inl ⟨rfl, w21, (f21 _ (by omega)).trans ((hfr _ (by omega) (by omega)).trans hac)⟩⟩)
      · exact absurd hc1 (by omega)
    | succ f ih =>
      intro τ k far p a1 ar1 ⟨hkf, he, hr1, ha1, hb1, hlt1, hfr, hfar, hs⟩
      have hZ1 := hZ.to (fun q hq => hfr q (by omega) (by omega))
      have z15 := hZ1.2.2.2.1
      have zh1 := hZ1.2.2.2.2.2.2.2.2.1
      refine qa_iload_n (pc' := 10) ⟨rfl, rfl⟩ rfl ?_
      refine qa_getsN (j := 15) (pc' := 13) ⟨rfl, rfl⟩ rfl qsn_8_65 z15 ?_
      refine qa_alen (pc' := 14) ⟨rfl, rfl⟩ zh1 ?_
      refine qa_icmp_ge (pc' := 17) (tgt := 78) ⟨rfl, rfl⟩ rfl (by omega) (by omega) (fun hc1 => ?_) (fun hc1 => ?_)
      · exact absurd hc1 (by omega)
      · have k9 : k < 11 := by omega
        have zb := hZ1.2.2.2.2.2.2.2.2.2.2.2 k k9
        have zl1 := zl 1
        have zl2 := zl (10 + k)
        have hac1 := (hfr (r + 3) (by omega) (by omega)).trans hac
        have e0 := he
        refine qa_aload_n (pc' := 18) ⟨rfl, rfl⟩ rfl ?_
        refine qa_iload_n (pc' := 19) ⟨rfl, rfl⟩ rfl ?_
        refine qa_putf (fs' := [_, _, _, _, _, _]) (pc' := 22) ⟨rfl, rfl⟩ qg_8_54 qw_7 (by assumption) (by omega) rfl (fun r hr => by cases hr; exact ⟨rfl, Or.inl rfl⟩) rfl rfl ?_
        refine qa_gz (fun τ21 e21 w21 f21 => ?_)
        replace ha1 := (f21 _ (by omega)).trans ha1
        replace hac1 := (f21 _ (by omega)).trans hac1
        replace e0 := e21.trans e0
        have hZ2 := hZ1.to (fun q hq => f21 q (by omega))
        have zb2 := hZ2.2.2.2.2.2.2.2.2.2.2.2 k k9
        have z152 := hZ2.2.2.2.1
        have zh12 := hZ2.2.2.2.2.2.2.2.2.1
        have hB1 := hB.fr ((f21 (r + 1) (by omega)).trans (hfr (r + 1) (by omega) (by omega))) ((f21 v hv9).trans (hfr v hv9 hv94))
        refine qa_aload_n (pc' := 23) ⟨rfl, rfl⟩ rfl ?_
        refine qa_getsN (j := 15) (pc' := 26) ⟨rfl, rfl⟩ rfl qsn_8_65 z152 ?_
        refine qa_iload_n (pc' := 27) ⟨rfl, rfl⟩ rfl ?_
        refine qa_aaload (pc' := 28) ⟨rfl, rfl⟩ zh12 rfl rfl (by omega) (show _ = some (Z (10 + k)) from rfl) ?_
        refine qa_getf (pc' := 31) ⟨rfl, rfl⟩ qg_8_68 zb2.1 rfl ?_
        refine qa_callV rfl qf_R_readForm ql_8_72 (c_R_readForm (E := E) hZ2 k9 hz hlo w21 hB1 hv9 ho hl ha1 ht) w21 rfl rfl rfl (qa_lt9 rfl) (qa_le9 rfl) (qa_le9 rfl) (qa_le9 rfl) (fun o9 τ9 hq9 => ?_)
        obtain ⟨rfl, e3, w3, w4, f3⟩ := hq9
        refine qa_nx (pc' := 34) (st' := [_]) rfl rfl rfl rfl ?_
        have kb := sc_fm_b (F := qz_frm k) ho (qz_len k)
        rw [show sc_fm t (qz_frm k) (qz_len k) (1, o, []) = sc_k t o k from rfl] at kb
        have hb2 := sc_wr_b (sc_k t o k).2.2 ar1 (3 * tot) hb1 kb.2.2.2.2.1
        have hac2 := (f3 (r + 3) (by omega) (by omega)).trans hac1
        refine qa_if_eq (pc' := 37) (tgt := 63) ⟨rfl, rfl⟩ rfl (by omega) (fun hc2 => ?_) (fun hc2 => ?_)
        · have h0 : (sc_k t o k).1 = 0 := by omega
          refine qa_iload_n (pc' := 64) ⟨rfl, rfl⟩ rfl ?_
          refine qa_aload_n (pc' := 65) ⟨rfl, rfl⟩ rfl ?_
          refine qa_getf (pc' := 68) ⟨rfl, rfl⟩ qg_8_54 (by assumption) rfl ?_
          refine qa_callS rfl qf_MA_max rfl ql_8_76 (c_MA_max (E := E) (by omega) (by omega)) rfl rfl (qa_lt9 rfl) (qa_le9 rfl) (qa_le9 rfl) (qa_le9 rfl) (fun o9 τ9 hq9 => ?_)
          obtain ⟨rfl, hq9⟩ := hq9
          replace hq9 := hq9.symm; subst hq9
          refine qa_nx (pc' := 71) (st' := [_]) rfl rfl rfl rfl ?_
          refine qa_istore_n (L' := [(0, _), (1, _), (2, _), (3, _)]) (pc' := 72) ⟨rfl, rfl⟩ rfl rfl ?_
          refine qa_iinc (L' := [(0, _), (1, _), (2, _), (3, _)]) (z := ((k + 1 : Nat) : Int)) (pc' := 75) ⟨rfl, rfl⟩ rfl (by omega) rfl rfl ?_
          refine qa_goto (pc' := 78) (tgt := 9) ⟨rfl, rfl⟩ rfl ?_
          refine ih _ (k + 1) _ _ _ (sc_wr ar1 (3 * tot) (sc_k t o k).2.2) ⟨by omega, e3.trans e0, w3, w4, hb2, fun j hj => (sc_wr_lt _ _ _ _ hj).trans (hlt1 j hj), fun q q1 q2 => (f3 q q1 q2).trans ((f21 q q1).trans (hfr q q1 q2)), by split <;> omega, ?_⟩
          rw [← hs]; conv => rhs; unfold sc_tr
          rw [if_pos h0]
        · have h1 : (sc_k t o k).1 = 1 := by omega
          have hst : sc_tr t o 11 0 o = (1, (sc_k t o k).2.1, k, (sc_k t o k).2.2) := by
            rw [← hs]
            conv => lhs; unfold sc_tr
            rw [if_neg (by omega)]
          have hZ3 := hZ2.to (fun q hq => f3 q (by omega) (by omega))
          have zb3 := hZ3.2.2.2.2.2.2.2.2.2.2.2 k k9
          have z153 := hZ3.2.2.2.1
          have zh13 := hZ3.2.2.2.2.2.2.2.2.1
          refine qa_aload_n (pc' := 38) ⟨rfl, rfl⟩ rfl ?_
          refine qa_getf (pc' := 41) ⟨rfl, rfl⟩ qg_8_20 (by assumption) rfl ?_
          refine qa_aload_n (pc' := 42) ⟨rfl, rfl⟩ rfl ?_
          refine qa_getf (pc' := 45) ⟨rfl, rfl⟩ qg_8_40 (by assumption) rfl ?_
          refine qa_getsN (j := 15) (pc' := 48) ⟨rfl, rfl⟩ rfl qsn_8_65 z153 ?_
          refine qa_iload_n (pc' := 49) ⟨rfl, rfl⟩ rfl ?_
          refine qa_aaload (pc' := 50) ⟨rfl, rfl⟩ zh13 rfl rfl (by omega) (show _ = some (Z (10 + k)) from rfl) ?_
          refine qa_aastoreA (pc' := 51) ⟨rfl, rfl⟩ hac2 (by omega) (by omega) zb3.1 rfl rfl qini_11 ?_
          refine qa_gz (fun τ5 e5 w5 f5 => ?_)
          replace w3 := (f5 _ (by omega)).trans w3
          have e9 := e5.trans (e3.trans e0)
          replace e0 := e9
          refine qa_aload_n (pc' := 52) ⟨rfl, rfl⟩ rfl ?_
          refine qa_dup (pc' := 53) ⟨rfl, rfl⟩ rfl ?_
          refine qa_getf (pc' := 56) ⟨rfl, rfl⟩ qg_8_40 (by assumption) rfl ?_
          refine qa_iconst (pc' := 57) ⟨rfl, rfl⟩ ?_
          refine qa_iadd (z := tot + 1) (pc' := 58) ⟨rfl, rfl⟩ rfl ?_
          refine qa_putf (fs' := [_, _, _, _, _, _]) (pc' := 61) ⟨rfl, rfl⟩ qg_8_40 qw_7 (by assumption) (by omega) rfl (fun r hr => by cases hr; exact ⟨rfl, Or.inl rfl⟩) rfl rfl ?_
          refine qa_gz (fun τ6 e6 w6 f6 => ?_)
          replace w5 := (f6 _ (by omega)).trans w5
          replace e0 := e6.trans e0
          refine qa_iconst (pc' := 62) ⟨rfl, rfl⟩ ?_
          rw [hst] at hQ
          refine qa_ireturn rfl rfl rfl (hQ _ _ ⟨rfl, e0, fun q q1 q2 q3 => (f6 q q1).trans ((f5 q q2).trans ((f3 q q1 q3).trans ((f21 q q1).trans (hfr q q1 q3)))), sc_wr ar1 (3 * tot) (sc_k t o k).2.2, _, (f6 _ (by omega)).trans ((f5 _ (by omega)).trans w4), hb2, fun j hj => (sc_wr_lt _ _ _ _ hj).trans (hlt1 j hj), Or.inr ⟨rfl, w6, w5, fun j hj => sc_wr_at _ _ _ _ hj⟩⟩)
  exact lp 11 σ 0 o o at9 ar ⟨by omega, rfl, hr, ha, hb9, fun _ _ => rfl, fun _ _ _ => rfl, by omega, rfl⟩
/-- the reader at r, the input's bytes at v: its text, the commands that it read last -/
def sR_R (h : qa_H) (r v : Nat) (t : List Int) (cs : sc_C) (Z : Nat → Nat) : Prop := ∃ (o at9 : Int) (fa : Int → Option Nat) (ar : Int → Int), h r = some (qa_RdF r (cs.length : Int) o at9) ∧ sR_B h (r + 1) v t ∧ (v ≠ r ∧ v ≠ r + 3) ∧ h (r + 3) = some (qa_ra 7 13 fa) ∧ h (r + 4) = some (qa_ia 39 ar) ∧ t.length ≤ 60 ∧ cs.length ≤ 13 ∧ (∀ j : Int, -999 ≤ ar j ∧ ar j ≤ 999) ∧
  ∀ (i : Nat) (x : Nat × List Int), cs[i]? = some x → fa i = some (Z (10 + x.1)) ∧ x.1 < 11 ∧ ∀ j : Nat, j < x.2.length → x.2[j]? = some (ar (3 * (i : Int) + j))
theorem sR_R.fr {h h' : qa_H} {r v : Nat} {t : List Int} {cs : sc_C} {Z : Nat → Nat} (H : sR_R h r v t cs Z) (hf : ∀ q, (r ≤ q ∧ q < r + 5) ∨ q = v → h' q = h q) : sR_R h' r v t cs Z := by
  obtain ⟨o, a, fa, ar, h1, h2, h3, h4, h5, h6⟩ := H
  exact ⟨o, a, fa, ar, (hf _ (by omega)).trans h1, h2.fr (hf _ (by omega)) (hf _ (by omega)), h3, (hf _ (by omega)).trans h4, (hf _ (by omega)).trans h5, h6⟩
theorem sc_tr_3 {t : List Int} {o : Int} (ho : 0 ≤ o ∧ o ≤ t.length) (h : (sc_tr t o 11 0 o).1 = 1) : (sc_tr t o 11 0 o).2.2.2.length ≤ 3 := by
  have : ∀ (f k : Nat) (far : Int), k + f = 11 → (sc_tr t o f k far).2.2.2.length ≤ 3 := by
    intro f
    induction f with
    | zero => intro k far _; exact Nat.zero_le _
    | succ f ih =>
      intro k far hk
      unfold sc_tr
      split
      · exact ih _ _ (by omega)
      · have hb := sc_fm_b (F := qz_frm k) ho (qz_len k)
        have hl := sc_ln_b ⟨k, by omega⟩
        have h3 := sc_ct_3 ⟨k, by omega⟩ ⟨qz_len k - 1, by have := hl.2; simp only at this; show qz_len k - 1 < 10; omega⟩ (by have := hl.1; simp only at this; show qz_len k - 1 < qz_len k; omega)
        have e : sc_ct (qz_frm k) (qz_len k) ≤ 3 := by
          have e1 : qz_len k = qz_len k - 1 + 1 := by have := hl.1; simp only at this; omega
          rw [e1]
          exact h3.2
        exact Nat.le_trans hb.2.2.2.1 e
  exact this 11 0 o rfl
theorem c_R_readCommands {E : qa_V} {σ : qa_S} {r v : Nat} {t : List Int} {cs : sc_C} {Z : Nat → Nat} (hZ : qa_St E Z σ.1) (hz : qa_Sb E) (hlo : E.1 ≤ r) (hR : sR_R σ.1 r v t cs Z) : qa_T E qm_R_readCommands 0 0 [.ref r] σ (fun o9 τ => o9 = .inl (some (.int (qa_i (sc_all t 13 0 []).1))) ∧ τ.2 = σ.2 ∧ (∀ q, q ≠ r → q ≠ r + 3 → q ≠ r + 4 → τ.1 q = σ.1 q) ∧ sR_R τ.1 r v t (sc_all t 13 0 []).2 Z) := by
  refine qa_enterQ (by decide) rfl qm_R_readCommands_ok rfl rfl (fun Q9 hQ => ?_)
  obtain ⟨o8, a8, fa8, ar8, hr, hB, ⟨hv9, hv93⟩, hac, ha, hl, -, hb9, -⟩ := hR
  have zl := hZ.1
  have hv94 : v ≠ r + 4 := by intro h; obtain ⟨ml, cap, f, -, hv8, -⟩ := hB; rw [h] at hv8; exact absurd (ha.symm.trans hv8) (by intro h9; cases h9)
  have e0 : σ.2 = σ.2 := rfl
  refine qa_aload_n (pc' := 1) ⟨rfl, rfl⟩ rfl ?_
  refine qa_iconst (pc' := 2) ⟨rfl, rfl⟩ ?_
  refine qa_putf (fs' := [_, _, _, _, _, _]) (pc' := 5) ⟨rfl, rfl⟩ qg_8_54 qw_7 (by assumption) (by omega) rfl (fun r hr => by cases hr; exact ⟨rfl, Or.inl rfl⟩) rfl rfl ?_
  refine qa_gz (fun τ41 e41 w41 f41 => ?_)
  replace e0 := e41.trans e0
  refine qa_aload_n (pc' := 6) ⟨rfl, rfl⟩ rfl ?_
  refine qa_iconst (pc' := 7) ⟨rfl, rfl⟩ ?_
  refine qa_putf (fs' := [_, _, _, _, _, _]) (pc' := 10) ⟨rfl, rfl⟩ qg_8_40 qw_7 (by assumption) (by omega) rfl (fun r hr => by cases hr; exact ⟨rfl, Or.inl rfl⟩) rfl rfl ?_
  refine qa_gz (fun τ42 e42 w42 f42 => ?_)
  replace e0 := e42.trans e0
  refine qa_iconst (pc' := 11) ⟨rfl, rfl⟩ ?_
  refine qa_istore_n (L' := [(0, _), (1, _)]) (pc' := 12) ⟨rfl, rfl⟩ rfl rfl ?_
  have lp : ∀ (f : Nat) (τ : qa_S) (i : Nat) (o a1 : Int) (fa : Int → Option Nat) (ar1 : Int → Int) (cs1 : sc_C), (i + f = 13 ∧ cs1.length = i ∧ (0 ≤ o ∧ o ≤ t.length) ∧ τ.2 = σ.2 ∧ τ.1 r = some (qa_RdF r (cs1.length : Int) o a1) ∧ τ.1 (r + 3) = some (qa_ra 7 13 fa) ∧ τ.1 (r + 4) = some (qa_ia 39 ar1) ∧ (∀ j : Int, -999 ≤ ar1 j ∧ ar1 j ≤ 999) ∧ (∀ q, q ≠ r → q ≠ r + 3 → q ≠ r + 4 → τ.1 q = σ.1 q) ∧ (∀ (i : Nat) (x : Nat × List Int), cs1[i]? = some x → fa i = some (Z (10 + x.1)) ∧ x.1 < 11 ∧ ∀ j : Nat, j < x.2.length → x.2[j]? = some (ar1 (3 * (i : Int) + j))) ∧ (∀ (i : Nat) (x : Nat × List Int), cs1[i]? = some x → x.2.length ≤ 3) ∧ sc_all t f o cs1 = sc_all t 13 0 []) → qa_W E qm_R_readCommands Q9 0 0 12 [(0, .ref r), (1, .int (qa_i (i : Int)))] [] τ := by
    intro f
    induction f with
    | zero =>
      intro τ i o a1 fa ar1 cs1 ⟨hkf, hil, hob, he, hr1, hac1, ha1, hb1, hfr, hcs, hcl, hs⟩
      refine qa_iload_n (pc' := 13) ⟨rfl, rfl⟩ rfl ?_
      refine qa_bipush (z := 13) (pc' := 15) ⟨rfl, rfl⟩ rfl ?_
      refine qa_icmp_ge (pc' := 18) (tgt := 66) ⟨rfl, rfl⟩ rfl (by omega) (by omega) (fun hc1 => ?_) (fun hc1 => ?_)
      · have hst : sc_all t 13 0 [] = (o, cs1) := by rw [← hs]; rfl
        refine qa_aload_n (pc' := 67) ⟨rfl, rfl⟩ rfl ?_
        refine qa_getf (pc' := 70) ⟨rfl, rfl⟩ qg_8_54 (by assumption) rfl ?_
        rw [hst] at hQ
        refine qa_ireturn rfl rfl rfl (hQ _ _ ⟨rfl, he, hfr, o, a1, fa, ar1, hr1, hB.fr (hfr _ (by omega) (by omega) (by omega)) (hfr _ hv9 hv93 hv94), ⟨hv9, hv93⟩, hac1, ha1, hl, (by show cs1.length ≤ 13; omega), hb1, hcs⟩)
      · exact absurd hc1 (by omega)
    | succ f ih =>
      intro τ i o a1 fa ar1 cs1 ⟨hkf, hil, hob, he, hr1, hac1, ha1, hb1, hfr, hcs, hcl, hs⟩
      refine qa_iload_n (pc' := 13) ⟨rfl, rfl⟩ rfl ?_
      refine qa_bipush (z := 13) (pc' := 15) ⟨rfl, rfl⟩ rfl ?_
      refine qa_icmp_ge (pc' := 18) (tgt := 66) ⟨rfl, rfl⟩ rfl (by omega) (by omega) (fun hc1 => ?_) (fun hc1 => ?_)
      · exact absurd hc1 (by omega)
      · have hB1 := hB.fr (hfr (r + 1) (by omega) (by omega) (by omega)) (hfr v hv9 hv93 hv94)
        have hB19 := hB1
        have tb := sc_tr_b (t := t) (o := o) hob 11 0 o rfl (by omega)
        refine qa_aload_n (pc' := 19) ⟨rfl, rfl⟩ rfl ?_
        refine qa_callV rfl qf_R_readCommand ql_8_57 (c_R_readCommand (E := E) (hZ.to (fun q hq => hfr q (by omega) (by omega) (by omega))) hz hlo hr1 hB1 hv9 hob hl hv93 ha1 hac1 (by omega) hb1) hr1 rfl rfl rfl (qa_lt9 rfl) (qa_le9 rfl) (qa_le9 rfl) (qa_le9 rfl) (fun o9 τ9 hq9 => ?_)
        obtain ⟨rfl, e3, f3, ar2, at2, wa, hb2, hlt2, hcase⟩ := hq9
        refine qa_nx (pc' := 22) (st' := [_]) rfl rfl rfl rfl ?_
        have hfr2 : ∀ q, q ≠ r → q ≠ r + 3 → q ≠ r + 4 → τ9.1 q = σ.1 q := fun q q1 q2 q3 => (f3 q q1 q2 q3).trans (hfr q q1 q2 q3)
        have hB2 := hB.fr (hfr2 (r + 1) (by omega) (by omega) (by omega)) (hfr2 v hv9 hv93 hv94)
        have hB29 := hB2
        obtain ⟨ml2, cap2, f2, hb2b, -⟩ := hB2
        have hcsl : ∀ (i : Nat) (x : Nat × List Int), cs1[i]? = some x → fa i = some (Z (10 + x.1)) ∧ x.1 < 11 ∧ ∀ j : Nat, j < x.2.length → x.2[j]? = some (ar2 (3 * (i : Int) + j)) := fun i x hi => by
          obtain ⟨c1, c2, c3⟩ := hcs i x hi
          have il : i < cs1.length := (List.getElem?_eq_some_iff.mp hi).1
          have l3 := hcl i x hi
          refine ⟨c1, c2, fun j hj => ?_⟩
          rw [c3 j hj, hlt2 _ (by omega)]
        rcases hcase with ⟨h0, w1, w2⟩ | ⟨h1, w1, w2, w3⟩
        · rw [h0]
          refine qa_if_ne (pc' := 25) (tgt := 30) ⟨rfl, rfl⟩ rfl (by omega) (fun hc2 => ?_) (fun hc2 => ?_)
          · exact absurd hc2 (by omega)
          · refine qa_aload_n (pc' := 26) ⟨rfl, rfl⟩ rfl ?_
            refine qa_getf (pc' := 29) ⟨rfl, rfl⟩ qg_8_54 (by assumption) rfl ?_
            have hst : sc_all t 13 0 [] = ((sc_tr t o 11 0 o).2.1, cs1) := by
              rw [← hs]
              conv => lhs; unfold sc_all
              rw [if_pos h0]
            rw [hst] at hQ
            refine qa_ireturn rfl rfl rfl (hQ _ _ ⟨rfl, e3.trans he, hfr2, _, at2, fa, ar2, w1, hB29, ⟨hv9, hv93⟩, w2, wa, hl, (by show cs1.length ≤ 13; omega), hb2, hcsl⟩)
        · rw [h1]
          have tb1 := tb.2.2.2 h1
          have hcs2 : ∀ (i : Nat) (x : Nat × List Int), (cs1 ++ [(sc_tr t o 11 0 o).2.2])[i]? = some x → (qa_upq fa cs1.length (some (Z (10 + (sc_tr t o 11 0 o).2.2.1)))) i = some (Z (10 + x.1)) ∧ x.1 < 11 ∧ ∀ j : Nat, j < x.2.length → x.2[j]? = some (ar2 (3 * (i : Int) + j)) := fun i x hi => by
            by_cases e : i < cs1.length
            · rw [List.getElem?_append_left e] at hi
              obtain ⟨c1, c2, c3⟩ := hcsl i x hi
              refine ⟨?_, c2, c3⟩
              unfold qa_upq; rw [if_neg (by omega)]; exact c1
            · have e2 : i = cs1.length := by have := (List.getElem?_eq_some_iff.mp hi).1; rw [List.length_append] at this; simp at this; omega
              subst e2
              rw [List.getElem?_append_right (Nat.le_refl _)] at hi; simp at hi; subst hi
              refine ⟨?_, tb1.2.1, w3⟩
              unfold qa_upq; rw [if_pos rfl]
          refine qa_if_ne (pc' := 25) (tgt := 30) ⟨rfl, rfl⟩ rfl (by omega) (fun hc2 => ?_) (fun hc2 => ?_)
          · refine qa_aload_n (pc' := 31) ⟨rfl, rfl⟩ rfl ?_
            refine qa_getf (pc' := 34) ⟨rfl, rfl⟩ qg_8_54 (by assumption) rfl ?_
            refine qa_aload_n (pc' := 35) ⟨rfl, rfl⟩ rfl ?_
            refine qa_getf (pc' := 38) ⟨rfl, rfl⟩ qg_8_12 (by assumption) rfl ?_
            refine qa_callV rfl qf_SB_length ql_8_28 (c_SB_length (E := E) hB29) hb2b rfl rfl rfl (qa_lt9 rfl) (qa_le9 rfl) (qa_le9 rfl) (qa_le9 rfl) (fun o9 τ9 hq9 => ?_)
            obtain ⟨rfl, hq9⟩ := hq9
            replace hq9 := hq9.symm; subst hq9
            refine qa_nx (pc' := 41) (st' := [_, _]) rfl rfl rfl rfl ?_
            refine qa_icmp_ne (pc' := 44) (tgt := 46) ⟨rfl, rfl⟩ rfl (by omega) (by omega) (fun hc3 => ?_) (fun hc3 => ?_)
            · refine qa_aload_n (pc' := 47) ⟨rfl, rfl⟩ rfl ?_
              refine qa_bipush (z := 59) (pc' := 49) ⟨rfl, rfl⟩ rfl ?_
              refine qa_callV rfl qf_R_skip ql_8_61 (c_R_skip (E := E) (x := 59) hz hlo w1 hB29 hv9 (by omega) hl (by omega)) w1 rfl rfl rfl (qa_lt9 rfl) (qa_le9 rfl) (qa_le9 rfl) (qa_le9 rfl) (fun o9 τ9 hq9 => ?_)
              obtain ⟨rfl, e4, w4, f4⟩ := hq9
              refine qa_nx (pc' := 52) (st' := [_]) rfl rfl rfl rfl ?_
              have hB4 := hB29.fr (f4 _ (by omega)) (f4 _ hv9)
              by_cases hw : (sc_tr t o 11 0 o).2.1 < t.length ∧ sc_at t (sc_tr t o 11 0 o).2.1 = 59
              · rw [if_pos hw]
                refine qa_if_ne (pc' := 55) (tgt := 60) ⟨rfl, rfl⟩ rfl (by omega) (fun hw9 => ?_) (fun hw9 => ?_)
                · rw [if_pos hw] at w4
                  refine qa_iinc (L' := [(0, _), (1, _)]) (z := ((i + 1 : Nat) : Int)) (pc' := 63) ⟨rfl, rfl⟩ rfl (by omega) rfl rfl ?_
                  refine qa_goto (pc' := 66) (tgt := 12) ⟨rfl, rfl⟩ rfl ?_
                  refine ih _ (i + 1) ((sc_tr t o 11 0 o).2.1 + 1) at2 _ ar2 (cs1 ++ [(sc_tr t o 11 0 o).2.2]) ⟨by omega, by rw [List.length_append]; simp; omega, by omega, e4.trans (e3.trans he), by rw [List.length_append]; simpa using w4, (f4 _ (by omega)).trans w2, (f4 _ (by omega)).trans wa, hb2, fun q q1 q2 q3 => (f4 q q1).trans (hfr2 q q1 q2 q3), hcs2, ?_, ?_⟩
                  · intro i9 x9 hi9
                    by_cases e : i9 < cs1.length
                    · rw [List.getElem?_append_left e] at hi9; exact hcl i9 x9 hi9
                    · have e2 : i9 = cs1.length := by have := (List.getElem?_eq_some_iff.mp hi9).1; rw [List.length_append] at this; simp at this; omega
                      subst e2; rw [List.getElem?_append_right (Nat.le_refl _)] at hi9; simp at hi9; subst hi9; exact sc_tr_3 hob h1
                  · rw [← hs]; conv => rhs; unfold sc_all
                    rw [if_neg (by omega), if_neg (by omega), if_pos hw]
                · exact absurd hw9 (by omega)
              · rw [if_neg hw]
                refine qa_if_ne (pc' := 55) (tgt := 60) ⟨rfl, rfl⟩ rfl (by omega) (fun hw9 => ?_) (fun hw9 => ?_)
                · exact absurd hw9 (by omega)
                · rw [if_neg hw] at w4
                  refine qa_aload_n (pc' := 56) ⟨rfl, rfl⟩ rfl ?_
                  refine qa_getf (pc' := 59) ⟨rfl, rfl⟩ qg_8_54 (by assumption) rfl ?_
                  have hst : sc_all t 13 0 [] = ((sc_tr t o 11 0 o).2.1, cs1 ++ [(sc_tr t o 11 0 o).2.2]) := by
                    rw [← hs]
                    conv => lhs; unfold sc_all
                    rw [if_neg (by omega), if_neg (by omega), if_neg hw]
                  rw [hst] at hQ
                  refine qa_ireturn rfl rfl rfl (hQ _ _ ⟨rfl, e4.trans (e3.trans he), fun q q1 q2 q3 => (f4 q q1).trans (hfr2 q q1 q2 q3), _, at2, _, ar2, by rw [List.length_append]; simpa using w4, hB4, ⟨hv9, hv93⟩, (f4 _ (by omega)).trans w2, (f4 _ (by omega)).trans wa, hl, by rw [List.length_append]; simp; omega, hb2, hcs2⟩)
            · refine qa_iconst (pc' := 45) ⟨rfl, rfl⟩ ?_
              have hst : sc_all t 13 0 [] = (-1, cs1 ++ [(sc_tr t o 11 0 o).2.2]) := by
                rw [← hs]
                conv => lhs; unfold sc_all
                rw [if_neg (by omega), if_pos (by omega)]
              rw [hst] at hQ
              refine qa_ireturn rfl rfl rfl (hQ _ _ ⟨rfl, e3.trans he, hfr2, _, at2, _, ar2, by rw [List.length_append]; simpa using w1, hB29, ⟨hv9, hv93⟩, w2, wa, hl, by rw [List.length_append]; simp; omega, hb2, hcs2⟩)
          · exact absurd hc2 (by omega)
  exact lp 13 τ42 0 0 a8 fa8 ar8 [] ⟨by omega, rfl, by omega, e0, w42, (f42 _ (by omega)).trans ((f41 _ (by omega)).trans hac), (f42 _ (by omega)).trans ((f41 _ (by omega)).trans ha), hb9, fun q q1 q2 q3 => (f42 q q1).trans (f41 q q1), fun i x h => absurd h (by simp), fun i x h => absurd h (by simp), rfl⟩
theorem so_do_ext {m : Int → Int} {k : Nat} {x y z x1 y1 z1 : Int} (h : (1 ≤ sc_ct (qz_frm k) (qz_len k) → x = x1) ∧ (2 ≤ sc_ct (qz_frm k) (qz_len k) → y = y1) ∧ (3 ≤ sc_ct (qz_frm k) (qz_len k) → z = z1)) (k9 : k < 11) : so_do m k x y z = so_do m k x1 y1 z1 := by
  obtain ⟨h1, h2, h3⟩ := h
  obtain rfl | rfl | rfl | rfl | rfl | rfl | rfl | rfl | rfl | rfl | rfl : k = 0 ∨ k = 1 ∨ k = 2 ∨ k = 3 ∨ k = 4 ∨ k = 5 ∨ k = 6 ∨ k = 7 ∨ k = 8 ∨ k = 9 ∨ k = 10 := by omega
  · rfl
  · rw [h1 (by decide), h2 (by decide), h3 (by decide)]
  · show so_note m x (-1) y = so_note m x1 (-1) y1
    rw [h1 (by decide), h2 (by decide)]
  · show so_last m x = so_last m x1
    rw [h1 (by decide)]
  · show so_move m x y = so_move m x1 y1
    rw [h1 (by decide), h2 (by decide)]
  · rw [h1 (by decide), h2 (by decide), h3 (by decide)]
  · show so_cue m x y = so_cue m x1 y1
    rw [h1 (by decide), h2 (by decide)]
  · show so_alone m x = so_alone m x1
    rw [h1 (by decide)]
  · show so_bar m x = so_bar m x1
    rw [h1 (by decide)]
  · show so_tempo m x y = so_tempo m x1 y1
    rw [h1 (by decide), h2 (by decide)]
  · show so_play m x = so_play m x1
    rw [h1 (by decide)]
/-- a command over the data -/
def so_cmd (m : Int → Int) (x : Nat × List Int) : sp_R := so_do m x.1 (x.2.getD 0 0) (x.2.getD 1 0) (x.2.getD 2 0)
def sc_full (x : Nat × List Int) : Prop := x.2.length = sc_ct (qz_frm x.1) (qz_len x.1)
theorem c_R_performOn {E : qa_V} {σ : qa_S} {r v : Nat} {t : List Int} {cs : sc_C} {Z : Nat → Nat} {a : Nat} {m : Int → Int} {rf B : Int} {i : Nat} {x : Nat × List Int} (hZ : qa_St E Z σ.1) (hlo : E.1 ≤ a) (hR : sR_R σ.1 r v t cs Z) (hS : sR_S σ.1 a m rf) (hk : sm_ok m B) (hB9 : B ≤ 1000000000) (hi : cs[i]? = some x) (hf : sc_full x) : qa_T E qm_R_performOn 0 0 [.ref r, .ref a, .int (qa_i (i : Int))] σ (qa_Ch a σ rf (so_cmd m x)) := by
  refine qa_enterQ (by decide) rfl qm_R_performOn_ok rfl rfl (fun Q9 hQ => ?_)
  obtain ⟨o8, a8, fa, ar, hr, hB, hv9, hac, ha, hl, hcl, hb9, hcs⟩ := hR
  obtain ⟨c1, c2, c3⟩ := hcs i x hi
  have il : i < cs.length := (List.getElem?_eq_some_iff.mp hi).1
  have hs9 := hS.1
  refine qa_iload_n (pc' := 1) ⟨rfl, rfl⟩ rfl ?_
  refine qa_iconst (pc' := 2) ⟨rfl, rfl⟩ ?_
  refine qa_aload_n (pc' := 3) ⟨rfl, rfl⟩ rfl ?_
  refine qa_getf (pc' := 6) ⟨rfl, rfl⟩ qg_8_40 (by assumption) rfl ?_
  refine qa_iconst (pc' := 7) ⟨rfl, rfl⟩ ?_
  refine qa_isub (z := (cs.length : Int) - 1) (pc' := 8) ⟨rfl, rfl⟩ rfl ?_
  refine qa_callS rfl qf_C_isWithin rfl ql_8_44 (c_C_isWithin (E := E) (by omega) (by omega) (by omega)) rfl rfl (qa_lt9 rfl) (qa_le9 rfl) (qa_le9 rfl) (qa_le9 rfl) (fun o9 τ9 hq9 => ?_)
  obtain ⟨rfl, hq9⟩ := hq9
  replace hq9 := hq9.symm; subst hq9
  refine qa_nx (pc' := 11) (st' := [_]) rfl rfl rfl rfl ?_
  rw [if_pos (by omega)]
  refine qa_if_ne (pc' := 14) (tgt := 17) ⟨rfl, rfl⟩ rfl (by omega) (fun hc1 => ?_) (fun hc1 => ?_)
  · refine qa_iload_n (pc' := 18) ⟨rfl, rfl⟩ rfl ?_
    refine qa_iconst (pc' := 19) ⟨rfl, rfl⟩ ?_
    refine qa_imul (z := 3 * (i : Int)) (pc' := 20) ⟨rfl, rfl⟩ (by omega) ?_
    refine qa_istore_n (L' := [(0, _), (1, _), (2, _), (3, _)]) (pc' := 21) ⟨rfl, rfl⟩ rfl rfl ?_
    refine qa_aload_n (pc' := 22) ⟨rfl, rfl⟩ rfl ?_
    refine qa_aload_n (pc' := 23) ⟨rfl, rfl⟩ rfl ?_
    refine qa_getf (pc' := 26) ⟨rfl, rfl⟩ qg_8_20 (by assumption) rfl ?_
    refine qa_iload_n (pc' := 27) ⟨rfl, rfl⟩ rfl ?_
    refine qa_aaload (pc' := 28) ⟨rfl, rfl⟩ hac rfl rfl (by omega) c1 ?_
    refine qa_aload_n (pc' := 29) ⟨rfl, rfl⟩ rfl ?_
    refine qa_getf (pc' := 32) ⟨rfl, rfl⟩ qg_8_24 (by assumption) rfl ?_
    refine qa_iload_n (pc' := 33) ⟨rfl, rfl⟩ rfl ?_
    refine qa_iaload (pc' := 34) ⟨rfl, rfl⟩ (by assumption) (by omega) ?_
    refine qa_aload_n (pc' := 35) ⟨rfl, rfl⟩ rfl ?_
    refine qa_getf (pc' := 38) ⟨rfl, rfl⟩ qg_8_24 (by assumption) rfl ?_
    refine qa_iload_n (pc' := 39) ⟨rfl, rfl⟩ rfl ?_
    refine qa_iconst (pc' := 40) ⟨rfl, rfl⟩ ?_
    refine qa_iadd (z := 3 * (i : Int) + 1) (pc' := 41) ⟨rfl, rfl⟩ rfl ?_
    refine qa_iaload (pc' := 42) ⟨rfl, rfl⟩ (by assumption) (by omega) ?_
    refine qa_aload_n (pc' := 43) ⟨rfl, rfl⟩ rfl ?_
    refine qa_getf (pc' := 46) ⟨rfl, rfl⟩ qg_8_24 (by assumption) rfl ?_
    refine qa_iload_n (pc' := 47) ⟨rfl, rfl⟩ rfl ?_
    refine qa_iconst (pc' := 48) ⟨rfl, rfl⟩ ?_
    refine qa_iadd (z := 3 * (i : Int) + 2) (pc' := 49) ⟨rfl, rfl⟩ rfl ?_
    refine qa_iaload (pc' := 50) ⟨rfl, rfl⟩ (by assumption) (by omega) ?_
    have b0 := hb9 (3 * (i : Int))
    have b1 := hb9 (3 * (i : Int) + 1)
    have b2 := hb9 (3 * (i : Int) + 2)
    have eq9 : so_do m x.1 (ar (3 * (i : Int))) (ar (3 * (i : Int) + 1)) (ar (3 * (i : Int) + 2)) = so_cmd m x := by
      unfold so_cmd; unfold sc_full at hf
      refine so_do_ext ⟨fun h => ?_, fun h => ?_, fun h => ?_⟩ c2
      · have := c3 0 (by omega); rw [List.getD_eq_getElem?_getD, this]; show _ = ar (3 * (i : Int) + 0); rw [Int.add_zero]
      · have := c3 1 (by omega); rw [List.getD_eq_getElem?_getD, this]; rfl
      · have := c3 2 (by omega); rw [List.getD_eq_getElem?_getD, this]; rfl
    refine qa_callV rfl qf_S_perform ql_8_48 (c_S_perform (E := E) (k := x.1) hZ hlo hS hk hB9 c2 (by omega) (by omega) (by omega)) hs9 rfl rfl rfl (qa_lt9 rfl) (qa_le9 rfl) (qa_le9 rfl) (qa_le9 rfl) (fun o9 τ9 hq9 => ?_)
    obtain ⟨rfl, hq9⟩ := hq9
    refine qa_nx (pc' := 53) (st' := [_]) rfl rfl rfl rfl ?_
    refine qa_ireturn rfl rfl rfl (hQ _ _ ?_)
    rw [← eq9]; exact ⟨rfl, hq9⟩
  · exact absurd hc1 (by omega)
theorem c_R_init {E : qa_V} {σ : qa_S} {r : Nat} {Z : Nat → Nat} (hz : qa_Sb E) (hlo : E.1 ≤ r) (hn : σ.2 = r + 1) (hb : σ.1 r = some (.inl (7, [.null, .null, .null, .int (qa_i 0), .int (qa_i 0), .int (qa_i 0)]))) : qa_T E qm_R_init 4 72 [.ref r] σ (fun o9 τ => o9 = .inl none ∧ τ.2 = r + 5 ∧ (∀ q, (q < r ∨ r + 5 ≤ q) → τ.1 q = σ.1 q) ∧ sR_R τ.1 r (r + 2) [] [] Z) := by
  refine qa_enterQ (by decide) rfl qm_R_init_ok rfl rfl (fun Q9 hQ => ?_)
  have e0 := hn
  have fr : ∀ q, (q < r ∨ r + 5 ≤ q) → σ.1 q = σ.1 q := fun _ _ => rfl
  refine qa_aload_n (pc' := 1) ⟨rfl, rfl⟩ rfl ?_
  refine qa_objI (pc' := 4) ⟨rfl, rfl⟩ qoi_8_3 qoi_i qoi_c (qa_le9 rfl) ?_
  refine qa_aload_n (pc' := 5) ⟨rfl, rfl⟩ rfl ?_
  refine qa_new (pc' := 8) (ci := 8) (n := 4) (fs := [.null, .int (qa_i 0), .int (qa_i 0), .int (qa_i 0)]) ⟨rfl, rfl⟩ qw_8 (fun r hr => by cases hr; exact ⟨rfl, rfl, rfl, by decide +kernel⟩) qn_8_9 qini_8 ?_
  refine qa_gn (fun τ1 e1 w1 f1 => ?_)
  replace w1 : _ = some (Sum.inl (8, [.null, .int (qa_i 0), .int (qa_i 0), .int (qa_i 0)]) : qa_E) := w1
  rw [e0] at e1 w1 f1 ⊢
  replace hb := (f1 _ (by omega)).trans hb
  replace fr := fun q hq => (f1 q (by have := hq; omega)).trans (fr q hq)
  replace e0 := e1
  refine qa_dup (pc' := 9) ⟨rfl, rfl⟩ rfl ?_
  refine qa_callI rfl qf_SB_init ql_8_11 (c_SB_init (E := E) hz (by omega) (by omega) w1) rfl rfl (qa_lt9 rfl) (qa_le9 rfl) (qa_le9 rfl) (qa_le9 rfl) (fun o9 τ9 hq9 => ?_)
  obtain ⟨rfl, e2, f2, w2⟩ := hq9
  refine qa_nx (pc' := 12) (st' := [_, _]) rfl rfl rfl rfl ?_
  replace hb := (f2 _ (by omega)).trans hb
  replace fr := fun q hq => (f2 q (by have := hq; omega)).trans (fr q hq)
  replace e0 := e2
  have w29 := w2
  refine qa_putf (fs' := [_, _, _, _, _, _]) (pc' := 15) ⟨rfl, rfl⟩ qg_8_12 qw_7 (by assumption) (by omega) rfl (fun r hr => by cases hr; exact ⟨rfl, Or.inr ⟨rfl, rfl, rfl⟩⟩) rfl rfl ?_
  refine qa_gz (fun τ11 e11 w11 f11 => ?_)
  replace fr := fun q hq => (f11 q (by have := hq; omega)).trans (fr q hq)
  replace e0 := e11.trans e0
  replace w29 := w29.fr (f11 _ (by omega)) (f11 _ (by omega))
  refine qa_aload_n (pc' := 16) ⟨rfl, rfl⟩ rfl ?_
  refine qa_bipush (z := 13) (pc' := 18) ⟨rfl, rfl⟩ rfl ?_
  refine qa_anewr (pc' := 21) (t := 7) (N := 13) ⟨rfl, rfl⟩ rfl qn_8_18 qa_ao_Action (by omega) ?_
  refine qa_gn (fun τ12 e12 w12 f12 => ?_)
  replace w12 : _ = some (qa_ra 7 13 (fun _ => none)) := w12
  rw [e0] at e12 w12 f12 ⊢
  replace w11 := (f12 _ (by omega)).trans w11
  replace fr := fun q hq => (f12 q (by have := hq; omega)).trans (fr q hq)
  replace e0 := e12
  replace w29 := w29.fr (f12 _ (by omega)) (f12 _ (by omega))
  refine qa_putf (fs' := [_, _, _, _, _, _]) (pc' := 24) ⟨rfl, rfl⟩ qg_8_20 qw_7 (by assumption) (by omega) rfl (fun r hr => by cases hr; exact ⟨rfl, Or.inr ⟨rfl, rfl, rfl⟩⟩) rfl rfl ?_
  refine qa_gz (fun τ13 e13 w13 f13 => ?_)
  replace w12 := (f13 _ (by omega)).trans w12
  replace fr := fun q hq => (f13 q (by have := hq; omega)).trans (fr q hq)
  replace e0 := e13.trans e0
  replace w29 := w29.fr (f13 _ (by omega)) (f13 _ (by omega))
  refine qa_aload_n (pc' := 25) ⟨rfl, rfl⟩ rfl ?_
  refine qa_bipush (z := 39) (pc' := 27) ⟨rfl, rfl⟩ rfl ?_
  refine qa_newarr (pc' := 29) (t := 0) (N := 39) (y := (39, .inl (fun q => qa_i ((fun _ : Int => 0) q)))) ⟨rfl, rfl⟩ rfl rfl qa_ac_int rfl (by omega) (fun _ _ => rfl) (qa_le9 rfl) (fun _ _ => Iff.rfl) ?_
  refine qa_gn (fun τ14 e14 w14 f14 => ?_)
  replace w14 : _ = some (qa_ia 39 (fun _ => 0)) := w14
  rw [e0] at e14 w14 f14 ⊢
  replace w12 := (f14 _ (by omega)).trans w12
  replace w13 := (f14 _ (by omega)).trans w13
  replace fr := fun q hq => (f14 q (by have := hq; omega)).trans (fr q hq)
  replace e0 := e14
  replace w29 := w29.fr (f14 _ (by omega)) (f14 _ (by omega))
  refine qa_putf (fs' := [_, _, _, _, _, _]) (pc' := 32) ⟨rfl, rfl⟩ qg_8_24 qw_7 (by assumption) (by omega) rfl (fun r hr => by cases hr; exact ⟨rfl, Or.inr ⟨rfl, rfl, rfl⟩⟩) rfl rfl ?_
  refine qa_gz (fun τ15 e15 w15 f15 => ?_)
  replace w12 := (f15 _ (by omega)).trans w12
  replace w14 := (f15 _ (by omega)).trans w14
  replace fr := fun q hq => (f15 q (by have := hq; omega)).trans (fr q hq)
  replace e0 := e15.trans e0
  replace w29 := w29.fr (f15 _ (by omega)) (f15 _ (by omega))
  refine qa_return rfl rfl (hQ _ _ ⟨rfl, by omega, fr, 0, 0, _, _, w15, w29, ⟨by omega, by omega⟩, w12, w14, by decide, by decide, fun _ => ⟨by show -999 ≤ (0 : Int); decide, by show (0 : Int) ≤ 999; decide⟩, fun i x h => absurd h (by simp)⟩)
