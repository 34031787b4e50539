/-! means and shares, the bits of a share -/
theorem qa_f2bits {M : qa_M} {E : qa_V} {Q : qa_O → qa_S → Prop} {kc ks pc pc' : Nat} {L : qa_L} {st : List Value} {σ : qa_S} {idx : Nat} {b : UInt32} (hd : qa_op M pc (.invokestatic idx) 3 pc') (hl9 : Cond.methodLink (qa_R (qa_ow M)) idx ⟨"java/lang/Float", "floatToRawIntBits", "(F)I"⟩ ∈ qa_tb) (hnat : Cond.native ⟨"java/lang/Float", "floatToRawIntBits", "(F)I"⟩ ∈ qa_tb) (hstat : Cond.static ⟨"java/lang/Float", "floatToRawIntBits", "(F)I"⟩ ∈ qa_tb) (hini : Cond.initialized "java/lang/Float" ∈ qa_tb) (hsum : (st.map fun v => v.category).sum ≤ 8)
    (k : qa_W E M Q kc ks pc' L (.int b.toInt32 :: st) σ) : qa_W E M Q kc ks pc L (.float b :: st) σ := by
  obtain ⟨hd, rfl⟩ := hd
  intro G p l e R s m args below meth c H locs cells slots ls ok C hR hS hL hc hs
  have hts := C.2.2.2.2.2.2.2.2.2.2.2.2.2
  have r1 := C.2.2.2.2.2.2.2.2.2.1
  have r2 := C.2.2.2.2.2.2.2.2.2.2.1
  exact vn_f2i C.1 C.2.1 (hL.1.trans C.2.2.1.symm).symm C.2.2.2.2.2.1 (hts _ hl9) (hts _ hnat) (hts _ hstat) (hts _ hini) (by omega) (by omega) (ok _ _ _ hd) (k G p l e R s m args below meth c H locs cells slots ls ok C hR hS hL hc hs)
theorem qfb_18_74 : Cond.methodLink (qa_R 18) 74 ⟨"java/lang/Float", "floatToRawIntBits", "(F)I"⟩ ∈ qa_tb := (qa_wj 9 204 (by decide +kernel) (by decide +kernel))
theorem qfb_s : Cond.static ⟨"java/lang/Float", "floatToRawIntBits", "(F)I"⟩ ∈ qa_tb := (qa_wj 9 205 (by decide +kernel) (by decide +kernel))
theorem qfb_n : Cond.native ⟨"java/lang/Float", "floatToRawIntBits", "(F)I"⟩ ∈ qa_tb := (qa_wj 9 206 (by decide +kernel) (by decide +kernel))
theorem qfb_i : Cond.initialized "java/lang/Float" ∈ qa_tb := (qa_wj 1 31 (by decide +kernel) (by decide +kernel))
theorem sf_ob (o : Option Ordering) : -1 ≤ sf_o 1 o ∧ sf_o 1 o ≤ 1 := by
  cases o with
  | none => exact ⟨by decide, by decide⟩
  | some x => cases x <;> exact ⟨by decide, by decide⟩
def sm_rb (m : Int → Int) (p : Int) : Int := (sm_rs m p).toInt32.toInt
def qa_ov (k : Int) (X : List Nat) (v : Value) : qa_O := if k = 0 then .inl (some v) else .inr (X.getD (k - 1).toNat 0)
theorem c_FL_isNaN {E : qa_V} {σ : qa_S} {x : UInt32} (hx : FP.fcmp x x = some .eq) : qa_T E qm_FL_isNaN 0 0 [.float x] σ (fun o9 τ => o9 = .inl (some (.int (qa_i (0)))) ∧ τ = σ) := by
  refine qa_enterF (by decide +kernel) rfl qm_FL_isNaN_ok rfl rfl (fun Q9 hQ => ?_)
  refine qa_fload_n (pc' := 1) ⟨rfl, rfl⟩ rfl ?_
  refine qa_fload_n (pc' := 2) ⟨rfl, rfl⟩ rfl ?_
  refine qa_fcmp (pc' := 3) ⟨rfl, rfl⟩ ?_
  rw [sf_ol, hx, show sf_o (-1) (some .eq) = 0 from rfl]
  refine qa_if_eq (pc' := 6) (tgt := 10) ⟨rfl, rfl⟩ rfl (by omega) (fun hc1 => ?_) (fun hc1 => ?_)
  · refine qa_iconst (pc' := 11) ⟨rfl, rfl⟩ ?_
    refine qa_ireturn rfl rfl rfl (hQ _ _ ⟨rfl, rfl⟩)
  · exact absurd rfl hc1
theorem c_FL_floatToIntBits {E : qa_V} {σ : qa_S} {x : UInt32} (hx : FP.fcmp x x = some .eq) : qa_T E qm_FL_floatToIntBits 0 0 [.float x] σ (fun o9 τ => o9 = .inl (some (.int x.toInt32)) ∧ τ = σ) := by
  refine qa_enterF (by decide +kernel) rfl qm_FL_floatToIntBits_ok rfl rfl (fun Q9 hQ => ?_)
  refine qa_fload_n (pc' := 1) ⟨rfl, rfl⟩ rfl ?_
  refine qa_callS rfl qf_FL_isNaN rfl ql_18_59 (c_FL_isNaN (E := E) hx) rfl rfl (qa_lt9 rfl) (qa_le9 rfl) (qa_le9 rfl) (qa_le9 rfl) (fun o9 τ9 hq9 => ?_)
  obtain ⟨rfl, hq9⟩ := hq9
  replace hq9 := hq9.symm; subst hq9
  refine qa_nx (pc' := 4) (st' := [_]) rfl rfl rfl rfl ?_
  refine qa_if_ne (pc' := 7) (tgt := 12) ⟨rfl, rfl⟩ rfl (by omega) (fun hc1 => ?_) (fun hc1 => ?_)
  · exact absurd rfl hc1
  · refine qa_fload_n (pc' := 8) ⟨rfl, rfl⟩ rfl ?_
    refine qa_f2bits (st := []) (idx := 74) (pc' := 11) ⟨rfl, rfl⟩ qfb_18_74 qfb_n qfb_s qfb_i (by decide) ?_
    refine qa_ireturn rfl rfl rfl (hQ _ _ ⟨rfl, rfl⟩)
theorem c_F_bitsOfShare {E : qa_V} {σ : qa_S} {r t : Int} (hr : 0 ≤ r ∧ r ≤ t) (ht : 1 ≤ t ∧ t ≤ 120) : qa_T E qm_F_bitsOfShare 0 0 [.float (sf_x r t)] σ (fun o9 τ => o9 = .inl (some (.int (sf_x r t).toInt32)) ∧ τ = σ) := by
  refine qa_enterQ (by decide) rfl qm_F_bitsOfShare_ok rfl rfl (fun Q9 hQ => ?_)
  obtain ⟨-, -, -, hz, hnz⟩ := sf_xx hr ht
  generalize sf_x r t = x at *
  have b0 := sf_ob (FP.fcmp x FP.fconst0)
  refine qa_fload_n (pc' := 1) ⟨rfl, rfl⟩ rfl ?_
  refine qa_fconst0 (pc' := 2) ⟨rfl, rfl⟩ ?_
  refine qa_fcmp (pc' := 3) ⟨rfl, rfl⟩ ?_
  rw [sf_og]
  refine qa_if_gt (pc' := 6) (tgt := 8) ⟨rfl, rfl⟩ rfl (by omega) (fun hc1 => ?_) (fun hc1 => ?_)
  · have h0 : r ≠ 0 := fun h9 => absurd (hz h9).1 (by omega)
    obtain ⟨-, Y, eb, hgo, hE, hN, hfin⟩ := hnz h0
    refine qa_fload_n (pc' := 9) ⟨rfl, rfl⟩ rfl ?_
    refine qa_fstore_n (L' := [(0, _), (1, _)]) (pc' := 10) ⟨rfl, rfl⟩ rfl rfl ?_
    refine qa_bipush (z := 127) (pc' := 12) ⟨rfl, rfl⟩ rfl ?_
    refine qa_istore_n (L' := [(0, _), (1, _), (2, _)]) (pc' := 13) ⟨rfl, rfl⟩ rfl rfl ?_
    refine qa_iconst (pc' := 14) ⟨rfl, rfl⟩ ?_
    refine qa_istore_n (L' := [(0, _), (1, _), (2, _), (3, _)]) (pc' := 15) ⟨rfl, rfl⟩ rfl rfl ?_
    have TE : ∀ k : Int, qa_W E qm_F_bitsOfShare Q9 0 0 40 [(0, .float x), (1, .float Y), (2, .int (qa_i eb)), (3, .int (qa_i k))] [] σ := by
      intro k
      refine qa_ldc (z := 8388608) (pc' := 42) ⟨rfl, rfl⟩ qk_9_29 ?_
      refine qa_istore_n (L' := [(0, _), (1, _), (2, _), (3, _)]) (pc' := 43) ⟨rfl, rfl⟩ rfl rfl ?_
      refine qa_iload_n (pc' := 44) ⟨rfl, rfl⟩ rfl ?_
      refine qa_bipush (z := 23) (pc' := 46) ⟨rfl, rfl⟩ rfl ?_
      refine qa_ishlX (z := eb * 8388608) (pc' := 47) ⟨rfl, rfl⟩ (sf_shl hE) ?_
      refine qa_fload_n (pc' := 48) ⟨rfl, rfl⟩ rfl ?_
      refine qa_iload_n (pc' := 49) ⟨rfl, rfl⟩ rfl ?_
      refine qa_i2f (pc' := 50) ⟨rfl, rfl⟩ ?_
      refine qa_fmul (pc' := 51) ⟨rfl, rfl⟩ hN ?_
      refine qa_f2i (pc' := 52) ⟨rfl, rfl⟩ ?_
      rw [show FP.f2i (FP.fmul Y (FP.i2f (qa_i 8388608))) = qa_i (FP.f2i (sf_y Y)).toInt from (sf_i _).symm]
      refine qa_iadd (z := eb * 8388608 + (FP.f2i (sf_y Y)).toInt) (pc' := 53) ⟨rfl, rfl⟩ (by omega) ?_
      refine qa_iload_n (pc' := 54) ⟨rfl, rfl⟩ rfl ?_
      refine qa_isub (z := eb * 8388608 + (FP.f2i (sf_y Y)).toInt - 8388608) (pc' := 55) ⟨rfl, rfl⟩ (by omega) ?_
      refine qa_ireturn rfl rfl rfl (hQ _ _ ⟨by rw [hfin], rfl⟩)
    have lp : ∀ (f9 : Nat) (k : Nat) (y : UInt32) (e : Int), ((k : Int) + f9 = 127 ∧ sf_go f9 y e = some (Y, eb)) → qa_W E qm_F_bitsOfShare Q9 0 0 15 [(0, .float x), (1, .float y), (2, .int (qa_i e)), (3, .int (qa_i k))] [] σ := by
      intro f9
      induction f9 with
      | zero =>
        intro k y e ⟨hkf, hg⟩
        refine qa_iload_n (pc' := 16) ⟨rfl, rfl⟩ rfl ?_
        refine qa_bipush (z := 127) (pc' := 18) ⟨rfl, rfl⟩ rfl ?_
        refine qa_icmp_ge (pc' := 21) (tgt := 40) ⟨rfl, rfl⟩ rfl (by omega) (by omega) (fun hc2 => ?_) (fun hc2 => ?_)
        · obtain ⟨rfl, rfl⟩ : y = Y ∧ e = eb := by cases hg; exact ⟨rfl, rfl⟩
          exact TE _
        · exact absurd hc2 (by omega)
      | succ f9 ih =>
        intro k y e ⟨hkf, hg⟩
        refine qa_iload_n (pc' := 16) ⟨rfl, rfl⟩ rfl ?_
        refine qa_bipush (z := 127) (pc' := 18) ⟨rfl, rfl⟩ rfl ?_
        refine qa_icmp_ge (pc' := 21) (tgt := 40) ⟨rfl, rfl⟩ rfl (by omega) (by omega) (fun hc2 => ?_) (fun hc2 => ?_)
        · exact absurd hc2 (by omega)
        · have b1 := sf_ob (FP.fcmp y FP.fconst1)
          unfold sf_go at hg
          refine qa_fload_n (pc' := 22) ⟨rfl, rfl⟩ rfl ?_
          refine qa_fconst1 (pc' := 23) ⟨rfl, rfl⟩ ?_
          refine qa_fcmp (pc' := 24) ⟨rfl, rfl⟩ ?_
          rw [sf_og]
          refine qa_if_ge (pc' := 27) (tgt := 40) ⟨rfl, rfl⟩ rfl (by omega) (fun hc3 => ?_) (fun hc3 => ?_)
          · rw [if_pos hc3] at hg
            obtain ⟨rfl, rfl⟩ : y = Y ∧ e = eb := by cases hg; exact ⟨rfl, rfl⟩
            exact TE _
          · rw [if_neg (by omega)] at hg
            have hn9 : sf_n (FP.fmul y FP.fconst2) = true := Decidable.byContradiction fun h9 => by rw [if_neg h9] at hg; cases hg
            rw [if_pos hn9] at hg
            refine qa_fload_n (pc' := 28) ⟨rfl, rfl⟩ rfl ?_
            refine qa_fconst2 (pc' := 29) ⟨rfl, rfl⟩ ?_
            refine qa_fmul (pc' := 30) ⟨rfl, rfl⟩ (sf_nn hn9) ?_
            refine qa_fstore_n (L' := [(0, _), (1, _), (2, _), (3, _)]) (pc' := 31) ⟨rfl, rfl⟩ rfl rfl ?_
            refine qa_iinc (L' := [(0, _), (1, _), (2, _), (3, _)]) (z := e - 1) (pc' := 34) ⟨rfl, rfl⟩ rfl (by omega) rfl rfl ?_
            refine qa_iinc (L' := [(0, _), (1, _), (2, _), (3, _)]) (z := ((k + 1 : Nat) : Int)) (pc' := 37) ⟨rfl, rfl⟩ rfl (by omega) rfl rfl ?_
            refine qa_goto (pc' := 40) (tgt := 15) ⟨rfl, rfl⟩ rfl ?_
            exact ih (k + 1) _ _ ⟨by omega, hg⟩
    exact lp 127 0 x 127 ⟨by omega, hgo⟩
  · have h0 : r = 0 := Decidable.byContradiction fun h9 => absurd (hnz h9).1 (by omega)
    refine qa_iconst (pc' := 7) ⟨rfl, rfl⟩ ?_
    refine qa_ireturn rfl rfl rfl (hQ _ _ ⟨by rw [← (hz h0).2], rfl⟩)
theorem c_M_meanPitch {E : qa_V} {σ : qa_S} {μ : Nat} {f : Nat → Int} {m : Int → Int} {B : Int} {p : Int} (hlo : E.1 ≤ μ) (hM : σ.1 μ = some (qa_MoF μ f)) (hm : σ.1 (μ + 1) = some (qa_ia 146 m)) (hk : sm_ok m B) (hp : qa_in p) : qa_T E qm_M_meanPitch 0 0 [.ref μ, .int (qa_i p)] σ (qa_Mv Value.double σ μ f (fo_mk m p) (sm_md m p)) := by
  refine qa_enterQ (by decide) rfl qm_M_meanPitch_ok rfl rfl (fun Q9 hQ => ?_)
  obtain ⟨k0, k1, k2, k3, k4, k5, k6, k7, k8⟩ := id hk
  have e0 : σ.2 = σ.2 := rfl
  have fr : ∀ q, q ≠ μ → σ.1 q = σ.1 q := fun _ _ => rfl
  refine qa_aload_n (pc' := 1) ⟨rfl, rfl⟩ rfl ?_
  refine qa_iconst (pc' := 2) ⟨rfl, rfl⟩ ?_
  refine qa_putf (fs' := [_, _, _, _, _, _, _, _, _, _, _, _, _, _, _, _, _, _, _, _, _, _, _, _, _, _, _]) (pc' := 5) ⟨rfl, rfl⟩ qg_10_51 qw_9 hM (by omega) rfl (fun r hr => by cases hr; exact ⟨rfl, Or.inl rfl⟩) rfl rfl ?_
  refine qa_gz (fun τ1 e1 w1 f1 => ?_)
  replace hm := (f1 _ (by omega)).trans hm
  replace fr := fun q hq => (f1 q (by have := hq; omega)).trans (fr q hq)
  replace e0 := e1.trans e0
  have hM : τ1.1 μ = some (qa_MoF μ (sN_put f 12 0)) := w1
  refine qa_aload_n (pc' := 6) ⟨rfl, rfl⟩ rfl ?_
  refine qa_iload_n (pc' := 7) ⟨rfl, rfl⟩ rfl ?_
  refine qa_callV rfl qf_M_isPart ql_10_111 (c_M_isPart (E := E) hM hm hk (by omega)) hM rfl rfl rfl (qa_lt9 rfl) (qa_le9 rfl) (qa_le9 rfl) (qa_le9 rfl) (fun o9 τ9 hq9 => ?_)
  obtain ⟨rfl, hq9⟩ := hq9
  replace hq9 := hq9.symm; subst hq9
  refine qa_nx (pc' := 10) (st' := [_]) rfl rfl rfl rfl ?_
  by_cases hp9 : 0 ≤ p ∧ p < m 0
  · rw [if_pos hp9]
    refine qa_if_ne (pc' := 13) (tgt := 21) ⟨rfl, rfl⟩ rfl (by omega) (fun hp99 => ?_) (fun hp99 => ?_)
    · have kk := k4 p (by omega) (by omega)
      have kn := kk.1
      have kw := sm_wh_b kk
      have kb := sm_rs_b kk
      refine qa_iconst (pc' := 22) ⟨rfl, rfl⟩ ?_
      refine qa_istore_n (L' := [(0, _), (1, _), (2, _)]) (pc' := 23) ⟨rfl, rfl⟩ rfl rfl ?_
      refine qa_iconst (pc' := 24) ⟨rfl, rfl⟩ ?_
      refine qa_istore_n (L' := [(0, _), (1, _), (2, _), (3, _)]) (pc' := 25) ⟨rfl, rfl⟩ rfl rfl ?_
      refine qa_iconst (pc' := 26) ⟨rfl, rfl⟩ ?_
      refine qa_istore (L' := [(0, _), (1, _), (2, _), (3, _), (4, _)]) (pc' := 28) ⟨rfl, rfl⟩ rfl rfl ?_
      have lp : ∀ (f9 : Nat) (k : Nat) (s n : Int), ((k : Int) + f9 = sm_n m p ∧ s = sp_ps (sm_pf m p) k ∧ n = sp_ct (sm_pf m p) k) → qa_W E qm_M_meanPitch Q9 0 0 28 [(0, .ref μ), (1, .int (qa_i p)), (2, .int (qa_i s)), (3, .int (qa_i n)), (4, .int (qa_i k))] [] τ1 := by
        intro f9
        induction f9 with
        | zero =>
          intro k s n ⟨hkf, hs, hn⟩
          refine qa_iload (pc' := 30) ⟨rfl, rfl⟩ rfl ?_
          refine qa_aload_n (pc' := 31) ⟨rfl, rfl⟩ rfl ?_
          refine qa_iload_n (pc' := 32) ⟨rfl, rfl⟩ rfl ?_
          refine qa_callV rfl qf_M_notes ql_10_77 (c_M_notes (E := E) hM hm ⟨by omega, by omega⟩) hM rfl rfl rfl (qa_lt9 rfl) (qa_le9 rfl) (qa_le9 rfl) (qa_le9 rfl) (fun o9 τ9 hq9 => ?_)
          obtain ⟨rfl, hq9⟩ := hq9
          replace hq9 := hq9.symm; subst hq9
          refine qa_nx (pc' := 35) (st' := [_, _]) rfl rfl rfl rfl ?_
          refine qa_icmp_ge (pc' := 38) (tgt := 77) ⟨rfl, rfl⟩ rfl (by omega) (by omega) (fun hc1 => ?_) (fun hc1 => ?_)
          · have ek : (sm_n m p).toNat = k := by omega
            rw [ek] at kb
            refine qa_iload_n (pc' := 78) ⟨rfl, rfl⟩ rfl ?_
            refine qa_if_ne (pc' := 81) (tgt := 89) ⟨rfl, rfl⟩ rfl (by omega) (fun hc2 => ?_) (fun hc2 => ?_)
            · have hd9 := (sf_kk (s := s) (n := n) (by omega) (by omega)).1
              refine qa_iload_n (pc' := 90) ⟨rfl, rfl⟩ rfl ?_
              refine qa_i2d (pc' := 91) ⟨rfl, rfl⟩ ?_
              refine qa_iload_n (pc' := 92) ⟨rfl, rfl⟩ rfl ?_
              refine qa_i2d (pc' := 93) ⟨rfl, rfl⟩ ?_
              refine qa_ddiv (pc' := 94) ⟨rfl, rfl⟩ hd9 ?_
              refine qa_dreturn rfl rfl (hQ _ _ (qa_Mv.mk (k1 := 0) (by unfold fo_mk; rw [if_pos (by omega), ek, if_neg (by omega)]) (fun _ => by rw [hs, hn]; unfold sm_md; rw [ek]; rfl) e0 hM fr))
            · refine qa_aload_n (pc' := 82) ⟨rfl, rfl⟩ rfl ?_
              refine qa_iconst (pc' := 83) ⟨rfl, rfl⟩ ?_
              refine qa_callV rfl qf_M_throwing ql_10_60 (c_M_throwing (E := E) (f := (sN_put f 12 0)) (v := 2) hlo hM) hM rfl rfl rfl (qa_lt9 rfl) (qa_le9 rfl) (qa_le9 rfl) (qa_le9 rfl) (fun o9 τ9 hq9 => ?_)
              obtain ⟨rfl, e9, hM, f9⟩ := hq9
              refine qa_nx (pc' := 86) (st' := [_]) rfl rfl rfl rfl ?_
              refine qa_pop (pc' := 87) ⟨rfl, rfl⟩ rfl ?_
              refine qa_dconst0 (pc' := 88) ⟨rfl, rfl⟩ ?_
              refine qa_dreturn rfl rfl (hQ _ _ (qa_Mv.mk (k1 := 2) (by unfold fo_mk; rw [if_pos (by omega), ek, if_pos (by omega)]) (fun h => absurd h (by decide)) (e9.trans e0) (by rw [sN_pp] at hM; exact hM) (fun q hq => (f9 q hq).trans (fr q hq))))
          · exact absurd hc1 (by omega)
        | succ f9 ih =>
          intro k s n ⟨hkf, hs, hn⟩
          refine qa_iload (pc' := 30) ⟨rfl, rfl⟩ rfl ?_
          refine qa_aload_n (pc' := 31) ⟨rfl, rfl⟩ rfl ?_
          refine qa_iload_n (pc' := 32) ⟨rfl, rfl⟩ rfl ?_
          refine qa_callV rfl qf_M_notes ql_10_77 (c_M_notes (E := E) hM hm ⟨by omega, by omega⟩) hM rfl rfl rfl (qa_lt9 rfl) (qa_le9 rfl) (qa_le9 rfl) (qa_le9 rfl) (fun o9 τ9 hq9 => ?_)
          obtain ⟨rfl, hq9⟩ := hq9
          replace hq9 := hq9.symm; subst hq9
          refine qa_nx (pc' := 35) (st' := [_, _]) rfl rfl rfl rfl ?_
          refine qa_icmp_ge (pc' := 38) (tgt := 77) ⟨rfl, rfl⟩ rfl (by omega) (by omega) (fun hc1 => ?_) (fun hc1 => ?_)
          · exact absurd hc1 (by omega)
          · have kp := kk.2.1 k (by omega) (by omega)
            have es : s + (if sm_pf m p k ≤ 0 then 0 else sm_pf m p k) = sp_ps (sm_pf m p) (k + 1) := by
              rw [hs]
              show _ = sp_ps (sm_pf m p) k + (if sm_pf m p k = -1 then 0 else sm_pf m p k)
              split <;> split <;> omega
            refine qa_iload_n (pc' := 39) ⟨rfl, rfl⟩ rfl ?_
            refine qa_iconst (pc' := 40) ⟨rfl, rfl⟩ ?_
            refine qa_aload_n (pc' := 41) ⟨rfl, rfl⟩ rfl ?_
            refine qa_iload_n (pc' := 42) ⟨rfl, rfl⟩ rfl ?_
            refine qa_iload (pc' := 44) ⟨rfl, rfl⟩ rfl ?_
            refine qa_callV rfl qf_M_pitch ql_10_90 (c_M_pitch (E := E) hM hm ⟨by omega, by omega⟩ ⟨by omega, by omega⟩) hM rfl rfl rfl (qa_lt9 rfl) (qa_le9 rfl) (qa_le9 rfl) (qa_le9 rfl) (fun o9 τ9 hq9 => ?_)
            obtain ⟨rfl, hq9⟩ := hq9
            replace hq9 := hq9.symm; subst hq9
            refine qa_nx (pc' := 47) (st' := [_, _, _]) rfl rfl rfl rfl ?_
            refine qa_callS rfl qf_MA_max rfl ql_10_195 (c_MA_max (E := E) (by omega) (by omega)) rfl rfl (qa_lt9 rfl) (qa_le9 rfl) (qa_le9 rfl) (qa_le9 rfl) (fun o9 τ9 hq9 => ?_)
            obtain ⟨rfl, hq9⟩ := hq9
            replace hq9 := hq9.symm; subst hq9
            refine qa_nx (pc' := 50) (st' := [_, _]) rfl rfl rfl rfl ?_
            refine qa_iadd (z := sp_ps (sm_pf m p) (k + 1)) (pc' := 51) ⟨rfl, rfl⟩ es ?_
            refine qa_istore_n (L' := [(0, _), (1, _), (2, _), (3, _), (4, _)]) (pc' := 52) ⟨rfl, rfl⟩ rfl rfl ?_
            refine qa_iload_n (pc' := 53) ⟨rfl, rfl⟩ rfl ?_
            refine qa_aload_n (pc' := 54) ⟨rfl, rfl⟩ rfl ?_
            refine qa_iload_n (pc' := 55) ⟨rfl, rfl⟩ rfl ?_
            refine qa_iload (pc' := 57) ⟨rfl, rfl⟩ rfl ?_
            refine qa_callV rfl qf_M_pitch ql_10_90 (c_M_pitch (E := E) hM hm ⟨by omega, by omega⟩ ⟨by omega, by omega⟩) hM rfl rfl rfl (qa_lt9 rfl) (qa_le9 rfl) (qa_le9 rfl) (qa_le9 rfl) (fun o9 τ9 hq9 => ?_)
            obtain ⟨rfl, hq9⟩ := hq9
            replace hq9 := hq9.symm; subst hq9
            refine qa_nx (pc' := 60) (st' := [_, _]) rfl rfl rfl rfl ?_
            refine qa_iconst (pc' := 61) ⟨rfl, rfl⟩ ?_
            refine qa_icmp_ne (pc' := 64) (tgt := 68) ⟨rfl, rfl⟩ rfl (by omega) (by omega) (fun hc2 => ?_) (fun hc2 => ?_)
            · refine qa_iconst (pc' := 69) ⟨rfl, rfl⟩ ?_
              refine qa_iadd (z := sp_ct (sm_pf m p) (k + 1)) (pc' := 70) ⟨rfl, rfl⟩ (by rw [hn]; show _ = sp_ct (sm_pf m p) k + (if sm_pf m p k = -1 then 0 else 1); rw [if_neg hc2]) ?_
              refine qa_istore_n (L' := [(0, _), (1, _), (2, _), (3, _), (4, _)]) (pc' := 71) ⟨rfl, rfl⟩ rfl rfl ?_
              refine qa_iinc (L' := [(0, _), (1, _), (2, _), (3, _), (4, _)]) (z := ((k + 1 : Nat) : Int)) (pc' := 74) ⟨rfl, rfl⟩ rfl (by omega) rfl rfl ?_
              refine qa_goto (pc' := 77) (tgt := 28) ⟨rfl, rfl⟩ rfl ?_
              exact ih (k + 1) _ _ ⟨by omega, rfl, rfl⟩
            · refine qa_iconst (pc' := 65) ⟨rfl, rfl⟩ ?_
              refine qa_goto (pc' := 68) (tgt := 69) ⟨rfl, rfl⟩ rfl ?_
              refine qa_iadd (z := sp_ct (sm_pf m p) (k + 1)) (pc' := 70) ⟨rfl, rfl⟩ (by rw [hn]; show _ = sp_ct (sm_pf m p) k + (if sm_pf m p k = -1 then 0 else 1); rw [if_pos hc2]) ?_
              refine qa_istore_n (L' := [(0, _), (1, _), (2, _), (3, _), (4, _)]) (pc' := 71) ⟨rfl, rfl⟩ rfl rfl ?_
              refine qa_iinc (L' := [(0, _), (1, _), (2, _), (3, _), (4, _)]) (z := ((k + 1 : Nat) : Int)) (pc' := 74) ⟨rfl, rfl⟩ rfl (by omega) rfl rfl ?_
              refine qa_goto (pc' := 77) (tgt := 28) ⟨rfl, rfl⟩ rfl ?_
              exact ih (k + 1) _ _ ⟨by omega, rfl, rfl⟩
      exact lp (sm_n m p).toNat 0 0 0 ⟨by omega, rfl, rfl⟩
    · exact absurd hp99 (by omega)
  · rw [if_neg hp9]
    refine qa_if_ne (pc' := 13) (tgt := 21) ⟨rfl, rfl⟩ rfl (by omega) (fun hp99 => ?_) (fun hp99 => ?_)
    · exact absurd hp99 (by omega)
    · refine qa_aload_n (pc' := 14) ⟨rfl, rfl⟩ rfl ?_
      refine qa_iconst (pc' := 15) ⟨rfl, rfl⟩ ?_
      refine qa_callV rfl qf_M_throwing ql_10_60 (c_M_throwing (E := E) (f := (sN_put f 12 0)) (v := 1) hlo hM) hM rfl rfl rfl (qa_lt9 rfl) (qa_le9 rfl) (qa_le9 rfl) (qa_le9 rfl) (fun o9 τ9 hq9 => ?_)
      obtain ⟨rfl, e9, hM, f9⟩ := hq9
      refine qa_nx (pc' := 18) (st' := [_]) rfl rfl rfl rfl ?_
      refine qa_pop (pc' := 19) ⟨rfl, rfl⟩ rfl ?_
      refine qa_dconst0 (pc' := 20) ⟨rfl, rfl⟩ ?_
      refine qa_dreturn rfl rfl (hQ _ _ (qa_Mv.mk (k1 := 1) (by unfold fo_mk; rw [if_neg (by omega)]) (fun h => absurd h (by decide)) (e9.trans e0) (by rw [sN_pp] at hM; exact hM) (fun q hq => (f9 q hq).trans (fr q hq))))
theorem c_M_restShare {E : qa_V} {σ : qa_S} {μ : Nat} {f : Nat → Int} {m : Int → Int} {B : Int} {p : Int} (hlo : E.1 ≤ μ) (hM : σ.1 μ = some (qa_MoF μ f)) (hm : σ.1 (μ + 1) = some (qa_ia 146 m)) (hk : sm_ok m B) (hp : qa_in p) : qa_T E qm_M_restShare 0 0 [.ref μ, .int (qa_i p)] σ (qa_Mv Value.float σ μ f (fo_rk m p) (sm_rs m p)) := by
  refine qa_enterQ (by decide) rfl qm_M_restShare_ok rfl rfl (fun Q9 hQ => ?_)
  obtain ⟨k0, k1, k2, k3, k4, k5, k6, k7, k8⟩ := id hk
  have e0 : σ.2 = σ.2 := rfl
  have fr : ∀ q, q ≠ μ → σ.1 q = σ.1 q := fun _ _ => rfl
  refine qa_aload_n (pc' := 1) ⟨rfl, rfl⟩ rfl ?_
  refine qa_iconst (pc' := 2) ⟨rfl, rfl⟩ ?_
  refine qa_putf (fs' := [_, _, _, _, _, _, _, _, _, _, _, _, _, _, _, _, _, _, _, _, _, _, _, _, _, _, _]) (pc' := 5) ⟨rfl, rfl⟩ qg_10_51 qw_9 hM (by omega) rfl (fun r hr => by cases hr; exact ⟨rfl, Or.inl rfl⟩) rfl rfl ?_
  refine qa_gz (fun τ1 e1 w1 f1 => ?_)
  replace hm := (f1 _ (by omega)).trans hm
  replace fr := fun q hq => (f1 q (by have := hq; omega)).trans (fr q hq)
  replace e0 := e1.trans e0
  have hM : τ1.1 μ = some (qa_MoF μ (sN_put f 12 0)) := w1
  refine qa_aload_n (pc' := 6) ⟨rfl, rfl⟩ rfl ?_
  refine qa_iload_n (pc' := 7) ⟨rfl, rfl⟩ rfl ?_
  refine qa_callV rfl qf_M_isPart ql_10_111 (c_M_isPart (E := E) hM hm hk (by omega)) hM rfl rfl rfl (qa_lt9 rfl) (qa_le9 rfl) (qa_le9 rfl) (qa_le9 rfl) (fun o9 τ9 hq9 => ?_)
  obtain ⟨rfl, hq9⟩ := hq9
  replace hq9 := hq9.symm; subst hq9
  refine qa_nx (pc' := 10) (st' := [_]) rfl rfl rfl rfl ?_
  by_cases hp9 : 0 ≤ p ∧ p < m 0
  · rw [if_pos hp9]
    refine qa_if_ne (pc' := 13) (tgt := 21) ⟨rfl, rfl⟩ rfl (by omega) (fun hp99 => ?_) (fun hp99 => ?_)
    · have kk := k4 p (by omega) (by omega)
      have kn := kk.1
      have kw := sm_wh_b kk
      have kb := sm_rs_b kk
      refine qa_aload_n (pc' := 22) ⟨rfl, rfl⟩ rfl ?_
      refine qa_iload_n (pc' := 23) ⟨rfl, rfl⟩ rfl ?_
      refine qa_callV rfl qf_M_notes ql_10_77 (c_M_notes (E := E) hM hm ⟨by omega, by omega⟩) hM rfl rfl rfl (qa_lt9 rfl) (qa_le9 rfl) (qa_le9 rfl) (qa_le9 rfl) (fun o9 τ9 hq9 => ?_)
      obtain ⟨rfl, hq9⟩ := hq9
      replace hq9 := hq9.symm; subst hq9
      refine qa_nx (pc' := 26) (st' := [_]) rfl rfl rfl rfl ?_
      refine qa_if_ne (pc' := 29) (tgt := 37) ⟨rfl, rfl⟩ rfl (by omega) (fun hc0 => ?_) (fun hc0 => ?_)
      · refine qa_iconst (pc' := 38) ⟨rfl, rfl⟩ ?_
        refine qa_istore_n (L' := [(0, _), (1, _), (2, _)]) (pc' := 39) ⟨rfl, rfl⟩ rfl rfl ?_
        refine qa_iconst (pc' := 40) ⟨rfl, rfl⟩ ?_
        refine qa_istore_n (L' := [(0, _), (1, _), (2, _), (3, _)]) (pc' := 41) ⟨rfl, rfl⟩ rfl rfl ?_
        have lp : ∀ (f9 : Nat) (k : Nat) (r : Int), ((k : Int) + f9 = sm_n m p ∧ r = sp_rs (sm_pf m p) (sm_lf m p) k) → qa_W E qm_M_restShare Q9 0 0 41 [(0, .ref μ), (1, .int (qa_i p)), (2, .int (qa_i r)), (3, .int (qa_i k))] [] τ1 := by
          intro f9
          induction f9 with
          | zero =>
            intro k r ⟨hkf, hr⟩
            refine qa_iload_n (pc' := 42) ⟨rfl, rfl⟩ rfl ?_
            refine qa_aload_n (pc' := 43) ⟨rfl, rfl⟩ rfl ?_
            refine qa_iload_n (pc' := 44) ⟨rfl, rfl⟩ rfl ?_
            refine qa_callV rfl qf_M_notes ql_10_77 (c_M_notes (E := E) hM hm ⟨by omega, by omega⟩) hM rfl rfl rfl (qa_lt9 rfl) (qa_le9 rfl) (qa_le9 rfl) (qa_le9 rfl) (fun o9 τ9 hq9 => ?_)
            obtain ⟨rfl, hq9⟩ := hq9
            replace hq9 := hq9.symm; subst hq9
            refine qa_nx (pc' := 47) (st' := [_, _]) rfl rfl rfl rfl ?_
            refine qa_icmp_ge (pc' := 50) (tgt := 79) ⟨rfl, rfl⟩ rfl (by omega) (by omega) (fun hc1 => ?_) (fun hc1 => ?_)
            · have ek : (sm_n m p).toNat = k := by omega
              rw [ek] at kb
              refine qa_iload_n (pc' := 80) ⟨rfl, rfl⟩ rfl ?_
              refine qa_i2f (pc' := 81) ⟨rfl, rfl⟩ ?_
              refine qa_aload_n (pc' := 82) ⟨rfl, rfl⟩ rfl ?_
              refine qa_iload_n (pc' := 83) ⟨rfl, rfl⟩ rfl ?_
              refine qa_callV rfl qf_M_whole ql_10_84 (c_M_whole (E := E) hM hm hk ⟨by omega, by omega⟩) hM rfl rfl rfl (qa_lt9 rfl) (qa_le9 rfl) (qa_le9 rfl) (qa_le9 rfl) (fun o9 τ9 hq9 => ?_)
              obtain ⟨rfl, hq9⟩ := hq9
              replace hq9 := hq9.symm; subst hq9
              refine qa_nx (pc' := 86) (st' := [_, _]) rfl rfl rfl rfl ?_
              have hd9 := (sf_xx (r := r) (t := sm_wh m p) (by omega) (by omega)).1
              refine qa_i2f (pc' := 87) ⟨rfl, rfl⟩ ?_
              refine qa_fdiv (pc' := 88) ⟨rfl, rfl⟩ hd9 ?_
              refine qa_freturn rfl rfl (hQ _ _ (qa_Mv.mk (k1 := 0) (by unfold fo_rk; rw [if_pos (by omega), if_neg (by omega)]) (fun _ => by rw [hr]; unfold sm_rs; rw [ek]; rfl) e0 hM fr))
            · exact absurd hc1 (by omega)
          | succ f9 ih =>
            intro k r ⟨hkf, hr⟩
            refine qa_iload_n (pc' := 42) ⟨rfl, rfl⟩ rfl ?_
            refine qa_aload_n (pc' := 43) ⟨rfl, rfl⟩ rfl ?_
            refine qa_iload_n (pc' := 44) ⟨rfl, rfl⟩ rfl ?_
            refine qa_callV rfl qf_M_notes ql_10_77 (c_M_notes (E := E) hM hm ⟨by omega, by omega⟩) hM rfl rfl rfl (qa_lt9 rfl) (qa_le9 rfl) (qa_le9 rfl) (qa_le9 rfl) (fun o9 τ9 hq9 => ?_)
            obtain ⟨rfl, hq9⟩ := hq9
            replace hq9 := hq9.symm; subst hq9
            refine qa_nx (pc' := 47) (st' := [_, _]) rfl rfl rfl rfl ?_
            refine qa_icmp_ge (pc' := 50) (tgt := 79) ⟨rfl, rfl⟩ rfl (by omega) (by omega) (fun hc1 => ?_) (fun hc1 => ?_)
            · exact absurd hc1 (by omega)
            · have kp := kk.2.1 k (by omega) (by omega)
              refine qa_iload_n (pc' := 51) ⟨rfl, rfl⟩ rfl ?_
              refine qa_aload_n (pc' := 52) ⟨rfl, rfl⟩ rfl ?_
              refine qa_iload_n (pc' := 53) ⟨rfl, rfl⟩ rfl ?_
              refine qa_iload_n (pc' := 54) ⟨rfl, rfl⟩ rfl ?_
              refine qa_callV rfl qf_M_pitch ql_10_90 (c_M_pitch (E := E) hM hm ⟨by omega, by omega⟩ ⟨by omega, by omega⟩) hM rfl rfl rfl (qa_lt9 rfl) (qa_le9 rfl) (qa_le9 rfl) (qa_le9 rfl) (fun o9 τ9 hq9 => ?_)
              obtain ⟨rfl, hq9⟩ := hq9
              replace hq9 := hq9.symm; subst hq9
              refine qa_nx (pc' := 57) (st' := [_, _]) rfl rfl rfl rfl ?_
              refine qa_iconst (pc' := 58) ⟨rfl, rfl⟩ ?_
              refine qa_icmp_ne (pc' := 61) (tgt := 70) ⟨rfl, rfl⟩ rfl (by omega) (by omega) (fun hc2 => ?_) (fun hc2 => ?_)
              · refine qa_iconst (pc' := 71) ⟨rfl, rfl⟩ ?_
                refine qa_iadd (z := sp_rs (sm_pf m p) (sm_lf m p) (k + 1)) (pc' := 72) ⟨rfl, rfl⟩ (by rw [hr]; show _ = sp_rs (sm_pf m p) (sm_lf m p) k + (if sm_pf m p k = -1 then sm_lf m p k else 0); rw [if_neg hc2]) ?_
                refine qa_istore_n (L' := [(0, _), (1, _), (2, _), (3, _)]) (pc' := 73) ⟨rfl, rfl⟩ rfl rfl ?_
                refine qa_iinc (L' := [(0, _), (1, _), (2, _), (3, _)]) (z := ((k + 1 : Nat) : Int)) (pc' := 76) ⟨rfl, rfl⟩ rfl (by omega) rfl rfl ?_
                refine qa_goto (pc' := 79) (tgt := 41) ⟨rfl, rfl⟩ rfl ?_
                exact ih (k + 1) _ ⟨by omega, rfl⟩
              · refine qa_aload_n (pc' := 62) ⟨rfl, rfl⟩ rfl ?_
                refine qa_iload_n (pc' := 63) ⟨rfl, rfl⟩ rfl ?_
                refine qa_iload_n (pc' := 64) ⟨rfl, rfl⟩ rfl ?_
                refine qa_callV rfl qf_M_ticks ql_10_80 (c_M_ticks (E := E) hM hm ⟨by omega, by omega⟩ ⟨by omega, by omega⟩) hM rfl rfl rfl (qa_lt9 rfl) (qa_le9 rfl) (qa_le9 rfl) (qa_le9 rfl) (fun o9 τ9 hq9 => ?_)
                obtain ⟨rfl, hq9⟩ := hq9
                replace hq9 := hq9.symm; subst hq9
                refine qa_nx (pc' := 67) (st' := [_, _]) rfl rfl rfl rfl ?_
                refine qa_goto (pc' := 70) (tgt := 71) ⟨rfl, rfl⟩ rfl ?_
                refine qa_iadd (z := sp_rs (sm_pf m p) (sm_lf m p) (k + 1)) (pc' := 72) ⟨rfl, rfl⟩ (by rw [hr]; show _ = sp_rs (sm_pf m p) (sm_lf m p) k + (if sm_pf m p k = -1 then sm_lf m p k else 0); rw [if_pos hc2]) ?_
                refine qa_istore_n (L' := [(0, _), (1, _), (2, _), (3, _)]) (pc' := 73) ⟨rfl, rfl⟩ rfl rfl ?_
                refine qa_iinc (L' := [(0, _), (1, _), (2, _), (3, _)]) (z := ((k + 1 : Nat) : Int)) (pc' := 76) ⟨rfl, rfl⟩ rfl (by omega) rfl rfl ?_
                refine qa_goto (pc' := 79) (tgt := 41) ⟨rfl, rfl⟩ rfl ?_
                exact ih (k + 1) _ ⟨by omega, rfl⟩
        exact lp (sm_n m p).toNat 0 0 ⟨by omega, rfl⟩
      · refine qa_aload_n (pc' := 30) ⟨rfl, rfl⟩ rfl ?_
        refine qa_iconst (pc' := 31) ⟨rfl, rfl⟩ ?_
        refine qa_callV rfl qf_M_throwing ql_10_60 (c_M_throwing (E := E) (f := (sN_put f 12 0)) (v := 2) hlo hM) hM rfl rfl rfl (qa_lt9 rfl) (qa_le9 rfl) (qa_le9 rfl) (qa_le9 rfl) (fun o9 τ9 hq9 => ?_)
        obtain ⟨rfl, e9, hM, f9⟩ := hq9
        refine qa_nx (pc' := 34) (st' := [_]) rfl rfl rfl rfl ?_
        refine qa_pop (pc' := 35) ⟨rfl, rfl⟩ rfl ?_
        refine qa_fconst0 (pc' := 36) ⟨rfl, rfl⟩ ?_
        refine qa_freturn rfl rfl (hQ _ _ (qa_Mv.mk (k1 := 2) (by unfold fo_rk; rw [if_pos (by omega), if_pos (by omega)]) (fun h => absurd h (by decide)) (e9.trans e0) (by rw [sN_pp] at hM; exact hM) (fun q hq => (f9 q hq).trans (fr q hq))))
    · exact absurd hp99 (by omega)
  · rw [if_neg hp9]
    refine qa_if_ne (pc' := 13) (tgt := 21) ⟨rfl, rfl⟩ rfl (by omega) (fun hp99 => ?_) (fun hp99 => ?_)
    · exact absurd hp99 (by omega)
    · refine qa_aload_n (pc' := 14) ⟨rfl, rfl⟩ rfl ?_
      refine qa_iconst (pc' := 15) ⟨rfl, rfl⟩ ?_
      refine qa_callV rfl qf_M_throwing ql_10_60 (c_M_throwing (E := E) (f := (sN_put f 12 0)) (v := 1) hlo hM) hM rfl rfl rfl (qa_lt9 rfl) (qa_le9 rfl) (qa_le9 rfl) (qa_le9 rfl) (fun o9 τ9 hq9 => ?_)
      obtain ⟨rfl, e9, hM, f9⟩ := hq9
      refine qa_nx (pc' := 18) (st' := [_]) rfl rfl rfl rfl ?_
      refine qa_pop (pc' := 19) ⟨rfl, rfl⟩ rfl ?_
      refine qa_fconst0 (pc' := 20) ⟨rfl, rfl⟩ ?_
      refine qa_freturn rfl rfl (hQ _ _ (qa_Mv.mk (k1 := 1) (by unfold fo_rk; rw [if_neg (by omega)]) (fun h => absurd h (by decide)) (e9.trans e0) (by rw [sN_pp] at hM; exact hM) (fun q hq => (f9 q hq).trans (fr q hq))))
theorem fo_rk_b (m : Int → Int) (p : Int) : 0 ≤ fo_rk m p ∧ fo_rk m p ≤ 2 := by
  unfold fo_rk
  split <;> (try split) <;> decide
theorem fo_mk_b (m : Int → Int) (p : Int) : 0 ≤ fo_mk m p ∧ fo_mk m p ≤ 2 := by
  unfold fo_mk
  split <;> (try split) <;> decide
theorem sm_rs_e {m : Int → Int} {B p : Int} (hk : sm_ok m B) (h : fo_rk m p = 0) : FP.fcmp (sm_rs m p) (sm_rs m p) = some .eq := by
  unfold fo_rk at h
  split at h
  · rename_i h1
    split at h
    · exact absurd h (by decide)
    · rename_i h2
      have k0 := hk.1
      have kk := hk.2.2.2.2.1 p h1.1 (by have := h1.2; omega)
      have kw := sm_wh_b kk
      have kn := kk.1
      exact (sf_xx (sm_rs_b kk).1 (by omega)).2.1
  · exact absurd h (by decide)
theorem c_M_restShareBits {E : qa_V} {σ : qa_S} {μ : Nat} {f : Nat → Int} {m : Int → Int} {B : Int} {p : Int} (hlo : E.1 ≤ μ) (hM : σ.1 μ = some (qa_MoF μ f)) (hm : σ.1 (μ + 1) = some (qa_ia 146 m)) (hk : sm_ok m B) (hp : qa_in p) : qa_T E qm_M_restShareBits 0 0 [.ref μ, .int (qa_i p)] σ (qa_Mi σ μ f (fo_rk m p, sm_rb m p)) := by
  refine qa_enterQ (by decide) rfl qm_M_restShareBits_ok rfl rfl (fun Q9 hQ => ?_)
  obtain ⟨k0, k1, k2, k3, k4, k5, k6, k7, k8⟩ := id hk
  refine qa_aload_n (pc' := 1) ⟨rfl, rfl⟩ rfl ?_
  refine qa_iload_n (pc' := 2) ⟨rfl, rfl⟩ rfl ?_
  refine qa_callV rfl qf_M_restShare ql_10_235 (c_M_restShare (E := E) hlo hM hm hk hp) hM rfl rfl rfl (qa_lt9 rfl) (qa_le9 rfl) (qa_le9 rfl) (qa_le9 rfl) (fun o9 τ9 hq9 => ?_)
  obtain ⟨⟨w, rfl, hw⟩, e0, hM, fr⟩ := hq9
  refine qa_nx (pc' := 5) (st' := [_]) rfl rfl rfl rfl ?_
  have hb9 := fo_rk_b m p
  refine qa_fstore_n (L' := [(0, _), (1, _), (2, _)]) (pc' := 6) ⟨rfl, rfl⟩ rfl rfl ?_
  refine qa_aload_n (pc' := 7) ⟨rfl, rfl⟩ rfl ?_
  refine qa_getf (v := .int (qa_i (fo_rk m p))) (pc' := 10) ⟨rfl, rfl⟩ qg_10_51 hM rfl ?_
  refine qa_if_le (pc' := 13) (tgt := 17) ⟨rfl, rfl⟩ rfl (by omega) (fun hc1 => ?_) (fun hc1 => ?_)
  · have h0 : fo_rk m p = 0 := by omega
    have hw2 := hw h0
    subst hw2
    refine qa_fload_n (pc' := 18) ⟨rfl, rfl⟩ rfl ?_
    refine qa_callS rfl qf_FL_floatToIntBits rfl ql_10_239 (c_FL_floatToIntBits (E := E) (sm_rs_e hk h0)) rfl rfl (qa_lt9 rfl) (qa_le9 rfl) (qa_le9 rfl) (qa_le9 rfl) (fun o9 τ9 hq9 => ?_)
    obtain ⟨rfl, hq9⟩ := hq9
    replace hq9 := hq9.symm; subst hq9
    refine qa_nx (pc' := 21) (st' := [_]) rfl rfl rfl rfl ?_
    rw [show (sm_rs m p).toInt32 = qa_i (sm_rb m p) from (sf_i _).symm]
    refine qa_ireturn rfl rfl rfl (hQ _ _ (qa_Mi.mk rfl (fun _ => rfl) e0 hM fr))
  · refine qa_iconst (pc' := 14) ⟨rfl, rfl⟩ ?_
    refine qa_goto (pc' := 17) (tgt := 21) ⟨rfl, rfl⟩ rfl ?_
    refine qa_ireturn rfl rfl rfl (hQ _ _ (qa_Mi.mk rfl (fun h => absurd h (by omega)) e0 hM fr))
theorem c_C_shareOfRests {E : qa_V} {σ : qa_S} {b : Nat} {m : Int → Int} {i : Int} (hP : sR_P σ.1 b m i) (kk : sm_okp m i) : qa_T E qm_C_shareOfRests 1 6 [.ref b] σ (qa_oe σ (sm_n m i ≠ 0) 4 (some (.float (sm_rs m i)))) := by
  refine qa_enterQ (by decide) rfl qm_C_shareOfRests_ok rfl rfl (fun Q9 hQ => ?_)
  have hP9 := hP
  obtain ⟨p9, l9, u9, d9, h1, h2, h3, h4, h5, h6⟩ := hP
  have kn := kk.1
  have kw := sm_wh_b kk
  have kb := sm_rs_b kk
  refine qa_aload_n (pc' := 1) ⟨rfl, rfl⟩ rfl ?_
  refine qa_getf (pc' := 4) ⟨rfl, rfl⟩ qg_1_103 (by assumption) rfl ?_
  refine qa_if_ne (pc' := 7) (tgt := 18) ⟨rfl, rfl⟩ rfl (by omega) (fun hc1 => ?_) (fun hc1 => ?_)
  · refine qa_aload_n (pc' := 19) ⟨rfl, rfl⟩ rfl ?_
    refine qa_callV rfl qf_P_restTicks ql_1_420 (d_P_restTicks (E := E) hP9 kk) h1 rfl rfl rfl (qa_lt9 rfl) (qa_le9 rfl) (qa_le9 rfl) (qa_le9 rfl) (fun o9 τ9 hq9 => ?_)
    obtain ⟨rfl, hq9⟩ := hq9
    replace hq9 := hq9.symm; subst hq9
    refine qa_nx (pc' := 22) (st' := [_]) rfl rfl rfl rfl ?_
    have hd9 := (sf_xx kb.1 (show 1 ≤ sm_wh m i ∧ sm_wh m i ≤ 120 by omega)).1
    refine qa_i2f (pc' := 23) ⟨rfl, rfl⟩ ?_
    refine qa_aload_n (pc' := 24) ⟨rfl, rfl⟩ rfl ?_
    refine qa_getf (pc' := 27) ⟨rfl, rfl⟩ qg_1_103 (by assumption) rfl ?_
    refine qa_i2f (pc' := 28) ⟨rfl, rfl⟩ ?_
    refine qa_fdiv (pc' := 29) ⟨rfl, rfl⟩ hd9 ?_
    refine qa_freturn rfl rfl (hQ _ _ (Or.inl ⟨by omega, rfl, rfl⟩))
  · refine qa_throwW rfl rfl rfl rfl rfl rfl qt_1_251_410_255 (qa_le9 rfl) (fun n9 hn9 => hQ _ _ (Or.inr ⟨by omega, rfl, rfl, hn9⟩))
theorem c_C_meanPitch {E : qa_V} {σ : qa_S} {c : Nat} {m : Int → Int} {n : Nat → Int} {rf B : Int} {p : Int} (hc : σ.1 c = some (qa_CoF c n)) (hS : sR_S σ.1 (c + 1) m rf) (hk : sm_ok m B) (hp : qa_in p) : qa_T E qm_C_meanPitch 4 24 [.ref c, .int (qa_i p)] σ (qa_q σ (qa_ov (fo_mk m p) [0, 4] (.double (sm_md m p)))) := by
  refine qa_enterQ (by decide) rfl qm_C_meanPitch_ok rfl rfl (fun Q9 hQ => ?_)
  have hk9 := hk
  have hS9 := hS
  obtain ⟨k0, k1, k2, k3, k4, k5, k6, k7, k8⟩ := hk9
  obtain ⟨hs, hpa, hcq, htq, hpp⟩ := hS9
  refine qa_aload_n (pc' := 1) ⟨rfl, rfl⟩ rfl ?_
  refine qa_iload_n (pc' := 2) ⟨rfl, rfl⟩ rfl ?_
  refine qa_callV rfl qf_C_partOf ql_1_76 (c_C_partOf (E := E) hc hS hk hp) hc rfl rfl rfl (qa_lt9 rfl) (qa_le9 rfl) (qa_le9 rfl) (qa_le9 rfl) (fun o9 τ9 hq9 => ?_)
  rcases hq9 with ⟨ok9, rfl, hq9⟩ | ⟨no9, rfl, hh9, hn9⟩
  · replace hq9 := hq9.symm; subst hq9
    refine qa_nx (pc' := 5) (st' := [_]) rfl rfl rfl rfl ?_
    have kk := k4 p ok9.1 (by omega)
    have kn := kk.1
    have kb := sm_rs_b kk
    have kw := sm_wh_b kk
    have hP := hpp p ok9.1 (by omega)
    have hP9 := hP
    obtain ⟨p9, l9, u9, d9, h1, h2, h3, h4, h5, h6⟩ := hP
    refine qa_astore_n (L' := [(0, _), (1, _), (2, _)]) (pc' := 6) ⟨rfl, rfl⟩ rfl rfl ?_
    refine qa_aload_n (pc' := 7) ⟨rfl, rfl⟩ rfl ?_
    refine qa_callV rfl qf_P_pitchTotal ql_1_248 (d_P_pitchTotal (E := E) hP9 kk) h1 rfl rfl rfl (qa_lt9 rfl) (qa_le9 rfl) (qa_le9 rfl) (qa_le9 rfl) (fun o9 τ9 hq9 => ?_)
    obtain ⟨rfl, hq9⟩ := hq9
    replace hq9 := hq9.symm; subst hq9
    refine qa_nx (pc' := 10) (st' := [_]) rfl rfl rfl rfl ?_
    refine qa_istore_n (L' := [(0, _), (1, _), (2, _), (3, _)]) (pc' := 11) ⟨rfl, rfl⟩ rfl rfl ?_
    refine qa_iload_n (pc' := 12) ⟨rfl, rfl⟩ rfl ?_
    refine qa_if_ne (pc' := 15) (tgt := 25) ⟨rfl, rfl⟩ rfl (by omega) (fun hc1 => ?_) (fun hc1 => ?_)
    · refine qa_aload_n (pc' := 26) ⟨rfl, rfl⟩ rfl ?_
      refine qa_callV rfl qf_P_pitchSum ql_1_256 (d_P_pitchSum (E := E) hP9 kk) h1 rfl rfl rfl (qa_lt9 rfl) (qa_le9 rfl) (qa_le9 rfl) (qa_le9 rfl) (fun o9 τ9 hq9 => ?_)
      obtain ⟨rfl, hq9⟩ := hq9
      replace hq9 := hq9.symm; subst hq9
      refine qa_nx (pc' := 29) (st' := [_]) rfl rfl rfl rfl ?_
      have hd9 := (sf_kk kb.2.1 (show 1 ≤ sp_ct (sm_pf m p) (sm_n m p).toNat ∧ sp_ct (sm_pf m p) (sm_n m p).toNat ≤ 10 by omega)).1
      refine qa_i2d (pc' := 30) ⟨rfl, rfl⟩ ?_
      refine qa_iload_n (pc' := 31) ⟨rfl, rfl⟩ rfl ?_
      refine qa_i2d (pc' := 32) ⟨rfl, rfl⟩ ?_
      refine qa_ddiv (pc' := 33) ⟨rfl, rfl⟩ hd9 ?_
      refine qa_dreturn rfl rfl (hQ _ _ ⟨by unfold fo_mk; rw [if_pos ok9, if_neg hc1]; rfl, rfl, Nat.le_refl _⟩)
    · refine qa_throwS rfl rfl rfl rfl rfl rfl qt_1_251_253_255 (qa_le9 rfl) (fun n9 hn9 => hQ _ _ ⟨by unfold fo_mk; rw [if_pos ok9, if_pos hc1]; rfl, rfl, hn9⟩)
  · exact qa_Zout rfl (hQ _ _ ⟨by unfold fo_mk; rw [if_neg no9]; rfl, hh9, hn9⟩)
theorem c_C_restShare {E : qa_V} {σ : qa_S} {c : Nat} {m : Int → Int} {n : Nat → Int} {rf B : Int} {p : Int} (hc : σ.1 c = some (qa_CoF c n)) (hS : sR_S σ.1 (c + 1) m rf) (hk : sm_ok m B) (hp : qa_in p) : qa_T E qm_C_restShare 4 24 [.ref c, .int (qa_i p)] σ (qa_q σ (qa_ov (fo_rk m p) [0, 4] (.float (sm_rs m p)))) := by
  refine qa_enterQ (by decide) rfl qm_C_restShare_ok rfl rfl (fun Q9 hQ => ?_)
  have hk9 := hk
  have hS9 := hS
  obtain ⟨k0, k1, k2, k3, k4, k5, k6, k7, k8⟩ := hk9
  obtain ⟨hs, hpa, hcq, htq, hpp⟩ := hS9
  refine qa_aload_n (pc' := 1) ⟨rfl, rfl⟩ rfl ?_
  refine qa_iload_n (pc' := 2) ⟨rfl, rfl⟩ rfl ?_
  refine qa_callV rfl qf_C_partOf ql_1_76 (c_C_partOf (E := E) hc hS hk hp) hc rfl rfl rfl (qa_lt9 rfl) (qa_le9 rfl) (qa_le9 rfl) (qa_le9 rfl) (fun o9 τ9 hq9 => ?_)
  rcases hq9 with ⟨ok9, rfl, hq9⟩ | ⟨no9, rfl, hh9, hn9⟩
  · replace hq9 := hq9.symm; subst hq9
    refine qa_nx (pc' := 5) (st' := [_]) rfl rfl rfl rfl ?_
    have kk := k4 p ok9.1 (by omega)
    have kn := kk.1
    have kb := sm_rs_b kk
    have kw := sm_wh_b kk
    have hP := hpp p ok9.1 (by omega)
    have hP9 := hP
    obtain ⟨p9, l9, u9, d9, h1, h2, h3, h4, h5, h6⟩ := hP
    refine qa_callS rfl qf_C_shareOfRests rfl ql_1_259 (c_C_shareOfRests (E := E) hP9 kk) rfl rfl (qa_lt9 rfl) (qa_le9 rfl) (qa_le9 rfl) (qa_le9 rfl) (fun o9 τ9 hq9 => ?_)
    rcases hq9 with ⟨ok8, rfl, hq9⟩ | ⟨no8, rfl, hh8, hn8⟩
    · replace hq9 := hq9.symm; subst hq9
      refine qa_nx (pc' := 8) (st' := [_]) rfl rfl rfl rfl ?_
      refine qa_freturn rfl rfl (hQ _ _ ⟨by unfold fo_rk; rw [if_pos ok9, if_neg ok8]; rfl, rfl, Nat.le_refl _⟩)
    · exact qa_Zout rfl (hQ _ _ ⟨by unfold fo_rk; rw [if_pos ok9, if_pos (by omega)]; rfl, hh8, hn8⟩)
  · exact qa_Zout rfl (hQ _ _ ⟨by unfold fo_rk; rw [if_neg no9]; rfl, hh9, hn9⟩)
theorem c_C_restShareBits {E : qa_V} {σ : qa_S} {c : Nat} {m : Int → Int} {n : Nat → Int} {rf B : Int} {p : Int} (hc : σ.1 c = some (qa_CoF c n)) (hS : sR_S σ.1 (c + 1) m rf) (hk : sm_ok m B) (hp : qa_in p) : qa_T E qm_C_restShareBits 4 24 [.ref c, .int (qa_i p)] σ (qa_q σ (qa_ov (fo_rk m p) [0, 4] (.int (qa_i (sm_rb m p))))) := by
  refine qa_enterQ (by decide) rfl qm_C_restShareBits_ok rfl rfl (fun Q9 hQ => ?_)
  have hk9 := hk
  have hS9 := hS
  obtain ⟨k0, k1, k2, k3, k4, k5, k6, k7, k8⟩ := hk9
  obtain ⟨hs, hpa, hcq, htq, hpp⟩ := hS9
  refine qa_aload_n (pc' := 1) ⟨rfl, rfl⟩ rfl ?_
  refine qa_iload_n (pc' := 2) ⟨rfl, rfl⟩ rfl ?_
  refine qa_callV rfl qf_C_partOf ql_1_76 (c_C_partOf (E := E) hc hS hk hp) hc rfl rfl rfl (qa_lt9 rfl) (qa_le9 rfl) (qa_le9 rfl) (qa_le9 rfl) (fun o9 τ9 hq9 => ?_)
  rcases hq9 with ⟨ok9, rfl, hq9⟩ | ⟨no9, rfl, hh9, hn9⟩
  · replace hq9 := hq9.symm; subst hq9
    refine qa_nx (pc' := 5) (st' := [_]) rfl rfl rfl rfl ?_
    have kk := k4 p ok9.1 (by omega)
    have kn := kk.1
    have kb := sm_rs_b kk
    have kw := sm_wh_b kk
    have hP := hpp p ok9.1 (by omega)
    have hP9 := hP
    obtain ⟨p9, l9, u9, d9, h1, h2, h3, h4, h5, h6⟩ := hP
    refine qa_callS rfl qf_C_shareOfRests rfl ql_1_259 (c_C_shareOfRests (E := E) hP9 kk) rfl rfl (qa_lt9 rfl) (qa_le9 rfl) (qa_le9 rfl) (qa_le9 rfl) (fun o9 τ9 hq9 => ?_)
    rcases hq9 with ⟨ok8, rfl, hq9⟩ | ⟨no8, rfl, hh8, hn8⟩
    · replace hq9 := hq9.symm; subst hq9
      refine qa_nx (pc' := 8) (st' := [_]) rfl rfl rfl rfl ?_
      refine qa_callS rfl qf_F_bitsOfShare rfl ql_1_263 (c_F_bitsOfShare (E := E) kb.1 (by omega)) rfl rfl (qa_lt9 rfl) (qa_le9 rfl) (qa_le9 rfl) (qa_le9 rfl) (fun o9 τ9 hq9 => ?_)
      obtain ⟨rfl, hq9⟩ := hq9
      replace hq9 := hq9.symm; subst hq9
      refine qa_nx (pc' := 11) (st' := [_]) rfl rfl rfl rfl ?_
      rw [show (sf_x (sp_rs (sm_pf m p) (sm_lf m p) (sm_n m p).toNat) (sm_wh m p)).toInt32 = qa_i (sm_rb m p) from (sf_i _).symm]
      refine qa_ireturn rfl rfl rfl (hQ _ _ ⟨by unfold fo_rk; rw [if_pos ok9, if_neg ok8]; rfl, rfl, Nat.le_refl _⟩)
    · exact qa_Zout rfl (hQ _ _ ⟨by unfold fo_rk; rw [if_pos ok9, if_pos (by omega)]; rfl, hh8, hn8⟩)
  · exact qa_Zout rfl (hQ _ _ ⟨by unfold fo_rk; rw [if_neg no9]; rfl, hh9, hn9⟩)
