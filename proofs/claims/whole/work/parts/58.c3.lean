/-! isConsistent: both ways always agree -/
theorem sp_pt_in (s : Int → Int) (n : Int) : ∀ (f : Nat) (p : Int), sp_pt s n f p = n ∨ (p ≤ sp_pt s n f p ∧ sp_pt s n f p < p + f)
  | 0, _ => Or.inl rfl
  | f + 1, p => by
    rw [sp_pt_s]
    split
    · rcases sp_pt_in s n f (p + 1) with h | h
      · exact Or.inl h
      · right; omega
    · right; omega
theorem sk_perz (s g : Int → Int) {n : Int} (hn : 0 ≤ n) (h0 : g 0 = 0) : n - (sp_kw s g (n - 1).toNat).1 = sp_pt s n (n - 1).toNat 1 := by
  by_cases h : 1 ≤ n
  · exact sk_period s g h h0
  · rw [show (n - 1).toNat = 0 by omega]
    show n - 0 = n
    omega
theorem c_C_nearestAgree {E : qa_V} {σ : qa_S} {b : Nat} {n t u d s o : Int} (hb : σ.1 b = some (qa_PtF b n t u d s o)) (hu : 1 ≤ u ∧ u ≤ 99) (hd : 1 ≤ d ∧ d ≤ 99) : qa_T E qm_C_nearestAgree 0 0 [.ref b] σ (fun o9 τ => o9 = .inl (some (.int (qa_i 1))) ∧ τ = σ) := by
  refine qa_enterQ (by decide) rfl qm_C_nearestAgree_ok rfl rfl (fun Q9 hQ => ?_)
  refine qa_iconst (pc' := 1) ⟨rfl, rfl⟩ ?_
  refine qa_istore_n (L' := [(0, _), (1, _)]) (pc' := 2) ⟨rfl, rfl⟩ rfl rfl ?_
  have lp : ∀ (f9 : Nat) (k : Int), (k + f9 = 21 ∧ 1 ≤ k) → qa_W E qm_C_nearestAgree Q9 0 0 2 [(0, .ref b), (1, .int (qa_i k))] [] σ := by
    intro f9
    induction f9 with
    | zero =>
      intro k ⟨hkf, hk1⟩
      refine qa_iload_n (pc' := 3) ⟨rfl, rfl⟩ rfl ?_
      refine qa_bipush (z := 20) (pc' := 5) ⟨rfl, rfl⟩ rfl ?_
      refine qa_icmp_gt (pc' := 8) (tgt := 43) ⟨rfl, rfl⟩ rfl (by omega) (by omega) (fun hc1 => ?_) (fun hc1 => ?_)
      · refine qa_iconst (pc' := 44) ⟨rfl, rfl⟩ ?_
        refine qa_ireturn rfl rfl rfl (hQ _ _ ⟨rfl, rfl⟩)
      · exact absurd hc1 (by omega)
    | succ f9 ih =>
      intro k ⟨hkf, hk1⟩
      refine qa_iload_n (pc' := 3) ⟨rfl, rfl⟩ rfl ?_
      refine qa_bipush (z := 20) (pc' := 5) ⟨rfl, rfl⟩ rfl ?_
      refine qa_icmp_gt (pc' := 8) (tgt := 43) ⟨rfl, rfl⟩ rfl (by omega) (by omega) (fun hc1 => ?_) (fun hc1 => ?_)
      · exact absurd hc1 (by omega)
      · have e := sp_dn_tn (u := u) (d := d) (x := k) (by omega) (by omega) (by omega)
        refine qa_aload_n (pc' := 9) ⟨rfl, rfl⟩ rfl ?_
        refine qa_getf (pc' := 12) ⟨rfl, rfl⟩ qg_1_152 (by assumption) rfl ?_
        refine qa_aload_n (pc' := 13) ⟨rfl, rfl⟩ rfl ?_
        refine qa_getf (pc' := 16) ⟨rfl, rfl⟩ qg_1_155 (by assumption) rfl ?_
        refine qa_iload_n (pc' := 17) ⟨rfl, rfl⟩ rfl ?_
        refine qa_callS rfl qf_F_nearestByDescent rfl ql_1_158 (c_F_nearestByDescent (E := E) (by omega) hu hd) rfl rfl (qa_lt9 rfl) (qa_le9 rfl) (qa_le9 rfl) (qa_le9 rfl) (fun o9 τ9 hq9 => ?_)
        obtain ⟨rfl, hq9⟩ := hq9
        replace hq9 := hq9.symm; subst hq9
        refine qa_nx (pc' := 20) (st' := [_]) rfl rfl rfl rfl ?_
        rw [show sp_nd u d k k.toNat 0 (u / d) 1 (u / d + 1) 1 = sp_dn u d k from rfl]
        refine qa_aload_n (pc' := 21) ⟨rfl, rfl⟩ rfl ?_
        refine qa_getf (pc' := 24) ⟨rfl, rfl⟩ qg_1_152 (by assumption) rfl ?_
        refine qa_aload_n (pc' := 25) ⟨rfl, rfl⟩ rfl ?_
        refine qa_getf (pc' := 28) ⟨rfl, rfl⟩ qg_1_155 (by assumption) rfl ?_
        refine qa_iload_n (pc' := 29) ⟨rfl, rfl⟩ rfl ?_
        refine qa_callS rfl qf_F_nearestByTrial rfl ql_1_167 (c_F_nearestByTrial (E := E) (by omega) hu hd) rfl rfl (qa_lt9 rfl) (qa_le9 rfl) (qa_le9 rfl) (qa_le9 rfl) (fun o9 τ9 hq9 => ?_)
        obtain ⟨rfl, hq9⟩ := hq9
        replace hq9 := hq9.symm; subst hq9
        refine qa_nx (pc' := 32) (st' := [_, _]) rfl rfl rfl rfl ?_
        rw [show sp_nt u d k 20 2 1 (sp_ga 1 u d) = sp_dn u d k from e.1.symm]
        refine qa_icmp_eq (pc' := 35) (tgt := 37) ⟨rfl, rfl⟩ rfl (by omega) (by omega) (fun hc2 => ?_) (fun hc2 => ?_)
        · refine qa_iinc (L' := [(0, _), (1, _)]) (z := k + 1) (pc' := 40) ⟨rfl, rfl⟩ rfl (by omega) rfl rfl ?_
          refine qa_goto (pc' := 43) (tgt := 2) ⟨rfl, rfl⟩ rfl ?_
          exact ih (k + 1) ⟨by omega, by omega⟩
        · exact absurd rfl hc2
  exact lp 20 1 ⟨by omega, by omega⟩
theorem sR_S.marks {h h' : qa_H} {a : Nat} {m : Int → Int} {rf : Int} {mk2 : Int → Int} (hS : sR_S h a m rf) (w : h' (a + 2 + 2) = some (qa_ia 5 mk2)) (f1 : ∀ q, q ≠ a + 2 + 2 → h' q = h q) : sR_S h' a m rf := by
  obtain ⟨hs, hpa, ⟨src, mw, c1, c2, c3, c4⟩, ⟨bb, vv, t1, t2, t3, t4⟩, hpp⟩ := hS
  exact ⟨(f1 _ (by omega)).trans hs, (f1 _ (by omega)).trans hpa, ⟨src, mk2, (f1 _ (by omega)).trans c1, (f1 _ (by omega)).trans c2, w, c4⟩, ⟨bb, vv, (f1 _ (by omega)).trans t1, (f1 _ (by omega)).trans t2, (f1 _ (by omega)).trans t3, t4⟩, fun i i0 i1 => (hpp i i0 i1).fr (fun q q0 q1 => f1 q (by unfold sm_pa at q0; omega))⟩
theorem c_C_partsAgree {E : qa_V} {σ : qa_S} {c vi vo : Nat} {Z : Nat → Nat} {B : Int} {m msn : Int → Int} {mh : Int → Int → Int} {sp ct : Int} {t u : List Int} {cs : sc_C} {n : Nat → Int} (hZ : qa_St E Z σ.1) (hz : qa_Sb E) (hlo : E.1 ≤ c) (hC : sR_C σ.1 c vi vo Z B m msn mh sp ct t u cs n) (hsz : c + 277 ≤ σ.2 ∧ vi < σ.2 ∧ vo < σ.2) (hB9 : B ≤ 900000000) : qa_T E qm_C_partsAgree 0 0 [.ref c] σ (fun o9 τ => o9 = .inl (some (.int (qa_i 1))) ∧ sC_F σ τ c vi vo ∧ sR_C τ.1 c vi vo Z B m msn mh sp ct t u cs n) := by
  refine qa_enterQ (by decide) rfl qm_C_partsAgree_ok rfl rfl (fun Q9 hQ => ?_)
  refine qa_iconst (pc' := 1) ⟨rfl, rfl⟩ ?_
  refine qa_istore_n (L' := [(0, _), (1, _)]) (pc' := 2) ⟨rfl, rfl⟩ rfl rfl ?_
  have T1 : ∀ (f9 : Nat) (τ : qa_S) (k : Nat), ((k : Int) + f9 = m 0 ∧ sC_F σ τ c vi vo ∧ sR_C τ.1 c vi vo Z B m msn mh sp ct t u cs n) → qa_W E qm_C_partsAgree Q9 0 0 2 [(0, .ref c), (1, .int (qa_i k))] [] τ := by
    clear hZ
    intro f9
    induction f9 with
    | zero =>
      intro τ k ⟨hkf, hF, hC⟩
      have hC9 := hC
      obtain ⟨⟨hc, hn0, hn1, hn4⟩, ⟨⟨rf, hS⟩, hk⟩, ⟨⟨rf2, hSn⟩, hkn⟩, hH, hX, hR, hBb, hv1, hv2, hv3⟩ := hC
      have hS9 := hS
      obtain ⟨hs, hpa, hcq, htq, hpp⟩ := hS9
      clear hSn hkn hH hR hBb hn0 hn1 hn4
      have hk9 := hk
      obtain ⟨k0, k1, k2, k3, k4, k5, k6, k7, k8⟩ := hk9
      refine qa_iload_n (pc' := 3) ⟨rfl, rfl⟩ rfl ?_
      refine qa_aload_n (pc' := 4) ⟨rfl, rfl⟩ rfl ?_
      refine qa_getf (pc' := 7) ⟨rfl, rfl⟩ qg_1_10 (by assumption) rfl ?_
      refine qa_getf (pc' := 10) ⟨rfl, rfl⟩ qg_1_73 (by assumption) rfl ?_
      refine qa_icmp_ge (pc' := 13) (tgt := 82) ⟨rfl, rfl⟩ rfl (by omega) (by omega) (fun hc1 => ?_) (fun hc1 => ?_)
      · refine qa_iconst (pc' := 83) ⟨rfl, rfl⟩ ?_
        refine qa_ireturn rfl rfl rfl (hQ _ _ ⟨rfl, hF, hC9⟩)
      · exact absurd hc1 (by omega)
    | succ f9 iT1 =>
      intro τ k ⟨hkf, hF, hC⟩
      have hC9 := hC
      obtain ⟨⟨hc, hn0, hn1, hn4⟩, ⟨⟨rf, hS⟩, hk⟩, ⟨⟨rf2, hSn⟩, hkn⟩, hH, hX, hR, hBb, hv1, hv2, hv3⟩ := hC
      have hS9 := hS
      obtain ⟨hs, hpa, hcq, htq, hpp⟩ := hS9
      clear hSn hkn hH hR hBb hn0 hn1 hn4
      have hk9 := hk
      obtain ⟨k0, k1, k2, k3, k4, k5, k6, k7, k8⟩ := hk9
      refine qa_iload_n (pc' := 3) ⟨rfl, rfl⟩ rfl ?_
      refine qa_aload_n (pc' := 4) ⟨rfl, rfl⟩ rfl ?_
      refine qa_getf (pc' := 7) ⟨rfl, rfl⟩ qg_1_10 (by assumption) rfl ?_
      refine qa_getf (pc' := 10) ⟨rfl, rfl⟩ qg_1_73 (by assumption) rfl ?_
      refine qa_icmp_ge (pc' := 13) (tgt := 82) ⟨rfl, rfl⟩ rfl (by omega) (by omega) (fun hc1 => ?_) (fun hc1 => ?_)
      · exact absurd hc1 (by omega)
      · have kk := k4 k (by omega) (by omega)
        have kn := kk.1
        have tp := k5 k (by omega) (by omega)
        have hks : sm_is m (k : Int) := ⟨by omega, by omega⟩
        have sq := sq_m hk hks
        have kp : c + 9 ≤ sm_pa (c + 1) k ∧ sm_pa (c + 1) k + 3 ≤ c + 24 := by unfold sm_pa; omega
        obtain ⟨gg, TT, x1, -⟩ := id hX
        refine qa_aload_n (pc' := 14) ⟨rfl, rfl⟩ rfl ?_
        refine qa_getf (pc' := 17) ⟨rfl, rfl⟩ qg_1_10 (by assumption) rfl ?_
        refine qa_getf (pc' := 20) ⟨rfl, rfl⟩ qg_1_404 (by assumption) rfl ?_
        refine qa_iload_n (pc' := 21) ⟨rfl, rfl⟩ rfl ?_
        refine qa_aaload (pc' := 22) ⟨rfl, rfl⟩ (by assumption) rfl rfl (by omega) (sm_q5_at (by omega)) ?_
        refine qa_astore_n (L' := [(0, _), (1, _), (2, _)]) (pc' := 23) ⟨rfl, rfl⟩ rfl rfl ?_
        refine qa_aload_n (pc' := 24) ⟨rfl, rfl⟩ rfl ?_
        refine qa_getf (pc' := 27) ⟨rfl, rfl⟩ qg_1_29 (by assumption) rfl ?_
        refine qa_aload_n (pc' := 28) ⟨rfl, rfl⟩ rfl ?_
        refine qa_callV rfl qf_X_periodByWalk ql_1_135 (c_X_periodByWalk (E := E) (by omega) (by omega) hX (hpp k (by omega) (by omega)) kk) x1 rfl rfl rfl (qa_lt9 rfl) (qa_le9 rfl) (qa_le9 rfl) (qa_le9 rfl) (fun o9 τ9 hq9 => ?_)
        obtain ⟨⟨g9, g90, rfl⟩, e1, f1, w1⟩ := hq9
        refine qa_nx (pc' := 31) (st' := [_]) rfl rfl rfl rfl ?_
        rw [sk_perz (sm_c m k) g9 (by omega) g90]
        have pb := sp_pt_in (sm_c m k) (sm_n m k) (sm_n m k - 1).toNat 1
        have hC := hC9.setX (fun q hq => f1 q (by omega)) w1
        replace hF : sC_F σ _ c vi vo := ⟨Nat.le_trans hF.1 (Nat.le_of_eq e1.symm), fun q q0 q1 q2 q3 => (f1 q (by omega)).trans (hF.2 q q0 q1 q2 q3)⟩
        clear hv1 hv2 hv3 hs hc hpa hcq htq hpp hS hX hk
        have hC9 := hC
        obtain ⟨⟨hc, hn0, hn1, hn4⟩, ⟨⟨rf, hS⟩, hk⟩, ⟨⟨rf2, hSn⟩, hkn⟩, hH, hX, hR, hBb, hv1, hv2, hv3⟩ := hC
        have hS9 := hS
        obtain ⟨hs, hpa, hcq, htq, hpp⟩ := hS9
        clear hSn hkn hH hR hBb hn0 hn1 hn4
        obtain ⟨gg2, TT2, x2, -⟩ := id hX
        refine qa_aload_n (pc' := 32) ⟨rfl, rfl⟩ rfl ?_
        refine qa_getf (pc' := 35) ⟨rfl, rfl⟩ qg_1_29 (by assumption) rfl ?_
        refine qa_aload_n (pc' := 36) ⟨rfl, rfl⟩ rfl ?_
        refine qa_callV rfl qf_X_periodByTrial ql_1_139 (c_X_periodByTrial (E := E) hX (hpp k (by omega) (by omega)) kk) x2 rfl rfl rfl (qa_lt9 rfl) (qa_le9 rfl) (qa_le9 rfl) (qa_le9 rfl) (fun o9 τ9 hq9 => ?_)
        obtain ⟨rfl, hq9⟩ := hq9
        replace hq9 := hq9.symm; subst hq9
        refine qa_nx (pc' := 39) (st' := [_, _]) rfl rfl rfl rfl ?_
        refine qa_icmp_ne (pc' := 42) (tgt := 74) ⟨rfl, rfl⟩ rfl (by omega) (by omega) (fun hc2 => ?_) (fun hc2 => ?_)
        · exact absurd rfl hc2
        · obtain ⟨src, mw, c1, c2, c3, c4⟩ := id hcq
          have hs5 := sm_src_b hk c4
          refine qa_aload_n (pc' := 43) ⟨rfl, rfl⟩ rfl ?_
          refine qa_getf (pc' := 46) ⟨rfl, rfl⟩ qg_1_10 (by assumption) rfl ?_
          refine qa_getf (pc' := 49) ⟨rfl, rfl⟩ qg_1_187 (by assumption) rfl ?_
          refine qa_iload_n (pc' := 50) ⟨rfl, rfl⟩ rfl ?_
          refine qa_callV rfl qf_Q_circleByTwoSpeeds ql_1_199 (c_Q_circleByTwoSpeeds (E := E) c1 c2 hs5 (by omega)) c1 rfl rfl rfl (qa_lt9 rfl) (qa_le9 rfl) (qa_le9 rfl) (qa_le9 rfl) (fun o9 τ9 hq9 => ?_)
          obtain ⟨rfl, hq9⟩ := hq9
          replace hq9 := hq9.symm; subst hq9
          refine qa_nx (pc' := 53) (st' := [_]) rfl rfl rfl rfl ?_
          rw [sp_ts_ext (sp_af_src hk c4), sq.2.1]
          refine qa_aload_n (pc' := 54) ⟨rfl, rfl⟩ rfl ?_
          refine qa_getf (pc' := 57) ⟨rfl, rfl⟩ qg_1_10 (by assumption) rfl ?_
          refine qa_getf (pc' := 60) ⟨rfl, rfl⟩ qg_1_187 (by assumption) rfl ?_
          refine qa_iload_n (pc' := 61) ⟨rfl, rfl⟩ rfl ?_
          refine qa_callV rfl qf_Q_circleWithMarks ql_1_202 (c_Q_circleWithMarks (E := E) (by omega) c1 c2 c3 hs5 (by omega)) c1 rfl rfl rfl (qa_lt9 rfl) (qa_le9 rfl) (qa_le9 rfl) (qa_le9 rfl) (fun o9 τ9 hq9 => ?_)
          obtain ⟨rfl, e1, ⟨mk2, w1⟩, f1⟩ := hq9
          refine qa_nx (pc' := 64) (st' := [_, _]) rfl rfl rfl rfl ?_
          rw [sp_mk_ext2 (fun i i0 i1 => c4 i i0 (by omega)), sq.2.2.1]
          have hS2 := sR_S.marks hS w1 f1
          have hC := hC9.setM (fun q hq => f1 q (by omega)) ⟨rf, hS2⟩ hk
          replace hF : sC_F σ _ c vi vo := ⟨Nat.le_trans hF.1 (Nat.le_of_eq e1.symm), fun q q0 q1 q2 q3 => (f1 q (by omega)).trans (hF.2 q q0 q1 q2 q3)⟩
          clear c1 c2 c3 c4 hs5
          clear hv1 hv2 hv3 hs hc hpa hcq htq hpp hS hX hk
          have hC9 := hC
          obtain ⟨⟨hc, hn0, hn1, hn4⟩, ⟨⟨rf, hS⟩, hk⟩, ⟨⟨rf2, hSn⟩, hkn⟩, hH, hX, hR, hBb, hv1, hv2, hv3⟩ := hC
          have hS9 := hS
          obtain ⟨hs, hpa, hcq, htq, hpp⟩ := hS9
          clear hSn hkn hH hR hBb hn0 hn1 hn4
          refine qa_icmp_ne (pc' := 67) (tgt := 74) ⟨rfl, rfl⟩ rfl (by omega) (by omega) (fun hc3 => ?_) (fun hc3 => ?_)
          · exact absurd rfl hc3
          · obtain ⟨p9, l9, u9, d9, h1, h2, h3, h4, h5, h6⟩ := hpp k (by omega) (by omega)
            obtain ⟨rfl, rfl⟩ := h4 (by omega)
            refine qa_aload_n (pc' := 68) ⟨rfl, rfl⟩ rfl ?_
            refine qa_callS rfl qf_C_nearestAgree rfl ql_1_423 (c_C_nearestAgree (E := E) h1 tp.1 tp.2.1) rfl rfl (qa_lt9 rfl) (qa_le9 rfl) (qa_le9 rfl) (qa_le9 rfl) (fun o9 τ9 hq9 => ?_)
            obtain ⟨rfl, hq9⟩ := hq9
            replace hq9 := hq9.symm; subst hq9
            refine qa_nx (pc' := 71) (st' := [_]) rfl rfl rfl rfl ?_
            refine qa_if_ne (pc' := 74) (tgt := 76) ⟨rfl, rfl⟩ rfl (by omega) (fun hc4 => ?_) (fun hc4 => ?_)
            · refine qa_iinc (L' := [(0, _), (1, _), (2, _)]) (z := ((k + 1 : Nat) : Int)) (pc' := 79) ⟨rfl, rfl⟩ rfl (by omega) rfl rfl ?_
              refine qa_goto (pc' := 82) (tgt := 2) ⟨rfl, rfl⟩ rfl ?_
              refine qa_sub (ks' := [0, 1]) (L' := [(0, _), (1, _)]) rfl ?_
              exact iT1 _ (k + 1) ⟨by omega, hF, hC9⟩
            · exact absurd hc4 (by decide)
  have h0 := hC.2.1.2.1
  exact T1 (m 0).toNat σ 0 ⟨by omega, ⟨Nat.le_refl _, fun _ _ _ _ _ => rfl⟩, hC⟩
theorem c_C_themesAgree {E : qa_V} {σ : qa_S} {c vi vo : Nat} {Z : Nat → Nat} {B : Int} {m msn : Int → Int} {mh : Int → Int → Int} {sp ct : Int} {t u : List Int} {cs : sc_C} {n : Nat → Int} (hZ : qa_St E Z σ.1) (hz : qa_Sb E) (hlo : E.1 ≤ c) (hC : sR_C σ.1 c vi vo Z B m msn mh sp ct t u cs n) (hsz : c + 277 ≤ σ.2 ∧ vi < σ.2 ∧ vo < σ.2) (hB9 : B ≤ 900000000) : qa_T E qm_C_themesAgree 0 0 [.ref c] σ (fun o9 τ => o9 = .inl (some (.int (qa_i 1))) ∧ sC_F σ τ c vi vo ∧ sR_C τ.1 c vi vo Z B m msn mh sp ct t u cs n) := by
  refine qa_enterQ (by decide) rfl qm_C_themesAgree_ok rfl rfl (fun Q9 hQ => ?_)
  refine qa_iconst (pc' := 1) ⟨rfl, rfl⟩ ?_
  refine qa_istore_n (L' := [(0, _), (1, _)]) (pc' := 2) ⟨rfl, rfl⟩ rfl rfl ?_
  have T1 : ∀ (f9 : Nat) (τ : qa_S) (k : Nat), ((k : Int) + f9 = m 0 ∧ sC_F σ τ c vi vo ∧ sR_C τ.1 c vi vo Z B m msn mh sp ct t u cs n) → qa_W E qm_C_themesAgree Q9 0 0 2 [(0, .ref c), (1, .int (qa_i k))] [] τ := by
    clear hZ
    intro f9
    induction f9 with
    | zero =>
      intro τ k ⟨hkf, hF, hC⟩
      have hC9 := hC
      obtain ⟨⟨hc, hn0, hn1, hn4⟩, ⟨⟨rf, hS⟩, hk⟩, ⟨⟨rf2, hSn⟩, hkn⟩, hH, hX, hR, hBb, hv1, hv2, hv3⟩ := hC
      have hS9 := hS
      obtain ⟨hs, hpa, hcq, htq, hpp⟩ := hS9
      clear hSn hkn hH hR hBb hn0 hn1 hn4
      have hk9 := hk
      obtain ⟨k0, k1, k2, k3, k4, k5, k6, k7, k8⟩ := hk9
      refine qa_iload_n (pc' := 3) ⟨rfl, rfl⟩ rfl ?_
      refine qa_aload_n (pc' := 4) ⟨rfl, rfl⟩ rfl ?_
      refine qa_getf (pc' := 7) ⟨rfl, rfl⟩ qg_1_10 (by assumption) rfl ?_
      refine qa_getf (pc' := 10) ⟨rfl, rfl⟩ qg_1_73 (by assumption) rfl ?_
      refine qa_icmp_ge (pc' := 13) (tgt := 95) ⟨rfl, rfl⟩ rfl (by omega) (by omega) (fun hc1 => ?_) (fun hc1 => ?_)
      · refine qa_iconst (pc' := 96) ⟨rfl, rfl⟩ ?_
        refine qa_ireturn rfl rfl rfl (hQ _ _ ⟨rfl, hF, hC9⟩)
      · exact absurd hc1 (by omega)
    | succ f9 iT1 =>
      intro τ k ⟨hkf, hF, hC⟩
      have hC9 := hC
      obtain ⟨⟨hc, hn0, hn1, hn4⟩, ⟨⟨rf, hS⟩, hk⟩, ⟨⟨rf2, hSn⟩, hkn⟩, hH, hX, hR, hBb, hv1, hv2, hv3⟩ := hC
      have hS9 := hS
      obtain ⟨hs, hpa, hcq, htq, hpp⟩ := hS9
      clear hSn hkn hH hR hBb hn0 hn1 hn4
      have hk9 := hk
      obtain ⟨k0, k1, k2, k3, k4, k5, k6, k7, k8⟩ := hk9
      refine qa_iload_n (pc' := 3) ⟨rfl, rfl⟩ rfl ?_
      refine qa_aload_n (pc' := 4) ⟨rfl, rfl⟩ rfl ?_
      refine qa_getf (pc' := 7) ⟨rfl, rfl⟩ qg_1_10 (by assumption) rfl ?_
      refine qa_getf (pc' := 10) ⟨rfl, rfl⟩ qg_1_73 (by assumption) rfl ?_
      refine qa_icmp_ge (pc' := 13) (tgt := 95) ⟨rfl, rfl⟩ rfl (by omega) (by omega) (fun hc1 => ?_) (fun hc1 => ?_)
      · exact absurd hc1 (by omega)
      · refine qa_iload_n (pc' := 14) ⟨rfl, rfl⟩ rfl ?_
        refine qa_iconst (pc' := 15) ⟨rfl, rfl⟩ ?_
        refine qa_iadd (z := ((k + 1 : Nat) : Int)) (pc' := 16) ⟨rfl, rfl⟩ (by omega) ?_
        refine qa_istore_n (L' := [(0, _), (1, _), (2, _)]) (pc' := 17) ⟨rfl, rfl⟩ rfl rfl ?_
        have T2 : ∀ (f2 : Nat) (τ : qa_S) (j : Nat), ((j : Int) + f2 = m 0 ∧ sC_F σ τ c vi vo ∧ sR_C τ.1 c vi vo Z B m msn mh sp ct t u cs n) → qa_W E qm_C_themesAgree Q9 0 0 17 [(0, .ref c), (1, .int (qa_i k)), (2, .int (qa_i j))] [] τ := by
          clear hF hC9 hc hX hS hs hpa hcq htq hpp
          intro f2
          induction f2 with
          | zero =>
            intro τ j ⟨hjf, hF, hC⟩
            have hC9 := hC
            obtain ⟨⟨hc, hn0, hn1, hn4⟩, ⟨⟨rf, hS⟩, hk⟩, ⟨⟨rf2, hSn⟩, hkn⟩, hH, hX, hR, hBb, hv1, hv2, hv3⟩ := hC
            have hS9 := hS
            obtain ⟨hs, hpa, hcq, htq, hpp⟩ := hS9
            clear hSn hkn hH hR hBb hn0 hn1 hn4
            refine qa_iload_n (pc' := 18) ⟨rfl, rfl⟩ rfl ?_
            refine qa_aload_n (pc' := 19) ⟨rfl, rfl⟩ rfl ?_
            refine qa_getf (pc' := 22) ⟨rfl, rfl⟩ qg_1_10 (by assumption) rfl ?_
            refine qa_getf (pc' := 25) ⟨rfl, rfl⟩ qg_1_73 (by assumption) rfl ?_
            refine qa_icmp_ge (pc' := 28) (tgt := 89) ⟨rfl, rfl⟩ rfl (by omega) (by omega) (fun hc2 => ?_) (fun hc2 => ?_)
            · refine qa_iinc (L' := [(0, _), (1, _), (2, _)]) (z := ((k + 1 : Nat) : Int)) (pc' := 92) ⟨rfl, rfl⟩ rfl (by omega) rfl rfl ?_
              refine qa_goto (pc' := 95) (tgt := 2) ⟨rfl, rfl⟩ rfl ?_
              refine qa_sub (ks' := [0, 1]) (L' := [(0, _), (1, _)]) rfl ?_
              exact iT1 _ (k + 1) ⟨by omega, hF, hC9⟩
            · exact absurd hc2 (by omega)
          | succ f2 iT2 =>
            intro τ j ⟨hjf, hF, hC⟩
            have hC9 := hC
            obtain ⟨⟨hc, hn0, hn1, hn4⟩, ⟨⟨rf, hS⟩, hk⟩, ⟨⟨rf2, hSn⟩, hkn⟩, hH, hX, hR, hBb, hv1, hv2, hv3⟩ := hC
            have hS9 := hS
            obtain ⟨hs, hpa, hcq, htq, hpp⟩ := hS9
            clear hSn hkn hH hR hBb hn0 hn1 hn4
            refine qa_iload_n (pc' := 18) ⟨rfl, rfl⟩ rfl ?_
            refine qa_aload_n (pc' := 19) ⟨rfl, rfl⟩ rfl ?_
            refine qa_getf (pc' := 22) ⟨rfl, rfl⟩ qg_1_10 (by assumption) rfl ?_
            refine qa_getf (pc' := 25) ⟨rfl, rfl⟩ qg_1_73 (by assumption) rfl ?_
            refine qa_icmp_ge (pc' := 28) (tgt := 89) ⟨rfl, rfl⟩ rfl (by omega) (by omega) (fun hc2 => ?_) (fun hc2 => ?_)
            · exact absurd hc2 (by omega)
            · have kk := k4 k (by omega) (by omega)
              have kn := kk.1
              have kj := k4 j (by omega) (by omega)
              have kp : c + 9 ≤ sm_pa (c + 1) k ∧ sm_pa (c + 1) k + 3 ≤ c + 24 := by unfold sm_pa; omega
              have kpj : c + 9 ≤ sm_pa (c + 1) j ∧ sm_pa (c + 1) j + 3 ≤ c + 24 := by unfold sm_pa; omega
              have lb := sp_lc_b (sm_c m k) (sm_c m j) (sm_n m k).toNat (sm_n m j).toNat
              obtain ⟨gg, TT, x1, -⟩ := id hX
              refine qa_aload_n (pc' := 29) ⟨rfl, rfl⟩ rfl ?_
              refine qa_getf (pc' := 32) ⟨rfl, rfl⟩ qg_1_29 (by assumption) rfl ?_
              refine qa_aload_n (pc' := 33) ⟨rfl, rfl⟩ rfl ?_
              refine qa_getf (pc' := 36) ⟨rfl, rfl⟩ qg_1_10 (by assumption) rfl ?_
              refine qa_getf (pc' := 39) ⟨rfl, rfl⟩ qg_1_404 (by assumption) rfl ?_
              refine qa_iload_n (pc' := 40) ⟨rfl, rfl⟩ rfl ?_
              refine qa_aaload (pc' := 41) ⟨rfl, rfl⟩ (by assumption) rfl rfl (by omega) (sm_q5_at (by omega)) ?_
              refine qa_aload_n (pc' := 42) ⟨rfl, rfl⟩ rfl ?_
              refine qa_getf (pc' := 45) ⟨rfl, rfl⟩ qg_1_10 (by assumption) rfl ?_
              refine qa_getf (pc' := 48) ⟨rfl, rfl⟩ qg_1_404 (by assumption) rfl ?_
              refine qa_iload_n (pc' := 49) ⟨rfl, rfl⟩ rfl ?_
              refine qa_aaload (pc' := 50) ⟨rfl, rfl⟩ (by assumption) rfl rfl (by omega) (sm_q5_at (by omega)) ?_
              refine qa_callV rfl qf_X_themeByTable ql_1_142 (c_X_themeByTable (E := E) (by omega) (by omega) (by omega) hX (hpp k (by omega) (by omega)) kk (hpp j (by omega) (by omega)) kj) x1 rfl rfl rfl (qa_lt9 rfl) (qa_le9 rfl) (qa_le9 rfl) (qa_le9 rfl) (fun o9 τ9 hq9 => ?_)
              obtain ⟨rfl, e1, f1, w1⟩ := hq9
              refine qa_nx (pc' := 53) (st' := [_]) rfl rfl rfl rfl ?_
              have hC := hC9.setX (fun q hq => f1 q (by omega)) w1
              replace hF : sC_F σ _ c vi vo := ⟨Nat.le_trans hF.1 (Nat.le_of_eq e1.symm), fun q q0 q1 q2 q3 => (f1 q (by omega)).trans (hF.2 q q0 q1 q2 q3)⟩
              clear hv1 hv2 hv3 hs hc hpa hcq htq hpp hS hX hk
              have hC9 := hC
              obtain ⟨⟨hc, hn0, hn1, hn4⟩, ⟨⟨rf, hS⟩, hk⟩, ⟨⟨rf2, hSn⟩, hkn⟩, hH, hX, hR, hBb, hv1, hv2, hv3⟩ := hC
              have hS9 := hS
              obtain ⟨hs, hpa, hcq, htq, hpp⟩ := hS9
              clear hSn hkn hH hR hBb hn0 hn1 hn4
              obtain ⟨gg2, TT2, x2, -⟩ := id hX
              refine qa_aload_n (pc' := 54) ⟨rfl, rfl⟩ rfl ?_
              refine qa_getf (pc' := 57) ⟨rfl, rfl⟩ qg_1_29 (by assumption) rfl ?_
              refine qa_aload_n (pc' := 58) ⟨rfl, rfl⟩ rfl ?_
              refine qa_getf (pc' := 61) ⟨rfl, rfl⟩ qg_1_10 (by assumption) rfl ?_
              refine qa_getf (pc' := 64) ⟨rfl, rfl⟩ qg_1_404 (by assumption) rfl ?_
              refine qa_iload_n (pc' := 65) ⟨rfl, rfl⟩ rfl ?_
              refine qa_aaload (pc' := 66) ⟨rfl, rfl⟩ (by assumption) rfl rfl (by omega) (sm_q5_at (by omega)) ?_
              refine qa_aload_n (pc' := 67) ⟨rfl, rfl⟩ rfl ?_
              refine qa_getf (pc' := 70) ⟨rfl, rfl⟩ qg_1_10 (by assumption) rfl ?_
              refine qa_getf (pc' := 73) ⟨rfl, rfl⟩ qg_1_404 (by assumption) rfl ?_
              refine qa_iload_n (pc' := 74) ⟨rfl, rfl⟩ rfl ?_
              refine qa_aaload (pc' := 75) ⟨rfl, rfl⟩ (by assumption) rfl rfl (by omega) (sm_q5_at (by omega)) ?_
              refine qa_callV rfl qf_X_themeByTrial ql_1_146 (c_X_themeByTrial (E := E) (hpp k (by omega) (by omega)) kk (hpp j (by omega) (by omega)) kj) x2 rfl rfl rfl (qa_lt9 rfl) (qa_le9 rfl) (qa_le9 rfl) (qa_le9 rfl) (fun o9 τ9 hq9 => ?_)
              obtain ⟨rfl, hq9⟩ := hq9
              replace hq9 := hq9.symm; subst hq9
              refine qa_nx (pc' := 78) (st' := [_, _]) rfl rfl rfl rfl ?_
              rw [sl_theme _ _ (by omega)]
              refine qa_icmp_eq (pc' := 81) (tgt := 83) ⟨rfl, rfl⟩ rfl (by omega) (by omega) (fun hc3 => ?_) (fun hc3 => ?_)
              · refine qa_iinc (L' := [(0, _), (1, _), (2, _)]) (z := ((j + 1 : Nat) : Int)) (pc' := 86) ⟨rfl, rfl⟩ rfl (by omega) rfl rfl ?_
                refine qa_goto (pc' := 89) (tgt := 17) ⟨rfl, rfl⟩ rfl ?_
                exact iT2 _ (j + 1) ⟨by omega, hF, hC9⟩
              · exact absurd rfl hc3
        exact T2 (m 0 - (k + 1)).toNat _ (k + 1) ⟨by omega, hF, hC9⟩
  have h0 := hC.2.1.2.1
  exact T1 (m 0).toNat σ 0 ⟨by omega, ⟨Nat.le_refl _, fun _ _ _ _ _ => rfl⟩, hC⟩
theorem c_C_startsAgree {E : qa_V} {σ : qa_S} {c : Nat} {m : Int → Int} {n : Nat → Int} {rf B : Int} (hc : σ.1 c = some (qa_CoF c n)) (hS : sR_S σ.1 (c + 1) m rf) (hk : sm_ok m B) : qa_T E qm_C_startsAgree 0 0 [.ref c] σ (fun o9 τ => o9 = .inl (some (.int (qa_i 1))) ∧ τ = σ) := by
  refine qa_enterQ (by decide) rfl qm_C_startsAgree_ok rfl rfl (fun Q9 hQ => ?_)
  obtain ⟨k0, k1, k2, k3, k4, k5, k6, k7, k8⟩ := hk
  obtain ⟨hs, hpa, hcq, htq, hpp⟩ := hS
  obtain ⟨bars, vals, t1, t2, t3, t4⟩ := htq
  have hB : sp_B6 (m 2) bars := ⟨by rw [(t4 0 (by omega) (by omega)).1]; exact k7.1, fun j j0 j1 => by rw [(t4 j j0 j1).1]; exact k7.2.1 j j0 j1, fun i j i0 ij j1 => by rw [(t4 i i0 (by omega)).1, (t4 j (by omega) j1).1]; exact k7.2.2 i j i0 ij j1⟩
  have hV : sp_V6 (m 2) vals := fun j j0 j1 => by rw [(t4 j j0 j1).2]; exact k8 j j0 j1
  refine qa_iconst (pc' := 1) ⟨rfl, rfl⟩ ?_
  refine qa_istore_n (L' := [(0, _), (1, _)]) (pc' := 2) ⟨rfl, rfl⟩ rfl rfl ?_
  have lp : ∀ (f9 : Nat) (k : Nat), (k + f9 = 100) → qa_W E qm_C_startsAgree Q9 0 0 2 [(0, .ref c), (1, .int (qa_i k))] [] σ := by
    intro f9
    induction f9 with
    | zero =>
      intro k hkf
      refine qa_iload_n (pc' := 3) ⟨rfl, rfl⟩ rfl ?_
      refine qa_bipush (z := 99) (pc' := 5) ⟨rfl, rfl⟩ rfl ?_
      refine qa_icmp_gt (pc' := 8) (tgt := 56) ⟨rfl, rfl⟩ rfl (by omega) (by omega) (fun hc1 => ?_) (fun hc1 => ?_)
      · refine qa_iconst (pc' := 57) ⟨rfl, rfl⟩ ?_
        refine qa_ireturn rfl rfl rfl (hQ _ _ ⟨rfl, rfl⟩)
      · exact absurd hc1 (by omega)
    | succ f9 ih =>
      intro k hkf
      refine qa_iload_n (pc' := 3) ⟨rfl, rfl⟩ rfl ?_
      refine qa_bipush (z := 99) (pc' := 5) ⟨rfl, rfl⟩ rfl ?_
      refine qa_icmp_gt (pc' := 8) (tgt := 56) ⟨rfl, rfl⟩ rfl (by omega) (by omega) (fun hc1 => ?_) (fun hc1 => ?_)
      · exact absurd hc1 (by omega)
      · have sb := sp_sb_b (bars := bars) k2.1 hV k1 (k : Int).toNat
        refine qa_aload_n (pc' := 9) ⟨rfl, rfl⟩ rfl ?_
        refine qa_getf (pc' := 12) ⟨rfl, rfl⟩ qg_1_10 (by assumption) rfl ?_
        refine qa_getf (pc' := 15) ⟨rfl, rfl⟩ qg_1_217 (by assumption) rfl ?_
        refine qa_iload_n (pc' := 16) ⟨rfl, rfl⟩ rfl ?_
        refine qa_aload_n (pc' := 17) ⟨rfl, rfl⟩ rfl ?_
        refine qa_getf (pc' := 20) ⟨rfl, rfl⟩ qg_1_10 (by assumption) rfl ?_
        refine qa_getf (pc' := 23) ⟨rfl, rfl⟩ qg_1_208 (by assumption) rfl ?_
        refine qa_callV rfl qf_T_startBarByBar ql_1_226 (c_T_startBarByBar (E := E) t1 t2 t3 k2 hB hV (by omega) k1) t1 rfl rfl rfl (qa_lt9 rfl) (qa_le9 rfl) (qa_le9 rfl) (qa_le9 rfl) (fun o9 τ9 hq9 => ?_)
        obtain ⟨rfl, hq9⟩ := hq9
        replace hq9 := hq9.symm; subst hq9
        refine qa_nx (pc' := 26) (st' := [_]) rfl rfl rfl rfl ?_
        refine qa_aload_n (pc' := 27) ⟨rfl, rfl⟩ rfl ?_
        refine qa_getf (pc' := 30) ⟨rfl, rfl⟩ qg_1_10 (by assumption) rfl ?_
        refine qa_getf (pc' := 33) ⟨rfl, rfl⟩ qg_1_217 (by assumption) rfl ?_
        refine qa_iload_n (pc' := 34) ⟨rfl, rfl⟩ rfl ?_
        refine qa_aload_n (pc' := 35) ⟨rfl, rfl⟩ rfl ?_
        refine qa_getf (pc' := 38) ⟨rfl, rfl⟩ qg_1_10 (by assumption) rfl ?_
        refine qa_getf (pc' := 41) ⟨rfl, rfl⟩ qg_1_208 (by assumption) rfl ?_
        refine qa_callV rfl qf_T_startTempoByTempo ql_1_230 (c_T_startTempoByTempo (E := E) t1 t2 t3 k2 hB hV (by omega) k1) t1 rfl rfl rfl (qa_lt9 rfl) (qa_le9 rfl) (qa_le9 rfl) (qa_le9 rfl) (fun o9 τ9 hq9 => ?_)
        obtain ⟨rfl, hq9⟩ := hq9
        replace hq9 := hq9.symm; subst hq9
        refine qa_nx (pc' := 44) (st' := [_, _]) rfl rfl rfl rfl ?_
        refine qa_lcmp (pc' := 45) ⟨rfl, rfl⟩ (by omega) (by omega) ?_
        rw [qa_sg_eq.mpr rfl]
        refine qa_if_eq (pc' := 48) (tgt := 50) ⟨rfl, rfl⟩ rfl (by omega) (fun hc2 => ?_) (fun hc2 => ?_)
        · refine qa_iinc (L' := [(0, _), (1, _)]) (z := ((k + 1 : Nat) : Int)) (pc' := 53) ⟨rfl, rfl⟩ rfl (by omega) rfl rfl ?_
          refine qa_goto (pc' := 56) (tgt := 2) ⟨rfl, rfl⟩ rfl ?_
          exact ih (k + 1) (by omega)
        · exact absurd rfl hc2
  exact lp 100 0 rfl
theorem c_C_isConsistent {E : qa_V} {σ : qa_S} {c vi vo : Nat} {Z : Nat → Nat} {B : Int} {m msn : Int → Int} {mh : Int → Int → Int} {sp ct : Int} {t u : List Int} {cs : sc_C} {n : Nat → Int} (hZ : qa_St E Z σ.1) (hz : qa_Sb E) (hlo : E.1 ≤ c) (hC : sR_C σ.1 c vi vo Z B m msn mh sp ct t u cs n) (hsz : c + 277 ≤ σ.2 ∧ vi < σ.2 ∧ vo < σ.2) (hB9 : B ≤ 900000000) : qa_T E qm_C_isConsistent 0 0 [.ref c] σ (fun o9 τ => o9 = .inl (some (.int (qa_i 1))) ∧ sC_F σ τ c vi vo ∧ sR_C τ.1 c vi vo Z B m msn mh sp ct t u cs n) := by
  refine qa_enterQ (by decide) rfl qm_C_isConsistent_ok rfl rfl (fun Q9 hQ => ?_)
  have hC9 := hC
  obtain ⟨⟨hc, hn0, hn1, hn4⟩, ⟨⟨rf, hS⟩, hk⟩, ⟨⟨rf2, hSn⟩, hkn⟩, hH, hX, hR, hBb, hv1, hv2, hv3⟩ := hC
  have hS9 := hS
  obtain ⟨hs, hpa, hcq, htq, hpp⟩ := hS9
  clear hSn hkn hH hR hBb hn0 hn1 hn4
  have tg := sm_ts_tg hk
  refine qa_aload_n (pc' := 1) ⟨rfl, rfl⟩ rfl ?_
  refine qa_getf (pc' := 4) ⟨rfl, rfl⟩ qg_1_10 (by assumption) rfl ?_
  refine qa_callV rfl qf_S_togetherByMultiples ql_1_125 (c_S_togetherByMultiples (E := E) hS hk) hs rfl rfl rfl (qa_lt9 rfl) (qa_le9 rfl) (qa_le9 rfl) (qa_le9 rfl) (fun o9 τ9 hq9 => ?_)
  obtain ⟨rfl, hq9⟩ := hq9
  replace hq9 := hq9.symm; subst hq9
  refine qa_nx (pc' := 7) (st' := [_]) rfl rfl rfl rfl ?_
  rw [show (if sm_lo m (m 0).toNat = 0 then -1 else sm_bm m (m 0).toNat 0 1) = sm_tg m from rfl]
  refine qa_aload_n (pc' := 8) ⟨rfl, rfl⟩ rfl ?_
  refine qa_getf (pc' := 11) ⟨rfl, rfl⟩ qg_1_10 (by assumption) rfl ?_
  refine qa_callV rfl qf_S_togetherBySteps ql_1_129 (c_S_togetherBySteps (E := E) hS hk) hs rfl rfl rfl (qa_lt9 rfl) (qa_le9 rfl) (qa_le9 rfl) (qa_le9 rfl) (fun o9 τ9 hq9 => ?_)
  obtain ⟨rfl, hq9⟩ := hq9
  replace hq9 := hq9.symm; subst hq9
  refine qa_nx (pc' := 14) (st' := [_, _]) rfl rfl rfl rfl ?_
  rw [show (if sm_lo m (m 0).toNat < 1 then -1 else sm_bs m (sm_lo m (m 0).toNat) 1000000 (sm_lo m (m 0).toNat)) = sm_tg m from tg.1]
  refine qa_icmp_ne (pc' := 17) (tgt := 42) ⟨rfl, rfl⟩ rfl (by omega) (by omega) (fun hc2 => ?_) (fun hc2 => ?_)
  · exact absurd rfl hc2
  · refine qa_aload_n (pc' := 18) ⟨rfl, rfl⟩ rfl ?_
    refine qa_callV rfl qf_C_partsAgree ql_1_267 (c_C_partsAgree (E := E) hZ hz hlo hC9 hsz hB9) hc rfl rfl rfl (qa_lt9 rfl) (qa_le9 rfl) (qa_le9 rfl) (qa_le9 rfl) (fun o9 τ9 hq9 => ?_)
    obtain ⟨rfl, hF, hC⟩ := hq9
    refine qa_nx (pc' := 21) (st' := [_]) rfl rfl rfl rfl ?_
    refine qa_if_eq (pc' := 24) (tgt := 42) ⟨rfl, rfl⟩ rfl (by omega) (fun hc3 => ?_) (fun hc3 => ?_)
    · exact absurd hc3 (by decide)
    · have hc1c := hC.1.1
      have hF1 := hF.1
      have hZ1 := hZ.to (fun q hq => hF.2 q (by omega) (by omega) (by omega) (by omega))
      refine qa_aload_n (pc' := 25) ⟨rfl, rfl⟩ rfl ?_
      refine qa_callV rfl qf_C_themesAgree ql_1_271 (c_C_themesAgree (E := E) hZ1 hz hlo hC (by omega) hB9) hc1c rfl rfl rfl (qa_lt9 rfl) (qa_le9 rfl) (qa_le9 rfl) (qa_le9 rfl) (fun o9 τ9 hq9 => ?_)
      obtain ⟨rfl, hF3, hC3⟩ := hq9
      refine qa_nx (pc' := 28) (st' := [_]) rfl rfl rfl rfl ?_
      refine qa_if_eq (pc' := 31) (tgt := 42) ⟨rfl, rfl⟩ rfl (by omega) (fun hc4 => ?_) (fun hc4 => ?_)
      · exact absurd hc4 (by decide)
      · have hc2c := hC3.1.1
        obtain ⟨rf3, hS3⟩ := hC3.2.1.1
        refine qa_aload_n (pc' := 32) ⟨rfl, rfl⟩ rfl ?_
        refine qa_callV rfl qf_C_startsAgree ql_1_274 (c_C_startsAgree (E := E) hc2c hS3 hC3.2.1.2) hc2c rfl rfl rfl (qa_lt9 rfl) (qa_le9 rfl) (qa_le9 rfl) (qa_le9 rfl) (fun o9 τ9 hq9 => ?_)
        obtain ⟨rfl, hq9⟩ := hq9
        replace hq9 := hq9.symm; subst hq9
        refine qa_nx (pc' := 35) (st' := [_]) rfl rfl rfl rfl ?_
        refine qa_if_eq (pc' := 38) (tgt := 42) ⟨rfl, rfl⟩ rfl (by omega) (fun hc5 => ?_) (fun hc5 => ?_)
        · exact absurd hc5 (by decide)
        · refine qa_iconst (pc' := 39) ⟨rfl, rfl⟩ ?_
          refine qa_goto (pc' := 42) (tgt := 43) ⟨rfl, rfl⟩ rfl ?_
          refine qa_ireturn rfl rfl rfl (hQ _ _ ⟨rfl, ⟨Nat.le_trans hF.1 hF3.1, fun q q0 q1 q2 q3 => (hF3.2 q q0 q1 q2 (by omega)).trans (hF.2 q q0 q1 q2 q3)⟩, hC3⟩)
