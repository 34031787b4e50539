theorem sm_sd_ok {m : Int → Int} {tick B : Int} {k : Nat} (hk : sm_ok m B) (hn : (k : Int) ≤ m 0) : sm_ok (sm_sd m tick k) (B + 1) := by
  obtain ⟨k0, k1, k2, k3, k4, k5, k6, k7, k8⟩ := hk
  have e : ∀ q : Int, (q < 4 ∨ 134 ≤ q ∨ (q - 4) % 26 ≠ 4) → sm_sd m tick k q = m q := fun q h => sm_sd_o (by omega)
  have e2 : ∀ q : Int, sm_sd m tick k q = m q ∨ (sm_sd m tick k q = m q + 1 ∧ q < 4 + 26 * k) := by
    intro q
    unfold sm_sd
    split
    · exact Or.inr ⟨rfl, by omega⟩
    · exact Or.inl rfl
  refine ⟨by rw [e 0 (by omega)]; exact k0, by rw [e 1 (by omega)]; exact k1, by rw [e 2 (by omega)]; exact k2, by rw [e 3 (by omega)]; omega, fun i i0 i1 => (sm_eq.of ⟨i0, i1⟩ (k4 i i0 i1) (fun q q0 q1 q2 q3 => e q (by omega))).okp (k4 i i0 i1), fun i i0 i1 => ?_, fun i i0 i1 => ?_, ?_, ?_⟩
  · rw [e 0 (by omega)] at i1 ⊢
    have h := k5 i i0 i1
    rw [e (5 + 26 * i) (by omega), e (6 + 26 * i) (by omega), e (7 + 26 * i) (by omega), e (9 + 26 * i) (by omega)]
    have h1 := e2 (8 + 26 * i)
    refine ⟨h.1, h.2.1, h.2.2.1, ?_, ?_⟩ <;> omega
  · rw [e 0 (by omega)] at i0
    have h := k6 i i0 i1
    have h1 := e2 (8 + 26 * i)
    exact ⟨(e _ (by omega)).trans h.1, by omega, (e _ (by omega)).trans h.2.2⟩
  · have ef : (fun j => sm_sd m tick k (134 + 2 * j)) 0 = m 134 := e 134 (by omega)
    refine ⟨ef.trans k7.1, fun j j0 j1 => ?_, fun i j i0 i1 i2 => ?_⟩
    · rw [e 2 (by omega)] at j1
      show 0 ≤ sm_sd m tick k (134 + 2 * j) ∧ sm_sd m tick k (134 + 2 * j) ≤ 999
      rw [e (134 + 2 * j) (by omega)]; exact k7.2.1 j j0 j1
    · rw [e 2 (by omega)] at i2
      show sm_sd m tick k (134 + 2 * i) < sm_sd m tick k (134 + 2 * j)
      rw [e (134 + 2 * i) (by omega), e (134 + 2 * j) (by omega)]; exact k7.2.2 i j i0 i1 i2
  · intro j j0 j1
    rw [e 2 (by omega)] at j1
    show 30 ≤ sm_sd m tick k (135 + 2 * j) ∧ sm_sd m tick k (135 + 2 * j) ≤ 240
    rw [e (135 + 2 * j) (by omega)]; exact k8 j j0 j1
theorem sm_sd_s0 {m : Int → Int} {tick : Int} {k : Nat} (h : sm_pi m k tick = -1) (q : Int) : sm_sd m tick (k + 1) q = sm_sd m tick k q := by
  unfold sm_sd
  by_cases hc : 4 ≤ q ∧ q < 4 + 26 * k ∧ (q - 4) % 26 = 4 ∧ sm_pi m ((q - 4) / 26) tick ≠ -1
  · rw [if_pos hc, if_pos ⟨hc.1, by omega, hc.2.2⟩]
  · rw [if_neg hc, if_neg]
    rintro ⟨h1, h2, h3, h4⟩
    by_cases hq : q < 4 + 26 * k
    · exact hc ⟨h1, hq, h3, h4⟩
    · exact h4 (by rw [show (q - 4) / 26 = k by omega]; exact h)
theorem sm_sd_s1 {m : Int → Int} {tick q : Int} {k : Nat} (h : q ≠ 8 + 26 * k) : sm_sd m tick (k + 1) q = sm_sd m tick k q := by
  unfold sm_sd
  by_cases hc : 4 ≤ q ∧ q < 4 + 26 * k ∧ (q - 4) % 26 = 4 ∧ sm_pi m ((q - 4) / 26) tick ≠ -1
  · rw [if_pos hc, if_pos ⟨hc.1, by omega, hc.2.2⟩]
  · rw [if_neg hc, if_neg]
    rintro ⟨h1, h2, h3, h4⟩
    exact hc ⟨h1, by omega, h3, h4⟩
theorem sm_sd_s2 {m : Int → Int} {tick : Int} {k : Nat} (h : ¬ sm_pi m k tick = -1) : sm_sd m tick (k + 1) (8 + 26 * k) = sm_sd m tick k (8 + 26 * k) + 1 := by
  rw [sm_sd_o (k := k) (by omega)]
  unfold sm_sd
  rw [if_pos ⟨by omega, by omega, by omega, by rw [show (8 + 26 * (k : Int) - 4) / 26 = k by omega]; exact h⟩]
theorem sm_tick_sd {m : Int → Int} {tick B q : Int} {k : Nat} (hk : sm_ok m B) (hn : (k : Int) = m 0) (hkk : k = (m 0).toNat) (h : sm_so m tick k = 1 → q ≠ 9 + 26 * sm_al m tick k) : sm_tick m tick q = sm_sd m tick k q := by
  have k0 := hk.1
  unfold sm_tick sm_sd
  by_cases hc : 4 ≤ q ∧ q < 4 + 26 * k ∧ (q - 4) % 26 = 4 ∧ sm_pi m ((q - 4) / 26) tick ≠ -1
  · rw [if_pos hc, if_pos ⟨hc.1, by omega, hc.2.2.1, by omega, hc.2.2.2⟩]
  · rw [if_neg hc, if_neg, if_neg]
    · rintro ⟨h1, h2, h3, h4, h5, h6⟩
      rw [← hkk] at h5 h6
      have h9 := h h5
      omega
    · rintro ⟨h1, h2, h3, h4, h5⟩
      exact hc ⟨h1, by omega, h3, h5⟩
theorem sm_tick_so {m : Int → Int} {tick B lat : Int} {k : Nat} (hk : sm_ok m B) (hkk : k = (m 0).toNat) (h : sm_so m tick k = 1) (hl : lat = sm_al m tick k ∧ 0 ≤ lat ∧ lat < m 0) : sm_tick m tick (9 + 26 * lat) = sm_sd m tick k (9 + 26 * lat) + 1 := by
  have k0 := hk.1
  rw [sm_sd_o (by omega)]
  unfold sm_tick
  rw [if_neg (by omega), if_pos ⟨by omega, by omega, by omega, by omega, by rw [← hkk]; exact h, by rw [← hkk, ← hl.1]; omega⟩]
theorem c_S_playTick {E : qa_V} {σ : qa_S} {a : Nat} {m : Int → Int} {rf B : Int} {tick : Int} (hlo : E.1 ≤ a) (hS : sR_S σ.1 a m rf) (hk : sm_ok m B) (hB : B ≤ 2000000000) (ht : 0 ≤ tick ∧ tick ≤ 2147483647) : qa_T E qm_S_playTick 0 0 [.ref a, .int (qa_i tick)] σ (fun o9 τ => o9 = .inl (some (.int (qa_i (if sm_so m tick (m 0).toNat = 1 then 1 else 0)))) ∧ τ.2 = σ.2 ∧ (∀ q, (q < a ∨ a + 23 ≤ q) → τ.1 q = σ.1 q) ∧ sR_S τ.1 a (sm_tick m tick) rf) := by
  refine qa_enterQ (by decide) rfl qm_S_playTick_ok rfl rfl (fun Q9 hQ => ?_)
  have hk9 := hk
  obtain ⟨k0, k1, k2, k3, k4, k5, k6, k7, k8⟩ := hk9
  refine qa_iconst (pc' := 1) ⟨rfl, rfl⟩ ?_
  refine qa_istore_n (L' := [(0, _), (1, _), (2, _)]) (pc' := 2) ⟨rfl, rfl⟩ rfl rfl ?_
  refine qa_iconst (pc' := 3) ⟨rfl, rfl⟩ ?_
  refine qa_istore_n (L' := [(0, _), (1, _), (2, _), (3, _)]) (pc' := 4) ⟨rfl, rfl⟩ rfl rfl ?_
  refine qa_iconst (pc' := 5) ⟨rfl, rfl⟩ ?_
  refine qa_istore (L' := [(0, _), (1, _), (2, _), (3, _), (4, _)]) (pc' := 7) ⟨rfl, rfl⟩ rfl rfl ?_
  have lp : ∀ (f : Nat) (τ : qa_S) (k : Nat) (cnt lat : Int), (k : Int) + f = m 0 ∧ τ.2 = σ.2 ∧ (∀ q, (q < a ∨ a + 23 ≤ q) → τ.1 q = σ.1 q) ∧ sR_S τ.1 a (sm_sd m tick k) rf ∧ cnt = sm_so m tick k ∧ lat = sm_al m tick k → qa_W E qm_S_playTick Q9 0 0 7 [(0, .ref a), (1, .int (qa_i tick)), (2, .int (qa_i cnt)), (3, .int (qa_i lat)), (4, .int (qa_i k))] [] τ := by
    intro f
    induction f with
    | zero =>
      intro τ k cnt lat ⟨hk9, he, hfr, H9, hc, hla⟩
      have hkk : k = (m 0).toNat := by omega
      have hcb := sm_so_b m tick k
      have hal := sm_al_b m tick k
      have hH9 := H9
      obtain ⟨hs, hpa, hcq, htq, hpp⟩ := hH9
      have es0 : sm_sd m tick k 0 = m 0 := sm_sd_o (by omega)
      rw [es0] at hs
      refine qa_iload (pc' := 9) ⟨rfl, rfl⟩ rfl ?_
      refine qa_aload_n (pc' := 10) ⟨rfl, rfl⟩ rfl ?_
      refine qa_getf (pc' := 13) ⟨rfl, rfl⟩ qg_2_46 (by assumption) rfl ?_
      refine qa_icmp_ge (pc' := 16) (tgt := 59) ⟨rfl, rfl⟩ rfl (by omega) (by omega) (fun hc1 => ?_) (fun hc1 => ?_)
      · refine qa_iload_n (pc' := 60) ⟨rfl, rfl⟩ rfl ?_
        refine qa_iconst (pc' := 61) ⟨rfl, rfl⟩ ?_
        refine qa_icmp_eq (pc' := 64) (tgt := 66) ⟨rfl, rfl⟩ rfl (by omega) (by omega) (fun hc2 => ?_) (fun hc2 => ?_)
        · have hm0 : 1 ≤ m 0 := by rw [hc] at hc2; have := sm_so_b m tick k; omega
          have hl9 := hal.2 (by omega)
          obtain ⟨p9, l9, u9, d9, q1, q2, q3, q4, q5, q6⟩ := hpp lat (by omega) (by omega)
          have kp : a + 8 ≤ sm_pa a lat ∧ sm_pa a lat ≤ a + 20 := by unfold sm_pa; omega
          have e0 := he
          refine qa_aload_n (pc' := 67) ⟨rfl, rfl⟩ rfl ?_
          refine qa_getf (pc' := 70) ⟨rfl, rfl⟩ qg_2_11 (by assumption) rfl ?_
          refine qa_iload_n (pc' := 71) ⟨rfl, rfl⟩ rfl ?_
          refine qa_aaload (pc' := 72) ⟨rfl, rfl⟩ (by assumption) rfl rfl (by omega) (sm_q5_at (by omega)) ?_
          refine qa_dup (pc' := 73) ⟨rfl, rfl⟩ rfl ?_
          refine qa_getf (pc' := 76) ⟨rfl, rfl⟩ qg_2_180 (by assumption) rfl ?_
          refine qa_iconst (pc' := 77) ⟨rfl, rfl⟩ ?_
          refine qa_iadd (pc' := 78) ⟨rfl, rfl⟩ rfl ?_
          refine qa_putf (fs' := [_, _, _, _, _, _, _, _]) (pc' := 81) ⟨rfl, rfl⟩ qg_2_180 qw_2 (by assumption) (by omega) rfl (fun r hr => by cases hr; exact ⟨rfl, Or.inl rfl⟩) rfl rfl ?_
          refine qa_gz (fun τ61 e61 w61 f61 => ?_)
          replace q2 := (f61 _ (by omega)).trans q2
          replace q3 := (f61 _ (by omega)).trans q3
          replace e0 := e61.trans e0
          refine qa_iconst (pc' := 82) ⟨rfl, rfl⟩ ?_
          refine qa_ireturn rfl rfl rfl (hQ _ _ ⟨by rw [← hkk, if_pos (by omega)], e0, fun q hq => (f61 q (by omega)).trans (hfr q hq), ?_⟩)
          have hfin : ∀ q : Int, ¬ (q = 9 + 26 * lat) → sm_tick m tick q = sm_sd m tick k q := fun q hq => sm_tick_sd hk (by omega) (by omega) (by omega)
          have hsol : sm_tick m tick (9 + 26 * lat) = sm_sd m tick k (9 + 26 * lat) + 1 := sm_tick_so hk (by omega) (by omega) (by omega)
          have hkd := sm_sd_ok (tick := tick) (k := k) hk (by omega)
          have ke := hkd.2.2.2.2.1 lat (by omega) (by omega)
          have een : sm_eq (sm_sd m tick k) (sm_tick m tick) lat := ⟨hfin _ (by omega), fun j j0 j1 => ⟨hfin _ (by omega), hfin _ (by omega)⟩⟩
          refine H9.setP (i := lat) hkd (by omega) (fun q hq => f61 q (by omega)) (fun q hq => hfin q (by omega)) ⟨p9, l9, u9, d9, ?_, q2, q3, ?_, ?_, fun j j0 j1 => ?_⟩
          · rw [een.1, een.wh ke, hfin (8 + 26 * lat) (by omega), hsol]; exact w61
          · rw [hfin 0 (by omega), hfin (5 + 26 * lat) (by omega), hfin (6 + 26 * lat) (by omega)]; exact q4
          · rw [hfin 0 (by omega)]; exact q5
          · rw [een.1] at j1; rw [(een.2 j j0 j1).1, (een.2 j j0 j1).2]; exact q6 j j0 j1
        · refine qa_iconst (pc' := 65) ⟨rfl, rfl⟩ ?_
          refine qa_ireturn rfl rfl rfl (hQ _ _ ⟨by rw [← hkk, if_neg (by omega)], he, hfr, ?_⟩)
          have hfin : sm_tick m tick = sm_sd m tick k := by
            funext q
            exact sm_tick_sd hk (by omega) (by omega) (fun h => absurd h (by omega))
          rw [hfin]; exact H9
      · exact absurd hc1 (by omega)
    | succ f ih =>
      intro τ k cnt lat ⟨hk9, he, hfr, H9, hc, hla⟩
      have hcb := sm_so_b m tick k
      have hal := sm_al_b m tick k
      have hkd := sm_sd_ok (tick := tick) (k := k) hk (by omega)
      have kk := hkd.2.2.2.2.1 k (by omega) (by omega)
      have kk0 := k4 k (by omega) (by omega)
      have een : sm_eq m (sm_sd m tick k) k := sm_eq.of ⟨by omega, by omega⟩ kk0 (fun q q0 q1 q2 q3 => sm_sd_o (by omega))
      have epi := een.pi (tick := tick) kk0
      have hH9 := H9
      obtain ⟨hs, hpa, hcq, htq, hpp⟩ := hH9
      have es0 : sm_sd m tick k 0 = m 0 := sm_sd_o (by omega)
      rw [es0] at hs
      obtain ⟨p9, l9, u9, d9, q1, q2, q3, q4, q5, q6⟩ := hpp k (by omega) (by omega)
      have kp : a + 8 ≤ sm_pa a k ∧ sm_pa a k ≤ a + 20 := by unfold sm_pa; omega
      refine qa_iload (pc' := 9) ⟨rfl, rfl⟩ rfl ?_
      refine qa_aload_n (pc' := 10) ⟨rfl, rfl⟩ rfl ?_
      refine qa_getf (pc' := 13) ⟨rfl, rfl⟩ qg_2_46 (by assumption) rfl ?_
      refine qa_icmp_ge (pc' := 16) (tgt := 59) ⟨rfl, rfl⟩ rfl (by omega) (by omega) (fun hc1 => ?_) (fun hc1 => ?_)
      · exact absurd hc1 (by omega)
      · refine qa_aload_n (pc' := 17) ⟨rfl, rfl⟩ rfl ?_
        refine qa_getf (pc' := 20) ⟨rfl, rfl⟩ qg_2_11 (by assumption) rfl ?_
        refine qa_iload (pc' := 22) ⟨rfl, rfl⟩ rfl ?_
        refine qa_aaload (pc' := 23) ⟨rfl, rfl⟩ (by assumption) rfl rfl (by omega) (sm_q5_at (by omega)) ?_
        refine qa_iload_n (pc' := 24) ⟨rfl, rfl⟩ rfl ?_
        refine qa_callV rfl qf_P_pitchIn ql_2_174 (d_P_pitchIn (hpp k (by omega) (by omega)) kk (by omega)) q1 rfl rfl rfl (qa_lt9 rfl) (qa_le9 rfl) (qa_le9 rfl) (qa_le9 rfl) (fun o9 τ9 hq9 => ?_)
        obtain ⟨rfl, hq9⟩ := hq9
        replace hq9 := hq9.symm; subst hq9
        refine qa_nx (pc' := 27) (st' := [_]) rfl rfl rfl rfl ?_
        rw [epi]
        have hb9 := sm_pi_b (tick := tick) kk0
        refine qa_iconst (pc' := 28) ⟨rfl, rfl⟩ ?_
        refine qa_icmp_eq (pc' := 31) (tgt := 53) ⟨rfl, rfl⟩ rfl (by omega) (by omega) (fun hc2 => ?_) (fun hc2 => ?_)
        · refine qa_iinc (L' := [(0, _), (1, _), (2, _), (3, _), (4, _)]) (z := ((k + 1 : Nat) : Int)) (pc' := 56) ⟨rfl, rfl⟩ rfl (by omega) rfl rfl ?_
          refine qa_goto (pc' := 59) (tgt := 7) ⟨rfl, rfl⟩ rfl ?_
          have e9 : sm_sd m tick (k + 1) = sm_sd m tick k := funext fun q => sm_sd_s0 hc2 q
          exact ih τ (k + 1) cnt lat ⟨by omega, he, hfr, by rw [e9]; exact H9, by unfold sm_so; rw [if_pos hc2, hc]; omega, by unfold sm_al; rw [if_pos hc2, hla]⟩
        · have e0 := he
          refine qa_aload_n (pc' := 32) ⟨rfl, rfl⟩ rfl ?_
          refine qa_getf (pc' := 35) ⟨rfl, rfl⟩ qg_2_11 (by assumption) rfl ?_
          refine qa_iload (pc' := 37) ⟨rfl, rfl⟩ rfl ?_
          refine qa_aaload (pc' := 38) ⟨rfl, rfl⟩ (by assumption) rfl rfl (by omega) (sm_q5_at (by omega)) ?_
          refine qa_dup (pc' := 39) ⟨rfl, rfl⟩ rfl ?_
          refine qa_getf (pc' := 42) ⟨rfl, rfl⟩ qg_2_177 (by assumption) rfl ?_
          refine qa_iconst (pc' := 43) ⟨rfl, rfl⟩ ?_
          refine qa_iadd (pc' := 44) ⟨rfl, rfl⟩ rfl ?_
          refine qa_putf (fs' := [_, _, _, _, _, _, _, _]) (pc' := 47) ⟨rfl, rfl⟩ qg_2_177 qw_2 (by assumption) (by omega) rfl (fun r hr => by cases hr; exact ⟨rfl, Or.inl rfl⟩) rfl rfl ?_
          refine qa_gz (fun τ61 e61 w61 f61 => ?_)
          replace q2 := (f61 _ (by omega)).trans q2
          replace q3 := (f61 _ (by omega)).trans q3
          replace e0 := e61.trans e0
          refine qa_iinc (L' := [(0, _), (1, _), (2, _), (3, _), (4, _)]) (z := cnt + 1) (pc' := 50) ⟨rfl, rfl⟩ rfl rfl rfl rfl ?_
          refine qa_iload (pc' := 52) ⟨rfl, rfl⟩ rfl ?_
          refine qa_istore_n (L' := [(0, _), (1, _), (2, _), (3, _), (4, _)]) (pc' := 53) ⟨rfl, rfl⟩ rfl rfl ?_
          refine qa_iinc (L' := [(0, _), (1, _), (2, _), (3, _), (4, _)]) (z := ((k + 1 : Nat) : Int)) (pc' := 56) ⟨rfl, rfl⟩ rfl (by omega) rfl rfl ?_
          refine qa_goto (pc' := 59) (tgt := 7) ⟨rfl, rfl⟩ rfl ?_
          have hfin : ∀ q : Int, q ≠ 8 + 26 * k → sm_sd m tick (k + 1) q = sm_sd m tick k q := fun q hq => sm_sd_s1 hq
          have hsnd : sm_sd m tick (k + 1) (8 + 26 * k) = sm_sd m tick k (8 + 26 * k) + 1 := sm_sd_s2 hc2
          have een2 : sm_eq (sm_sd m tick k) (sm_sd m tick (k + 1)) k := ⟨hfin _ (by omega), fun j j0 j1 => ⟨hfin _ (by omega), hfin _ (by omega)⟩⟩
          have H10 : sR_S τ61.1 a (sm_sd m tick (k + 1)) rf := H9.setP (i := k) hkd (by omega) (fun q hq => f61 q (by omega)) (fun q hq => hfin q (by omega)) ⟨p9, l9, u9, d9, by rw [een2.1, een2.wh kk, hfin (9 + 26 * k) (by omega), hsnd]; exact w61, q2, q3, by rw [hfin 0 (by omega), hfin (5 + 26 * k) (by omega), hfin (6 + 26 * k) (by omega)]; exact q4, by rw [hfin 0 (by omega)]; exact q5, fun j j0 j1 => by rw [een2.1] at j1; rw [(een2.2 j j0 j1).1, (een2.2 j j0 j1).2]; exact q6 j j0 j1⟩
          exact ih τ61 (k + 1) (cnt + 1) k ⟨by omega, e0, fun q hq => (f61 q (by omega)).trans (hfr q hq), H10, by unfold sm_so; rw [if_neg hc2, hc], by unfold sm_al; rw [if_neg hc2]⟩
  exact lp (m 0).toNat σ 0 0 0 ⟨by omega, rfl, fun _ _ => rfl, by rw [show sm_sd m tick 0 = m from funext fun q => sm_sd_o (by omega)]; exact hS, rfl, rfl⟩
theorem c_S_playNext {E : qa_V} {σ : qa_S} {a : Nat} {m : Int → Int} {rf B : Int} {bars : Int} (hlo : E.1 ≤ a) (hS : sR_S σ.1 a m rf) (hk : sm_ok m B) (hB : B ≤ 1000000000) (hb : qa_in bars) : qa_T E qm_S_playNext 0 0 [.ref a, .int (qa_i bars)] σ (qa_Ch a σ rf (so_play m bars)) := by
  refine qa_enterQ (by decide) rfl qm_S_playNext_ok rfl rfl (fun Q9 hQ => ?_)
  have hk9 := hk
  obtain ⟨k0, k1, k2, k3, k4, k5, k6, k7, k8⟩ := hk9
  have hS9 := hS
  obtain ⟨hs, hpa, hcq, htq, hpp⟩ := hS9
  refine qa_iload_n (pc' := 1) ⟨rfl, rfl⟩ rfl ?_
  refine qa_iconst (pc' := 2) ⟨rfl, rfl⟩ ?_
  refine qa_bipush (z := 20) (pc' := 4) ⟨rfl, rfl⟩ rfl ?_
  refine qa_callS rfl qf_C_isWithin rfl ql_2_52 (c_C_isWithin (by omega) (by omega) (by omega)) rfl rfl (qa_lt9 rfl) (qa_le9 rfl) (qa_le9 rfl) (qa_le9 rfl) (fun o9 τ9 hq9 => ?_)
  obtain ⟨rfl, hq9⟩ := hq9
  replace hq9 := hq9.symm; subst hq9
  refine qa_nx (pc' := 7) (st' := [_]) rfl rfl rfl rfl ?_
  by_cases hw : 1 ≤ bars ∧ bars ≤ 20
  · rw [if_pos hw]
    refine qa_if_ne (pc' := 10) (tgt := 13) ⟨rfl, rfl⟩ rfl (by omega) (fun hhw9 => ?_) (fun hhw9 => ?_)
    · have hlo9 := sm_lo_b hk (m 0).toNat (by omega)
      refine qa_aload_n (pc' := 14) ⟨rfl, rfl⟩ rfl ?_
      refine qa_callV rfl qf_S_longestPart ql_2_168 (c_S_longestPart hS hk) hs rfl rfl rfl (qa_lt9 rfl) (qa_le9 rfl) (qa_le9 rfl) (qa_le9 rfl) (fun o9 τ9 hq9 => ?_)
      obtain ⟨rfl, hq9⟩ := hq9
      replace hq9 := hq9.symm; subst hq9
      refine qa_nx (pc' := 17) (st' := [_]) rfl rfl rfl rfl ?_
      refine qa_if_ne (pc' := 20) (tgt := 31) ⟨rfl, rfl⟩ rfl (by omega) (fun hc1 => ?_) (fun hc1 => ?_)
      · have hm9 := sp_mb (a := bars) (b := m 1) (A := 20) (B := 48) (by omega) (by omega)
        obtain ⟨w9, hw9⟩ : ∃ w9, w9 = bars * m 1 := ⟨_, rfl⟩
        rw [← hw9] at hm9
        refine qa_iload_n (pc' := 32) ⟨rfl, rfl⟩ rfl ?_
        refine qa_aload_n (pc' := 33) ⟨rfl, rfl⟩ rfl ?_
        refine qa_getf (pc' := 36) ⟨rfl, rfl⟩ qg_2_31 (by assumption) rfl ?_
        refine qa_imul (z := w9) (pc' := 37) ⟨rfl, rfl⟩ hw9.symm ?_
        refine qa_istore_n (L' := [(0, _), (1, _), (2, _)]) (pc' := 38) ⟨rfl, rfl⟩ rfl rfl ?_
        refine qa_iconst (pc' := 39) ⟨rfl, rfl⟩ ?_
        refine qa_istore_n (L' := [(0, _), (1, _), (2, _), (3, _)]) (pc' := 40) ⟨rfl, rfl⟩ rfl rfl ?_
        refine qa_iconst (pc' := 41) ⟨rfl, rfl⟩ ?_
        refine qa_istore (L' := [(0, _), (1, _), (2, _), (3, _), (4, _)]) (pc' := 43) ⟨rfl, rfl⟩ rfl rfl ?_
        have lp : ∀ (f : Nat) (τ : qa_S) (k : Nat) (r : Int), (k : Int) + f = w9 ∧ τ.2 = σ.2 ∧ (∀ q, (q < a ∨ a + 23 ≤ q) → τ.1 q = σ.1 q) ∧ sR_S τ.1 a (sm_run m (m 3) k) rf ∧ r = sm_si m k → qa_W E qm_S_playNext Q9 0 0 43 [(0, .ref a), (1, .int (qa_i bars)), (2, .int (qa_i w9)), (3, .int (qa_i r)), (4, .int (qa_i k))] [] τ := by
          intro f
          induction f with
          | zero =>
            intro τ k r ⟨hkf, he, hfr, H9, hr⟩
            have hH9 := H9
            obtain ⟨hs, hpa, hcq, htq, hpp⟩ := hH9
            rw [sm_run_o m (m 3) k 0 (by omega), sm_run_o m (m 3) k 1 (by omega), sm_run_o m (m 3) k 3 (by omega)] at hs
            have hsi := sm_si_b m k
            refine qa_iload (pc' := 45) ⟨rfl, rfl⟩ rfl ?_
            refine qa_iload_n (pc' := 46) ⟨rfl, rfl⟩ rfl ?_
            refine qa_icmp_ge (pc' := 49) (tgt := 69) ⟨rfl, rfl⟩ rfl (by omega) (by omega) (fun hc3 => ?_) (fun hc3 => ?_)
            · have e0 := he
              refine qa_aload_n (pc' := 70) ⟨rfl, rfl⟩ rfl ?_
              refine qa_dup (pc' := 71) ⟨rfl, rfl⟩ rfl ?_
              refine qa_getf (pc' := 74) ⟨rfl, rfl⟩ qg_2_49 (by assumption) rfl ?_
              refine qa_iload_n (pc' := 75) ⟨rfl, rfl⟩ rfl ?_
              refine qa_iadd (pc' := 76) ⟨rfl, rfl⟩ rfl ?_
              refine qa_putf (fs' := [_, _, _, _, _, _, _]) (pc' := 79) ⟨rfl, rfl⟩ qg_2_49 qw_1 (by assumption) (by omega) rfl (fun r hr => by cases hr; exact ⟨rfl, Or.inl rfl⟩) rfl rfl ?_
              refine qa_gz (fun τ61 e61 w61 f61 => ?_)
              replace e0 := e61.trans e0
              refine qa_iload_n (pc' := 80) ⟨rfl, rfl⟩ rfl ?_
              refine qa_ireturn rfl rfl rfl (hQ _ _ (qa_Ch.done (ans := r) (det := 0) (m' := qa_up (sm_run m (m 3) (bars * m 1).toNat) 3 (m 3 + bars * m 1)) (by unfold so_play; rw [if_neg (by omega), if_neg hc1, hr, show k = (bars * m 1).toNat by rw [← hw9]; omega]) (by omega) e0 (fun q hq => (f61 q (by omega)).trans (hfr q hq)) (rf' := rf) ?_))
              rw [← hw9, show w9.toNat = k by omega]
              exact H9.setA (sm_run_ok (t := m 3) hk k) f61 (fun q hq => qa_up_ne (by omega)) (by rw [qa_up_ne (by omega : (0 : Int) ≠ 3), qa_up_ne (by omega : (1 : Int) ≠ 3), qa_up_eq, sm_run_o m (m 3) k 0 (by omega), sm_run_o m (m 3) k 1 (by omega)]; exact w61)
            · exact absurd hc3 (by omega)
          | succ f ih =>
            intro τ k r ⟨hkf, he, hfr, H9, hr⟩
            have hH9 := H9
            obtain ⟨hs, hpa, hcq, htq, hpp⟩ := hH9
            rw [sm_run_o m (m 3) k 0 (by omega), sm_run_o m (m 3) k 1 (by omega), sm_run_o m (m 3) k 3 (by omega)] at hs
            have hsi := sm_si_b m k
            refine qa_iload (pc' := 45) ⟨rfl, rfl⟩ rfl ?_
            refine qa_iload_n (pc' := 46) ⟨rfl, rfl⟩ rfl ?_
            refine qa_icmp_ge (pc' := 49) (tgt := 69) ⟨rfl, rfl⟩ rfl (by omega) (by omega) (fun hc3 => ?_) (fun hc3 => ?_)
            · exact absurd hc3 (by omega)
            · refine qa_iload_n (pc' := 50) ⟨rfl, rfl⟩ rfl ?_
              refine qa_aload_n (pc' := 51) ⟨rfl, rfl⟩ rfl ?_
              refine qa_aload_n (pc' := 52) ⟨rfl, rfl⟩ rfl ?_
              refine qa_getf (pc' := 55) ⟨rfl, rfl⟩ qg_2_49 (by assumption) rfl ?_
              refine qa_iload (pc' := 57) ⟨rfl, rfl⟩ rfl ?_
              refine qa_iadd (pc' := 58) ⟨rfl, rfl⟩ rfl ?_
              refine qa_callV rfl qf_S_playTick ql_2_171 (c_S_playTick (E := E) hlo H9 (sm_run_ok (t := m 3) hk k) (by omega) (by omega)) hs rfl rfl rfl (qa_lt9 rfl) (qa_le9 rfl) (qa_le9 rfl) (qa_le9 rfl) (fun o9 τ9 hq9 => ?_)
              obtain ⟨rfl, e1, f1, H10⟩ := hq9
              refine qa_nx (pc' := 61) (st' := [_, _]) rfl rfl rfl rfl ?_
              rw [sm_run_so hk k]
              refine qa_iadd (pc' := 62) ⟨rfl, rfl⟩ rfl ?_
              refine qa_istore_n (L' := [(0, _), (1, _), (2, _), (3, _), (4, _)]) (pc' := 63) ⟨rfl, rfl⟩ rfl rfl ?_
              refine qa_iinc (L' := [(0, _), (1, _), (2, _), (3, _), (4, _)]) (z := ((k + 1 : Nat) : Int)) (pc' := 66) ⟨rfl, rfl⟩ rfl (by omega) rfl rfl ?_
              refine qa_goto (pc' := 69) (tgt := 43) ⟨rfl, rfl⟩ rfl ?_
              exact ih τ9 (k + 1) _ ⟨by omega, e1.trans he, fun q hq => (f1 q hq).trans (hfr q hq), H10, by unfold sm_si; rw [hr]⟩
        exact lp w9.toNat σ 0 0 ⟨by omega, rfl, fun _ _ => rfl, hS, rfl⟩
      · refine qa_aload_n (pc' := 21) ⟨rfl, rfl⟩ rfl ?_
        refine qa_bipush (z := 8) (pc' := 23) ⟨rfl, rfl⟩ rfl ?_
        refine qa_aload_n (pc' := 24) ⟨rfl, rfl⟩ rfl ?_
        refine qa_getf (pc' := 27) ⟨rfl, rfl⟩ qg_2_46 (by assumption) rfl ?_
        refine qa_callV rfl qf_S_refused ql_2_107 (c_S_refused hlo hs) hs rfl rfl rfl (qa_lt9 rfl) (qa_le9 rfl) (qa_le9 rfl) (qa_le9 rfl) (fun o9 τ9 hq9 => ?_)
        obtain ⟨rfl, e1, w1, f1⟩ := hq9
        refine qa_nx (pc' := 30) (st' := [_]) rfl rfl rfl rfl ?_
        refine qa_ireturn rfl rfl rfl (hQ _ _ (qa_Ch.ref (by unfold so_play; repeat (first | rw [if_pos (by omega)] | rw [if_neg (by omega)])) hS hk e1 w1 f1))
    · exact absurd hhw9 (by omega)
  · rw [if_neg hw]
    refine qa_if_ne (pc' := 10) (tgt := 13) ⟨rfl, rfl⟩ rfl (by omega) (fun hhw9 => ?_) (fun hhw9 => ?_)
    · exact absurd hhw9 (by omega)
    · refine qa_bipush (z := (-11)) (pc' := 12) ⟨rfl, rfl⟩ rfl ?_
      refine qa_ireturn rfl rfl rfl (hQ _ _ (qa_Ch.bad (by unfold so_play; repeat (first | rw [if_pos (by omega)] | rw [if_neg (by omega)])) (by omega) hS))
