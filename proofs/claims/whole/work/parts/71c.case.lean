/-! more of the law's cases -/
section WC
variable {E : qa_V} {Z : Nat → Nat} {b L c kc ks : Nat} {g : Int → Int} {i B : Int} {σ : qa_S} {Q9 : qa_O → qa_S → Prop}
theorem w_32 (hz : qa_Sb E) (hlo : E.1 ≤ c) (hbE : b < E.1) (hg : ∀ j : Int, qa_in (g j)) (hi : 0 ≤ i ∧ i + 4 ≤ L) (hL : L ≤ 2048) (hB9 : B ≤ 800000000) (hJ : qK E Z b L g c B σ) (kk : ∀ τ : qa_S, qK E Z b L g c (B + 13000) τ → qa_W E qm_L_law Q9 kc ks 3722 [(0, .ref b), (1, .ref c), (2, .ref (c + 277)), (3, .ref (c + 288)), (4, .ref (c + 289)), (5, .int (qa_i i))] [] τ) : qa_W E qm_L_law Q9 (kc + 64) (ks + 8000) 2243 [(0, .ref b), (1, .ref c), (2, .ref (c + 277)), (3, .ref (c + 288)), (4, .ref (c + 289)), (5, .int (qa_i i))] [] σ := by
  obtain ⟨hZ9, hb, ⟨a0, ho⟩, ⟨b0, hd⟩, hI⟩ := hJ
  obtain ⟨⟨n, hc⟩, ⟨f0, hM0⟩, hsz⟩ := qI_o hI
  have hT := l_cueDepth (E := E) hlo hsz hc ho (j_cueDepth (E := E) (p := g (i + 1)) hZ9 hz hlo hI hB9 (hg _))
  refine qa_aload_n (pc' := 2244) ⟨rfl, rfl⟩ rfl ?_
  refine qa_aload_n (pc' := 2245) ⟨rfl, rfl⟩ rfl ?_
  refine qa_iload (pc' := 2247) ⟨rfl, rfl⟩ rfl ?_
  refine qa_iconst (pc' := 2248) ⟨rfl, rfl⟩ ?_
  refine qa_iadd (pc' := 2249) ⟨rfl, rfl⟩ rfl ?_
  refine qa_iaload (pc' := 2250) ⟨rfl, rfl⟩ hb (by omega) ?_
  refine qa_aload_n (pc' := 2251) ⟨rfl, rfl⟩ rfl ?_
  refine qa_callSX rfl qf_L_cueDepth rfl (qa_wj 5 71 (by decide +kernel) (by decide +kernel)) hT rfl rfl (qa_lt9 rfl) (qa_le9 rfl) (by omega) (by omega) (fun o9 τ9 hq9 => ?_)
  obtain ⟨k9, x9, rfl, hk9, hs9, hf9, ⟨a1, ho9, hv9⟩, hm9⟩ := hq9
  refine qa_nx (pc' := 2254) (kc' := kc) (ks' := ks) (st' := [_]) rfl (by omega) (by omega) rfl ?_
  have hb9 := (hf9 b (by omega)).trans hb
  have hM9 := (hf9 (c + 277) (by omega)).trans hM0
  refine qa_istore (L' := [(0, _), (1, _), (2, _), (3, _), (4, _), (5, _), (6, _)]) (pc' := 2256) ⟨rfl, rfl⟩ rfl rfl ?_
  refine qa_aload_n (pc' := 2257) ⟨rfl, rfl⟩ rfl ?_
  refine qa_aload_n (pc' := 2258) ⟨rfl, rfl⟩ rfl ?_
  refine qa_iload (pc' := 2260) ⟨rfl, rfl⟩ rfl ?_
  refine qa_iconst (pc' := 2261) ⟨rfl, rfl⟩ ?_
  refine qa_iadd (pc' := 2262) ⟨rfl, rfl⟩ rfl ?_
  refine qa_iaload (pc' := 2263) ⟨rfl, rfl⟩ hb9 (by omega) ?_
  refine qa_callV rfl qf_M_cueDepth ql_0_314 (hm9 τ9 rfl (fun _ _ _ => rfl)) hM9 rfl rfl rfl (qa_lt9 rfl) (qa_le9 rfl) (Nat.zero_le _) (Nat.zero_le _) (fun o8 τ8 hq8 => ?_)
  obtain ⟨y8, f8, rfl, hy8, hM8, hk8, he8, hf8, hI8⟩ := hq8
  refine qa_nx (pc' := 2266) (kc' := kc) (ks' := ks) (st' := [_]) rfl rfl rfl rfl ?_
  have hK8 : qK E Z b L g c (B + 13000) τ8 := ⟨hZ9.to (fun q hq => (hf8 q (by omega)).trans (hf9 q (by omega))), (hf8 b (by omega)).trans hb9, ⟨a1, (hf8 _ (by omega)).trans ho9⟩, ⟨b0, (hf8 _ (by omega)).trans ((hf9 _ (by omega)).trans hd)⟩, hI8⟩
  have ho8 := (hf8 (c + 288) (by omega)).trans ho9
  obtain ⟨w8, hw8, rfl⟩ : ∃ w : Int, qa_in w ∧ y8 = qa_i w := ⟨y8.toInt, qa_i_in y8, (qa_i_of y8).symm⟩
  refine qa_istore (L' := [(0, _), (1, _), (2, _), (3, _), (4, _), (5, _), (6, _), (7, _)]) (pc' := 2268) ⟨rfl, rfl⟩ rfl rfl ?_
  refine qa_aload_n (pc' := 2269) ⟨rfl, rfl⟩ rfl ?_
  refine qa_callV rfl qf_M_thrown ql_0_212 (c_M_thrown (E := E) hM8) hM8 rfl rfl rfl (qa_lt9 rfl) (qa_le9 rfl) (Nat.zero_le _) (Nat.zero_le _) (fun o7 τ7 hq7 => ?_)
  obtain ⟨rfl, hq7⟩ := hq7
  replace hq7 := hq7.symm; subst hq7
  rw [hk8]
  refine qa_nx (pc' := 2272) (kc' := kc) (ks' := ks) (st' := [_]) rfl rfl rfl rfl ?_
  refine qa_iload (pc' := 2274) ⟨rfl, rfl⟩ rfl ?_
  refine qa_icmp_eq (pc' := 2277) (tgt := 2279) ⟨rfl, rfl⟩ rfl (by omega) (by omega) (fun hc1 => ?_) (fun hc1 => ?_)
  · refine qa_iload (pc' := 2281) ⟨rfl, rfl⟩ rfl ?_
    refine qa_if_ne (pc' := 2284) (tgt := 2296) ⟨rfl, rfl⟩ rfl (by omega) (fun hc2 => ?_) (fun hc2 => ?_)
    · refine qa_goto (pc' := 2299) (tgt := 3722) ⟨rfl, rfl⟩ rfl ?_
      refine qa_sub (ks' := [0, 1, 2, 3, 4, 5]) (L' := [(0, _), (1, _), (2, _), (3, _), (4, _), (5, _)]) rfl ?_
      exact kk _ hK8
    · have hk0 : k9 = 0 := by omega
      have ha : a1 0 = w8 := by rw [hv9 hk0, ← hy8 hk0, qa_i_toInt hw8]
      refine qa_aload_n (pc' := 2285) ⟨rfl, rfl⟩ rfl ?_
      refine qa_iconst (pc' := 2286) ⟨rfl, rfl⟩ ?_
      refine qa_laload (pc' := 2287) ⟨rfl, rfl⟩ ho8 (by omega) ?_
      refine qa_iload (pc' := 2289) ⟨rfl, rfl⟩ rfl ?_
      refine qa_i2l (pc' := 2290) ⟨rfl, rfl⟩ hw8 ?_
      rw [ha]
      refine qa_lcmp (pc' := 2291) ⟨rfl, rfl⟩ (by omega) (by omega) ?_
      refine qa_if_eq (pc' := 2294) (tgt := 2296) ⟨rfl, rfl⟩ rfl (qa_sg_in _ _) (fun hc3 => ?_) (fun hc3 => ?_)
      · refine qa_goto (pc' := 2299) (tgt := 3722) ⟨rfl, rfl⟩ rfl ?_
        refine qa_sub (ks' := [0, 1, 2, 3, 4, 5]) (L' := [(0, _), (1, _), (2, _), (3, _), (4, _), (5, _)]) rfl ?_
        exact kk _ hK8
      · exact absurd (qa_sg_eq.mpr rfl) hc3
  · exact absurd rfl hc1
theorem w_33 (hz : qa_Sb E) (hlo : E.1 ≤ c) (hbE : b < E.1) (hg : ∀ j : Int, qa_in (g j)) (hi : 0 ≤ i ∧ i + 4 ≤ L) (hL : L ≤ 2048) (hB9 : B ≤ 800000000) (hJ : qK E Z b L g c B σ) (kk : ∀ τ : qa_S, qK E Z b L g c (B + 13000) τ → qa_W E qm_L_law Q9 kc ks 3722 [(0, .ref b), (1, .ref c), (2, .ref (c + 277)), (3, .ref (c + 288)), (4, .ref (c + 289)), (5, .int (qa_i i))] [] τ) : qa_W E qm_L_law Q9 (kc + 64) (ks + 8000) 2299 [(0, .ref b), (1, .ref c), (2, .ref (c + 277)), (3, .ref (c + 288)), (4, .ref (c + 289)), (5, .int (qa_i i))] [] σ := by
  obtain ⟨hZ9, hb, ⟨a0, ho⟩, ⟨b0, hd⟩, hI⟩ := hJ
  obtain ⟨⟨n, hc⟩, ⟨f0, hM0⟩, hsz⟩ := qI_o hI
  have hT := l_circleLength (E := E) hlo hsz hc ho (j_circleLength (E := E) (p := g (i + 1)) hZ9 hz hlo hI hB9 (hg _))
  refine qa_aload_n (pc' := 2300) ⟨rfl, rfl⟩ rfl ?_
  refine qa_aload_n (pc' := 2301) ⟨rfl, rfl⟩ rfl ?_
  refine qa_iload (pc' := 2303) ⟨rfl, rfl⟩ rfl ?_
  refine qa_iconst (pc' := 2304) ⟨rfl, rfl⟩ ?_
  refine qa_iadd (pc' := 2305) ⟨rfl, rfl⟩ rfl ?_
  refine qa_iaload (pc' := 2306) ⟨rfl, rfl⟩ hb (by omega) ?_
  refine qa_aload_n (pc' := 2307) ⟨rfl, rfl⟩ rfl ?_
  refine qa_callSX rfl qf_L_circleLength rfl (qa_wj 5 82 (by decide +kernel) (by decide +kernel)) hT rfl rfl (qa_lt9 rfl) (qa_le9 rfl) (by omega) (by omega) (fun o9 τ9 hq9 => ?_)
  obtain ⟨k9, x9, rfl, hk9, hs9, hf9, ⟨a1, ho9, hv9⟩, hm9⟩ := hq9
  refine qa_nx (pc' := 2310) (kc' := kc) (ks' := ks) (st' := [_]) rfl (by omega) (by omega) rfl ?_
  have hb9 := (hf9 b (by omega)).trans hb
  have hM9 := (hf9 (c + 277) (by omega)).trans hM0
  refine qa_istore (L' := [(0, _), (1, _), (2, _), (3, _), (4, _), (5, _), (6, _)]) (pc' := 2312) ⟨rfl, rfl⟩ rfl rfl ?_
  refine qa_aload_n (pc' := 2313) ⟨rfl, rfl⟩ rfl ?_
  refine qa_aload_n (pc' := 2314) ⟨rfl, rfl⟩ rfl ?_
  refine qa_iload (pc' := 2316) ⟨rfl, rfl⟩ rfl ?_
  refine qa_iconst (pc' := 2317) ⟨rfl, rfl⟩ ?_
  refine qa_iadd (pc' := 2318) ⟨rfl, rfl⟩ rfl ?_
  refine qa_iaload (pc' := 2319) ⟨rfl, rfl⟩ hb9 (by omega) ?_
  refine qa_callV rfl qf_M_circleLength ql_0_317 (hm9 τ9 rfl (fun _ _ _ => rfl)) hM9 rfl rfl rfl (qa_lt9 rfl) (qa_le9 rfl) (Nat.zero_le _) (Nat.zero_le _) (fun o8 τ8 hq8 => ?_)
  obtain ⟨y8, f8, rfl, hy8, hM8, hk8, he8, hf8, hI8⟩ := hq8
  refine qa_nx (pc' := 2322) (kc' := kc) (ks' := ks) (st' := [_]) rfl rfl rfl rfl ?_
  have hK8 : qK E Z b L g c (B + 13000) τ8 := ⟨hZ9.to (fun q hq => (hf8 q (by omega)).trans (hf9 q (by omega))), (hf8 b (by omega)).trans hb9, ⟨a1, (hf8 _ (by omega)).trans ho9⟩, ⟨b0, (hf8 _ (by omega)).trans ((hf9 _ (by omega)).trans hd)⟩, hI8⟩
  have ho8 := (hf8 (c + 288) (by omega)).trans ho9
  obtain ⟨w8, hw8, rfl⟩ : ∃ w : Int, qa_in w ∧ y8 = qa_i w := ⟨y8.toInt, qa_i_in y8, (qa_i_of y8).symm⟩
  refine qa_istore (L' := [(0, _), (1, _), (2, _), (3, _), (4, _), (5, _), (6, _), (7, _)]) (pc' := 2324) ⟨rfl, rfl⟩ rfl rfl ?_
  refine qa_aload_n (pc' := 2325) ⟨rfl, rfl⟩ rfl ?_
  refine qa_callV rfl qf_M_thrown ql_0_212 (c_M_thrown (E := E) hM8) hM8 rfl rfl rfl (qa_lt9 rfl) (qa_le9 rfl) (Nat.zero_le _) (Nat.zero_le _) (fun o7 τ7 hq7 => ?_)
  obtain ⟨rfl, hq7⟩ := hq7
  replace hq7 := hq7.symm; subst hq7
  rw [hk8]
  refine qa_nx (pc' := 2328) (kc' := kc) (ks' := ks) (st' := [_]) rfl rfl rfl rfl ?_
  refine qa_iload (pc' := 2330) ⟨rfl, rfl⟩ rfl ?_
  refine qa_icmp_eq (pc' := 2333) (tgt := 2335) ⟨rfl, rfl⟩ rfl (by omega) (by omega) (fun hc1 => ?_) (fun hc1 => ?_)
  · refine qa_iload (pc' := 2337) ⟨rfl, rfl⟩ rfl ?_
    refine qa_if_ne (pc' := 2340) (tgt := 2352) ⟨rfl, rfl⟩ rfl (by omega) (fun hc2 => ?_) (fun hc2 => ?_)
    · refine qa_goto (pc' := 2355) (tgt := 3722) ⟨rfl, rfl⟩ rfl ?_
      refine qa_sub (ks' := [0, 1, 2, 3, 4, 5]) (L' := [(0, _), (1, _), (2, _), (3, _), (4, _), (5, _)]) rfl ?_
      exact kk _ hK8
    · have hk0 : k9 = 0 := by omega
      have ha : a1 0 = w8 := by rw [hv9 hk0, ← hy8 hk0, qa_i_toInt hw8]
      refine qa_aload_n (pc' := 2341) ⟨rfl, rfl⟩ rfl ?_
      refine qa_iconst (pc' := 2342) ⟨rfl, rfl⟩ ?_
      refine qa_laload (pc' := 2343) ⟨rfl, rfl⟩ ho8 (by omega) ?_
      refine qa_iload (pc' := 2345) ⟨rfl, rfl⟩ rfl ?_
      refine qa_i2l (pc' := 2346) ⟨rfl, rfl⟩ hw8 ?_
      rw [ha]
      refine qa_lcmp (pc' := 2347) ⟨rfl, rfl⟩ (by omega) (by omega) ?_
      refine qa_if_eq (pc' := 2350) (tgt := 2352) ⟨rfl, rfl⟩ rfl (qa_sg_in _ _) (fun hc3 => ?_) (fun hc3 => ?_)
      · refine qa_goto (pc' := 2355) (tgt := 3722) ⟨rfl, rfl⟩ rfl ?_
        refine qa_sub (ks' := [0, 1, 2, 3, 4, 5]) (L' := [(0, _), (1, _), (2, _), (3, _), (4, _), (5, _)]) rfl ?_
        exact kk _ hK8
      · exact absurd (qa_sg_eq.mpr rfl) hc3
  · exact absurd rfl hc1
theorem w_34 (hz : qa_Sb E) (hlo : E.1 ≤ c) (hbE : b < E.1) (hg : ∀ j : Int, qa_in (g j)) (hi : 0 ≤ i ∧ i + 4 ≤ L) (hL : L ≤ 2048) (hB9 : B ≤ 800000000) (hJ : qK E Z b L g c B σ) (kk : ∀ τ : qa_S, qK E Z b L g c (B + 13000) τ → qa_W E qm_L_law Q9 kc ks 3722 [(0, .ref b), (1, .ref c), (2, .ref (c + 277)), (3, .ref (c + 288)), (4, .ref (c + 289)), (5, .int (qa_i i))] [] τ) : qa_W E qm_L_law Q9 (kc + 64) (ks + 8000) 2355 [(0, .ref b), (1, .ref c), (2, .ref (c + 277)), (3, .ref (c + 288)), (4, .ref (c + 289)), (5, .int (qa_i i))] [] σ := by
  obtain ⟨hZ9, hb, ⟨a0, ho⟩, ⟨b0, hd⟩, hI⟩ := hJ
  obtain ⟨⟨n, hc⟩, ⟨f0, hM0⟩, hsz⟩ := qI_o hI
  have hT := l_circleLengthByMarks (E := E) hlo hsz hc ho (j_circleLengthByMarks (E := E) (p := g (i + 1)) hZ9 hz hlo hI hB9 (hg _))
  refine qa_aload_n (pc' := 2356) ⟨rfl, rfl⟩ rfl ?_
  refine qa_aload_n (pc' := 2357) ⟨rfl, rfl⟩ rfl ?_
  refine qa_iload (pc' := 2359) ⟨rfl, rfl⟩ rfl ?_
  refine qa_iconst (pc' := 2360) ⟨rfl, rfl⟩ ?_
  refine qa_iadd (pc' := 2361) ⟨rfl, rfl⟩ rfl ?_
  refine qa_iaload (pc' := 2362) ⟨rfl, rfl⟩ hb (by omega) ?_
  refine qa_aload_n (pc' := 2363) ⟨rfl, rfl⟩ rfl ?_
  refine qa_callSX rfl qf_L_circleLengthByMarks rfl (qa_wj 5 89 (by decide +kernel) (by decide +kernel)) hT rfl rfl (qa_lt9 rfl) (qa_le9 rfl) (by omega) (by omega) (fun o9 τ9 hq9 => ?_)
  obtain ⟨k9, x9, rfl, hk9, hs9, hf9, ⟨a1, ho9, hv9⟩, hm9⟩ := hq9
  refine qa_nx (pc' := 2366) (kc' := kc) (ks' := ks) (st' := [_]) rfl (by omega) (by omega) rfl ?_
  have hb9 := (hf9 b (by omega)).trans hb
  have hM9 := (hf9 (c + 277) (by omega)).trans hM0
  refine qa_istore (L' := [(0, _), (1, _), (2, _), (3, _), (4, _), (5, _), (6, _)]) (pc' := 2368) ⟨rfl, rfl⟩ rfl rfl ?_
  refine qa_aload_n (pc' := 2369) ⟨rfl, rfl⟩ rfl ?_
  refine qa_aload_n (pc' := 2370) ⟨rfl, rfl⟩ rfl ?_
  refine qa_iload (pc' := 2372) ⟨rfl, rfl⟩ rfl ?_
  refine qa_iconst (pc' := 2373) ⟨rfl, rfl⟩ ?_
  refine qa_iadd (pc' := 2374) ⟨rfl, rfl⟩ rfl ?_
  refine qa_iaload (pc' := 2375) ⟨rfl, rfl⟩ hb9 (by omega) ?_
  refine qa_callV rfl qf_M_circleLengthByMarks ql_0_320 (hm9 τ9 rfl (fun _ _ _ => rfl)) hM9 rfl rfl rfl (qa_lt9 rfl) (qa_le9 rfl) (Nat.zero_le _) (Nat.zero_le _) (fun o8 τ8 hq8 => ?_)
  obtain ⟨y8, f8, rfl, hy8, hM8, hk8, he8, hf8, hI8⟩ := hq8
  refine qa_nx (pc' := 2378) (kc' := kc) (ks' := ks) (st' := [_]) rfl rfl rfl rfl ?_
  have hK8 : qK E Z b L g c (B + 13000) τ8 := ⟨hZ9.to (fun q hq => (hf8 q (by omega)).trans (hf9 q (by omega))), (hf8 b (by omega)).trans hb9, ⟨a1, (hf8 _ (by omega)).trans ho9⟩, ⟨b0, (hf8 _ (by omega)).trans ((hf9 _ (by omega)).trans hd)⟩, hI8⟩
  have ho8 := (hf8 (c + 288) (by omega)).trans ho9
  obtain ⟨w8, hw8, rfl⟩ : ∃ w : Int, qa_in w ∧ y8 = qa_i w := ⟨y8.toInt, qa_i_in y8, (qa_i_of y8).symm⟩
  refine qa_istore (L' := [(0, _), (1, _), (2, _), (3, _), (4, _), (5, _), (6, _), (7, _)]) (pc' := 2380) ⟨rfl, rfl⟩ rfl rfl ?_
  refine qa_aload_n (pc' := 2381) ⟨rfl, rfl⟩ rfl ?_
  refine qa_callV rfl qf_M_thrown ql_0_212 (c_M_thrown (E := E) hM8) hM8 rfl rfl rfl (qa_lt9 rfl) (qa_le9 rfl) (Nat.zero_le _) (Nat.zero_le _) (fun o7 τ7 hq7 => ?_)
  obtain ⟨rfl, hq7⟩ := hq7
  replace hq7 := hq7.symm; subst hq7
  rw [hk8]
  refine qa_nx (pc' := 2384) (kc' := kc) (ks' := ks) (st' := [_]) rfl rfl rfl rfl ?_
  refine qa_iload (pc' := 2386) ⟨rfl, rfl⟩ rfl ?_
  refine qa_icmp_eq (pc' := 2389) (tgt := 2391) ⟨rfl, rfl⟩ rfl (by omega) (by omega) (fun hc1 => ?_) (fun hc1 => ?_)
  · refine qa_iload (pc' := 2393) ⟨rfl, rfl⟩ rfl ?_
    refine qa_if_ne (pc' := 2396) (tgt := 2408) ⟨rfl, rfl⟩ rfl (by omega) (fun hc2 => ?_) (fun hc2 => ?_)
    · refine qa_goto (pc' := 2411) (tgt := 3722) ⟨rfl, rfl⟩ rfl ?_
      refine qa_sub (ks' := [0, 1, 2, 3, 4, 5]) (L' := [(0, _), (1, _), (2, _), (3, _), (4, _), (5, _)]) rfl ?_
      exact kk _ hK8
    · have hk0 : k9 = 0 := by omega
      have ha : a1 0 = w8 := by rw [hv9 hk0, ← hy8 hk0, qa_i_toInt hw8]
      refine qa_aload_n (pc' := 2397) ⟨rfl, rfl⟩ rfl ?_
      refine qa_iconst (pc' := 2398) ⟨rfl, rfl⟩ ?_
      refine qa_laload (pc' := 2399) ⟨rfl, rfl⟩ ho8 (by omega) ?_
      refine qa_iload (pc' := 2401) ⟨rfl, rfl⟩ rfl ?_
      refine qa_i2l (pc' := 2402) ⟨rfl, rfl⟩ hw8 ?_
      rw [ha]
      refine qa_lcmp (pc' := 2403) ⟨rfl, rfl⟩ (by omega) (by omega) ?_
      refine qa_if_eq (pc' := 2406) (tgt := 2408) ⟨rfl, rfl⟩ rfl (qa_sg_in _ _) (fun hc3 => ?_) (fun hc3 => ?_)
      · refine qa_goto (pc' := 2411) (tgt := 3722) ⟨rfl, rfl⟩ rfl ?_
        refine qa_sub (ks' := [0, 1, 2, 3, 4, 5]) (L' := [(0, _), (1, _), (2, _), (3, _), (4, _), (5, _)]) rfl ?_
        exact kk _ hK8
      · exact absurd (qa_sg_eq.mpr rfl) hc3
  · exact absurd rfl hc1
theorem w_35 (hz : qa_Sb E) (hlo : E.1 ≤ c) (hbE : b < E.1) (hg : ∀ j : Int, qa_in (g j)) (hi : 0 ≤ i ∧ i + 4 ≤ L) (hL : L ≤ 2048) (hB9 : B ≤ 800000000) (hJ : qK E Z b L g c B σ) (kk : ∀ τ : qa_S, qK E Z b L g c (B + 13000) τ → qa_W E qm_L_law Q9 kc ks 3722 [(0, .ref b), (1, .ref c), (2, .ref (c + 277)), (3, .ref (c + 288)), (4, .ref (c + 289)), (5, .int (qa_i i))] [] τ) : qa_W E qm_L_law Q9 (kc + 64) (ks + 8000) 2411 [(0, .ref b), (1, .ref c), (2, .ref (c + 277)), (3, .ref (c + 288)), (4, .ref (c + 289)), (5, .int (qa_i i))] [] σ := by
  obtain ⟨hZ9, hb, ⟨a0, ho⟩, ⟨b0, hd⟩, hI⟩ := hJ
  obtain ⟨⟨n, hc⟩, ⟨f0, hM0⟩, hsz⟩ := qI_o hI
  have hT := l_setBar (E := E) hlo hsz hc ho (j_setBar (E := E) (x := g (i + 1)) hZ9 hz hlo hI hB9 (hg _))
  refine qa_aload_n (pc' := 2412) ⟨rfl, rfl⟩ rfl ?_
  refine qa_aload_n (pc' := 2413) ⟨rfl, rfl⟩ rfl ?_
  refine qa_iload (pc' := 2415) ⟨rfl, rfl⟩ rfl ?_
  refine qa_iconst (pc' := 2416) ⟨rfl, rfl⟩ ?_
  refine qa_iadd (pc' := 2417) ⟨rfl, rfl⟩ rfl ?_
  refine qa_iaload (pc' := 2418) ⟨rfl, rfl⟩ hb (by omega) ?_
  refine qa_aload_n (pc' := 2419) ⟨rfl, rfl⟩ rfl ?_
  refine qa_callSX rfl qf_L_setBar rfl (qa_wj 5 96 (by decide +kernel) (by decide +kernel)) hT rfl rfl (qa_lt9 rfl) (qa_le9 rfl) (by omega) (by omega) (fun o9 τ9 hq9 => ?_)
  obtain ⟨k9, x9, rfl, hk9, hs9, hf9, ⟨a1, ho9, hv9⟩, hm9⟩ := hq9
  refine qa_nx (pc' := 2422) (kc' := kc) (ks' := ks) (st' := [_]) rfl (by omega) (by omega) rfl ?_
  have hb9 := (hf9 b (by omega)).trans hb
  have hM9 := (hf9 (c + 277) (by omega)).trans hM0
  refine qa_istore (L' := [(0, _), (1, _), (2, _), (3, _), (4, _), (5, _), (6, _)]) (pc' := 2424) ⟨rfl, rfl⟩ rfl rfl ?_
  refine qa_aload_n (pc' := 2425) ⟨rfl, rfl⟩ rfl ?_
  refine qa_aload_n (pc' := 2426) ⟨rfl, rfl⟩ rfl ?_
  refine qa_iload (pc' := 2428) ⟨rfl, rfl⟩ rfl ?_
  refine qa_iconst (pc' := 2429) ⟨rfl, rfl⟩ ?_
  refine qa_iadd (pc' := 2430) ⟨rfl, rfl⟩ rfl ?_
  refine qa_iaload (pc' := 2431) ⟨rfl, rfl⟩ hb9 (by omega) ?_
  refine qa_callV rfl qf_M_setBar ql_0_323 (hm9 τ9 rfl (fun _ _ _ => rfl)) hM9 rfl rfl rfl (qa_lt9 rfl) (qa_le9 rfl) (Nat.zero_le _) (Nat.zero_le _) (fun o8 τ8 hq8 => ?_)
  obtain ⟨y8, f8, rfl, hy8, hM8, hk8, he8, hf8, hI8⟩ := hq8
  refine qa_nx (pc' := 2434) (kc' := kc) (ks' := ks) (st' := [_]) rfl rfl rfl rfl ?_
  have hK8 : qK E Z b L g c (B + 13000) τ8 := ⟨hZ9.to (fun q hq => (hf8 q (by omega)).trans (hf9 q (by omega))), (hf8 b (by omega)).trans hb9, ⟨a1, (hf8 _ (by omega)).trans ho9⟩, ⟨b0, (hf8 _ (by omega)).trans ((hf9 _ (by omega)).trans hd)⟩, hI8⟩
  have ho8 := (hf8 (c + 288) (by omega)).trans ho9
  obtain ⟨w8, hw8, rfl⟩ : ∃ w : Int, qa_in w ∧ y8 = qa_i w := ⟨y8.toInt, qa_i_in y8, (qa_i_of y8).symm⟩
  refine qa_istore (L' := [(0, _), (1, _), (2, _), (3, _), (4, _), (5, _), (6, _), (7, _)]) (pc' := 2436) ⟨rfl, rfl⟩ rfl rfl ?_
  refine qa_aload_n (pc' := 2437) ⟨rfl, rfl⟩ rfl ?_
  refine qa_callV rfl qf_M_thrown ql_0_212 (c_M_thrown (E := E) hM8) hM8 rfl rfl rfl (qa_lt9 rfl) (qa_le9 rfl) (Nat.zero_le _) (Nat.zero_le _) (fun o7 τ7 hq7 => ?_)
  obtain ⟨rfl, hq7⟩ := hq7
  replace hq7 := hq7.symm; subst hq7
  rw [hk8]
  refine qa_nx (pc' := 2440) (kc' := kc) (ks' := ks) (st' := [_]) rfl rfl rfl rfl ?_
  refine qa_iload (pc' := 2442) ⟨rfl, rfl⟩ rfl ?_
  refine qa_icmp_eq (pc' := 2445) (tgt := 2447) ⟨rfl, rfl⟩ rfl (by omega) (by omega) (fun hc1 => ?_) (fun hc1 => ?_)
  · refine qa_iload (pc' := 2449) ⟨rfl, rfl⟩ rfl ?_
    refine qa_if_ne (pc' := 2452) (tgt := 2464) ⟨rfl, rfl⟩ rfl (by omega) (fun hc2 => ?_) (fun hc2 => ?_)
    · refine qa_goto (pc' := 2467) (tgt := 3722) ⟨rfl, rfl⟩ rfl ?_
      refine qa_sub (ks' := [0, 1, 2, 3, 4, 5]) (L' := [(0, _), (1, _), (2, _), (3, _), (4, _), (5, _)]) rfl ?_
      exact kk _ hK8
    · have hk0 : k9 = 0 := by omega
      have ha : a1 0 = w8 := by rw [hv9 hk0, ← hy8 hk0, qa_i_toInt hw8]
      refine qa_aload_n (pc' := 2453) ⟨rfl, rfl⟩ rfl ?_
      refine qa_iconst (pc' := 2454) ⟨rfl, rfl⟩ ?_
      refine qa_laload (pc' := 2455) ⟨rfl, rfl⟩ ho8 (by omega) ?_
      refine qa_iload (pc' := 2457) ⟨rfl, rfl⟩ rfl ?_
      refine qa_i2l (pc' := 2458) ⟨rfl, rfl⟩ hw8 ?_
      rw [ha]
      refine qa_lcmp (pc' := 2459) ⟨rfl, rfl⟩ (by omega) (by omega) ?_
      refine qa_if_eq (pc' := 2462) (tgt := 2464) ⟨rfl, rfl⟩ rfl (qa_sg_in _ _) (fun hc3 => ?_) (fun hc3 => ?_)
      · refine qa_goto (pc' := 2467) (tgt := 3722) ⟨rfl, rfl⟩ rfl ?_
        refine qa_sub (ks' := [0, 1, 2, 3, 4, 5]) (L' := [(0, _), (1, _), (2, _), (3, _), (4, _), (5, _)]) rfl ?_
        exact kk _ hK8
      · exact absurd (qa_sg_eq.mpr rfl) hc3
  · exact absurd rfl hc1
theorem w_36 (hz : qa_Sb E) (hlo : E.1 ≤ c) (hbE : b < E.1) (hg : ∀ j : Int, qa_in (g j)) (hi : 0 ≤ i ∧ i + 4 ≤ L) (hL : L ≤ 2048) (hB9 : B ≤ 800000000) (hJ : qK E Z b L g c B σ) (kk : ∀ τ : qa_S, qK E Z b L g c (B + 13000) τ → qa_W E qm_L_law Q9 kc ks 3722 [(0, .ref b), (1, .ref c), (2, .ref (c + 277)), (3, .ref (c + 288)), (4, .ref (c + 289)), (5, .int (qa_i i))] [] τ) : qa_W E qm_L_law Q9 (kc + 64) (ks + 8000) 2467 [(0, .ref b), (1, .ref c), (2, .ref (c + 277)), (3, .ref (c + 288)), (4, .ref (c + 289)), (5, .int (qa_i i))] [] σ := by
  obtain ⟨hZ9, hb, ⟨a0, ho⟩, ⟨b0, hd⟩, hI⟩ := hJ
  obtain ⟨⟨n, hc⟩, ⟨f0, hM0⟩, hsz⟩ := qI_o hI
  refine qa_aload_n (pc' := 2468) ⟨rfl, rfl⟩ rfl ?_
  refine qa_callV rfl qf_C_barLength ql_0_324 (j_barLength (E := E) hZ9 hz hlo hI hB9) hc rfl rfl rfl (qa_lt9 rfl) (qa_le9 rfl) (by omega) (by omega) (fun o9 τ9 hq9 => ?_)
  obtain ⟨k9, x9, rfl, hk9, hs9, hf9, hm9⟩ := hq9
  obtain rfl := jk0 hk9
  rw [jo0]
  refine qa_nx (pc' := 2471) (kc' := kc + 64 - 0) (ks' := ks + 8000 - 0) (st' := [_]) rfl rfl rfl rfl ?_
  have hM9 := (hf9 (c + 277) (by omega)).trans hM0
  refine qa_aload_n (pc' := 2472) ⟨rfl, rfl⟩ rfl ?_
  refine qa_callV rfl qf_M_barLength ql_0_327 (hm9 τ9 rfl (fun _ _ _ => rfl)) hM9 rfl rfl rfl (qa_lt9 rfl) (qa_le9 rfl) (Nat.zero_le _) (Nat.zero_le _) (fun o8 τ8 hq8 => ?_)
  obtain ⟨y8, f8, rfl, hy8, hM8, hk8, he8, hf8, hI8⟩ := hq8
  refine qa_nx (pc' := 2475) (kc' := kc + 64 - 0) (ks' := ks + 8000 - 0) (st' := [_, _]) rfl rfl rfl rfl ?_
  have hK8 : qK E Z b L g c (B + 13000) τ8 := ⟨hZ9.to (fun q hq => (hf8 q (by omega)).trans (hf9 q (by omega))), (hf8 b (by omega)).trans ((hf9 b (by omega)).trans hb), ⟨a0, (hf8 _ (by omega)).trans ((hf9 _ (by omega)).trans ho)⟩, ⟨b0, (hf8 _ (by omega)).trans ((hf9 _ (by omega)).trans hd)⟩, hI8⟩
  obtain rfl := hy8 rfl
  obtain ⟨v9, hv9, rfl⟩ : ∃ v9 : Int, qa_in v9 ∧ y8 = qa_i v9 := ⟨y8.toInt, qa_i_in y8, (qa_i_of y8).symm⟩
  refine qa_icmp_eq (pc' := 2478) (tgt := 3722) ⟨rfl, rfl⟩ rfl hv9 hv9 (fun hc1 => ?_) (fun hc1 => ?_)
  · exact (kk _ hK8).less (by omega) (by omega)
  · exact absurd rfl hc1
theorem w_37 (hz : qa_Sb E) (hlo : E.1 ≤ c) (hbE : b < E.1) (hg : ∀ j : Int, qa_in (g j)) (hi : 0 ≤ i ∧ i + 4 ≤ L) (hL : L ≤ 2048) (hB9 : B ≤ 800000000) (hJ : qK E Z b L g c B σ) (kk : ∀ τ : qa_S, qK E Z b L g c (B + 13000) τ → qa_W E qm_L_law Q9 kc ks 3722 [(0, .ref b), (1, .ref c), (2, .ref (c + 277)), (3, .ref (c + 288)), (4, .ref (c + 289)), (5, .int (qa_i i))] [] τ) : qa_W E qm_L_law Q9 (kc + 64) (ks + 8000) 2480 [(0, .ref b), (1, .ref c), (2, .ref (c + 277)), (3, .ref (c + 288)), (4, .ref (c + 289)), (5, .int (qa_i i))] [] σ := by
  obtain ⟨hZ9, hb, ⟨a0, ho⟩, ⟨b0, hd⟩, hI⟩ := hJ
  obtain ⟨⟨n, hc⟩, ⟨f0, hM0⟩, hsz⟩ := qI_o hI
  have hT := l_barsOf (E := E) hlo hsz hc ho (j_barsOf (E := E) (p := g (i + 1)) hZ9 hz hlo hI hB9 (hg _))
  refine qa_aload_n (pc' := 2481) ⟨rfl, rfl⟩ rfl ?_
  refine qa_aload_n (pc' := 2482) ⟨rfl, rfl⟩ rfl ?_
  refine qa_iload (pc' := 2484) ⟨rfl, rfl⟩ rfl ?_
  refine qa_iconst (pc' := 2485) ⟨rfl, rfl⟩ ?_
  refine qa_iadd (pc' := 2486) ⟨rfl, rfl⟩ rfl ?_
  refine qa_iaload (pc' := 2487) ⟨rfl, rfl⟩ hb (by omega) ?_
  refine qa_aload_n (pc' := 2488) ⟨rfl, rfl⟩ rfl ?_
  refine qa_callSX rfl qf_L_barsOf rfl (qa_wj 5 105 (by decide +kernel) (by decide +kernel)) hT rfl rfl (qa_lt9 rfl) (qa_le9 rfl) (by omega) (by omega) (fun o9 τ9 hq9 => ?_)
  obtain ⟨k9, x9, rfl, hk9, hs9, hf9, ⟨a1, ho9, hv9⟩, hm9⟩ := hq9
  refine qa_nx (pc' := 2491) (kc' := kc) (ks' := ks) (st' := [_]) rfl (by omega) (by omega) rfl ?_
  have hb9 := (hf9 b (by omega)).trans hb
  have hM9 := (hf9 (c + 277) (by omega)).trans hM0
  refine qa_istore (L' := [(0, _), (1, _), (2, _), (3, _), (4, _), (5, _), (6, _)]) (pc' := 2493) ⟨rfl, rfl⟩ rfl rfl ?_
  refine qa_aload_n (pc' := 2494) ⟨rfl, rfl⟩ rfl ?_
  refine qa_aload_n (pc' := 2495) ⟨rfl, rfl⟩ rfl ?_
  refine qa_iload (pc' := 2497) ⟨rfl, rfl⟩ rfl ?_
  refine qa_iconst (pc' := 2498) ⟨rfl, rfl⟩ ?_
  refine qa_iadd (pc' := 2499) ⟨rfl, rfl⟩ rfl ?_
  refine qa_iaload (pc' := 2500) ⟨rfl, rfl⟩ hb9 (by omega) ?_
  refine qa_callV rfl qf_M_barsOf ql_0_330 (hm9 τ9 rfl (fun _ _ _ => rfl)) hM9 rfl rfl rfl (qa_lt9 rfl) (qa_le9 rfl) (Nat.zero_le _) (Nat.zero_le _) (fun o8 τ8 hq8 => ?_)
  obtain ⟨y8, f8, rfl, hy8, hM8, hk8, he8, hf8, hI8⟩ := hq8
  refine qa_nx (pc' := 2503) (kc' := kc) (ks' := ks) (st' := [_]) rfl rfl rfl rfl ?_
  have hK8 : qK E Z b L g c (B + 13000) τ8 := ⟨hZ9.to (fun q hq => (hf8 q (by omega)).trans (hf9 q (by omega))), (hf8 b (by omega)).trans hb9, ⟨a1, (hf8 _ (by omega)).trans ho9⟩, ⟨b0, (hf8 _ (by omega)).trans ((hf9 _ (by omega)).trans hd)⟩, hI8⟩
  have ho8 := (hf8 (c + 288) (by omega)).trans ho9
  obtain ⟨w8, hw8, rfl⟩ : ∃ w : Int, qa_in w ∧ y8 = qa_i w := ⟨y8.toInt, qa_i_in y8, (qa_i_of y8).symm⟩
  refine qa_istore (L' := [(0, _), (1, _), (2, _), (3, _), (4, _), (5, _), (6, _), (7, _)]) (pc' := 2505) ⟨rfl, rfl⟩ rfl rfl ?_
  refine qa_aload_n (pc' := 2506) ⟨rfl, rfl⟩ rfl ?_
  refine qa_callV rfl qf_M_thrown ql_0_212 (c_M_thrown (E := E) hM8) hM8 rfl rfl rfl (qa_lt9 rfl) (qa_le9 rfl) (Nat.zero_le _) (Nat.zero_le _) (fun o7 τ7 hq7 => ?_)
  obtain ⟨rfl, hq7⟩ := hq7
  replace hq7 := hq7.symm; subst hq7
  rw [hk8]
  refine qa_nx (pc' := 2509) (kc' := kc) (ks' := ks) (st' := [_]) rfl rfl rfl rfl ?_
  refine qa_iload (pc' := 2511) ⟨rfl, rfl⟩ rfl ?_
  refine qa_icmp_eq (pc' := 2514) (tgt := 2516) ⟨rfl, rfl⟩ rfl (by omega) (by omega) (fun hc1 => ?_) (fun hc1 => ?_)
  · refine qa_iload (pc' := 2518) ⟨rfl, rfl⟩ rfl ?_
    refine qa_if_ne (pc' := 2521) (tgt := 2533) ⟨rfl, rfl⟩ rfl (by omega) (fun hc2 => ?_) (fun hc2 => ?_)
    · refine qa_goto (pc' := 2536) (tgt := 3722) ⟨rfl, rfl⟩ rfl ?_
      refine qa_sub (ks' := [0, 1, 2, 3, 4, 5]) (L' := [(0, _), (1, _), (2, _), (3, _), (4, _), (5, _)]) rfl ?_
      exact kk _ hK8
    · have hk0 : k9 = 0 := by omega
      have ha : a1 0 = w8 := by rw [hv9 hk0, ← hy8 hk0, qa_i_toInt hw8]
      refine qa_aload_n (pc' := 2522) ⟨rfl, rfl⟩ rfl ?_
      refine qa_iconst (pc' := 2523) ⟨rfl, rfl⟩ ?_
      refine qa_laload (pc' := 2524) ⟨rfl, rfl⟩ ho8 (by omega) ?_
      refine qa_iload (pc' := 2526) ⟨rfl, rfl⟩ rfl ?_
      refine qa_i2l (pc' := 2527) ⟨rfl, rfl⟩ hw8 ?_
      rw [ha]
      refine qa_lcmp (pc' := 2528) ⟨rfl, rfl⟩ (by omega) (by omega) ?_
      refine qa_if_eq (pc' := 2531) (tgt := 2533) ⟨rfl, rfl⟩ rfl (qa_sg_in _ _) (fun hc3 => ?_) (fun hc3 => ?_)
      · refine qa_goto (pc' := 2536) (tgt := 3722) ⟨rfl, rfl⟩ rfl ?_
        refine qa_sub (ks' := [0, 1, 2, 3, 4, 5]) (L' := [(0, _), (1, _), (2, _), (3, _), (4, _), (5, _)]) rfl ?_
        exact kk _ hK8
      · exact absurd (qa_sg_eq.mpr rfl) hc3
  · exact absurd rfl hc1
theorem w_38 (hz : qa_Sb E) (hlo : E.1 ≤ c) (hbE : b < E.1) (hg : ∀ j : Int, qa_in (g j)) (hi : 0 ≤ i ∧ i + 4 ≤ L) (hL : L ≤ 2048) (hB9 : B ≤ 800000000) (hJ : qK E Z b L g c B σ) (kk : ∀ τ : qa_S, qK E Z b L g c (B + 13000) τ → qa_W E qm_L_law Q9 kc ks 3722 [(0, .ref b), (1, .ref c), (2, .ref (c + 277)), (3, .ref (c + 288)), (4, .ref (c + 289)), (5, .int (qa_i i))] [] τ) : qa_W E qm_L_law Q9 (kc + 64) (ks + 8000) 2536 [(0, .ref b), (1, .ref c), (2, .ref (c + 277)), (3, .ref (c + 288)), (4, .ref (c + 289)), (5, .int (qa_i i))] [] σ := by
  obtain ⟨hZ9, hb, ⟨a0, ho⟩, ⟨b0, hd⟩, hI⟩ := hJ
  obtain ⟨⟨n, hc⟩, ⟨f0, hM0⟩, hsz⟩ := qI_o hI
  have hT := l_setTempo (E := E) hlo hsz hc ho (j_setTempo (E := E) (x := g (i + 1)) (y := g (i + 2)) hZ9 hz hlo hI hB9 (hg _) (hg _))
  refine qa_aload_n (pc' := 2537) ⟨rfl, rfl⟩ rfl ?_
  refine qa_aload_n (pc' := 2538) ⟨rfl, rfl⟩ rfl ?_
  refine qa_iload (pc' := 2540) ⟨rfl, rfl⟩ rfl ?_
  refine qa_iconst (pc' := 2541) ⟨rfl, rfl⟩ ?_
  refine qa_iadd (pc' := 2542) ⟨rfl, rfl⟩ rfl ?_
  refine qa_iaload (pc' := 2543) ⟨rfl, rfl⟩ hb (by omega) ?_
  refine qa_aload_n (pc' := 2544) ⟨rfl, rfl⟩ rfl ?_
  refine qa_iload (pc' := 2546) ⟨rfl, rfl⟩ rfl ?_
  refine qa_iconst (pc' := 2547) ⟨rfl, rfl⟩ ?_
  refine qa_iadd (pc' := 2548) ⟨rfl, rfl⟩ rfl ?_
  refine qa_iaload (pc' := 2549) ⟨rfl, rfl⟩ hb (by omega) ?_
  refine qa_aload_n (pc' := 2550) ⟨rfl, rfl⟩ rfl ?_
  refine qa_callSX rfl qf_L_setTempo rfl (qa_wj 5 116 (by decide +kernel) (by decide +kernel)) hT rfl rfl (qa_lt9 rfl) (qa_le9 rfl) (by omega) (by omega) (fun o9 τ9 hq9 => ?_)
  obtain ⟨k9, x9, rfl, hk9, hs9, hf9, ⟨a1, ho9, hv9⟩, hm9⟩ := hq9
  refine qa_nx (pc' := 2553) (kc' := kc) (ks' := ks) (st' := [_]) rfl (by omega) (by omega) rfl ?_
  have hb9 := (hf9 b (by omega)).trans hb
  have hM9 := (hf9 (c + 277) (by omega)).trans hM0
  refine qa_istore (L' := [(0, _), (1, _), (2, _), (3, _), (4, _), (5, _), (6, _)]) (pc' := 2555) ⟨rfl, rfl⟩ rfl rfl ?_
  refine qa_aload_n (pc' := 2556) ⟨rfl, rfl⟩ rfl ?_
  refine qa_aload_n (pc' := 2557) ⟨rfl, rfl⟩ rfl ?_
  refine qa_iload (pc' := 2559) ⟨rfl, rfl⟩ rfl ?_
  refine qa_iconst (pc' := 2560) ⟨rfl, rfl⟩ ?_
  refine qa_iadd (pc' := 2561) ⟨rfl, rfl⟩ rfl ?_
  refine qa_iaload (pc' := 2562) ⟨rfl, rfl⟩ hb9 (by omega) ?_
  refine qa_aload_n (pc' := 2563) ⟨rfl, rfl⟩ rfl ?_
  refine qa_iload (pc' := 2565) ⟨rfl, rfl⟩ rfl ?_
  refine qa_iconst (pc' := 2566) ⟨rfl, rfl⟩ ?_
  refine qa_iadd (pc' := 2567) ⟨rfl, rfl⟩ rfl ?_
  refine qa_iaload (pc' := 2568) ⟨rfl, rfl⟩ hb9 (by omega) ?_
  refine qa_callV rfl qf_M_setTempo ql_0_333 (hm9 τ9 rfl (fun _ _ _ => rfl)) hM9 rfl rfl rfl (qa_lt9 rfl) (qa_le9 rfl) (Nat.zero_le _) (Nat.zero_le _) (fun o8 τ8 hq8 => ?_)
  obtain ⟨y8, f8, rfl, hy8, hM8, hk8, he8, hf8, hI8⟩ := hq8
  refine qa_nx (pc' := 2571) (kc' := kc) (ks' := ks) (st' := [_]) rfl rfl rfl rfl ?_
  have hK8 : qK E Z b L g c (B + 13000) τ8 := ⟨hZ9.to (fun q hq => (hf8 q (by omega)).trans (hf9 q (by omega))), (hf8 b (by omega)).trans hb9, ⟨a1, (hf8 _ (by omega)).trans ho9⟩, ⟨b0, (hf8 _ (by omega)).trans ((hf9 _ (by omega)).trans hd)⟩, hI8⟩
  have ho8 := (hf8 (c + 288) (by omega)).trans ho9
  obtain ⟨w8, hw8, rfl⟩ : ∃ w : Int, qa_in w ∧ y8 = qa_i w := ⟨y8.toInt, qa_i_in y8, (qa_i_of y8).symm⟩
  refine qa_istore (L' := [(0, _), (1, _), (2, _), (3, _), (4, _), (5, _), (6, _), (7, _)]) (pc' := 2573) ⟨rfl, rfl⟩ rfl rfl ?_
  refine qa_aload_n (pc' := 2574) ⟨rfl, rfl⟩ rfl ?_
  refine qa_callV rfl qf_M_thrown ql_0_212 (c_M_thrown (E := E) hM8) hM8 rfl rfl rfl (qa_lt9 rfl) (qa_le9 rfl) (Nat.zero_le _) (Nat.zero_le _) (fun o7 τ7 hq7 => ?_)
  obtain ⟨rfl, hq7⟩ := hq7
  replace hq7 := hq7.symm; subst hq7
  rw [hk8]
  refine qa_nx (pc' := 2577) (kc' := kc) (ks' := ks) (st' := [_]) rfl rfl rfl rfl ?_
  refine qa_iload (pc' := 2579) ⟨rfl, rfl⟩ rfl ?_
  refine qa_icmp_eq (pc' := 2582) (tgt := 2584) ⟨rfl, rfl⟩ rfl (by omega) (by omega) (fun hc1 => ?_) (fun hc1 => ?_)
  · refine qa_iload (pc' := 2586) ⟨rfl, rfl⟩ rfl ?_
    refine qa_if_ne (pc' := 2589) (tgt := 2601) ⟨rfl, rfl⟩ rfl (by omega) (fun hc2 => ?_) (fun hc2 => ?_)
    · refine qa_goto (pc' := 2604) (tgt := 3722) ⟨rfl, rfl⟩ rfl ?_
      refine qa_sub (ks' := [0, 1, 2, 3, 4, 5]) (L' := [(0, _), (1, _), (2, _), (3, _), (4, _), (5, _)]) rfl ?_
      exact kk _ hK8
    · have hk0 : k9 = 0 := by omega
      have ha : a1 0 = w8 := by rw [hv9 hk0, ← hy8 hk0, qa_i_toInt hw8]
      refine qa_aload_n (pc' := 2590) ⟨rfl, rfl⟩ rfl ?_
      refine qa_iconst (pc' := 2591) ⟨rfl, rfl⟩ ?_
      refine qa_laload (pc' := 2592) ⟨rfl, rfl⟩ ho8 (by omega) ?_
      refine qa_iload (pc' := 2594) ⟨rfl, rfl⟩ rfl ?_
      refine qa_i2l (pc' := 2595) ⟨rfl, rfl⟩ hw8 ?_
      rw [ha]
      refine qa_lcmp (pc' := 2596) ⟨rfl, rfl⟩ (by omega) (by omega) ?_
      refine qa_if_eq (pc' := 2599) (tgt := 2601) ⟨rfl, rfl⟩ rfl (qa_sg_in _ _) (fun hc3 => ?_) (fun hc3 => ?_)
      · refine qa_goto (pc' := 2604) (tgt := 3722) ⟨rfl, rfl⟩ rfl ?_
        refine qa_sub (ks' := [0, 1, 2, 3, 4, 5]) (L' := [(0, _), (1, _), (2, _), (3, _), (4, _), (5, _)]) rfl ?_
        exact kk _ hK8
      · exact absurd (qa_sg_eq.mpr rfl) hc3
  · exact absurd rfl hc1
theorem w_39 (hz : qa_Sb E) (hlo : E.1 ≤ c) (hbE : b < E.1) (hg : ∀ j : Int, qa_in (g j)) (hi : 0 ≤ i ∧ i + 4 ≤ L) (hL : L ≤ 2048) (hB9 : B ≤ 800000000) (hJ : qK E Z b L g c B σ) (kk : ∀ τ : qa_S, qK E Z b L g c (B + 13000) τ → qa_W E qm_L_law Q9 kc ks 3722 [(0, .ref b), (1, .ref c), (2, .ref (c + 277)), (3, .ref (c + 288)), (4, .ref (c + 289)), (5, .int (qa_i i))] [] τ) : qa_W E qm_L_law Q9 (kc + 64) (ks + 8000) 2604 [(0, .ref b), (1, .ref c), (2, .ref (c + 277)), (3, .ref (c + 288)), (4, .ref (c + 289)), (5, .int (qa_i i))] [] σ := by
  obtain ⟨hZ9, hb, ⟨a0, ho⟩, ⟨b0, hd⟩, hI⟩ := hJ
  obtain ⟨⟨n, hc⟩, ⟨f0, hM0⟩, hsz⟩ := qI_o hI
  have hT := l_tempoAt (E := E) hlo hsz hc ho (j_tempoAt (E := E) (x := g (i + 1)) hZ9 hz hlo hI hB9 (hg _))
  refine qa_aload_n (pc' := 2605) ⟨rfl, rfl⟩ rfl ?_
  refine qa_aload_n (pc' := 2606) ⟨rfl, rfl⟩ rfl ?_
  refine qa_iload (pc' := 2608) ⟨rfl, rfl⟩ rfl ?_
  refine qa_iconst (pc' := 2609) ⟨rfl, rfl⟩ ?_
  refine qa_iadd (pc' := 2610) ⟨rfl, rfl⟩ rfl ?_
  refine qa_iaload (pc' := 2611) ⟨rfl, rfl⟩ hb (by omega) ?_
  refine qa_aload_n (pc' := 2612) ⟨rfl, rfl⟩ rfl ?_
  refine qa_callSX rfl qf_L_tempoAt rfl (qa_wj 5 125 (by decide +kernel) (by decide +kernel)) hT rfl rfl (qa_lt9 rfl) (qa_le9 rfl) (by omega) (by omega) (fun o9 τ9 hq9 => ?_)
  obtain ⟨k9, x9, rfl, hk9, hs9, hf9, ⟨a1, ho9, hv9⟩, hm9⟩ := hq9
  refine qa_nx (pc' := 2615) (kc' := kc) (ks' := ks) (st' := [_]) rfl (by omega) (by omega) rfl ?_
  have hb9 := (hf9 b (by omega)).trans hb
  have hM9 := (hf9 (c + 277) (by omega)).trans hM0
  refine qa_istore (L' := [(0, _), (1, _), (2, _), (3, _), (4, _), (5, _), (6, _)]) (pc' := 2617) ⟨rfl, rfl⟩ rfl rfl ?_
  refine qa_aload_n (pc' := 2618) ⟨rfl, rfl⟩ rfl ?_
  refine qa_aload_n (pc' := 2619) ⟨rfl, rfl⟩ rfl ?_
  refine qa_iload (pc' := 2621) ⟨rfl, rfl⟩ rfl ?_
  refine qa_iconst (pc' := 2622) ⟨rfl, rfl⟩ ?_
  refine qa_iadd (pc' := 2623) ⟨rfl, rfl⟩ rfl ?_
  refine qa_iaload (pc' := 2624) ⟨rfl, rfl⟩ hb9 (by omega) ?_
  refine qa_callV rfl qf_M_tempoAt ql_0_336 (hm9 τ9 rfl (fun _ _ _ => rfl)) hM9 rfl rfl rfl (qa_lt9 rfl) (qa_le9 rfl) (Nat.zero_le _) (Nat.zero_le _) (fun o8 τ8 hq8 => ?_)
  obtain ⟨y8, f8, rfl, hy8, hM8, hk8, he8, hf8, hI8⟩ := hq8
  refine qa_nx (pc' := 2627) (kc' := kc) (ks' := ks) (st' := [_]) rfl rfl rfl rfl ?_
  have hK8 : qK E Z b L g c (B + 13000) τ8 := ⟨hZ9.to (fun q hq => (hf8 q (by omega)).trans (hf9 q (by omega))), (hf8 b (by omega)).trans hb9, ⟨a1, (hf8 _ (by omega)).trans ho9⟩, ⟨b0, (hf8 _ (by omega)).trans ((hf9 _ (by omega)).trans hd)⟩, hI8⟩
  have ho8 := (hf8 (c + 288) (by omega)).trans ho9
  obtain ⟨w8, hw8, rfl⟩ : ∃ w : Int, qa_in w ∧ y8 = qa_i w := ⟨y8.toInt, qa_i_in y8, (qa_i_of y8).symm⟩
  refine qa_istore (L' := [(0, _), (1, _), (2, _), (3, _), (4, _), (5, _), (6, _), (7, _)]) (pc' := 2629) ⟨rfl, rfl⟩ rfl rfl ?_
  refine qa_aload_n (pc' := 2630) ⟨rfl, rfl⟩ rfl ?_
  refine qa_callV rfl qf_M_thrown ql_0_212 (c_M_thrown (E := E) hM8) hM8 rfl rfl rfl (qa_lt9 rfl) (qa_le9 rfl) (Nat.zero_le _) (Nat.zero_le _) (fun o7 τ7 hq7 => ?_)
  obtain ⟨rfl, hq7⟩ := hq7
  replace hq7 := hq7.symm; subst hq7
  rw [hk8]
  refine qa_nx (pc' := 2633) (kc' := kc) (ks' := ks) (st' := [_]) rfl rfl rfl rfl ?_
  refine qa_iload (pc' := 2635) ⟨rfl, rfl⟩ rfl ?_
  refine qa_icmp_eq (pc' := 2638) (tgt := 2640) ⟨rfl, rfl⟩ rfl (by omega) (by omega) (fun hc1 => ?_) (fun hc1 => ?_)
  · refine qa_iload (pc' := 2642) ⟨rfl, rfl⟩ rfl ?_
    refine qa_if_ne (pc' := 2645) (tgt := 2657) ⟨rfl, rfl⟩ rfl (by omega) (fun hc2 => ?_) (fun hc2 => ?_)
    · refine qa_goto (pc' := 2660) (tgt := 3722) ⟨rfl, rfl⟩ rfl ?_
      refine qa_sub (ks' := [0, 1, 2, 3, 4, 5]) (L' := [(0, _), (1, _), (2, _), (3, _), (4, _), (5, _)]) rfl ?_
      exact kk _ hK8
    · have hk0 : k9 = 0 := by omega
      have ha : a1 0 = w8 := by rw [hv9 hk0, ← hy8 hk0, qa_i_toInt hw8]
      refine qa_aload_n (pc' := 2646) ⟨rfl, rfl⟩ rfl ?_
      refine qa_iconst (pc' := 2647) ⟨rfl, rfl⟩ ?_
      refine qa_laload (pc' := 2648) ⟨rfl, rfl⟩ ho8 (by omega) ?_
      refine qa_iload (pc' := 2650) ⟨rfl, rfl⟩ rfl ?_
      refine qa_i2l (pc' := 2651) ⟨rfl, rfl⟩ hw8 ?_
      rw [ha]
      refine qa_lcmp (pc' := 2652) ⟨rfl, rfl⟩ (by omega) (by omega) ?_
      refine qa_if_eq (pc' := 2655) (tgt := 2657) ⟨rfl, rfl⟩ rfl (qa_sg_in _ _) (fun hc3 => ?_) (fun hc3 => ?_)
      · refine qa_goto (pc' := 2660) (tgt := 3722) ⟨rfl, rfl⟩ rfl ?_
        refine qa_sub (ks' := [0, 1, 2, 3, 4, 5]) (L' := [(0, _), (1, _), (2, _), (3, _), (4, _), (5, _)]) rfl ?_
        exact kk _ hK8
      · exact absurd (qa_sg_eq.mpr rfl) hc3
  · exact absurd rfl hc1
theorem w_40 (hz : qa_Sb E) (hlo : E.1 ≤ c) (hbE : b < E.1) (hg : ∀ j : Int, qa_in (g j)) (hi : 0 ≤ i ∧ i + 4 ≤ L) (hL : L ≤ 2048) (hB9 : B ≤ 800000000) (hJ : qK E Z b L g c B σ) (kk : ∀ τ : qa_S, qK E Z b L g c (B + 13000) τ → qa_W E qm_L_law Q9 kc ks 3722 [(0, .ref b), (1, .ref c), (2, .ref (c + 277)), (3, .ref (c + 288)), (4, .ref (c + 289)), (5, .int (qa_i i))] [] τ) : qa_W E qm_L_law Q9 (kc + 64) (ks + 8000) 2660 [(0, .ref b), (1, .ref c), (2, .ref (c + 277)), (3, .ref (c + 288)), (4, .ref (c + 289)), (5, .int (qa_i i))] [] σ := by
  obtain ⟨hZ9, hb, ⟨a0, ho⟩, ⟨b0, hd⟩, hI⟩ := hJ
  obtain ⟨⟨n, hc⟩, ⟨f0, hM0⟩, hsz⟩ := qI_o hI
  have hT := l_startOfBar (E := E) hlo hsz hc ho (j_startOfBar (E := E) (x := g (i + 1)) hZ9 hz hlo hI hB9 (hg _))
  refine qa_aload_n (pc' := 2661) ⟨rfl, rfl⟩ rfl ?_
  refine qa_aload_n (pc' := 2662) ⟨rfl, rfl⟩ rfl ?_
  refine qa_iload (pc' := 2664) ⟨rfl, rfl⟩ rfl ?_
  refine qa_iconst (pc' := 2665) ⟨rfl, rfl⟩ ?_
  refine qa_iadd (pc' := 2666) ⟨rfl, rfl⟩ rfl ?_
  refine qa_iaload (pc' := 2667) ⟨rfl, rfl⟩ hb (by omega) ?_
  refine qa_aload_n (pc' := 2668) ⟨rfl, rfl⟩ rfl ?_
  refine qa_callSX rfl qf_L_startOfBar rfl (qa_wj 5 136 (by decide +kernel) (by decide +kernel)) hT rfl rfl (qa_lt9 rfl) (qa_le9 rfl) (by omega) (by omega) (fun o9 τ9 hq9 => ?_)
  obtain ⟨k9, x9, rfl, hk9, hs9, hf9, ⟨a1, ho9, hv9⟩, hm9⟩ := hq9
  refine qa_nx (pc' := 2671) (kc' := kc) (ks' := ks) (st' := [_]) rfl (by omega) (by omega) rfl ?_
  have hb9 := (hf9 b (by omega)).trans hb
  have hM9 := (hf9 (c + 277) (by omega)).trans hM0
  refine qa_istore (L' := [(0, _), (1, _), (2, _), (3, _), (4, _), (5, _), (6, _)]) (pc' := 2673) ⟨rfl, rfl⟩ rfl rfl ?_
  refine qa_aload_n (pc' := 2674) ⟨rfl, rfl⟩ rfl ?_
  refine qa_aload_n (pc' := 2675) ⟨rfl, rfl⟩ rfl ?_
  refine qa_iload (pc' := 2677) ⟨rfl, rfl⟩ rfl ?_
  refine qa_iconst (pc' := 2678) ⟨rfl, rfl⟩ ?_
  refine qa_iadd (pc' := 2679) ⟨rfl, rfl⟩ rfl ?_
  refine qa_iaload (pc' := 2680) ⟨rfl, rfl⟩ hb9 (by omega) ?_
  refine qa_callV rfl qf_M_startOfBar ql_0_339 (hm9 τ9 rfl (fun _ _ _ => rfl)) hM9 rfl rfl rfl (qa_lt9 rfl) (qa_le9 rfl) (Nat.zero_le _) (Nat.zero_le _) (fun o8 τ8 hq8 => ?_)
  obtain ⟨y8, f8, rfl, hy8, hM8, hk8, he8, hf8, hI8⟩ := hq8
  obtain ⟨w8, hw8, ew8⟩ : ∃ w : Int, qa_ln w ∧ qa_l y8 = qa_l w := ⟨(qa_l y8).toInt, qa_l_in _, (qa_l_of _).symm⟩
  show qa_N _ _ _ _ _ _ _ _ (.inl (some (Value.long (qa_l y8)))) _
  rw [ew8]
  refine qa_nx (pc' := 2683) (kc' := kc) (ks' := ks) (st' := [_]) rfl rfl rfl rfl ?_
  have hK8 : qK E Z b L g c (B + 13000) τ8 := ⟨hZ9.to (fun q hq => (hf8 q (by omega)).trans (hf9 q (by omega))), (hf8 b (by omega)).trans hb9, ⟨a1, (hf8 _ (by omega)).trans ho9⟩, ⟨b0, (hf8 _ (by omega)).trans ((hf9 _ (by omega)).trans hd)⟩, hI8⟩
  have ho8 := (hf8 (c + 288) (by omega)).trans ho9
  refine qa_lstore (L' := [(0, _), (1, _), (2, _), (3, _), (4, _), (5, _), (6, _), (7, _)]) (pc' := 2685) ⟨rfl, rfl⟩ rfl rfl ?_
  refine qa_aload_n (pc' := 2686) ⟨rfl, rfl⟩ rfl ?_
  refine qa_callV rfl qf_M_thrown ql_0_212 (c_M_thrown (E := E) hM8) hM8 rfl rfl rfl (qa_lt9 rfl) (qa_le9 rfl) (Nat.zero_le _) (Nat.zero_le _) (fun o7 τ7 hq7 => ?_)
  obtain ⟨rfl, hq7⟩ := hq7
  replace hq7 := hq7.symm; subst hq7
  rw [hk8]
  refine qa_nx (pc' := 2689) (kc' := kc) (ks' := ks) (st' := [_]) rfl rfl rfl rfl ?_
  refine qa_iload (pc' := 2691) ⟨rfl, rfl⟩ rfl ?_
  refine qa_icmp_eq (pc' := 2694) (tgt := 2696) ⟨rfl, rfl⟩ rfl (by omega) (by omega) (fun hc1 => ?_) (fun hc1 => ?_)
  · refine qa_iload (pc' := 2698) ⟨rfl, rfl⟩ rfl ?_
    refine qa_if_ne (pc' := 2701) (tgt := 2712) ⟨rfl, rfl⟩ rfl (by omega) (fun hc2 => ?_) (fun hc2 => ?_)
    · refine qa_goto (pc' := 2715) (tgt := 3722) ⟨rfl, rfl⟩ rfl ?_
      refine qa_sub (ks' := [0, 1, 2, 3, 4, 5]) (L' := [(0, _), (1, _), (2, _), (3, _), (4, _), (5, _)]) rfl ?_
      exact kk _ hK8
    · have hk0 : k9 = 0 := by omega
      have ha : a1 0 = w8 := (hv9 hk0).trans (by rw [← hy8 hk0]; show (qa_l y8).toInt = w8; rw [ew8, qa_l_toInt hw8])
      refine qa_aload_n (pc' := 2702) ⟨rfl, rfl⟩ rfl ?_
      refine qa_iconst (pc' := 2703) ⟨rfl, rfl⟩ ?_
      refine qa_laload (pc' := 2704) ⟨rfl, rfl⟩ ho8 (by omega) ?_
      refine qa_lload (pc' := 2706) ⟨rfl, rfl⟩ rfl ?_
      rw [ha]
      refine qa_lcmp (pc' := 2707) ⟨rfl, rfl⟩ hw8 hw8 ?_
      refine qa_if_eq (pc' := 2710) (tgt := 2712) ⟨rfl, rfl⟩ rfl (qa_sg_in _ _) (fun hc3 => ?_) (fun hc3 => ?_)
      · refine qa_goto (pc' := 2715) (tgt := 3722) ⟨rfl, rfl⟩ rfl ?_
        refine qa_sub (ks' := [0, 1, 2, 3, 4, 5]) (L' := [(0, _), (1, _), (2, _), (3, _), (4, _), (5, _)]) rfl ?_
        exact kk _ hK8
      · exact absurd (qa_sg_eq.mpr rfl) hc3
  · exact absurd rfl hc1
theorem w_41 (hz : qa_Sb E) (hlo : E.1 ≤ c) (hbE : b < E.1) (hg : ∀ j : Int, qa_in (g j)) (hi : 0 ≤ i ∧ i + 4 ≤ L) (hL : L ≤ 2048) (hB9 : B ≤ 800000000) (hJ : qK E Z b L g c B σ) (kk : ∀ τ : qa_S, qK E Z b L g c (B + 13000) τ → qa_W E qm_L_law Q9 kc ks 3722 [(0, .ref b), (1, .ref c), (2, .ref (c + 277)), (3, .ref (c + 288)), (4, .ref (c + 289)), (5, .int (qa_i i))] [] τ) : qa_W E qm_L_law Q9 (kc + 64) (ks + 8000) 2715 [(0, .ref b), (1, .ref c), (2, .ref (c + 277)), (3, .ref (c + 288)), (4, .ref (c + 289)), (5, .int (qa_i i))] [] σ := by
  obtain ⟨hZ9, hb, ⟨a0, ho⟩, ⟨b0, hd⟩, hI⟩ := hJ
  obtain ⟨⟨n, hc⟩, ⟨f0, hM0⟩, hsz⟩ := qI_o hI
  have hT := l_startOfBarByTempos (E := E) hlo hsz hc ho (j_startOfBarByTempos (E := E) (x := g (i + 1)) hZ9 hz hlo hI hB9 (hg _))
  refine qa_aload_n (pc' := 2716) ⟨rfl, rfl⟩ rfl ?_
  refine qa_aload_n (pc' := 2717) ⟨rfl, rfl⟩ rfl ?_
  refine qa_iload (pc' := 2719) ⟨rfl, rfl⟩ rfl ?_
  refine qa_iconst (pc' := 2720) ⟨rfl, rfl⟩ ?_
  refine qa_iadd (pc' := 2721) ⟨rfl, rfl⟩ rfl ?_
  refine qa_iaload (pc' := 2722) ⟨rfl, rfl⟩ hb (by omega) ?_
  refine qa_aload_n (pc' := 2723) ⟨rfl, rfl⟩ rfl ?_
  refine qa_callSX rfl qf_L_startOfBarByTempos rfl (qa_wj 5 143 (by decide +kernel) (by decide +kernel)) hT rfl rfl (qa_lt9 rfl) (qa_le9 rfl) (by omega) (by omega) (fun o9 τ9 hq9 => ?_)
  obtain ⟨k9, x9, rfl, hk9, hs9, hf9, ⟨a1, ho9, hv9⟩, hm9⟩ := hq9
  refine qa_nx (pc' := 2726) (kc' := kc) (ks' := ks) (st' := [_]) rfl (by omega) (by omega) rfl ?_
  have hb9 := (hf9 b (by omega)).trans hb
  have hM9 := (hf9 (c + 277) (by omega)).trans hM0
  refine qa_istore (L' := [(0, _), (1, _), (2, _), (3, _), (4, _), (5, _), (6, _)]) (pc' := 2728) ⟨rfl, rfl⟩ rfl rfl ?_
  refine qa_aload_n (pc' := 2729) ⟨rfl, rfl⟩ rfl ?_
  refine qa_aload_n (pc' := 2730) ⟨rfl, rfl⟩ rfl ?_
  refine qa_iload (pc' := 2732) ⟨rfl, rfl⟩ rfl ?_
  refine qa_iconst (pc' := 2733) ⟨rfl, rfl⟩ ?_
  refine qa_iadd (pc' := 2734) ⟨rfl, rfl⟩ rfl ?_
  refine qa_iaload (pc' := 2735) ⟨rfl, rfl⟩ hb9 (by omega) ?_
  refine qa_callV rfl qf_M_startOfBarByTempos ql_0_342 (hm9 τ9 rfl (fun _ _ _ => rfl)) hM9 rfl rfl rfl (qa_lt9 rfl) (qa_le9 rfl) (Nat.zero_le _) (Nat.zero_le _) (fun o8 τ8 hq8 => ?_)
  obtain ⟨y8, f8, rfl, hy8, hM8, hk8, he8, hf8, hI8⟩ := hq8
  obtain ⟨w8, hw8, ew8⟩ : ∃ w : Int, qa_ln w ∧ qa_l y8 = qa_l w := ⟨(qa_l y8).toInt, qa_l_in _, (qa_l_of _).symm⟩
  show qa_N _ _ _ _ _ _ _ _ (.inl (some (Value.long (qa_l y8)))) _
  rw [ew8]
  refine qa_nx (pc' := 2738) (kc' := kc) (ks' := ks) (st' := [_]) rfl rfl rfl rfl ?_
  have hK8 : qK E Z b L g c (B + 13000) τ8 := ⟨hZ9.to (fun q hq => (hf8 q (by omega)).trans (hf9 q (by omega))), (hf8 b (by omega)).trans hb9, ⟨a1, (hf8 _ (by omega)).trans ho9⟩, ⟨b0, (hf8 _ (by omega)).trans ((hf9 _ (by omega)).trans hd)⟩, hI8⟩
  have ho8 := (hf8 (c + 288) (by omega)).trans ho9
  refine qa_lstore (L' := [(0, _), (1, _), (2, _), (3, _), (4, _), (5, _), (6, _), (7, _)]) (pc' := 2740) ⟨rfl, rfl⟩ rfl rfl ?_
  refine qa_aload_n (pc' := 2741) ⟨rfl, rfl⟩ rfl ?_
  refine qa_callV rfl qf_M_thrown ql_0_212 (c_M_thrown (E := E) hM8) hM8 rfl rfl rfl (qa_lt9 rfl) (qa_le9 rfl) (Nat.zero_le _) (Nat.zero_le _) (fun o7 τ7 hq7 => ?_)
  obtain ⟨rfl, hq7⟩ := hq7
  replace hq7 := hq7.symm; subst hq7
  rw [hk8]
  refine qa_nx (pc' := 2744) (kc' := kc) (ks' := ks) (st' := [_]) rfl rfl rfl rfl ?_
  refine qa_iload (pc' := 2746) ⟨rfl, rfl⟩ rfl ?_
  refine qa_icmp_eq (pc' := 2749) (tgt := 2751) ⟨rfl, rfl⟩ rfl (by omega) (by omega) (fun hc1 => ?_) (fun hc1 => ?_)
  · refine qa_iload (pc' := 2753) ⟨rfl, rfl⟩ rfl ?_
    refine qa_if_ne (pc' := 2756) (tgt := 2767) ⟨rfl, rfl⟩ rfl (by omega) (fun hc2 => ?_) (fun hc2 => ?_)
    · refine qa_goto (pc' := 2770) (tgt := 3722) ⟨rfl, rfl⟩ rfl ?_
      refine qa_sub (ks' := [0, 1, 2, 3, 4, 5]) (L' := [(0, _), (1, _), (2, _), (3, _), (4, _), (5, _)]) rfl ?_
      exact kk _ hK8
    · have hk0 : k9 = 0 := by omega
      have ha : a1 0 = w8 := (hv9 hk0).trans (by rw [← hy8 hk0]; show (qa_l y8).toInt = w8; rw [ew8, qa_l_toInt hw8])
      refine qa_aload_n (pc' := 2757) ⟨rfl, rfl⟩ rfl ?_
      refine qa_iconst (pc' := 2758) ⟨rfl, rfl⟩ ?_
      refine qa_laload (pc' := 2759) ⟨rfl, rfl⟩ ho8 (by omega) ?_
      refine qa_lload (pc' := 2761) ⟨rfl, rfl⟩ rfl ?_
      rw [ha]
      refine qa_lcmp (pc' := 2762) ⟨rfl, rfl⟩ hw8 hw8 ?_
      refine qa_if_eq (pc' := 2765) (tgt := 2767) ⟨rfl, rfl⟩ rfl (qa_sg_in _ _) (fun hc3 => ?_) (fun hc3 => ?_)
      · refine qa_goto (pc' := 2770) (tgt := 3722) ⟨rfl, rfl⟩ rfl ?_
        refine qa_sub (ks' := [0, 1, 2, 3, 4, 5]) (L' := [(0, _), (1, _), (2, _), (3, _), (4, _), (5, _)]) rfl ?_
        exact kk _ hK8
      · exact absurd (qa_sg_eq.mpr rfl) hc3
  · exact absurd rfl hc1
theorem w_42 (hz : qa_Sb E) (hlo : E.1 ≤ c) (hbE : b < E.1) (hg : ∀ j : Int, qa_in (g j)) (hi : 0 ≤ i ∧ i + 4 ≤ L) (hL : L ≤ 2048) (hB9 : B ≤ 800000000) (hJ : qK E Z b L g c B σ) (kk : ∀ τ : qa_S, qK E Z b L g c (B + 13000) τ → qa_W E qm_L_law Q9 kc ks 3722 [(0, .ref b), (1, .ref c), (2, .ref (c + 277)), (3, .ref (c + 288)), (4, .ref (c + 289)), (5, .int (qa_i i))] [] τ) : qa_W E qm_L_law Q9 (kc + 64) (ks + 8000) 2770 [(0, .ref b), (1, .ref c), (2, .ref (c + 277)), (3, .ref (c + 288)), (4, .ref (c + 289)), (5, .int (qa_i i))] [] σ := by
  obtain ⟨hZ9, hb, ⟨a0, ho⟩, ⟨b0, hd⟩, hI⟩ := hJ
  obtain ⟨⟨n, hc⟩, ⟨f0, hM0⟩, hsz⟩ := qI_o hI
  have hT := l_play (E := E) hlo hsz hc ho (j_play (E := E) (x := g (i + 1)) hZ9 hz hlo hI hB9 (hg _))
  refine qa_aload_n (pc' := 2771) ⟨rfl, rfl⟩ rfl ?_
  refine qa_aload_n (pc' := 2772) ⟨rfl, rfl⟩ rfl ?_
  refine qa_iload (pc' := 2774) ⟨rfl, rfl⟩ rfl ?_
  refine qa_iconst (pc' := 2775) ⟨rfl, rfl⟩ ?_
  refine qa_iadd (pc' := 2776) ⟨rfl, rfl⟩ rfl ?_
  refine qa_iaload (pc' := 2777) ⟨rfl, rfl⟩ hb (by omega) ?_
  refine qa_aload_n (pc' := 2778) ⟨rfl, rfl⟩ rfl ?_
  refine qa_callSX rfl qf_L_play rfl (qa_wj 5 150 (by decide +kernel) (by decide +kernel)) hT rfl rfl (qa_lt9 rfl) (qa_le9 rfl) (by omega) (by omega) (fun o9 τ9 hq9 => ?_)
  obtain ⟨k9, x9, rfl, hk9, hs9, hf9, ⟨a1, ho9, hv9⟩, hm9⟩ := hq9
  refine qa_nx (pc' := 2781) (kc' := kc) (ks' := ks) (st' := [_]) rfl (by omega) (by omega) rfl ?_
  have hb9 := (hf9 b (by omega)).trans hb
  have hM9 := (hf9 (c + 277) (by omega)).trans hM0
  refine qa_istore (L' := [(0, _), (1, _), (2, _), (3, _), (4, _), (5, _), (6, _)]) (pc' := 2783) ⟨rfl, rfl⟩ rfl rfl ?_
  refine qa_aload_n (pc' := 2784) ⟨rfl, rfl⟩ rfl ?_
  refine qa_aload_n (pc' := 2785) ⟨rfl, rfl⟩ rfl ?_
  refine qa_iload (pc' := 2787) ⟨rfl, rfl⟩ rfl ?_
  refine qa_iconst (pc' := 2788) ⟨rfl, rfl⟩ ?_
  refine qa_iadd (pc' := 2789) ⟨rfl, rfl⟩ rfl ?_
  refine qa_iaload (pc' := 2790) ⟨rfl, rfl⟩ hb9 (by omega) ?_
  refine qa_callV rfl qf_M_play ql_0_345 (hm9 τ9 rfl (fun _ _ _ => rfl)) hM9 rfl rfl rfl (qa_lt9 rfl) (qa_le9 rfl) (Nat.zero_le _) (Nat.zero_le _) (fun o8 τ8 hq8 => ?_)
  obtain ⟨y8, f8, rfl, hy8, hM8, hk8, he8, hf8, hI8⟩ := hq8
  refine qa_nx (pc' := 2793) (kc' := kc) (ks' := ks) (st' := [_]) rfl rfl rfl rfl ?_
  have hK8 : qK E Z b L g c (B + 13000) τ8 := ⟨hZ9.to (fun q hq => (hf8 q (by omega)).trans (hf9 q (by omega))), (hf8 b (by omega)).trans hb9, ⟨a1, (hf8 _ (by omega)).trans ho9⟩, ⟨b0, (hf8 _ (by omega)).trans ((hf9 _ (by omega)).trans hd)⟩, hI8⟩
  have ho8 := (hf8 (c + 288) (by omega)).trans ho9
  obtain ⟨w8, hw8, rfl⟩ : ∃ w : Int, qa_in w ∧ y8 = qa_i w := ⟨y8.toInt, qa_i_in y8, (qa_i_of y8).symm⟩
  refine qa_istore (L' := [(0, _), (1, _), (2, _), (3, _), (4, _), (5, _), (6, _), (7, _)]) (pc' := 2795) ⟨rfl, rfl⟩ rfl rfl ?_
  refine qa_aload_n (pc' := 2796) ⟨rfl, rfl⟩ rfl ?_
  refine qa_callV rfl qf_M_thrown ql_0_212 (c_M_thrown (E := E) hM8) hM8 rfl rfl rfl (qa_lt9 rfl) (qa_le9 rfl) (Nat.zero_le _) (Nat.zero_le _) (fun o7 τ7 hq7 => ?_)
  obtain ⟨rfl, hq7⟩ := hq7
  replace hq7 := hq7.symm; subst hq7
  rw [hk8]
  refine qa_nx (pc' := 2799) (kc' := kc) (ks' := ks) (st' := [_]) rfl rfl rfl rfl ?_
  refine qa_iload (pc' := 2801) ⟨rfl, rfl⟩ rfl ?_
  refine qa_icmp_eq (pc' := 2804) (tgt := 2806) ⟨rfl, rfl⟩ rfl (by omega) (by omega) (fun hc1 => ?_) (fun hc1 => ?_)
  · refine qa_iload (pc' := 2808) ⟨rfl, rfl⟩ rfl ?_
    refine qa_if_ne (pc' := 2811) (tgt := 2823) ⟨rfl, rfl⟩ rfl (by omega) (fun hc2 => ?_) (fun hc2 => ?_)
    · refine qa_goto (pc' := 2826) (tgt := 3722) ⟨rfl, rfl⟩ rfl ?_
      refine qa_sub (ks' := [0, 1, 2, 3, 4, 5]) (L' := [(0, _), (1, _), (2, _), (3, _), (4, _), (5, _)]) rfl ?_
      exact kk _ hK8
    · have hk0 : k9 = 0 := by omega
      have ha : a1 0 = w8 := by rw [hv9 hk0, ← hy8 hk0, qa_i_toInt hw8]
      refine qa_aload_n (pc' := 2812) ⟨rfl, rfl⟩ rfl ?_
      refine qa_iconst (pc' := 2813) ⟨rfl, rfl⟩ ?_
      refine qa_laload (pc' := 2814) ⟨rfl, rfl⟩ ho8 (by omega) ?_
      refine qa_iload (pc' := 2816) ⟨rfl, rfl⟩ rfl ?_
      refine qa_i2l (pc' := 2817) ⟨rfl, rfl⟩ hw8 ?_
      rw [ha]
      refine qa_lcmp (pc' := 2818) ⟨rfl, rfl⟩ (by omega) (by omega) ?_
      refine qa_if_eq (pc' := 2821) (tgt := 2823) ⟨rfl, rfl⟩ rfl (qa_sg_in _ _) (fun hc3 => ?_) (fun hc3 => ?_)
      · refine qa_goto (pc' := 2826) (tgt := 3722) ⟨rfl, rfl⟩ rfl ?_
        refine qa_sub (ks' := [0, 1, 2, 3, 4, 5]) (L' := [(0, _), (1, _), (2, _), (3, _), (4, _), (5, _)]) rfl ?_
        exact kk _ hK8
      · exact absurd (qa_sg_eq.mpr rfl) hc3
  · exact absurd rfl hc1
theorem w_43 (hz : qa_Sb E) (hlo : E.1 ≤ c) (hbE : b < E.1) (hg : ∀ j : Int, qa_in (g j)) (hi : 0 ≤ i ∧ i + 4 ≤ L) (hL : L ≤ 2048) (hB9 : B ≤ 800000000) (hJ : qK E Z b L g c B σ) (kk : ∀ τ : qa_S, qK E Z b L g c (B + 13000) τ → qa_W E qm_L_law Q9 kc ks 3722 [(0, .ref b), (1, .ref c), (2, .ref (c + 277)), (3, .ref (c + 288)), (4, .ref (c + 289)), (5, .int (qa_i i))] [] τ) : qa_W E qm_L_law Q9 (kc + 64) (ks + 8000) 2826 [(0, .ref b), (1, .ref c), (2, .ref (c + 277)), (3, .ref (c + 288)), (4, .ref (c + 289)), (5, .int (qa_i i))] [] σ := by
  obtain ⟨hZ9, hb, ⟨a0, ho⟩, ⟨b0, hd⟩, hI⟩ := hJ
  obtain ⟨⟨n, hc⟩, ⟨f0, hM0⟩, hsz⟩ := qI_o hI
  refine qa_aload_n (pc' := 2827) ⟨rfl, rfl⟩ rfl ?_
  refine qa_callV rfl qf_C_playedTicks ql_0_346 (j_playedTicks (E := E) hZ9 hz hlo hI hB9) hc rfl rfl rfl (qa_lt9 rfl) (qa_le9 rfl) (by omega) (by omega) (fun o9 τ9 hq9 => ?_)
  obtain ⟨k9, x9, rfl, hk9, hs9, hf9, hm9⟩ := hq9
  obtain rfl := jk0 hk9
  rw [jo0]
  refine qa_nx (pc' := 2830) (kc' := kc + 64 - 0) (ks' := ks + 8000 - 0) (st' := [_]) rfl rfl rfl rfl ?_
  have hM9 := (hf9 (c + 277) (by omega)).trans hM0
  refine qa_aload_n (pc' := 2831) ⟨rfl, rfl⟩ rfl ?_
  refine qa_callV rfl qf_M_playedTicks ql_0_349 (hm9 τ9 rfl (fun _ _ _ => rfl)) hM9 rfl rfl rfl (qa_lt9 rfl) (qa_le9 rfl) (Nat.zero_le _) (Nat.zero_le _) (fun o8 τ8 hq8 => ?_)
  obtain ⟨y8, f8, rfl, hy8, hM8, hk8, he8, hf8, hI8⟩ := hq8
  refine qa_nx (pc' := 2834) (kc' := kc + 64 - 0) (ks' := ks + 8000 - 0) (st' := [_, _]) rfl rfl rfl rfl ?_
  have hK8 : qK E Z b L g c (B + 13000) τ8 := ⟨hZ9.to (fun q hq => (hf8 q (by omega)).trans (hf9 q (by omega))), (hf8 b (by omega)).trans ((hf9 b (by omega)).trans hb), ⟨a0, (hf8 _ (by omega)).trans ((hf9 _ (by omega)).trans ho)⟩, ⟨b0, (hf8 _ (by omega)).trans ((hf9 _ (by omega)).trans hd)⟩, hI8⟩
  obtain rfl := hy8 rfl
  obtain ⟨v9, hv9, rfl⟩ : ∃ v9 : Int, qa_in v9 ∧ y8 = qa_i v9 := ⟨y8.toInt, qa_i_in y8, (qa_i_of y8).symm⟩
  refine qa_icmp_eq (pc' := 2837) (tgt := 3722) ⟨rfl, rfl⟩ rfl hv9 hv9 (fun hc1 => ?_) (fun hc1 => ?_)
  · exact (kk _ hK8).less (by omega) (by omega)
  · exact absurd rfl hc1
theorem w_44 (hz : qa_Sb E) (hlo : E.1 ≤ c) (hbE : b < E.1) (hg : ∀ j : Int, qa_in (g j)) (hi : 0 ≤ i ∧ i + 4 ≤ L) (hL : L ≤ 2048) (hB9 : B ≤ 800000000) (hJ : qK E Z b L g c B σ) (kk : ∀ τ : qa_S, qK E Z b L g c (B + 13000) τ → qa_W E qm_L_law Q9 kc ks 3722 [(0, .ref b), (1, .ref c), (2, .ref (c + 277)), (3, .ref (c + 288)), (4, .ref (c + 289)), (5, .int (qa_i i))] [] τ) : qa_W E qm_L_law Q9 (kc + 64) (ks + 8000) 2839 [(0, .ref b), (1, .ref c), (2, .ref (c + 277)), (3, .ref (c + 288)), (4, .ref (c + 289)), (5, .int (qa_i i))] [] σ := by
  obtain ⟨hZ9, hb, ⟨a0, ho⟩, ⟨b0, hd⟩, hI⟩ := hJ
  obtain ⟨⟨n, hc⟩, ⟨f0, hM0⟩, hsz⟩ := qI_o hI
  have hT := l_soundedTicks (E := E) hlo hsz hc ho (j_soundedTicks (E := E) (p := g (i + 1)) hZ9 hz hlo hI hB9 (hg _))
  refine qa_aload_n (pc' := 2840) ⟨rfl, rfl⟩ rfl ?_
  refine qa_aload_n (pc' := 2841) ⟨rfl, rfl⟩ rfl ?_
  refine qa_iload (pc' := 2843) ⟨rfl, rfl⟩ rfl ?_
  refine qa_iconst (pc' := 2844) ⟨rfl, rfl⟩ ?_
  refine qa_iadd (pc' := 2845) ⟨rfl, rfl⟩ rfl ?_
  refine qa_iaload (pc' := 2846) ⟨rfl, rfl⟩ hb (by omega) ?_
  refine qa_aload_n (pc' := 2847) ⟨rfl, rfl⟩ rfl ?_
  refine qa_callSX rfl qf_L_soundedTicks rfl (qa_wj 5 159 (by decide +kernel) (by decide +kernel)) hT rfl rfl (qa_lt9 rfl) (qa_le9 rfl) (by omega) (by omega) (fun o9 τ9 hq9 => ?_)
  obtain ⟨k9, x9, rfl, hk9, hs9, hf9, ⟨a1, ho9, hv9⟩, hm9⟩ := hq9
  refine qa_nx (pc' := 2850) (kc' := kc) (ks' := ks) (st' := [_]) rfl (by omega) (by omega) rfl ?_
  have hb9 := (hf9 b (by omega)).trans hb
  have hM9 := (hf9 (c + 277) (by omega)).trans hM0
  refine qa_istore (L' := [(0, _), (1, _), (2, _), (3, _), (4, _), (5, _), (6, _)]) (pc' := 2852) ⟨rfl, rfl⟩ rfl rfl ?_
  refine qa_aload_n (pc' := 2853) ⟨rfl, rfl⟩ rfl ?_
  refine qa_aload_n (pc' := 2854) ⟨rfl, rfl⟩ rfl ?_
  refine qa_iload (pc' := 2856) ⟨rfl, rfl⟩ rfl ?_
  refine qa_iconst (pc' := 2857) ⟨rfl, rfl⟩ ?_
  refine qa_iadd (pc' := 2858) ⟨rfl, rfl⟩ rfl ?_
  refine qa_iaload (pc' := 2859) ⟨rfl, rfl⟩ hb9 (by omega) ?_
  refine qa_callV rfl qf_M_soundedTicks ql_0_352 (hm9 τ9 rfl (fun _ _ _ => rfl)) hM9 rfl rfl rfl (qa_lt9 rfl) (qa_le9 rfl) (Nat.zero_le _) (Nat.zero_le _) (fun o8 τ8 hq8 => ?_)
  obtain ⟨y8, f8, rfl, hy8, hM8, hk8, he8, hf8, hI8⟩ := hq8
  refine qa_nx (pc' := 2862) (kc' := kc) (ks' := ks) (st' := [_]) rfl rfl rfl rfl ?_
  have hK8 : qK E Z b L g c (B + 13000) τ8 := ⟨hZ9.to (fun q hq => (hf8 q (by omega)).trans (hf9 q (by omega))), (hf8 b (by omega)).trans hb9, ⟨a1, (hf8 _ (by omega)).trans ho9⟩, ⟨b0, (hf8 _ (by omega)).trans ((hf9 _ (by omega)).trans hd)⟩, hI8⟩
  have ho8 := (hf8 (c + 288) (by omega)).trans ho9
  obtain ⟨w8, hw8, rfl⟩ : ∃ w : Int, qa_in w ∧ y8 = qa_i w := ⟨y8.toInt, qa_i_in y8, (qa_i_of y8).symm⟩
  refine qa_istore (L' := [(0, _), (1, _), (2, _), (3, _), (4, _), (5, _), (6, _), (7, _)]) (pc' := 2864) ⟨rfl, rfl⟩ rfl rfl ?_
  refine qa_aload_n (pc' := 2865) ⟨rfl, rfl⟩ rfl ?_
  refine qa_callV rfl qf_M_thrown ql_0_212 (c_M_thrown (E := E) hM8) hM8 rfl rfl rfl (qa_lt9 rfl) (qa_le9 rfl) (Nat.zero_le _) (Nat.zero_le _) (fun o7 τ7 hq7 => ?_)
  obtain ⟨rfl, hq7⟩ := hq7
  replace hq7 := hq7.symm; subst hq7
  rw [hk8]
  refine qa_nx (pc' := 2868) (kc' := kc) (ks' := ks) (st' := [_]) rfl rfl rfl rfl ?_
  refine qa_iload (pc' := 2870) ⟨rfl, rfl⟩ rfl ?_
  refine qa_icmp_eq (pc' := 2873) (tgt := 2875) ⟨rfl, rfl⟩ rfl (by omega) (by omega) (fun hc1 => ?_) (fun hc1 => ?_)
  · refine qa_iload (pc' := 2877) ⟨rfl, rfl⟩ rfl ?_
    refine qa_if_ne (pc' := 2880) (tgt := 2892) ⟨rfl, rfl⟩ rfl (by omega) (fun hc2 => ?_) (fun hc2 => ?_)
    · refine qa_goto (pc' := 2895) (tgt := 3722) ⟨rfl, rfl⟩ rfl ?_
      refine qa_sub (ks' := [0, 1, 2, 3, 4, 5]) (L' := [(0, _), (1, _), (2, _), (3, _), (4, _), (5, _)]) rfl ?_
      exact kk _ hK8
    · have hk0 : k9 = 0 := by omega
      have ha : a1 0 = w8 := by rw [hv9 hk0, ← hy8 hk0, qa_i_toInt hw8]
      refine qa_aload_n (pc' := 2881) ⟨rfl, rfl⟩ rfl ?_
      refine qa_iconst (pc' := 2882) ⟨rfl, rfl⟩ ?_
      refine qa_laload (pc' := 2883) ⟨rfl, rfl⟩ ho8 (by omega) ?_
      refine qa_iload (pc' := 2885) ⟨rfl, rfl⟩ rfl ?_
      refine qa_i2l (pc' := 2886) ⟨rfl, rfl⟩ hw8 ?_
      rw [ha]
      refine qa_lcmp (pc' := 2887) ⟨rfl, rfl⟩ (by omega) (by omega) ?_
      refine qa_if_eq (pc' := 2890) (tgt := 2892) ⟨rfl, rfl⟩ rfl (qa_sg_in _ _) (fun hc3 => ?_) (fun hc3 => ?_)
      · refine qa_goto (pc' := 2895) (tgt := 3722) ⟨rfl, rfl⟩ rfl ?_
        refine qa_sub (ks' := [0, 1, 2, 3, 4, 5]) (L' := [(0, _), (1, _), (2, _), (3, _), (4, _), (5, _)]) rfl ?_
        exact kk _ hK8
      · exact absurd (qa_sg_eq.mpr rfl) hc3
  · exact absurd rfl hc1
theorem w_45 (hz : qa_Sb E) (hlo : E.1 ≤ c) (hbE : b < E.1) (hg : ∀ j : Int, qa_in (g j)) (hi : 0 ≤ i ∧ i + 4 ≤ L) (hL : L ≤ 2048) (hB9 : B ≤ 800000000) (hJ : qK E Z b L g c B σ) (kk : ∀ τ : qa_S, qK E Z b L g c (B + 13000) τ → qa_W E qm_L_law Q9 kc ks 3722 [(0, .ref b), (1, .ref c), (2, .ref (c + 277)), (3, .ref (c + 288)), (4, .ref (c + 289)), (5, .int (qa_i i))] [] τ) : qa_W E qm_L_law Q9 (kc + 64) (ks + 8000) 2895 [(0, .ref b), (1, .ref c), (2, .ref (c + 277)), (3, .ref (c + 288)), (4, .ref (c + 289)), (5, .int (qa_i i))] [] σ := by
  obtain ⟨hZ9, hb, ⟨a0, ho⟩, ⟨b0, hd⟩, hI⟩ := hJ
  obtain ⟨⟨n, hc⟩, ⟨f0, hM0⟩, hsz⟩ := qI_o hI
  have hT := l_soloTicks (E := E) hlo hsz hc ho (j_soloTicks (E := E) (p := g (i + 1)) hZ9 hz hlo hI hB9 (hg _))
  refine qa_aload_n (pc' := 2896) ⟨rfl, rfl⟩ rfl ?_
  refine qa_aload_n (pc' := 2897) ⟨rfl, rfl⟩ rfl ?_
  refine qa_iload (pc' := 2899) ⟨rfl, rfl⟩ rfl ?_
  refine qa_iconst (pc' := 2900) ⟨rfl, rfl⟩ ?_
  refine qa_iadd (pc' := 2901) ⟨rfl, rfl⟩ rfl ?_
  refine qa_iaload (pc' := 2902) ⟨rfl, rfl⟩ hb (by omega) ?_
  refine qa_aload_n (pc' := 2903) ⟨rfl, rfl⟩ rfl ?_
  refine qa_callSX rfl qf_L_soloTicks rfl (qa_wj 5 166 (by decide +kernel) (by decide +kernel)) hT rfl rfl (qa_lt9 rfl) (qa_le9 rfl) (by omega) (by omega) (fun o9 τ9 hq9 => ?_)
  obtain ⟨k9, x9, rfl, hk9, hs9, hf9, ⟨a1, ho9, hv9⟩, hm9⟩ := hq9
  refine qa_nx (pc' := 2906) (kc' := kc) (ks' := ks) (st' := [_]) rfl (by omega) (by omega) rfl ?_
  have hb9 := (hf9 b (by omega)).trans hb
  have hM9 := (hf9 (c + 277) (by omega)).trans hM0
  refine qa_istore (L' := [(0, _), (1, _), (2, _), (3, _), (4, _), (5, _), (6, _)]) (pc' := 2908) ⟨rfl, rfl⟩ rfl rfl ?_
  refine qa_aload_n (pc' := 2909) ⟨rfl, rfl⟩ rfl ?_
  refine qa_aload_n (pc' := 2910) ⟨rfl, rfl⟩ rfl ?_
  refine qa_iload (pc' := 2912) ⟨rfl, rfl⟩ rfl ?_
  refine qa_iconst (pc' := 2913) ⟨rfl, rfl⟩ ?_
  refine qa_iadd (pc' := 2914) ⟨rfl, rfl⟩ rfl ?_
  refine qa_iaload (pc' := 2915) ⟨rfl, rfl⟩ hb9 (by omega) ?_
  refine qa_callV rfl qf_M_soloTicks ql_0_355 (hm9 τ9 rfl (fun _ _ _ => rfl)) hM9 rfl rfl rfl (qa_lt9 rfl) (qa_le9 rfl) (Nat.zero_le _) (Nat.zero_le _) (fun o8 τ8 hq8 => ?_)
  obtain ⟨y8, f8, rfl, hy8, hM8, hk8, he8, hf8, hI8⟩ := hq8
  refine qa_nx (pc' := 2918) (kc' := kc) (ks' := ks) (st' := [_]) rfl rfl rfl rfl ?_
  have hK8 : qK E Z b L g c (B + 13000) τ8 := ⟨hZ9.to (fun q hq => (hf8 q (by omega)).trans (hf9 q (by omega))), (hf8 b (by omega)).trans hb9, ⟨a1, (hf8 _ (by omega)).trans ho9⟩, ⟨b0, (hf8 _ (by omega)).trans ((hf9 _ (by omega)).trans hd)⟩, hI8⟩
  have ho8 := (hf8 (c + 288) (by omega)).trans ho9
  obtain ⟨w8, hw8, rfl⟩ : ∃ w : Int, qa_in w ∧ y8 = qa_i w := ⟨y8.toInt, qa_i_in y8, (qa_i_of y8).symm⟩
  refine qa_istore (L' := [(0, _), (1, _), (2, _), (3, _), (4, _), (5, _), (6, _), (7, _)]) (pc' := 2920) ⟨rfl, rfl⟩ rfl rfl ?_
  refine qa_aload_n (pc' := 2921) ⟨rfl, rfl⟩ rfl ?_
  refine qa_callV rfl qf_M_thrown ql_0_212 (c_M_thrown (E := E) hM8) hM8 rfl rfl rfl (qa_lt9 rfl) (qa_le9 rfl) (Nat.zero_le _) (Nat.zero_le _) (fun o7 τ7 hq7 => ?_)
  obtain ⟨rfl, hq7⟩ := hq7
  replace hq7 := hq7.symm; subst hq7
  rw [hk8]
  refine qa_nx (pc' := 2924) (kc' := kc) (ks' := ks) (st' := [_]) rfl rfl rfl rfl ?_
  refine qa_iload (pc' := 2926) ⟨rfl, rfl⟩ rfl ?_
  refine qa_icmp_eq (pc' := 2929) (tgt := 2931) ⟨rfl, rfl⟩ rfl (by omega) (by omega) (fun hc1 => ?_) (fun hc1 => ?_)
  · refine qa_iload (pc' := 2933) ⟨rfl, rfl⟩ rfl ?_
    refine qa_if_ne (pc' := 2936) (tgt := 2948) ⟨rfl, rfl⟩ rfl (by omega) (fun hc2 => ?_) (fun hc2 => ?_)
    · refine qa_goto (pc' := 2951) (tgt := 3722) ⟨rfl, rfl⟩ rfl ?_
      refine qa_sub (ks' := [0, 1, 2, 3, 4, 5]) (L' := [(0, _), (1, _), (2, _), (3, _), (4, _), (5, _)]) rfl ?_
      exact kk _ hK8
    · have hk0 : k9 = 0 := by omega
      have ha : a1 0 = w8 := by rw [hv9 hk0, ← hy8 hk0, qa_i_toInt hw8]
      refine qa_aload_n (pc' := 2937) ⟨rfl, rfl⟩ rfl ?_
      refine qa_iconst (pc' := 2938) ⟨rfl, rfl⟩ ?_
      refine qa_laload (pc' := 2939) ⟨rfl, rfl⟩ ho8 (by omega) ?_
      refine qa_iload (pc' := 2941) ⟨rfl, rfl⟩ rfl ?_
      refine qa_i2l (pc' := 2942) ⟨rfl, rfl⟩ hw8 ?_
      rw [ha]
      refine qa_lcmp (pc' := 2943) ⟨rfl, rfl⟩ (by omega) (by omega) ?_
      refine qa_if_eq (pc' := 2946) (tgt := 2948) ⟨rfl, rfl⟩ rfl (qa_sg_in _ _) (fun hc3 => ?_) (fun hc3 => ?_)
      · refine qa_goto (pc' := 2951) (tgt := 3722) ⟨rfl, rfl⟩ rfl ?_
        refine qa_sub (ks' := [0, 1, 2, 3, 4, 5]) (L' := [(0, _), (1, _), (2, _), (3, _), (4, _), (5, _)]) rfl ?_
        exact kk _ hK8
      · exact absurd (qa_sg_eq.mpr rfl) hc3
  · exact absurd rfl hc1
theorem w_46 (hz : qa_Sb E) (hlo : E.1 ≤ c) (hbE : b < E.1) (hg : ∀ j : Int, qa_in (g j)) (hi : 0 ≤ i ∧ i + 4 ≤ L) (hL : L ≤ 2048) (hB9 : B ≤ 800000000) (hJ : qK E Z b L g c B σ) (kk : ∀ τ : qa_S, qK E Z b L g c (B + 13000) τ → qa_W E qm_L_law Q9 kc ks 3722 [(0, .ref b), (1, .ref c), (2, .ref (c + 277)), (3, .ref (c + 288)), (4, .ref (c + 289)), (5, .int (qa_i i))] [] τ) : qa_W E qm_L_law Q9 (kc + 64) (ks + 8000) 2951 [(0, .ref b), (1, .ref c), (2, .ref (c + 277)), (3, .ref (c + 288)), (4, .ref (c + 289)), (5, .int (qa_i i))] [] σ := by
  obtain ⟨hZ9, hb, ⟨a0, ho⟩, ⟨b0, hd⟩, hI⟩ := hJ
  obtain ⟨⟨n, hc⟩, ⟨f0, hM0⟩, hsz⟩ := qI_o hI
  have hT := l_solosAhead (E := E) hlo hsz hc ho (j_solosAhead (E := E) (x := g (i + 1)) hZ9 hz hlo hI hB9 (hg _))
  refine qa_aload_n (pc' := 2952) ⟨rfl, rfl⟩ rfl ?_
  refine qa_aload_n (pc' := 2953) ⟨rfl, rfl⟩ rfl ?_
  refine qa_iload (pc' := 2955) ⟨rfl, rfl⟩ rfl ?_
  refine qa_iconst (pc' := 2956) ⟨rfl, rfl⟩ ?_
  refine qa_iadd (pc' := 2957) ⟨rfl, rfl⟩ rfl ?_
  refine qa_iaload (pc' := 2958) ⟨rfl, rfl⟩ hb (by omega) ?_
  refine qa_aload_n (pc' := 2959) ⟨rfl, rfl⟩ rfl ?_
  refine qa_callSX rfl qf_L_solosAhead rfl (qa_wj 5 173 (by decide +kernel) (by decide +kernel)) hT rfl rfl (qa_lt9 rfl) (qa_le9 rfl) (by omega) (by omega) (fun o9 τ9 hq9 => ?_)
  obtain ⟨k9, x9, rfl, hk9, hs9, hf9, ⟨a1, ho9, hv9⟩, hm9⟩ := hq9
  refine qa_nx (pc' := 2962) (kc' := kc) (ks' := ks) (st' := [_]) rfl (by omega) (by omega) rfl ?_
  have hb9 := (hf9 b (by omega)).trans hb
  have hM9 := (hf9 (c + 277) (by omega)).trans hM0
  refine qa_istore (L' := [(0, _), (1, _), (2, _), (3, _), (4, _), (5, _), (6, _)]) (pc' := 2964) ⟨rfl, rfl⟩ rfl rfl ?_
  refine qa_aload_n (pc' := 2965) ⟨rfl, rfl⟩ rfl ?_
  refine qa_aload_n (pc' := 2966) ⟨rfl, rfl⟩ rfl ?_
  refine qa_iload (pc' := 2968) ⟨rfl, rfl⟩ rfl ?_
  refine qa_iconst (pc' := 2969) ⟨rfl, rfl⟩ ?_
  refine qa_iadd (pc' := 2970) ⟨rfl, rfl⟩ rfl ?_
  refine qa_iaload (pc' := 2971) ⟨rfl, rfl⟩ hb9 (by omega) ?_
  refine qa_callV rfl qf_M_solosAhead ql_0_358 (hm9 τ9 rfl (fun _ _ _ => rfl)) hM9 rfl rfl rfl (qa_lt9 rfl) (qa_le9 rfl) (Nat.zero_le _) (Nat.zero_le _) (fun o8 τ8 hq8 => ?_)
  obtain ⟨y8, f8, rfl, hy8, hM8, hk8, he8, hf8, hI8⟩ := hq8
  refine qa_nx (pc' := 2974) (kc' := kc) (ks' := ks) (st' := [_]) rfl rfl rfl rfl ?_
  have hK8 : qK E Z b L g c (B + 13000) τ8 := ⟨hZ9.to (fun q hq => (hf8 q (by omega)).trans (hf9 q (by omega))), (hf8 b (by omega)).trans hb9, ⟨a1, (hf8 _ (by omega)).trans ho9⟩, ⟨b0, (hf8 _ (by omega)).trans ((hf9 _ (by omega)).trans hd)⟩, hI8⟩
  have ho8 := (hf8 (c + 288) (by omega)).trans ho9
  obtain ⟨w8, hw8, rfl⟩ : ∃ w : Int, qa_in w ∧ y8 = qa_i w := ⟨y8.toInt, qa_i_in y8, (qa_i_of y8).symm⟩
  refine qa_istore (L' := [(0, _), (1, _), (2, _), (3, _), (4, _), (5, _), (6, _), (7, _)]) (pc' := 2976) ⟨rfl, rfl⟩ rfl rfl ?_
  refine qa_aload_n (pc' := 2977) ⟨rfl, rfl⟩ rfl ?_
  refine qa_callV rfl qf_M_thrown ql_0_212 (c_M_thrown (E := E) hM8) hM8 rfl rfl rfl (qa_lt9 rfl) (qa_le9 rfl) (Nat.zero_le _) (Nat.zero_le _) (fun o7 τ7 hq7 => ?_)
  obtain ⟨rfl, hq7⟩ := hq7
  replace hq7 := hq7.symm; subst hq7
  rw [hk8]
  refine qa_nx (pc' := 2980) (kc' := kc) (ks' := ks) (st' := [_]) rfl rfl rfl rfl ?_
  refine qa_iload (pc' := 2982) ⟨rfl, rfl⟩ rfl ?_
  refine qa_icmp_eq (pc' := 2985) (tgt := 2987) ⟨rfl, rfl⟩ rfl (by omega) (by omega) (fun hc1 => ?_) (fun hc1 => ?_)
  · refine qa_iload (pc' := 2989) ⟨rfl, rfl⟩ rfl ?_
    refine qa_if_ne (pc' := 2992) (tgt := 3004) ⟨rfl, rfl⟩ rfl (by omega) (fun hc2 => ?_) (fun hc2 => ?_)
    · refine qa_goto (pc' := 3007) (tgt := 3722) ⟨rfl, rfl⟩ rfl ?_
      refine qa_sub (ks' := [0, 1, 2, 3, 4, 5]) (L' := [(0, _), (1, _), (2, _), (3, _), (4, _), (5, _)]) rfl ?_
      exact kk _ hK8
    · have hk0 : k9 = 0 := by omega
      have ha : a1 0 = w8 := by rw [hv9 hk0, ← hy8 hk0, qa_i_toInt hw8]
      refine qa_aload_n (pc' := 2993) ⟨rfl, rfl⟩ rfl ?_
      refine qa_iconst (pc' := 2994) ⟨rfl, rfl⟩ ?_
      refine qa_laload (pc' := 2995) ⟨rfl, rfl⟩ ho8 (by omega) ?_
      refine qa_iload (pc' := 2997) ⟨rfl, rfl⟩ rfl ?_
      refine qa_i2l (pc' := 2998) ⟨rfl, rfl⟩ hw8 ?_
      rw [ha]
      refine qa_lcmp (pc' := 2999) ⟨rfl, rfl⟩ (by omega) (by omega) ?_
      refine qa_if_eq (pc' := 3002) (tgt := 3004) ⟨rfl, rfl⟩ rfl (qa_sg_in _ _) (fun hc3 => ?_) (fun hc3 => ?_)
      · refine qa_goto (pc' := 3007) (tgt := 3722) ⟨rfl, rfl⟩ rfl ?_
        refine qa_sub (ks' := [0, 1, 2, 3, 4, 5]) (L' := [(0, _), (1, _), (2, _), (3, _), (4, _), (5, _)]) rfl ?_
        exact kk _ hK8
      · exact absurd (qa_sg_eq.mpr rfl) hc3
  · exact absurd rfl hc1
theorem w_47 (hz : qa_Sb E) (hlo : E.1 ≤ c) (hbE : b < E.1) (hg : ∀ j : Int, qa_in (g j)) (hi : 0 ≤ i ∧ i + 4 ≤ L) (hL : L ≤ 2048) (hB9 : B ≤ 800000000) (hJ : qK E Z b L g c B σ) (kk : ∀ τ : qa_S, qK E Z b L g c (B + 13000) τ → qa_W E qm_L_law Q9 kc ks 3722 [(0, .ref b), (1, .ref c), (2, .ref (c + 277)), (3, .ref (c + 288)), (4, .ref (c + 289)), (5, .int (qa_i i))] [] τ) : qa_W E qm_L_law Q9 (kc + 64) (ks + 8000) 3007 [(0, .ref b), (1, .ref c), (2, .ref (c + 277)), (3, .ref (c + 288)), (4, .ref (c + 289)), (5, .int (qa_i i))] [] σ := by
  obtain ⟨hZ9, hb, ⟨a0, ho⟩, ⟨b0, hd⟩, hI⟩ := hJ
  obtain ⟨⟨n, hc⟩, ⟨f0, hM0⟩, hsz⟩ := qI_o hI
  have hT := l_meanPitch (E := E) hlo hsz hc hd (j_meanPitch (E := E) (p := g (i + 1)) hZ9 hz hlo hI hB9 (hg _))
  refine qa_aload_n (pc' := 3008) ⟨rfl, rfl⟩ rfl ?_
  refine qa_aload_n (pc' := 3009) ⟨rfl, rfl⟩ rfl ?_
  refine qa_iload (pc' := 3011) ⟨rfl, rfl⟩ rfl ?_
  refine qa_iconst (pc' := 3012) ⟨rfl, rfl⟩ ?_
  refine qa_iadd (pc' := 3013) ⟨rfl, rfl⟩ rfl ?_
  refine qa_iaload (pc' := 3014) ⟨rfl, rfl⟩ hb (by omega) ?_
  refine qa_aload (pc' := 3016) ⟨rfl, rfl⟩ rfl ?_
  refine qa_callSX rfl qf_L_meanPitch rfl (qa_wj 5 185 (by decide +kernel) (by decide +kernel)) hT rfl rfl (qa_lt9 rfl) (qa_le9 rfl) (by omega) (by omega) (fun o9 τ9 hq9 => ?_)
  obtain ⟨k9, x9, rfl, hk9, hs9, hf9, ⟨a1, ho9, hv9⟩, hp9, hm9⟩ := hq9
  refine qa_nx (pc' := 3019) (kc' := kc) (ks' := ks) (st' := [_]) rfl (by omega) (by omega) rfl ?_
  have hb9 := (hf9 b (by omega)).trans hb
  have hM9 := (hf9 (c + 277) (by omega)).trans hM0
  refine qa_istore (L' := [(0, _), (1, _), (2, _), (3, _), (4, _), (5, _), (6, _)]) (pc' := 3021) ⟨rfl, rfl⟩ rfl rfl ?_
  refine qa_aload_n (pc' := 3022) ⟨rfl, rfl⟩ rfl ?_
  refine qa_aload_n (pc' := 3023) ⟨rfl, rfl⟩ rfl ?_
  refine qa_iload (pc' := 3025) ⟨rfl, rfl⟩ rfl ?_
  refine qa_iconst (pc' := 3026) ⟨rfl, rfl⟩ ?_
  refine qa_iadd (pc' := 3027) ⟨rfl, rfl⟩ rfl ?_
  refine qa_iaload (pc' := 3028) ⟨rfl, rfl⟩ hb9 (by omega) ?_
  refine qa_callV rfl qf_M_meanPitch ql_0_362 (hm9 τ9 rfl (fun _ _ _ => rfl)) hM9 rfl rfl rfl (qa_lt9 rfl) (qa_le9 rfl) (Nat.zero_le _) (Nat.zero_le _) (fun o8 τ8 hq8 => ?_)
  obtain ⟨y8, f8, rfl, hy8, hM8, hk8, he8, hf8, hI8⟩ := hq8
  refine qa_nx (pc' := 3031) (kc' := kc) (ks' := ks) (st' := [_]) rfl rfl rfl rfl ?_
  have hK8 : qK E Z b L g c (B + 13000) τ8 := ⟨hZ9.to (fun q hq => (hf8 q (by omega)).trans (hf9 q (by omega))), (hf8 b (by omega)).trans hb9, ⟨a0, (hf8 _ (by omega)).trans ((hf9 _ (by omega)).trans ho)⟩, ⟨a1, (hf8 _ (by omega)).trans ho9⟩, hI8⟩
  have ho8 := (hf8 (c + 289) (by omega)).trans ho9
  refine qa_dstore (L' := [(0, _), (1, _), (2, _), (3, _), (4, _), (5, _), (6, _), (7, _)]) (pc' := 3033) ⟨rfl, rfl⟩ rfl rfl ?_
  refine qa_aload_n (pc' := 3034) ⟨rfl, rfl⟩ rfl ?_
  refine qa_callV rfl qf_M_thrown ql_0_212 (c_M_thrown (E := E) hM8) hM8 rfl rfl rfl (qa_lt9 rfl) (qa_le9 rfl) (Nat.zero_le _) (Nat.zero_le _) (fun o7 τ7 hq7 => ?_)
  obtain ⟨rfl, hq7⟩ := hq7
  replace hq7 := hq7.symm; subst hq7
  rw [hk8]
  refine qa_nx (pc' := 3037) (kc' := kc) (ks' := ks) (st' := [_]) rfl rfl rfl rfl ?_
  refine qa_iload (pc' := 3039) ⟨rfl, rfl⟩ rfl ?_
  refine qa_icmp_eq (pc' := 3042) (tgt := 3044) ⟨rfl, rfl⟩ rfl (by omega) (by omega) (fun hc1 => ?_) (fun hc1 => ?_)
  · refine qa_iload (pc' := 3046) ⟨rfl, rfl⟩ rfl ?_
    refine qa_if_ne (pc' := 3049) (tgt := 3081) ⟨rfl, rfl⟩ rfl (by omega) (fun hc2 => ?_) (fun hc2 => ?_)
    · refine qa_goto (pc' := 3084) (tgt := 3722) ⟨rfl, rfl⟩ rfl ?_
      refine qa_sub (ks' := [0, 1, 2, 3, 4, 5]) (L' := [(0, _), (1, _), (2, _), (3, _), (4, _), (5, _)]) rfl ?_
      exact kk _ hK8
    · have hk0 : k9 = 0 := by omega
      have hp0 := hp9 hk0
      obtain rfl := hy8 hk0
      have ha := hv9 hk0
      refine qa_aload (pc' := 3051) ⟨rfl, rfl⟩ rfl ?_
      refine qa_iconst (pc' := 3052) ⟨rfl, rfl⟩ ?_
      refine qa_daload (pc' := 3053) ⟨rfl, rfl⟩ ho8 (by omega) ?_
      refine qa_dload (pc' := 3055) ⟨rfl, rfl⟩ rfl ?_
      refine qa_dcmp (pc' := 3056) ⟨rfl, rfl⟩ ?_
      rw [ha, show FP.dcmp y8 y8 = some .eq from hp0, qa_cmp0]
      refine qa_if_eq (pc' := 3059) (tgt := 3081) ⟨rfl, rfl⟩ rfl (by omega) (fun hc3 => ?_) (fun hc3 => ?_)
      · refine qa_goto (pc' := 3084) (tgt := 3722) ⟨rfl, rfl⟩ rfl ?_
        refine qa_sub (ks' := [0, 1, 2, 3, 4, 5]) (L' := [(0, _), (1, _), (2, _), (3, _), (4, _), (5, _)]) rfl ?_
        exact kk _ hK8
      · exact absurd rfl hc3
  · exact absurd rfl hc1
end WC
