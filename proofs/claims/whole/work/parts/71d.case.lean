/-! more of the law's cases -/
section WC
variable {E : qa_V} {Z : Nat → Nat} {b L c kc ks : Nat} {g : Int → Int} {i B : Int} {σ : qa_S} {Q9 : qa_O → qa_S → Prop}
theorem w_48 (hz : qa_Sb E) (hlo : E.1 ≤ c) (hbE : b < E.1) (hg : ∀ j : Int, qa_in (g j)) (hi : 0 ≤ i ∧ i + 4 ≤ L) (hL : L ≤ 2048) (hB9 : B ≤ 800000000) (hJ : qK E Z b L g c B σ) (kk : ∀ τ : qa_S, qK E Z b L g c (B + 13000) τ → qa_W E qm_L_law Q9 kc ks 3722 [(0, .ref b), (1, .ref c), (2, .ref (c + 277)), (3, .ref (c + 288)), (4, .ref (c + 289)), (5, .int (qa_i i))] [] τ) : qa_W E qm_L_law Q9 (kc + 64) (ks + 8000) 3084 [(0, .ref b), (1, .ref c), (2, .ref (c + 277)), (3, .ref (c + 288)), (4, .ref (c + 289)), (5, .int (qa_i i))] [] σ := by
  obtain ⟨hZ9, hb, ⟨a0, ho⟩, ⟨b0, hd⟩, hI⟩ := hJ
  obtain ⟨⟨n, hc⟩, ⟨f0, hM0⟩, hsz⟩ := qI_o hI
  have hT := l_restShare (E := E) (fun x h => h.1) hlo hsz hc hd (j_restShare (E := E) (p := g (i + 1)) hZ9 hz hlo hI hB9 (hg _))
  refine qa_aload_n (pc' := 3085) ⟨rfl, rfl⟩ rfl ?_
  refine qa_aload_n (pc' := 3086) ⟨rfl, rfl⟩ rfl ?_
  refine qa_iload (pc' := 3088) ⟨rfl, rfl⟩ rfl ?_
  refine qa_iconst (pc' := 3089) ⟨rfl, rfl⟩ ?_
  refine qa_iadd (pc' := 3090) ⟨rfl, rfl⟩ rfl ?_
  refine qa_iaload (pc' := 3091) ⟨rfl, rfl⟩ hb (by omega) ?_
  refine qa_aload (pc' := 3093) ⟨rfl, rfl⟩ rfl ?_
  refine qa_callSX rfl qf_L_restShare rfl (qa_wj 5 214 (by decide +kernel) (by decide +kernel)) hT rfl rfl (qa_lt9 rfl) (qa_le9 rfl) (by omega) (by omega) (fun o9 τ9 hq9 => ?_)
  obtain ⟨k9, x9, rfl, hk9, hs9, hf9, ⟨a1, ho9, hv9⟩, hp9, hm9⟩ := hq9
  refine qa_nx (pc' := 3096) (kc' := kc) (ks' := ks) (st' := [_]) rfl (by omega) (by omega) rfl ?_
  have hb9 := (hf9 b (by omega)).trans hb
  have hM9 := (hf9 (c + 277) (by omega)).trans hM0
  refine qa_istore (L' := [(0, _), (1, _), (2, _), (3, _), (4, _), (5, _), (6, _)]) (pc' := 3098) ⟨rfl, rfl⟩ rfl rfl ?_
  refine qa_aload_n (pc' := 3099) ⟨rfl, rfl⟩ rfl ?_
  refine qa_aload_n (pc' := 3100) ⟨rfl, rfl⟩ rfl ?_
  refine qa_iload (pc' := 3102) ⟨rfl, rfl⟩ rfl ?_
  refine qa_iconst (pc' := 3103) ⟨rfl, rfl⟩ ?_
  refine qa_iadd (pc' := 3104) ⟨rfl, rfl⟩ rfl ?_
  refine qa_iaload (pc' := 3105) ⟨rfl, rfl⟩ hb9 (by omega) ?_
  refine qa_callV rfl qf_M_restShare ql_0_365 (hm9 τ9 rfl (fun _ _ _ => rfl)) hM9 rfl rfl rfl (qa_lt9 rfl) (qa_le9 rfl) (Nat.zero_le _) (Nat.zero_le _) (fun o8 τ8 hq8 => ?_)
  obtain ⟨y8, f8, rfl, hy8, hM8, hk8, he8, hf8, hI8⟩ := hq8
  refine qa_nx (pc' := 3108) (kc' := kc) (ks' := ks) (st' := [_]) rfl rfl rfl rfl ?_
  have hK8 : qK E Z b L g c (B + 13000) τ8 := ⟨hZ9.to (fun q hq => (hf8 q (by omega)).trans (hf9 q (by omega))), (hf8 b (by omega)).trans hb9, ⟨a0, (hf8 _ (by omega)).trans ((hf9 _ (by omega)).trans ho)⟩, ⟨a1, (hf8 _ (by omega)).trans ho9⟩, hI8⟩
  have ho8 := (hf8 (c + 289) (by omega)).trans ho9
  refine qa_fstore (L' := [(0, _), (1, _), (2, _), (3, _), (4, _), (5, _), (6, _), (7, _)]) (pc' := 3110) ⟨rfl, rfl⟩ rfl rfl ?_
  refine qa_aload_n (pc' := 3111) ⟨rfl, rfl⟩ rfl ?_
  refine qa_callV rfl qf_M_thrown ql_0_212 (c_M_thrown (E := E) hM8) hM8 rfl rfl rfl (qa_lt9 rfl) (qa_le9 rfl) (Nat.zero_le _) (Nat.zero_le _) (fun o7 τ7 hq7 => ?_)
  obtain ⟨rfl, hq7⟩ := hq7
  replace hq7 := hq7.symm; subst hq7
  rw [hk8]
  refine qa_nx (pc' := 3114) (kc' := kc) (ks' := ks) (st' := [_]) rfl rfl rfl rfl ?_
  refine qa_iload (pc' := 3116) ⟨rfl, rfl⟩ rfl ?_
  refine qa_icmp_eq (pc' := 3119) (tgt := 3121) ⟨rfl, rfl⟩ rfl (by omega) (by omega) (fun hc1 => ?_) (fun hc1 => ?_)
  · refine qa_iload (pc' := 3123) ⟨rfl, rfl⟩ rfl ?_
    refine qa_if_ne (pc' := 3126) (tgt := 3159) ⟨rfl, rfl⟩ rfl (by omega) (fun hc2 => ?_) (fun hc2 => ?_)
    · refine qa_goto (pc' := 3162) (tgt := 3722) ⟨rfl, rfl⟩ rfl ?_
      refine qa_sub (ks' := [0, 1, 2, 3, 4, 5]) (L' := [(0, _), (1, _), (2, _), (3, _), (4, _), (5, _)]) rfl ?_
      exact kk _ hK8
    · have hk0 : k9 = 0 := by omega
      have hp0 := hp9 hk0
      obtain rfl := hy8 hk0
      have ha := hv9 hk0
      refine qa_aload (pc' := 3128) ⟨rfl, rfl⟩ rfl ?_
      refine qa_iconst (pc' := 3129) ⟨rfl, rfl⟩ ?_
      refine qa_daload (pc' := 3130) ⟨rfl, rfl⟩ ho8 (by omega) ?_
      refine qa_fload (pc' := 3132) ⟨rfl, rfl⟩ rfl ?_
      refine qa_f2d (pc' := 3133) ⟨rfl, rfl⟩ hp0.1 ?_
      refine qa_dcmp (pc' := 3134) ⟨rfl, rfl⟩ ?_
      rw [ha, hp0.2.1, qa_cmp0]
      refine qa_if_eq (pc' := 3137) (tgt := 3159) ⟨rfl, rfl⟩ rfl (by omega) (fun hc3 => ?_) (fun hc3 => ?_)
      · refine qa_goto (pc' := 3162) (tgt := 3722) ⟨rfl, rfl⟩ rfl ?_
        refine qa_sub (ks' := [0, 1, 2, 3, 4, 5]) (L' := [(0, _), (1, _), (2, _), (3, _), (4, _), (5, _)]) rfl ?_
        exact kk _ hK8
      · exact absurd rfl hc3
  · exact absurd rfl hc1
theorem w_49 (hz : qa_Sb E) (hlo : E.1 ≤ c) (hbE : b < E.1) (hg : ∀ j : Int, qa_in (g j)) (hi : 0 ≤ i ∧ i + 4 ≤ L) (hL : L ≤ 2048) (hB9 : B ≤ 800000000) (hJ : qK E Z b L g c B σ) (kk : ∀ τ : qa_S, qK E Z b L g c (B + 13000) τ → qa_W E qm_L_law Q9 kc ks 3722 [(0, .ref b), (1, .ref c), (2, .ref (c + 277)), (3, .ref (c + 288)), (4, .ref (c + 289)), (5, .int (qa_i i))] [] τ) : qa_W E qm_L_law Q9 (kc + 64) (ks + 8000) 3162 [(0, .ref b), (1, .ref c), (2, .ref (c + 277)), (3, .ref (c + 288)), (4, .ref (c + 289)), (5, .int (qa_i i))] [] σ := by
  obtain ⟨hZ9, hb, ⟨a0, ho⟩, ⟨b0, hd⟩, hI⟩ := hJ
  obtain ⟨⟨n, hc⟩, ⟨f0, hM0⟩, hsz⟩ := qI_o hI
  have hT := l_restShareBits (E := E) hlo hsz hc ho (j_restShareBits (E := E) (p := g (i + 1)) hZ9 hz hlo hI hB9 (hg _))
  refine qa_aload_n (pc' := 3163) ⟨rfl, rfl⟩ rfl ?_
  refine qa_aload_n (pc' := 3164) ⟨rfl, rfl⟩ rfl ?_
  refine qa_iload (pc' := 3166) ⟨rfl, rfl⟩ rfl ?_
  refine qa_iconst (pc' := 3167) ⟨rfl, rfl⟩ ?_
  refine qa_iadd (pc' := 3168) ⟨rfl, rfl⟩ rfl ?_
  refine qa_iaload (pc' := 3169) ⟨rfl, rfl⟩ hb (by omega) ?_
  refine qa_aload_n (pc' := 3170) ⟨rfl, rfl⟩ rfl ?_
  refine qa_callSX rfl qf_L_restShareBits rfl (qa_wj 5 228 (by decide +kernel) (by decide +kernel)) hT rfl rfl (qa_lt9 rfl) (qa_le9 rfl) (by omega) (by omega) (fun o9 τ9 hq9 => ?_)
  obtain ⟨k9, x9, rfl, hk9, hs9, hf9, ⟨a1, ho9, hv9⟩, hm9⟩ := hq9
  refine qa_nx (pc' := 3173) (kc' := kc) (ks' := ks) (st' := [_]) rfl (by omega) (by omega) rfl ?_
  have hb9 := (hf9 b (by omega)).trans hb
  have hM9 := (hf9 (c + 277) (by omega)).trans hM0
  refine qa_istore (L' := [(0, _), (1, _), (2, _), (3, _), (4, _), (5, _), (6, _)]) (pc' := 3175) ⟨rfl, rfl⟩ rfl rfl ?_
  refine qa_aload_n (pc' := 3176) ⟨rfl, rfl⟩ rfl ?_
  refine qa_aload_n (pc' := 3177) ⟨rfl, rfl⟩ rfl ?_
  refine qa_iload (pc' := 3179) ⟨rfl, rfl⟩ rfl ?_
  refine qa_iconst (pc' := 3180) ⟨rfl, rfl⟩ ?_
  refine qa_iadd (pc' := 3181) ⟨rfl, rfl⟩ rfl ?_
  refine qa_iaload (pc' := 3182) ⟨rfl, rfl⟩ hb9 (by omega) ?_
  refine qa_callV rfl qf_M_restShareBits ql_0_368 (hm9 τ9 rfl (fun _ _ _ => rfl)) hM9 rfl rfl rfl (qa_lt9 rfl) (qa_le9 rfl) (Nat.zero_le _) (Nat.zero_le _) (fun o8 τ8 hq8 => ?_)
  obtain ⟨y8, f8, rfl, hy8, hM8, hk8, he8, hf8, hI8⟩ := hq8
  refine qa_nx (pc' := 3185) (kc' := kc) (ks' := ks) (st' := [_]) rfl rfl rfl rfl ?_
  have hK8 : qK E Z b L g c (B + 13000) τ8 := ⟨hZ9.to (fun q hq => (hf8 q (by omega)).trans (hf9 q (by omega))), (hf8 b (by omega)).trans hb9, ⟨a1, (hf8 _ (by omega)).trans ho9⟩, ⟨b0, (hf8 _ (by omega)).trans ((hf9 _ (by omega)).trans hd)⟩, hI8⟩
  have ho8 := (hf8 (c + 288) (by omega)).trans ho9
  obtain ⟨w8, hw8, rfl⟩ : ∃ w : Int, qa_in w ∧ y8 = qa_i w := ⟨y8.toInt, qa_i_in y8, (qa_i_of y8).symm⟩
  refine qa_istore (L' := [(0, _), (1, _), (2, _), (3, _), (4, _), (5, _), (6, _), (7, _)]) (pc' := 3187) ⟨rfl, rfl⟩ rfl rfl ?_
  refine qa_aload_n (pc' := 3188) ⟨rfl, rfl⟩ rfl ?_
  refine qa_callV rfl qf_M_thrown ql_0_212 (c_M_thrown (E := E) hM8) hM8 rfl rfl rfl (qa_lt9 rfl) (qa_le9 rfl) (Nat.zero_le _) (Nat.zero_le _) (fun o7 τ7 hq7 => ?_)
  obtain ⟨rfl, hq7⟩ := hq7
  replace hq7 := hq7.symm; subst hq7
  rw [hk8]
  refine qa_nx (pc' := 3191) (kc' := kc) (ks' := ks) (st' := [_]) rfl rfl rfl rfl ?_
  refine qa_iload (pc' := 3193) ⟨rfl, rfl⟩ rfl ?_
  refine qa_icmp_eq (pc' := 3196) (tgt := 3198) ⟨rfl, rfl⟩ rfl (by omega) (by omega) (fun hc1 => ?_) (fun hc1 => ?_)
  · refine qa_iload (pc' := 3200) ⟨rfl, rfl⟩ rfl ?_
    refine qa_if_ne (pc' := 3203) (tgt := 3215) ⟨rfl, rfl⟩ rfl (by omega) (fun hc2 => ?_) (fun hc2 => ?_)
    · refine qa_goto (pc' := 3218) (tgt := 3722) ⟨rfl, rfl⟩ rfl ?_
      refine qa_sub (ks' := [0, 1, 2, 3, 4, 5]) (L' := [(0, _), (1, _), (2, _), (3, _), (4, _), (5, _)]) rfl ?_
      exact kk _ hK8
    · have hk0 : k9 = 0 := by omega
      have ha : a1 0 = w8 := by rw [hv9 hk0, ← hy8 hk0, qa_i_toInt hw8]
      refine qa_aload_n (pc' := 3204) ⟨rfl, rfl⟩ rfl ?_
      refine qa_iconst (pc' := 3205) ⟨rfl, rfl⟩ ?_
      refine qa_laload (pc' := 3206) ⟨rfl, rfl⟩ ho8 (by omega) ?_
      refine qa_iload (pc' := 3208) ⟨rfl, rfl⟩ rfl ?_
      refine qa_i2l (pc' := 3209) ⟨rfl, rfl⟩ hw8 ?_
      rw [ha]
      refine qa_lcmp (pc' := 3210) ⟨rfl, rfl⟩ (by omega) (by omega) ?_
      refine qa_if_eq (pc' := 3213) (tgt := 3215) ⟨rfl, rfl⟩ rfl (qa_sg_in _ _) (fun hc3 => ?_) (fun hc3 => ?_)
      · refine qa_goto (pc' := 3218) (tgt := 3722) ⟨rfl, rfl⟩ rfl ?_
        refine qa_sub (ks' := [0, 1, 2, 3, 4, 5]) (L' := [(0, _), (1, _), (2, _), (3, _), (4, _), (5, _)]) rfl ?_
        exact kk _ hK8
      · exact absurd (qa_sg_eq.mpr rfl) hc3
  · exact absurd rfl hc1
theorem w_50 (hz : qa_Sb E) (hlo : E.1 ≤ c) (hbE : b < E.1) (hg : ∀ j : Int, qa_in (g j)) (hi : 0 ≤ i ∧ i + 4 ≤ L) (hL : L ≤ 2048) (hB9 : B ≤ 800000000) (hJ : qK E Z b L g c B σ) (kk : ∀ τ : qa_S, qK E Z b L g c (B + 13000) τ → qa_W E qm_L_law Q9 kc ks 3722 [(0, .ref b), (1, .ref c), (2, .ref (c + 277)), (3, .ref (c + 288)), (4, .ref (c + 289)), (5, .int (qa_i i))] [] τ) : qa_W E qm_L_law Q9 (kc + 64) (ks + 8000) 3218 [(0, .ref b), (1, .ref c), (2, .ref (c + 277)), (3, .ref (c + 288)), (4, .ref (c + 289)), (5, .int (qa_i i))] [] σ := by
  obtain ⟨hZ9, hb, ⟨a0, ho⟩, ⟨b0, hd⟩, hI⟩ := hJ
  obtain ⟨⟨n, hc⟩, ⟨f0, hM0⟩, hsz⟩ := qI_o hI
  refine qa_aload_n (pc' := 3219) ⟨rfl, rfl⟩ rfl ?_
  refine qa_callV rfl qf_C_isConsistent ql_0_369 (j_isConsistent (E := E) hZ9 hz hlo hI hB9) hc rfl rfl rfl (qa_lt9 rfl) (qa_le9 rfl) (by omega) (by omega) (fun o9 τ9 hq9 => ?_)
  obtain ⟨k9, x9, rfl, hk9, hs9, hf9, hm9⟩ := hq9
  obtain rfl := jk0 hk9
  rw [jo0]
  refine qa_nx (pc' := 3222) (kc' := kc + 64 - 0) (ks' := ks + 8000 - 0) (st' := [_]) rfl rfl rfl rfl ?_
  have hM9 := (hf9 (c + 277) (by omega)).trans hM0
  refine qa_aload_n (pc' := 3223) ⟨rfl, rfl⟩ rfl ?_
  refine qa_callV rfl qf_M_isConsistent ql_0_373 (hm9 τ9 rfl (fun _ _ _ => rfl)) hM9 rfl rfl rfl (qa_lt9 rfl) (qa_le9 rfl) (Nat.zero_le _) (Nat.zero_le _) (fun o8 τ8 hq8 => ?_)
  obtain ⟨y8, f8, rfl, hy8, hM8, hk8, he8, hf8, hI8⟩ := hq8
  refine qa_nx (pc' := 3226) (kc' := kc + 64 - 0) (ks' := ks + 8000 - 0) (st' := [_, _]) rfl rfl rfl rfl ?_
  have hK8 : qK E Z b L g c (B + 13000) τ8 := ⟨hZ9.to (fun q hq => (hf8 q (by omega)).trans (hf9 q (by omega))), (hf8 b (by omega)).trans ((hf9 b (by omega)).trans hb), ⟨a0, (hf8 _ (by omega)).trans ((hf9 _ (by omega)).trans ho)⟩, ⟨b0, (hf8 _ (by omega)).trans ((hf9 _ (by omega)).trans hd)⟩, hI8⟩
  obtain rfl := hy8 rfl
  obtain ⟨v9, hv9, rfl⟩ : ∃ v9 : Int, qa_in v9 ∧ y8 = qa_i v9 := ⟨y8.toInt, qa_i_in y8, (qa_i_of y8).symm⟩
  refine qa_icmp_eq (pc' := 3229) (tgt := 3722) ⟨rfl, rfl⟩ rfl hv9 hv9 (fun hc1 => ?_) (fun hc1 => ?_)
  · exact (kk _ hK8).less (by omega) (by omega)
  · exact absurd rfl hc1
theorem w_51 (hz : qa_Sb E) (hlo : E.1 ≤ c) (hbE : b < E.1) (hg : ∀ j : Int, qa_in (g j)) (hi : 0 ≤ i ∧ i + 4 ≤ L) (hL : L ≤ 2048) (hB9 : B ≤ 800000000) (hJ : qK E Z b L g c B σ) (kk : ∀ τ : qa_S, qK E Z b L g c (B + 13000) τ → qa_W E qm_L_law Q9 kc ks 3722 [(0, .ref b), (1, .ref c), (2, .ref (c + 277)), (3, .ref (c + 288)), (4, .ref (c + 289)), (5, .int (qa_i i))] [] τ) : qa_W E qm_L_law Q9 (kc + 64) (ks + 8000) 3231 [(0, .ref b), (1, .ref c), (2, .ref (c + 277)), (3, .ref (c + 288)), (4, .ref (c + 289)), (5, .int (qa_i i))] [] σ := by
  obtain ⟨hZ9, hb, ⟨a0, ho⟩, ⟨b0, hd⟩, hI⟩ := hJ
  obtain ⟨⟨n, hc⟩, ⟨f0, hM0⟩, hsz⟩ := qI_o hI
  have hT := l_writePart (E := E) hlo hsz hc ho (j_writePart (E := E) (p := g (i + 1)) hZ9 hz hlo hI hB9 (hg _))
  refine qa_aload_n (pc' := 3232) ⟨rfl, rfl⟩ rfl ?_
  refine qa_aload_n (pc' := 3233) ⟨rfl, rfl⟩ rfl ?_
  refine qa_iload (pc' := 3235) ⟨rfl, rfl⟩ rfl ?_
  refine qa_iconst (pc' := 3236) ⟨rfl, rfl⟩ ?_
  refine qa_iadd (pc' := 3237) ⟨rfl, rfl⟩ rfl ?_
  refine qa_iaload (pc' := 3238) ⟨rfl, rfl⟩ hb (by omega) ?_
  refine qa_aload_n (pc' := 3239) ⟨rfl, rfl⟩ rfl ?_
  refine qa_callSX rfl qf_L_writePart rfl (qa_wj 5 239 (by decide +kernel) (by decide +kernel)) hT rfl rfl (qa_lt9 rfl) (qa_le9 rfl) (by omega) (by omega) (fun o9 τ9 hq9 => ?_)
  obtain ⟨k9, x9, rfl, hk9, hs9, hf9, ⟨a1, ho9, hv9⟩, hm9⟩ := hq9
  refine qa_nx (pc' := 3242) (kc' := kc) (ks' := ks) (st' := [_]) rfl (by omega) (by omega) rfl ?_
  have hb9 := (hf9 b (by omega)).trans hb
  have hM9 := (hf9 (c + 277) (by omega)).trans hM0
  refine qa_istore (L' := [(0, _), (1, _), (2, _), (3, _), (4, _), (5, _), (6, _)]) (pc' := 3244) ⟨rfl, rfl⟩ rfl rfl ?_
  refine qa_aload_n (pc' := 3245) ⟨rfl, rfl⟩ rfl ?_
  refine qa_aload_n (pc' := 3246) ⟨rfl, rfl⟩ rfl ?_
  refine qa_iload (pc' := 3248) ⟨rfl, rfl⟩ rfl ?_
  refine qa_iconst (pc' := 3249) ⟨rfl, rfl⟩ ?_
  refine qa_iadd (pc' := 3250) ⟨rfl, rfl⟩ rfl ?_
  refine qa_iaload (pc' := 3251) ⟨rfl, rfl⟩ hb9 (by omega) ?_
  refine qa_callV rfl qf_M_writePart ql_0_376 (hm9 τ9 rfl (fun _ _ _ => rfl)) hM9 rfl rfl rfl (qa_lt9 rfl) (qa_le9 rfl) (Nat.zero_le _) (Nat.zero_le _) (fun o8 τ8 hq8 => ?_)
  obtain ⟨y8, f8, rfl, hy8, hM8, hk8, he8, hf8, hI8⟩ := hq8
  refine qa_nx (pc' := 3254) (kc' := kc) (ks' := ks) (st' := [_]) rfl rfl rfl rfl ?_
  have hK8 : qK E Z b L g c (B + 13000) τ8 := ⟨hZ9.to (fun q hq => (hf8 q (by omega)).trans (hf9 q (by omega))), (hf8 b (by omega)).trans hb9, ⟨a1, (hf8 _ (by omega)).trans ho9⟩, ⟨b0, (hf8 _ (by omega)).trans ((hf9 _ (by omega)).trans hd)⟩, hI8⟩
  have ho8 := (hf8 (c + 288) (by omega)).trans ho9
  obtain ⟨w8, hw8, rfl⟩ : ∃ w : Int, qa_in w ∧ y8 = qa_i w := ⟨y8.toInt, qa_i_in y8, (qa_i_of y8).symm⟩
  refine qa_istore (L' := [(0, _), (1, _), (2, _), (3, _), (4, _), (5, _), (6, _), (7, _)]) (pc' := 3256) ⟨rfl, rfl⟩ rfl rfl ?_
  refine qa_aload_n (pc' := 3257) ⟨rfl, rfl⟩ rfl ?_
  refine qa_callV rfl qf_M_thrown ql_0_212 (c_M_thrown (E := E) hM8) hM8 rfl rfl rfl (qa_lt9 rfl) (qa_le9 rfl) (Nat.zero_le _) (Nat.zero_le _) (fun o7 τ7 hq7 => ?_)
  obtain ⟨rfl, hq7⟩ := hq7
  replace hq7 := hq7.symm; subst hq7
  rw [hk8]
  refine qa_nx (pc' := 3260) (kc' := kc) (ks' := ks) (st' := [_]) rfl rfl rfl rfl ?_
  refine qa_iload (pc' := 3262) ⟨rfl, rfl⟩ rfl ?_
  refine qa_icmp_eq (pc' := 3265) (tgt := 3267) ⟨rfl, rfl⟩ rfl (by omega) (by omega) (fun hc1 => ?_) (fun hc1 => ?_)
  · refine qa_iload (pc' := 3269) ⟨rfl, rfl⟩ rfl ?_
    refine qa_if_ne (pc' := 3272) (tgt := 3284) ⟨rfl, rfl⟩ rfl (by omega) (fun hc2 => ?_) (fun hc2 => ?_)
    · refine qa_goto (pc' := 3287) (tgt := 3722) ⟨rfl, rfl⟩ rfl ?_
      refine qa_sub (ks' := [0, 1, 2, 3, 4, 5]) (L' := [(0, _), (1, _), (2, _), (3, _), (4, _), (5, _)]) rfl ?_
      exact kk _ hK8
    · have hk0 : k9 = 0 := by omega
      have ha : a1 0 = w8 := by rw [hv9 hk0, ← hy8 hk0, qa_i_toInt hw8]
      refine qa_aload_n (pc' := 3273) ⟨rfl, rfl⟩ rfl ?_
      refine qa_iconst (pc' := 3274) ⟨rfl, rfl⟩ ?_
      refine qa_laload (pc' := 3275) ⟨rfl, rfl⟩ ho8 (by omega) ?_
      refine qa_iload (pc' := 3277) ⟨rfl, rfl⟩ rfl ?_
      refine qa_i2l (pc' := 3278) ⟨rfl, rfl⟩ hw8 ?_
      rw [ha]
      refine qa_lcmp (pc' := 3279) ⟨rfl, rfl⟩ (by omega) (by omega) ?_
      refine qa_if_eq (pc' := 3282) (tgt := 3284) ⟨rfl, rfl⟩ rfl (qa_sg_in _ _) (fun hc3 => ?_) (fun hc3 => ?_)
      · refine qa_goto (pc' := 3287) (tgt := 3722) ⟨rfl, rfl⟩ rfl ?_
        refine qa_sub (ks' := [0, 1, 2, 3, 4, 5]) (L' := [(0, _), (1, _), (2, _), (3, _), (4, _), (5, _)]) rfl ?_
        exact kk _ hK8
      · exact absurd (qa_sg_eq.mpr rfl) hc3
  · exact absurd rfl hc1
theorem w_52 (hz : qa_Sb E) (hlo : E.1 ≤ c) (hbE : b < E.1) (hg : ∀ j : Int, qa_in (g j)) (hi : 0 ≤ i ∧ i + 4 ≤ L) (hL : L ≤ 2048) (hB9 : B ≤ 800000000) (hJ : qK E Z b L g c B σ) (kk : ∀ τ : qa_S, qK E Z b L g c (B + 13000) τ → qa_W E qm_L_law Q9 kc ks 3722 [(0, .ref b), (1, .ref c), (2, .ref (c + 277)), (3, .ref (c + 288)), (4, .ref (c + 289)), (5, .int (qa_i i))] [] τ) : qa_W E qm_L_law Q9 (kc + 64) (ks + 8000) 3287 [(0, .ref b), (1, .ref c), (2, .ref (c + 277)), (3, .ref (c + 288)), (4, .ref (c + 289)), (5, .int (qa_i i))] [] σ := by
  obtain ⟨hZ9, hb, ⟨a0, ho⟩, ⟨b0, hd⟩, hI⟩ := hJ
  obtain ⟨⟨n, hc⟩, ⟨f0, hM0⟩, hsz⟩ := qI_o hI
  have hT := l_outputAt (E := E) hlo hsz hc ho (j_outputAt (E := E) (x := g (i + 1)) hZ9 hz hlo hI hB9 (hg _))
  refine qa_aload_n (pc' := 3288) ⟨rfl, rfl⟩ rfl ?_
  refine qa_aload_n (pc' := 3289) ⟨rfl, rfl⟩ rfl ?_
  refine qa_iload (pc' := 3291) ⟨rfl, rfl⟩ rfl ?_
  refine qa_iconst (pc' := 3292) ⟨rfl, rfl⟩ ?_
  refine qa_iadd (pc' := 3293) ⟨rfl, rfl⟩ rfl ?_
  refine qa_iaload (pc' := 3294) ⟨rfl, rfl⟩ hb (by omega) ?_
  refine qa_aload_n (pc' := 3295) ⟨rfl, rfl⟩ rfl ?_
  refine qa_callSX rfl qf_L_outputAt rfl (qa_wj 7 47 (by decide +kernel) (by decide +kernel)) hT rfl rfl (qa_lt9 rfl) (qa_le9 rfl) (by omega) (by omega) (fun o9 τ9 hq9 => ?_)
  obtain ⟨k9, x9, rfl, hk9, hs9, hf9, ⟨a1, ho9, hv9⟩, hm9⟩ := hq9
  refine qa_nx (pc' := 3298) (kc' := kc) (ks' := ks) (st' := [_]) rfl (by omega) (by omega) rfl ?_
  have hb9 := (hf9 b (by omega)).trans hb
  have hM9 := (hf9 (c + 277) (by omega)).trans hM0
  refine qa_istore (L' := [(0, _), (1, _), (2, _), (3, _), (4, _), (5, _), (6, _)]) (pc' := 3300) ⟨rfl, rfl⟩ rfl rfl ?_
  refine qa_aload_n (pc' := 3301) ⟨rfl, rfl⟩ rfl ?_
  refine qa_aload_n (pc' := 3302) ⟨rfl, rfl⟩ rfl ?_
  refine qa_iload (pc' := 3304) ⟨rfl, rfl⟩ rfl ?_
  refine qa_iconst (pc' := 3305) ⟨rfl, rfl⟩ ?_
  refine qa_iadd (pc' := 3306) ⟨rfl, rfl⟩ rfl ?_
  refine qa_iaload (pc' := 3307) ⟨rfl, rfl⟩ hb9 (by omega) ?_
  refine qa_callV rfl qf_M_outputAt ql_0_379 (hm9 τ9 rfl (fun _ _ _ => rfl)) hM9 rfl rfl rfl (qa_lt9 rfl) (qa_le9 rfl) (Nat.zero_le _) (Nat.zero_le _) (fun o8 τ8 hq8 => ?_)
  obtain ⟨y8, f8, rfl, hy8, hM8, hk8, he8, hf8, hI8⟩ := hq8
  refine qa_nx (pc' := 3310) (kc' := kc) (ks' := ks) (st' := [_]) rfl rfl rfl rfl ?_
  have hK8 : qK E Z b L g c (B + 13000) τ8 := ⟨hZ9.to (fun q hq => (hf8 q (by omega)).trans (hf9 q (by omega))), (hf8 b (by omega)).trans hb9, ⟨a1, (hf8 _ (by omega)).trans ho9⟩, ⟨b0, (hf8 _ (by omega)).trans ((hf9 _ (by omega)).trans hd)⟩, hI8⟩
  have ho8 := (hf8 (c + 288) (by omega)).trans ho9
  obtain ⟨w8, hw8, rfl⟩ : ∃ w : Int, qa_in w ∧ y8 = qa_i w := ⟨y8.toInt, qa_i_in y8, (qa_i_of y8).symm⟩
  refine qa_istore (L' := [(0, _), (1, _), (2, _), (3, _), (4, _), (5, _), (6, _), (7, _)]) (pc' := 3312) ⟨rfl, rfl⟩ rfl rfl ?_
  refine qa_aload_n (pc' := 3313) ⟨rfl, rfl⟩ rfl ?_
  refine qa_callV rfl qf_M_thrown ql_0_212 (c_M_thrown (E := E) hM8) hM8 rfl rfl rfl (qa_lt9 rfl) (qa_le9 rfl) (Nat.zero_le _) (Nat.zero_le _) (fun o7 τ7 hq7 => ?_)
  obtain ⟨rfl, hq7⟩ := hq7
  replace hq7 := hq7.symm; subst hq7
  rw [hk8]
  refine qa_nx (pc' := 3316) (kc' := kc) (ks' := ks) (st' := [_]) rfl rfl rfl rfl ?_
  refine qa_iload (pc' := 3318) ⟨rfl, rfl⟩ rfl ?_
  refine qa_icmp_eq (pc' := 3321) (tgt := 3323) ⟨rfl, rfl⟩ rfl (by omega) (by omega) (fun hc1 => ?_) (fun hc1 => ?_)
  · refine qa_iload (pc' := 3325) ⟨rfl, rfl⟩ rfl ?_
    refine qa_if_ne (pc' := 3328) (tgt := 3340) ⟨rfl, rfl⟩ rfl (by omega) (fun hc2 => ?_) (fun hc2 => ?_)
    · refine qa_goto (pc' := 3343) (tgt := 3722) ⟨rfl, rfl⟩ rfl ?_
      refine qa_sub (ks' := [0, 1, 2, 3, 4, 5]) (L' := [(0, _), (1, _), (2, _), (3, _), (4, _), (5, _)]) rfl ?_
      exact kk _ hK8
    · have hk0 : k9 = 0 := by omega
      have ha : a1 0 = w8 := by rw [hv9 hk0, ← hy8 hk0, qa_i_toInt hw8]
      refine qa_aload_n (pc' := 3329) ⟨rfl, rfl⟩ rfl ?_
      refine qa_iconst (pc' := 3330) ⟨rfl, rfl⟩ ?_
      refine qa_laload (pc' := 3331) ⟨rfl, rfl⟩ ho8 (by omega) ?_
      refine qa_iload (pc' := 3333) ⟨rfl, rfl⟩ rfl ?_
      refine qa_i2l (pc' := 3334) ⟨rfl, rfl⟩ hw8 ?_
      rw [ha]
      refine qa_lcmp (pc' := 3335) ⟨rfl, rfl⟩ (by omega) (by omega) ?_
      refine qa_if_eq (pc' := 3338) (tgt := 3340) ⟨rfl, rfl⟩ rfl (qa_sg_in _ _) (fun hc3 => ?_) (fun hc3 => ?_)
      · refine qa_goto (pc' := 3343) (tgt := 3722) ⟨rfl, rfl⟩ rfl ?_
        refine qa_sub (ks' := [0, 1, 2, 3, 4, 5]) (L' := [(0, _), (1, _), (2, _), (3, _), (4, _), (5, _)]) rfl ?_
        exact kk _ hK8
      · exact absurd (qa_sg_eq.mpr rfl) hc3
  · exact absurd rfl hc1
theorem w_53 (hz : qa_Sb E) (hlo : E.1 ≤ c) (hbE : b < E.1) (hg : ∀ j : Int, qa_in (g j)) (hi : 0 ≤ i ∧ i + 4 ≤ L) (hL : L ≤ 2048) (hB9 : B ≤ 800000000) (hJ : qK E Z b L g c B σ) (kk : ∀ τ : qa_S, qK E Z b L g c (B + 13000) τ → qa_W E qm_L_law Q9 kc ks 3722 [(0, .ref b), (1, .ref c), (2, .ref (c + 277)), (3, .ref (c + 288)), (4, .ref (c + 289)), (5, .int (qa_i i))] [] τ) : qa_W E qm_L_law Q9 (kc + 64) (ks + 8000) 3343 [(0, .ref b), (1, .ref c), (2, .ref (c + 277)), (3, .ref (c + 288)), (4, .ref (c + 289)), (5, .int (qa_i i))] [] σ := by
  obtain ⟨hZ9, hb, ⟨a0, ho⟩, ⟨b0, hd⟩, hI⟩ := hJ
  obtain ⟨⟨n, hc⟩, ⟨f0, hM0⟩, hsz⟩ := qI_o hI
  obtain ⟨z9, hz9, ez9⟩ := qa_c16 (qa_i (g (i + 1)))
  have hT := l_appendInput (E := E) hlo hsz hc ho (j_appendInput (E := E) (x := z9) hZ9 hz hlo hI hB9 hz9)
  refine qa_aload_n (pc' := 3344) ⟨rfl, rfl⟩ rfl ?_
  refine qa_aload_n (pc' := 3345) ⟨rfl, rfl⟩ rfl ?_
  refine qa_iload (pc' := 3347) ⟨rfl, rfl⟩ rfl ?_
  refine qa_iconst (pc' := 3348) ⟨rfl, rfl⟩ ?_
  refine qa_iadd (pc' := 3349) ⟨rfl, rfl⟩ rfl ?_
  refine qa_iaload (pc' := 3350) ⟨rfl, rfl⟩ hb (by omega) ?_
  refine qa_i2cX (z := z9) (pc' := 3351) ⟨rfl, rfl⟩ ez9 ?_
  refine qa_aload_n (pc' := 3352) ⟨rfl, rfl⟩ rfl ?_
  refine qa_callSX rfl qf_L_appendInput rfl (qa_wj 7 65 (by decide +kernel) (by decide +kernel)) hT rfl rfl (qa_lt9 rfl) (qa_le9 rfl) (by omega) (by omega) (fun o9 τ9 hq9 => ?_)
  obtain ⟨k9, x9, rfl, hk9, hs9, hf9, ⟨a1, ho9, hv9⟩, hm9⟩ := hq9
  refine qa_nx (pc' := 3355) (kc' := kc) (ks' := ks) (st' := [_]) rfl (by omega) (by omega) rfl ?_
  have hb9 := (hf9 b (by omega)).trans hb
  have hM9 := (hf9 (c + 277) (by omega)).trans hM0
  refine qa_istore (L' := [(0, _), (1, _), (2, _), (3, _), (4, _), (5, _), (6, _)]) (pc' := 3357) ⟨rfl, rfl⟩ rfl rfl ?_
  refine qa_aload_n (pc' := 3358) ⟨rfl, rfl⟩ rfl ?_
  refine qa_aload_n (pc' := 3359) ⟨rfl, rfl⟩ rfl ?_
  refine qa_iload (pc' := 3361) ⟨rfl, rfl⟩ rfl ?_
  refine qa_iconst (pc' := 3362) ⟨rfl, rfl⟩ ?_
  refine qa_iadd (pc' := 3363) ⟨rfl, rfl⟩ rfl ?_
  refine qa_iaload (pc' := 3364) ⟨rfl, rfl⟩ hb9 (by omega) ?_
  refine qa_i2cX (z := z9) (pc' := 3365) ⟨rfl, rfl⟩ ez9 ?_
  refine qa_callV rfl qf_M_appendInput ql_0_383 (hm9 τ9 rfl (fun _ _ _ => rfl)) hM9 rfl rfl rfl (qa_lt9 rfl) (qa_le9 rfl) (Nat.zero_le _) (Nat.zero_le _) (fun o8 τ8 hq8 => ?_)
  obtain ⟨y8, f8, rfl, hy8, hM8, hk8, he8, hf8, hI8⟩ := hq8
  refine qa_nx (pc' := 3368) (kc' := kc) (ks' := ks) (st' := [_]) rfl rfl rfl rfl ?_
  have hK8 : qK E Z b L g c (B + 13000) τ8 := ⟨hZ9.to (fun q hq => (hf8 q (by omega)).trans (hf9 q (by omega))), (hf8 b (by omega)).trans hb9, ⟨a1, (hf8 _ (by omega)).trans ho9⟩, ⟨b0, (hf8 _ (by omega)).trans ((hf9 _ (by omega)).trans hd)⟩, hI8⟩
  have ho8 := (hf8 (c + 288) (by omega)).trans ho9
  obtain ⟨w8, hw8, rfl⟩ : ∃ w : Int, qa_in w ∧ y8 = qa_i w := ⟨y8.toInt, qa_i_in y8, (qa_i_of y8).symm⟩
  refine qa_istore (L' := [(0, _), (1, _), (2, _), (3, _), (4, _), (5, _), (6, _), (7, _)]) (pc' := 3370) ⟨rfl, rfl⟩ rfl rfl ?_
  refine qa_aload_n (pc' := 3371) ⟨rfl, rfl⟩ rfl ?_
  refine qa_callV rfl qf_M_thrown ql_0_212 (c_M_thrown (E := E) hM8) hM8 rfl rfl rfl (qa_lt9 rfl) (qa_le9 rfl) (Nat.zero_le _) (Nat.zero_le _) (fun o7 τ7 hq7 => ?_)
  obtain ⟨rfl, hq7⟩ := hq7
  replace hq7 := hq7.symm; subst hq7
  rw [hk8]
  refine qa_nx (pc' := 3374) (kc' := kc) (ks' := ks) (st' := [_]) rfl rfl rfl rfl ?_
  refine qa_iload (pc' := 3376) ⟨rfl, rfl⟩ rfl ?_
  refine qa_icmp_eq (pc' := 3379) (tgt := 3381) ⟨rfl, rfl⟩ rfl (by omega) (by omega) (fun hc1 => ?_) (fun hc1 => ?_)
  · refine qa_iload (pc' := 3383) ⟨rfl, rfl⟩ rfl ?_
    refine qa_if_ne (pc' := 3386) (tgt := 3398) ⟨rfl, rfl⟩ rfl (by omega) (fun hc2 => ?_) (fun hc2 => ?_)
    · refine qa_goto (pc' := 3401) (tgt := 3722) ⟨rfl, rfl⟩ rfl ?_
      refine qa_sub (ks' := [0, 1, 2, 3, 4, 5]) (L' := [(0, _), (1, _), (2, _), (3, _), (4, _), (5, _)]) rfl ?_
      exact kk _ hK8
    · have hk0 : k9 = 0 := by omega
      have ha : a1 0 = w8 := by rw [hv9 hk0, ← hy8 hk0, qa_i_toInt hw8]
      refine qa_aload_n (pc' := 3387) ⟨rfl, rfl⟩ rfl ?_
      refine qa_iconst (pc' := 3388) ⟨rfl, rfl⟩ ?_
      refine qa_laload (pc' := 3389) ⟨rfl, rfl⟩ ho8 (by omega) ?_
      refine qa_iload (pc' := 3391) ⟨rfl, rfl⟩ rfl ?_
      refine qa_i2l (pc' := 3392) ⟨rfl, rfl⟩ hw8 ?_
      rw [ha]
      refine qa_lcmp (pc' := 3393) ⟨rfl, rfl⟩ (by omega) (by omega) ?_
      refine qa_if_eq (pc' := 3396) (tgt := 3398) ⟨rfl, rfl⟩ rfl (qa_sg_in _ _) (fun hc3 => ?_) (fun hc3 => ?_)
      · refine qa_goto (pc' := 3401) (tgt := 3722) ⟨rfl, rfl⟩ rfl ?_
        refine qa_sub (ks' := [0, 1, 2, 3, 4, 5]) (L' := [(0, _), (1, _), (2, _), (3, _), (4, _), (5, _)]) rfl ?_
        exact kk _ hK8
      · exact absurd (qa_sg_eq.mpr rfl) hc3
  · exact absurd rfl hc1
theorem w_54 (hz : qa_Sb E) (hlo : E.1 ≤ c) (hbE : b < E.1) (hg : ∀ j : Int, qa_in (g j)) (hi : 0 ≤ i ∧ i + 4 ≤ L) (hL : L ≤ 2048) (hB9 : B ≤ 800000000) (hJ : qK E Z b L g c B σ) (kk : ∀ τ : qa_S, qK E Z b L g c (B + 13000) τ → qa_W E qm_L_law Q9 kc ks 3722 [(0, .ref b), (1, .ref c), (2, .ref (c + 277)), (3, .ref (c + 288)), (4, .ref (c + 289)), (5, .int (qa_i i))] [] τ) : qa_W E qm_L_law Q9 (kc + 64) (ks + 8000) 3401 [(0, .ref b), (1, .ref c), (2, .ref (c + 277)), (3, .ref (c + 288)), (4, .ref (c + 289)), (5, .int (qa_i i))] [] σ := by
  obtain ⟨hZ9, hb, ⟨a0, ho⟩, ⟨b0, hd⟩, hI⟩ := hJ
  obtain ⟨⟨n, hc⟩, ⟨f0, hM0⟩, hsz⟩ := qI_o hI
  have hT := l_execute (E := E) hlo hsz hc ho (j_execute (E := E) hZ9 hz hlo hI hB9)
  refine qa_aload_n (pc' := 3402) ⟨rfl, rfl⟩ rfl ?_
  refine qa_aload_n (pc' := 3403) ⟨rfl, rfl⟩ rfl ?_
  refine qa_callSX rfl qf_L_execute rfl (qa_wj 7 99 (by decide +kernel) (by decide +kernel)) hT rfl rfl (qa_lt9 rfl) (qa_le9 rfl) (by omega) (by omega) (fun o9 τ9 hq9 => ?_)
  obtain ⟨k9, x9, rfl, hk9, hs9, hf9, ⟨a1, ho9, hv9⟩, hm9⟩ := hq9
  refine qa_nx (pc' := 3406) (kc' := kc) (ks' := ks) (st' := [_]) rfl (by omega) (by omega) rfl ?_
  have hb9 := (hf9 b (by omega)).trans hb
  have hM9 := (hf9 (c + 277) (by omega)).trans hM0
  refine qa_istore (L' := [(0, _), (1, _), (2, _), (3, _), (4, _), (5, _), (6, _)]) (pc' := 3408) ⟨rfl, rfl⟩ rfl rfl ?_
  refine qa_aload_n (pc' := 3409) ⟨rfl, rfl⟩ rfl ?_
  refine qa_callV rfl qf_M_execute ql_0_386 (hm9 τ9 rfl (fun _ _ _ => rfl)) hM9 rfl rfl rfl (qa_lt9 rfl) (qa_le9 rfl) (Nat.zero_le _) (Nat.zero_le _) (fun o8 τ8 hq8 => ?_)
  obtain ⟨y8, f8, rfl, hy8, hM8, hk8, he8, hf8, hI8⟩ := hq8
  refine qa_nx (pc' := 3412) (kc' := kc) (ks' := ks) (st' := [_]) rfl rfl rfl rfl ?_
  have hK8 : qK E Z b L g c (B + 13000) τ8 := ⟨hZ9.to (fun q hq => (hf8 q (by omega)).trans (hf9 q (by omega))), (hf8 b (by omega)).trans hb9, ⟨a1, (hf8 _ (by omega)).trans ho9⟩, ⟨b0, (hf8 _ (by omega)).trans ((hf9 _ (by omega)).trans hd)⟩, hI8⟩
  have ho8 := (hf8 (c + 288) (by omega)).trans ho9
  obtain ⟨w8, hw8, rfl⟩ : ∃ w : Int, qa_in w ∧ y8 = qa_i w := ⟨y8.toInt, qa_i_in y8, (qa_i_of y8).symm⟩
  refine qa_istore (L' := [(0, _), (1, _), (2, _), (3, _), (4, _), (5, _), (6, _), (7, _)]) (pc' := 3414) ⟨rfl, rfl⟩ rfl rfl ?_
  refine qa_aload_n (pc' := 3415) ⟨rfl, rfl⟩ rfl ?_
  refine qa_callV rfl qf_M_thrown ql_0_212 (c_M_thrown (E := E) hM8) hM8 rfl rfl rfl (qa_lt9 rfl) (qa_le9 rfl) (Nat.zero_le _) (Nat.zero_le _) (fun o7 τ7 hq7 => ?_)
  obtain ⟨rfl, hq7⟩ := hq7
  replace hq7 := hq7.symm; subst hq7
  rw [hk8]
  refine qa_nx (pc' := 3418) (kc' := kc) (ks' := ks) (st' := [_]) rfl rfl rfl rfl ?_
  refine qa_iload (pc' := 3420) ⟨rfl, rfl⟩ rfl ?_
  refine qa_icmp_eq (pc' := 3423) (tgt := 3425) ⟨rfl, rfl⟩ rfl (by omega) (by omega) (fun hc1 => ?_) (fun hc1 => ?_)
  · refine qa_iload (pc' := 3427) ⟨rfl, rfl⟩ rfl ?_
    refine qa_if_ne (pc' := 3430) (tgt := 3442) ⟨rfl, rfl⟩ rfl (by omega) (fun hc2 => ?_) (fun hc2 => ?_)
    · refine qa_goto (pc' := 3445) (tgt := 3722) ⟨rfl, rfl⟩ rfl ?_
      refine qa_sub (ks' := [0, 1, 2, 3, 4, 5]) (L' := [(0, _), (1, _), (2, _), (3, _), (4, _), (5, _)]) rfl ?_
      exact kk _ hK8
    · have hk0 : k9 = 0 := by omega
      have ha : a1 0 = w8 := by rw [hv9 hk0, ← hy8 hk0, qa_i_toInt hw8]
      refine qa_aload_n (pc' := 3431) ⟨rfl, rfl⟩ rfl ?_
      refine qa_iconst (pc' := 3432) ⟨rfl, rfl⟩ ?_
      refine qa_laload (pc' := 3433) ⟨rfl, rfl⟩ ho8 (by omega) ?_
      refine qa_iload (pc' := 3435) ⟨rfl, rfl⟩ rfl ?_
      refine qa_i2l (pc' := 3436) ⟨rfl, rfl⟩ hw8 ?_
      rw [ha]
      refine qa_lcmp (pc' := 3437) ⟨rfl, rfl⟩ (by omega) (by omega) ?_
      refine qa_if_eq (pc' := 3440) (tgt := 3442) ⟨rfl, rfl⟩ rfl (qa_sg_in _ _) (fun hc3 => ?_) (fun hc3 => ?_)
      · refine qa_goto (pc' := 3445) (tgt := 3722) ⟨rfl, rfl⟩ rfl ?_
        refine qa_sub (ks' := [0, 1, 2, 3, 4, 5]) (L' := [(0, _), (1, _), (2, _), (3, _), (4, _), (5, _)]) rfl ?_
        exact kk _ hK8
      · exact absurd (qa_sg_eq.mpr rfl) hc3
  · exact absurd rfl hc1
theorem w_55 (hz : qa_Sb E) (hlo : E.1 ≤ c) (hbE : b < E.1) (hg : ∀ j : Int, qa_in (g j)) (hi : 0 ≤ i ∧ i + 4 ≤ L) (hL : L ≤ 2048) (hB9 : B ≤ 800000000) (hJ : qK E Z b L g c B σ) (kk : ∀ τ : qa_S, qK E Z b L g c (B + 13000) τ → qa_W E qm_L_law Q9 kc ks 3722 [(0, .ref b), (1, .ref c), (2, .ref (c + 277)), (3, .ref (c + 288)), (4, .ref (c + 289)), (5, .int (qa_i i))] [] τ) : qa_W E qm_L_law Q9 (kc + 64) (ks + 8000) 3445 [(0, .ref b), (1, .ref c), (2, .ref (c + 277)), (3, .ref (c + 288)), (4, .ref (c + 289)), (5, .int (qa_i i))] [] σ := by
  obtain ⟨hZ9, hb, ⟨a0, ho⟩, ⟨b0, hd⟩, hI⟩ := hJ
  obtain ⟨⟨n, hc⟩, ⟨f0, hM0⟩, hsz⟩ := qI_o hI
  have hT := l_syntaxErrorOffset (E := E) hlo hsz hc ho (j_syntaxErrorOffset (E := E) hZ9 hz hlo hI hB9)
  refine qa_aload_n (pc' := 3446) ⟨rfl, rfl⟩ rfl ?_
  refine qa_aload_n (pc' := 3447) ⟨rfl, rfl⟩ rfl ?_
  refine qa_callSX rfl qf_L_syntaxErrorOffset rfl (qa_wj 7 172 (by decide +kernel) (by decide +kernel)) hT rfl rfl (qa_lt9 rfl) (qa_le9 rfl) (by omega) (by omega) (fun o9 τ9 hq9 => ?_)
  obtain ⟨k9, x9, rfl, hk9, hs9, hf9, ⟨a1, ho9, hv9⟩, hm9⟩ := hq9
  refine qa_nx (pc' := 3450) (kc' := kc) (ks' := ks) (st' := [_]) rfl (by omega) (by omega) rfl ?_
  have hb9 := (hf9 b (by omega)).trans hb
  have hM9 := (hf9 (c + 277) (by omega)).trans hM0
  refine qa_istore (L' := [(0, _), (1, _), (2, _), (3, _), (4, _), (5, _), (6, _)]) (pc' := 3452) ⟨rfl, rfl⟩ rfl rfl ?_
  refine qa_aload_n (pc' := 3453) ⟨rfl, rfl⟩ rfl ?_
  refine qa_callV rfl qf_M_syntaxErrorOffset ql_0_389 (hm9 τ9 rfl (fun _ _ _ => rfl)) hM9 rfl rfl rfl (qa_lt9 rfl) (qa_le9 rfl) (Nat.zero_le _) (Nat.zero_le _) (fun o8 τ8 hq8 => ?_)
  obtain ⟨y8, f8, rfl, hy8, hM8, hk8, he8, hf8, hI8⟩ := hq8
  refine qa_nx (pc' := 3456) (kc' := kc) (ks' := ks) (st' := [_]) rfl rfl rfl rfl ?_
  have hK8 : qK E Z b L g c (B + 13000) τ8 := ⟨hZ9.to (fun q hq => (hf8 q (by omega)).trans (hf9 q (by omega))), (hf8 b (by omega)).trans hb9, ⟨a1, (hf8 _ (by omega)).trans ho9⟩, ⟨b0, (hf8 _ (by omega)).trans ((hf9 _ (by omega)).trans hd)⟩, hI8⟩
  have ho8 := (hf8 (c + 288) (by omega)).trans ho9
  obtain ⟨w8, hw8, rfl⟩ : ∃ w : Int, qa_in w ∧ y8 = qa_i w := ⟨y8.toInt, qa_i_in y8, (qa_i_of y8).symm⟩
  refine qa_istore (L' := [(0, _), (1, _), (2, _), (3, _), (4, _), (5, _), (6, _), (7, _)]) (pc' := 3458) ⟨rfl, rfl⟩ rfl rfl ?_
  refine qa_aload_n (pc' := 3459) ⟨rfl, rfl⟩ rfl ?_
  refine qa_callV rfl qf_M_thrown ql_0_212 (c_M_thrown (E := E) hM8) hM8 rfl rfl rfl (qa_lt9 rfl) (qa_le9 rfl) (Nat.zero_le _) (Nat.zero_le _) (fun o7 τ7 hq7 => ?_)
  obtain ⟨rfl, hq7⟩ := hq7
  replace hq7 := hq7.symm; subst hq7
  rw [hk8]
  refine qa_nx (pc' := 3462) (kc' := kc) (ks' := ks) (st' := [_]) rfl rfl rfl rfl ?_
  refine qa_iload (pc' := 3464) ⟨rfl, rfl⟩ rfl ?_
  refine qa_icmp_eq (pc' := 3467) (tgt := 3469) ⟨rfl, rfl⟩ rfl (by omega) (by omega) (fun hc1 => ?_) (fun hc1 => ?_)
  · refine qa_iload (pc' := 3471) ⟨rfl, rfl⟩ rfl ?_
    refine qa_if_ne (pc' := 3474) (tgt := 3486) ⟨rfl, rfl⟩ rfl (by omega) (fun hc2 => ?_) (fun hc2 => ?_)
    · refine qa_goto (pc' := 3489) (tgt := 3722) ⟨rfl, rfl⟩ rfl ?_
      refine qa_sub (ks' := [0, 1, 2, 3, 4, 5]) (L' := [(0, _), (1, _), (2, _), (3, _), (4, _), (5, _)]) rfl ?_
      exact kk _ hK8
    · have hk0 : k9 = 0 := by omega
      have ha : a1 0 = w8 := by rw [hv9 hk0, ← hy8 hk0, qa_i_toInt hw8]
      refine qa_aload_n (pc' := 3475) ⟨rfl, rfl⟩ rfl ?_
      refine qa_iconst (pc' := 3476) ⟨rfl, rfl⟩ ?_
      refine qa_laload (pc' := 3477) ⟨rfl, rfl⟩ ho8 (by omega) ?_
      refine qa_iload (pc' := 3479) ⟨rfl, rfl⟩ rfl ?_
      refine qa_i2l (pc' := 3480) ⟨rfl, rfl⟩ hw8 ?_
      rw [ha]
      refine qa_lcmp (pc' := 3481) ⟨rfl, rfl⟩ (by omega) (by omega) ?_
      refine qa_if_eq (pc' := 3484) (tgt := 3486) ⟨rfl, rfl⟩ rfl (qa_sg_in _ _) (fun hc3 => ?_) (fun hc3 => ?_)
      · refine qa_goto (pc' := 3489) (tgt := 3722) ⟨rfl, rfl⟩ rfl ?_
        refine qa_sub (ks' := [0, 1, 2, 3, 4, 5]) (L' := [(0, _), (1, _), (2, _), (3, _), (4, _), (5, _)]) rfl ?_
        exact kk _ hK8
      · exact absurd (qa_sg_eq.mpr rfl) hc3
  · exact absurd rfl hc1
theorem w_56 (hz : qa_Sb E) (hlo : E.1 ≤ c) (hbE : b < E.1) (hg : ∀ j : Int, qa_in (g j)) (hi : 0 ≤ i ∧ i + 4 ≤ L) (hL : L ≤ 2048) (hB9 : B ≤ 800000000) (hJ : qK E Z b L g c B σ) (kk : ∀ τ : qa_S, qK E Z b L g c (B + 13000) τ → qa_W E qm_L_law Q9 kc ks 3722 [(0, .ref b), (1, .ref c), (2, .ref (c + 277)), (3, .ref (c + 288)), (4, .ref (c + 289)), (5, .int (qa_i i))] [] τ) : qa_W E qm_L_law Q9 (kc + 64) (ks + 8000) 3489 [(0, .ref b), (1, .ref c), (2, .ref (c + 277)), (3, .ref (c + 288)), (4, .ref (c + 289)), (5, .int (qa_i i))] [] σ := by
  obtain ⟨hZ9, hb, ⟨a0, ho⟩, ⟨b0, hd⟩, hI⟩ := hJ
  obtain ⟨⟨n, hc⟩, ⟨f0, hM0⟩, hsz⟩ := qI_o hI
  have hT := l_rejectionReason (E := E) hlo hsz hc ho (j_rejectionReason (E := E) hZ9 hz hlo hI hB9)
  refine qa_aload_n (pc' := 3490) ⟨rfl, rfl⟩ rfl ?_
  refine qa_aload_n (pc' := 3491) ⟨rfl, rfl⟩ rfl ?_
  refine qa_callSX rfl qf_L_rejectionReason rfl (qa_wj 7 179 (by decide +kernel) (by decide +kernel)) hT rfl rfl (qa_lt9 rfl) (qa_le9 rfl) (by omega) (by omega) (fun o9 τ9 hq9 => ?_)
  obtain ⟨k9, x9, rfl, hk9, hs9, hf9, ⟨a1, ho9, hv9⟩, hm9⟩ := hq9
  refine qa_nx (pc' := 3494) (kc' := kc) (ks' := ks) (st' := [_]) rfl (by omega) (by omega) rfl ?_
  have hb9 := (hf9 b (by omega)).trans hb
  have hM9 := (hf9 (c + 277) (by omega)).trans hM0
  refine qa_istore (L' := [(0, _), (1, _), (2, _), (3, _), (4, _), (5, _), (6, _)]) (pc' := 3496) ⟨rfl, rfl⟩ rfl rfl ?_
  refine qa_aload_n (pc' := 3497) ⟨rfl, rfl⟩ rfl ?_
  refine qa_callV rfl qf_M_rejectionReason ql_0_392 (hm9 τ9 rfl (fun _ _ _ => rfl)) hM9 rfl rfl rfl (qa_lt9 rfl) (qa_le9 rfl) (Nat.zero_le _) (Nat.zero_le _) (fun o8 τ8 hq8 => ?_)
  obtain ⟨y8, f8, rfl, hy8, hM8, hk8, he8, hf8, hI8⟩ := hq8
  refine qa_nx (pc' := 3500) (kc' := kc) (ks' := ks) (st' := [_]) rfl rfl rfl rfl ?_
  have hK8 : qK E Z b L g c (B + 13000) τ8 := ⟨hZ9.to (fun q hq => (hf8 q (by omega)).trans (hf9 q (by omega))), (hf8 b (by omega)).trans hb9, ⟨a1, (hf8 _ (by omega)).trans ho9⟩, ⟨b0, (hf8 _ (by omega)).trans ((hf9 _ (by omega)).trans hd)⟩, hI8⟩
  have ho8 := (hf8 (c + 288) (by omega)).trans ho9
  obtain ⟨w8, hw8, rfl⟩ : ∃ w : Int, qa_in w ∧ y8 = qa_i w := ⟨y8.toInt, qa_i_in y8, (qa_i_of y8).symm⟩
  refine qa_istore (L' := [(0, _), (1, _), (2, _), (3, _), (4, _), (5, _), (6, _), (7, _)]) (pc' := 3502) ⟨rfl, rfl⟩ rfl rfl ?_
  refine qa_aload_n (pc' := 3503) ⟨rfl, rfl⟩ rfl ?_
  refine qa_callV rfl qf_M_thrown ql_0_212 (c_M_thrown (E := E) hM8) hM8 rfl rfl rfl (qa_lt9 rfl) (qa_le9 rfl) (Nat.zero_le _) (Nat.zero_le _) (fun o7 τ7 hq7 => ?_)
  obtain ⟨rfl, hq7⟩ := hq7
  replace hq7 := hq7.symm; subst hq7
  rw [hk8]
  refine qa_nx (pc' := 3506) (kc' := kc) (ks' := ks) (st' := [_]) rfl rfl rfl rfl ?_
  refine qa_iload (pc' := 3508) ⟨rfl, rfl⟩ rfl ?_
  refine qa_icmp_eq (pc' := 3511) (tgt := 3513) ⟨rfl, rfl⟩ rfl (by omega) (by omega) (fun hc1 => ?_) (fun hc1 => ?_)
  · refine qa_iload (pc' := 3515) ⟨rfl, rfl⟩ rfl ?_
    refine qa_if_ne (pc' := 3518) (tgt := 3530) ⟨rfl, rfl⟩ rfl (by omega) (fun hc2 => ?_) (fun hc2 => ?_)
    · refine qa_goto (pc' := 3533) (tgt := 3722) ⟨rfl, rfl⟩ rfl ?_
      refine qa_sub (ks' := [0, 1, 2, 3, 4, 5]) (L' := [(0, _), (1, _), (2, _), (3, _), (4, _), (5, _)]) rfl ?_
      exact kk _ hK8
    · have hk0 : k9 = 0 := by omega
      have ha : a1 0 = w8 := by rw [hv9 hk0, ← hy8 hk0, qa_i_toInt hw8]
      refine qa_aload_n (pc' := 3519) ⟨rfl, rfl⟩ rfl ?_
      refine qa_iconst (pc' := 3520) ⟨rfl, rfl⟩ ?_
      refine qa_laload (pc' := 3521) ⟨rfl, rfl⟩ ho8 (by omega) ?_
      refine qa_iload (pc' := 3523) ⟨rfl, rfl⟩ rfl ?_
      refine qa_i2l (pc' := 3524) ⟨rfl, rfl⟩ hw8 ?_
      rw [ha]
      refine qa_lcmp (pc' := 3525) ⟨rfl, rfl⟩ (by omega) (by omega) ?_
      refine qa_if_eq (pc' := 3528) (tgt := 3530) ⟨rfl, rfl⟩ rfl (qa_sg_in _ _) (fun hc3 => ?_) (fun hc3 => ?_)
      · refine qa_goto (pc' := 3533) (tgt := 3722) ⟨rfl, rfl⟩ rfl ?_
        refine qa_sub (ks' := [0, 1, 2, 3, 4, 5]) (L' := [(0, _), (1, _), (2, _), (3, _), (4, _), (5, _)]) rfl ?_
        exact kk _ hK8
      · exact absurd (qa_sg_eq.mpr rfl) hc3
  · exact absurd rfl hc1
theorem w_57 (hz : qa_Sb E) (hlo : E.1 ≤ c) (hbE : b < E.1) (hg : ∀ j : Int, qa_in (g j)) (hi : 0 ≤ i ∧ i + 4 ≤ L) (hL : L ≤ 2048) (hB9 : B ≤ 800000000) (hJ : qK E Z b L g c B σ) (kk : ∀ τ : qa_S, qK E Z b L g c (B + 13000) τ → qa_W E qm_L_law Q9 kc ks 3722 [(0, .ref b), (1, .ref c), (2, .ref (c + 277)), (3, .ref (c + 288)), (4, .ref (c + 289)), (5, .int (qa_i i))] [] τ) : qa_W E qm_L_law Q9 (kc + 64) (ks + 8000) 3533 [(0, .ref b), (1, .ref c), (2, .ref (c + 277)), (3, .ref (c + 288)), (4, .ref (c + 289)), (5, .int (qa_i i))] [] σ := by
  obtain ⟨hZ9, hb, ⟨a0, ho⟩, ⟨b0, hd⟩, hI⟩ := hJ
  obtain ⟨⟨n, hc⟩, ⟨f0, hM0⟩, hsz⟩ := qI_o hI
  have hT := l_rejectionDetail (E := E) hlo hsz hc ho (j_rejectionDetail (E := E) hZ9 hz hlo hI hB9)
  refine qa_aload_n (pc' := 3534) ⟨rfl, rfl⟩ rfl ?_
  refine qa_aload_n (pc' := 3535) ⟨rfl, rfl⟩ rfl ?_
  refine qa_callSX rfl qf_L_rejectionDetail rfl (qa_wj 7 191 (by decide +kernel) (by decide +kernel)) hT rfl rfl (qa_lt9 rfl) (qa_le9 rfl) (by omega) (by omega) (fun o9 τ9 hq9 => ?_)
  obtain ⟨k9, x9, rfl, hk9, hs9, hf9, ⟨a1, ho9, hv9⟩, hm9⟩ := hq9
  refine qa_nx (pc' := 3538) (kc' := kc) (ks' := ks) (st' := [_]) rfl (by omega) (by omega) rfl ?_
  have hb9 := (hf9 b (by omega)).trans hb
  have hM9 := (hf9 (c + 277) (by omega)).trans hM0
  refine qa_istore (L' := [(0, _), (1, _), (2, _), (3, _), (4, _), (5, _), (6, _)]) (pc' := 3540) ⟨rfl, rfl⟩ rfl rfl ?_
  refine qa_aload_n (pc' := 3541) ⟨rfl, rfl⟩ rfl ?_
  refine qa_callV rfl qf_M_rejectionDetail ql_0_395 (hm9 τ9 rfl (fun _ _ _ => rfl)) hM9 rfl rfl rfl (qa_lt9 rfl) (qa_le9 rfl) (Nat.zero_le _) (Nat.zero_le _) (fun o8 τ8 hq8 => ?_)
  obtain ⟨y8, f8, rfl, hy8, hM8, hk8, he8, hf8, hI8⟩ := hq8
  refine qa_nx (pc' := 3544) (kc' := kc) (ks' := ks) (st' := [_]) rfl rfl rfl rfl ?_
  have hK8 : qK E Z b L g c (B + 13000) τ8 := ⟨hZ9.to (fun q hq => (hf8 q (by omega)).trans (hf9 q (by omega))), (hf8 b (by omega)).trans hb9, ⟨a1, (hf8 _ (by omega)).trans ho9⟩, ⟨b0, (hf8 _ (by omega)).trans ((hf9 _ (by omega)).trans hd)⟩, hI8⟩
  have ho8 := (hf8 (c + 288) (by omega)).trans ho9
  obtain ⟨w8, hw8, rfl⟩ : ∃ w : Int, qa_in w ∧ y8 = qa_i w := ⟨y8.toInt, qa_i_in y8, (qa_i_of y8).symm⟩
  refine qa_istore (L' := [(0, _), (1, _), (2, _), (3, _), (4, _), (5, _), (6, _), (7, _)]) (pc' := 3546) ⟨rfl, rfl⟩ rfl rfl ?_
  refine qa_aload_n (pc' := 3547) ⟨rfl, rfl⟩ rfl ?_
  refine qa_callV rfl qf_M_thrown ql_0_212 (c_M_thrown (E := E) hM8) hM8 rfl rfl rfl (qa_lt9 rfl) (qa_le9 rfl) (Nat.zero_le _) (Nat.zero_le _) (fun o7 τ7 hq7 => ?_)
  obtain ⟨rfl, hq7⟩ := hq7
  replace hq7 := hq7.symm; subst hq7
  rw [hk8]
  refine qa_nx (pc' := 3550) (kc' := kc) (ks' := ks) (st' := [_]) rfl rfl rfl rfl ?_
  refine qa_iload (pc' := 3552) ⟨rfl, rfl⟩ rfl ?_
  refine qa_icmp_eq (pc' := 3555) (tgt := 3557) ⟨rfl, rfl⟩ rfl (by omega) (by omega) (fun hc1 => ?_) (fun hc1 => ?_)
  · refine qa_iload (pc' := 3559) ⟨rfl, rfl⟩ rfl ?_
    refine qa_if_ne (pc' := 3562) (tgt := 3574) ⟨rfl, rfl⟩ rfl (by omega) (fun hc2 => ?_) (fun hc2 => ?_)
    · refine qa_goto (pc' := 3577) (tgt := 3722) ⟨rfl, rfl⟩ rfl ?_
      refine qa_sub (ks' := [0, 1, 2, 3, 4, 5]) (L' := [(0, _), (1, _), (2, _), (3, _), (4, _), (5, _)]) rfl ?_
      exact kk _ hK8
    · have hk0 : k9 = 0 := by omega
      have ha : a1 0 = w8 := by rw [hv9 hk0, ← hy8 hk0, qa_i_toInt hw8]
      refine qa_aload_n (pc' := 3563) ⟨rfl, rfl⟩ rfl ?_
      refine qa_iconst (pc' := 3564) ⟨rfl, rfl⟩ ?_
      refine qa_laload (pc' := 3565) ⟨rfl, rfl⟩ ho8 (by omega) ?_
      refine qa_iload (pc' := 3567) ⟨rfl, rfl⟩ rfl ?_
      refine qa_i2l (pc' := 3568) ⟨rfl, rfl⟩ hw8 ?_
      rw [ha]
      refine qa_lcmp (pc' := 3569) ⟨rfl, rfl⟩ (by omega) (by omega) ?_
      refine qa_if_eq (pc' := 3572) (tgt := 3574) ⟨rfl, rfl⟩ rfl (qa_sg_in _ _) (fun hc3 => ?_) (fun hc3 => ?_)
      · refine qa_goto (pc' := 3577) (tgt := 3722) ⟨rfl, rfl⟩ rfl ?_
        refine qa_sub (ks' := [0, 1, 2, 3, 4, 5]) (L' := [(0, _), (1, _), (2, _), (3, _), (4, _), (5, _)]) rfl ?_
        exact kk _ hK8
      · exact absurd (qa_sg_eq.mpr rfl) hc3
  · exact absurd rfl hc1
theorem w_58 (hz : qa_Sb E) (hlo : E.1 ≤ c) (hbE : b < E.1) (hg : ∀ j : Int, qa_in (g j)) (hi : 0 ≤ i ∧ i + 4 ≤ L) (hL : L ≤ 2048) (hB9 : B ≤ 800000000) (hJ : qK E Z b L g c B σ) (kk : ∀ τ : qa_S, qK E Z b L g c (B + 13000) τ → qa_W E qm_L_law Q9 kc ks 3722 [(0, .ref b), (1, .ref c), (2, .ref (c + 277)), (3, .ref (c + 288)), (4, .ref (c + 289)), (5, .int (qa_i i))] [] τ) : qa_W E qm_L_law Q9 (kc + 64) (ks + 8000) 3577 [(0, .ref b), (1, .ref c), (2, .ref (c + 277)), (3, .ref (c + 288)), (4, .ref (c + 289)), (5, .int (qa_i i))] [] σ := by
  obtain ⟨hZ9, hb, ⟨a0, ho⟩, ⟨b0, hd⟩, hI⟩ := hJ
  obtain ⟨⟨n, hc⟩, ⟨f0, hM0⟩, hsz⟩ := qI_o hI
  have hT := l_causeReason (E := E) hlo hsz hc ho (j_causeReason (E := E) hZ9 hz hlo hI hB9)
  refine qa_aload_n (pc' := 3578) ⟨rfl, rfl⟩ rfl ?_
  refine qa_aload_n (pc' := 3579) ⟨rfl, rfl⟩ rfl ?_
  refine qa_callSX rfl qf_L_causeReason rfl (qa_wj 7 198 (by decide +kernel) (by decide +kernel)) hT rfl rfl (qa_lt9 rfl) (qa_le9 rfl) (by omega) (by omega) (fun o9 τ9 hq9 => ?_)
  obtain ⟨k9, x9, rfl, hk9, hs9, hf9, ⟨a1, ho9, hv9⟩, hm9⟩ := hq9
  refine qa_nx (pc' := 3582) (kc' := kc) (ks' := ks) (st' := [_]) rfl (by omega) (by omega) rfl ?_
  have hb9 := (hf9 b (by omega)).trans hb
  have hM9 := (hf9 (c + 277) (by omega)).trans hM0
  refine qa_istore (L' := [(0, _), (1, _), (2, _), (3, _), (4, _), (5, _), (6, _)]) (pc' := 3584) ⟨rfl, rfl⟩ rfl rfl ?_
  refine qa_aload_n (pc' := 3585) ⟨rfl, rfl⟩ rfl ?_
  refine qa_callV rfl qf_M_causeReason ql_0_398 (hm9 τ9 rfl (fun _ _ _ => rfl)) hM9 rfl rfl rfl (qa_lt9 rfl) (qa_le9 rfl) (Nat.zero_le _) (Nat.zero_le _) (fun o8 τ8 hq8 => ?_)
  obtain ⟨y8, f8, rfl, hy8, hM8, hk8, he8, hf8, hI8⟩ := hq8
  refine qa_nx (pc' := 3588) (kc' := kc) (ks' := ks) (st' := [_]) rfl rfl rfl rfl ?_
  have hK8 : qK E Z b L g c (B + 13000) τ8 := ⟨hZ9.to (fun q hq => (hf8 q (by omega)).trans (hf9 q (by omega))), (hf8 b (by omega)).trans hb9, ⟨a1, (hf8 _ (by omega)).trans ho9⟩, ⟨b0, (hf8 _ (by omega)).trans ((hf9 _ (by omega)).trans hd)⟩, hI8⟩
  have ho8 := (hf8 (c + 288) (by omega)).trans ho9
  obtain ⟨w8, hw8, rfl⟩ : ∃ w : Int, qa_in w ∧ y8 = qa_i w := ⟨y8.toInt, qa_i_in y8, (qa_i_of y8).symm⟩
  refine qa_istore (L' := [(0, _), (1, _), (2, _), (3, _), (4, _), (5, _), (6, _), (7, _)]) (pc' := 3590) ⟨rfl, rfl⟩ rfl rfl ?_
  refine qa_aload_n (pc' := 3591) ⟨rfl, rfl⟩ rfl ?_
  refine qa_callV rfl qf_M_thrown ql_0_212 (c_M_thrown (E := E) hM8) hM8 rfl rfl rfl (qa_lt9 rfl) (qa_le9 rfl) (Nat.zero_le _) (Nat.zero_le _) (fun o7 τ7 hq7 => ?_)
  obtain ⟨rfl, hq7⟩ := hq7
  replace hq7 := hq7.symm; subst hq7
  rw [hk8]
  refine qa_nx (pc' := 3594) (kc' := kc) (ks' := ks) (st' := [_]) rfl rfl rfl rfl ?_
  refine qa_iload (pc' := 3596) ⟨rfl, rfl⟩ rfl ?_
  refine qa_icmp_eq (pc' := 3599) (tgt := 3601) ⟨rfl, rfl⟩ rfl (by omega) (by omega) (fun hc1 => ?_) (fun hc1 => ?_)
  · refine qa_iload (pc' := 3603) ⟨rfl, rfl⟩ rfl ?_
    refine qa_if_ne (pc' := 3606) (tgt := 3618) ⟨rfl, rfl⟩ rfl (by omega) (fun hc2 => ?_) (fun hc2 => ?_)
    · refine qa_goto (pc' := 3621) (tgt := 3722) ⟨rfl, rfl⟩ rfl ?_
      refine qa_sub (ks' := [0, 1, 2, 3, 4, 5]) (L' := [(0, _), (1, _), (2, _), (3, _), (4, _), (5, _)]) rfl ?_
      exact kk _ hK8
    · have hk0 : k9 = 0 := by omega
      have ha : a1 0 = w8 := by rw [hv9 hk0, ← hy8 hk0, qa_i_toInt hw8]
      refine qa_aload_n (pc' := 3607) ⟨rfl, rfl⟩ rfl ?_
      refine qa_iconst (pc' := 3608) ⟨rfl, rfl⟩ ?_
      refine qa_laload (pc' := 3609) ⟨rfl, rfl⟩ ho8 (by omega) ?_
      refine qa_iload (pc' := 3611) ⟨rfl, rfl⟩ rfl ?_
      refine qa_i2l (pc' := 3612) ⟨rfl, rfl⟩ hw8 ?_
      rw [ha]
      refine qa_lcmp (pc' := 3613) ⟨rfl, rfl⟩ (by omega) (by omega) ?_
      refine qa_if_eq (pc' := 3616) (tgt := 3618) ⟨rfl, rfl⟩ rfl (qa_sg_in _ _) (fun hc3 => ?_) (fun hc3 => ?_)
      · refine qa_goto (pc' := 3621) (tgt := 3722) ⟨rfl, rfl⟩ rfl ?_
        refine qa_sub (ks' := [0, 1, 2, 3, 4, 5]) (L' := [(0, _), (1, _), (2, _), (3, _), (4, _), (5, _)]) rfl ?_
        exact kk _ hK8
      · exact absurd (qa_sg_eq.mpr rfl) hc3
  · exact absurd rfl hc1
theorem w_59 (hz : qa_Sb E) (hlo : E.1 ≤ c) (hbE : b < E.1) (hg : ∀ j : Int, qa_in (g j)) (hi : 0 ≤ i ∧ i + 4 ≤ L) (hL : L ≤ 2048) (hB9 : B ≤ 800000000) (hJ : qK E Z b L g c B σ) (kk : ∀ τ : qa_S, qK E Z b L g c (B + 13000) τ → qa_W E qm_L_law Q9 kc ks 3722 [(0, .ref b), (1, .ref c), (2, .ref (c + 277)), (3, .ref (c + 288)), (4, .ref (c + 289)), (5, .int (qa_i i))] [] τ) : qa_W E qm_L_law Q9 (kc + 64) (ks + 8000) 3621 [(0, .ref b), (1, .ref c), (2, .ref (c + 277)), (3, .ref (c + 288)), (4, .ref (c + 289)), (5, .int (qa_i i))] [] σ := by
  obtain ⟨hZ9, hb, ⟨a0, ho⟩, ⟨b0, hd⟩, hI⟩ := hJ
  obtain ⟨⟨n, hc⟩, ⟨f0, hM0⟩, hsz⟩ := qI_o hI
  have hT := l_undo (E := E) hlo hsz hc ho (j_undo (E := E) hZ9 hz hlo hI hB9)
  refine qa_aload_n (pc' := 3622) ⟨rfl, rfl⟩ rfl ?_
  refine qa_aload_n (pc' := 3623) ⟨rfl, rfl⟩ rfl ?_
  refine qa_callSX rfl qf_L_undo rfl (qa_wj 7 206 (by decide +kernel) (by decide +kernel)) hT rfl rfl (qa_lt9 rfl) (qa_le9 rfl) (by omega) (by omega) (fun o9 τ9 hq9 => ?_)
  obtain ⟨k9, x9, rfl, hk9, hs9, hf9, ⟨a1, ho9, hv9⟩, hm9⟩ := hq9
  refine qa_nx (pc' := 3626) (kc' := kc) (ks' := ks) (st' := [_]) rfl (by omega) (by omega) rfl ?_
  have hb9 := (hf9 b (by omega)).trans hb
  have hM9 := (hf9 (c + 277) (by omega)).trans hM0
  refine qa_istore (L' := [(0, _), (1, _), (2, _), (3, _), (4, _), (5, _), (6, _)]) (pc' := 3628) ⟨rfl, rfl⟩ rfl rfl ?_
  refine qa_aload_n (pc' := 3629) ⟨rfl, rfl⟩ rfl ?_
  refine qa_callV rfl qf_M_undo ql_0_401 (hm9 τ9 rfl (fun _ _ _ => rfl)) hM9 rfl rfl rfl (qa_lt9 rfl) (qa_le9 rfl) (Nat.zero_le _) (Nat.zero_le _) (fun o8 τ8 hq8 => ?_)
  obtain ⟨y8, f8, rfl, hy8, hM8, hk8, he8, hf8, hI8⟩ := hq8
  refine qa_nx (pc' := 3632) (kc' := kc) (ks' := ks) (st' := [_]) rfl rfl rfl rfl ?_
  have hK8 : qK E Z b L g c (B + 13000) τ8 := ⟨hZ9.to (fun q hq => (hf8 q (by omega)).trans (hf9 q (by omega))), (hf8 b (by omega)).trans hb9, ⟨a1, (hf8 _ (by omega)).trans ho9⟩, ⟨b0, (hf8 _ (by omega)).trans ((hf9 _ (by omega)).trans hd)⟩, hI8⟩
  have ho8 := (hf8 (c + 288) (by omega)).trans ho9
  obtain ⟨w8, hw8, rfl⟩ : ∃ w : Int, qa_in w ∧ y8 = qa_i w := ⟨y8.toInt, qa_i_in y8, (qa_i_of y8).symm⟩
  refine qa_istore (L' := [(0, _), (1, _), (2, _), (3, _), (4, _), (5, _), (6, _), (7, _)]) (pc' := 3634) ⟨rfl, rfl⟩ rfl rfl ?_
  refine qa_aload_n (pc' := 3635) ⟨rfl, rfl⟩ rfl ?_
  refine qa_callV rfl qf_M_thrown ql_0_212 (c_M_thrown (E := E) hM8) hM8 rfl rfl rfl (qa_lt9 rfl) (qa_le9 rfl) (Nat.zero_le _) (Nat.zero_le _) (fun o7 τ7 hq7 => ?_)
  obtain ⟨rfl, hq7⟩ := hq7
  replace hq7 := hq7.symm; subst hq7
  rw [hk8]
  refine qa_nx (pc' := 3638) (kc' := kc) (ks' := ks) (st' := [_]) rfl rfl rfl rfl ?_
  refine qa_iload (pc' := 3640) ⟨rfl, rfl⟩ rfl ?_
  refine qa_icmp_eq (pc' := 3643) (tgt := 3645) ⟨rfl, rfl⟩ rfl (by omega) (by omega) (fun hc1 => ?_) (fun hc1 => ?_)
  · refine qa_iload (pc' := 3647) ⟨rfl, rfl⟩ rfl ?_
    refine qa_if_ne (pc' := 3650) (tgt := 3662) ⟨rfl, rfl⟩ rfl (by omega) (fun hc2 => ?_) (fun hc2 => ?_)
    · refine qa_goto (pc' := 3665) (tgt := 3722) ⟨rfl, rfl⟩ rfl ?_
      refine qa_sub (ks' := [0, 1, 2, 3, 4, 5]) (L' := [(0, _), (1, _), (2, _), (3, _), (4, _), (5, _)]) rfl ?_
      exact kk _ hK8
    · have hk0 : k9 = 0 := by omega
      have ha : a1 0 = w8 := by rw [hv9 hk0, ← hy8 hk0, qa_i_toInt hw8]
      refine qa_aload_n (pc' := 3651) ⟨rfl, rfl⟩ rfl ?_
      refine qa_iconst (pc' := 3652) ⟨rfl, rfl⟩ ?_
      refine qa_laload (pc' := 3653) ⟨rfl, rfl⟩ ho8 (by omega) ?_
      refine qa_iload (pc' := 3655) ⟨rfl, rfl⟩ rfl ?_
      refine qa_i2l (pc' := 3656) ⟨rfl, rfl⟩ hw8 ?_
      rw [ha]
      refine qa_lcmp (pc' := 3657) ⟨rfl, rfl⟩ (by omega) (by omega) ?_
      refine qa_if_eq (pc' := 3660) (tgt := 3662) ⟨rfl, rfl⟩ rfl (qa_sg_in _ _) (fun hc3 => ?_) (fun hc3 => ?_)
      · refine qa_goto (pc' := 3665) (tgt := 3722) ⟨rfl, rfl⟩ rfl ?_
        refine qa_sub (ks' := [0, 1, 2, 3, 4, 5]) (L' := [(0, _), (1, _), (2, _), (3, _), (4, _), (5, _)]) rfl ?_
        exact kk _ hK8
      · exact absurd (qa_sg_eq.mpr rfl) hc3
  · exact absurd rfl hc1
theorem w_60 (hz : qa_Sb E) (hlo : E.1 ≤ c) (hbE : b < E.1) (hg : ∀ j : Int, qa_in (g j)) (hi : 0 ≤ i ∧ i + 4 ≤ L) (hL : L ≤ 2048) (hB9 : B ≤ 800000000) (hJ : qK E Z b L g c B σ) (kk : ∀ τ : qa_S, qK E Z b L g c (B + 13000) τ → qa_W E qm_L_law Q9 kc ks 3722 [(0, .ref b), (1, .ref c), (2, .ref (c + 277)), (3, .ref (c + 288)), (4, .ref (c + 289)), (5, .int (qa_i i))] [] τ) : qa_W E qm_L_law Q9 (kc + 64) (ks + 8000) 3665 [(0, .ref b), (1, .ref c), (2, .ref (c + 277)), (3, .ref (c + 288)), (4, .ref (c + 289)), (5, .int (qa_i i))] [] σ := by
  obtain ⟨hZ9, hb, ⟨a0, ho⟩, ⟨b0, hd⟩, hI⟩ := hJ
  obtain ⟨⟨n, hc⟩, ⟨f0, hM0⟩, hsz⟩ := qI_o hI
  refine qa_aload_n (pc' := 3666) ⟨rfl, rfl⟩ rfl ?_
  refine qa_callV rfl qf_C_saveSnapshot ql_0_402 (j_saveSnapshot (E := E) hZ9 hz hlo hI hB9) hc rfl rfl rfl (qa_lt9 rfl) (qa_le9 rfl) (by omega) (by omega) (fun o9 τ9 hq9 => ?_)
  obtain ⟨k9, x9, rfl, hk9, hs9, hf9, hm9⟩ := hq9
  obtain rfl := jk0 hk9
  rw [jo0]
  refine qa_nx (pc' := 3669) (kc' := kc + 64 - 0) (ks' := ks + 8000 - 0) (st' := [_]) rfl rfl rfl rfl ?_
  have hM9 := (hf9 (c + 277) (by omega)).trans hM0
  refine qa_aload_n (pc' := 3670) ⟨rfl, rfl⟩ rfl ?_
  refine qa_callV rfl qf_M_saveSnapshot ql_0_405 (hm9 τ9 rfl (fun _ _ _ => rfl)) hM9 rfl rfl rfl (qa_lt9 rfl) (qa_le9 rfl) (Nat.zero_le _) (Nat.zero_le _) (fun o8 τ8 hq8 => ?_)
  obtain ⟨y8, f8, rfl, hy8, hM8, hk8, he8, hf8, hI8⟩ := hq8
  refine qa_nx (pc' := 3673) (kc' := kc + 64 - 0) (ks' := ks + 8000 - 0) (st' := [_, _]) rfl rfl rfl rfl ?_
  have hK8 : qK E Z b L g c (B + 13000) τ8 := ⟨hZ9.to (fun q hq => (hf8 q (by omega)).trans (hf9 q (by omega))), (hf8 b (by omega)).trans ((hf9 b (by omega)).trans hb), ⟨a0, (hf8 _ (by omega)).trans ((hf9 _ (by omega)).trans ho)⟩, ⟨b0, (hf8 _ (by omega)).trans ((hf9 _ (by omega)).trans hd)⟩, hI8⟩
  obtain rfl := hy8 rfl
  obtain ⟨v9, hv9, rfl⟩ : ∃ v9 : Int, qa_in v9 ∧ y8 = qa_i v9 := ⟨y8.toInt, qa_i_in y8, (qa_i_of y8).symm⟩
  refine qa_icmp_eq (pc' := 3676) (tgt := 3722) ⟨rfl, rfl⟩ rfl hv9 hv9 (fun hc1 => ?_) (fun hc1 => ?_)
  · exact (kk _ hK8).less (by omega) (by omega)
  · exact absurd rfl hc1
theorem w_61 (hz : qa_Sb E) (hlo : E.1 ≤ c) (hbE : b < E.1) (hg : ∀ j : Int, qa_in (g j)) (hi : 0 ≤ i ∧ i + 4 ≤ L) (hL : L ≤ 2048) (hB9 : B ≤ 800000000) (hJ : qK E Z b L g c B σ) (kk : ∀ τ : qa_S, qK E Z b L g c (B + 13000) τ → qa_W E qm_L_law Q9 kc ks 3722 [(0, .ref b), (1, .ref c), (2, .ref (c + 277)), (3, .ref (c + 288)), (4, .ref (c + 289)), (5, .int (qa_i i))] [] τ) : qa_W E qm_L_law Q9 (kc + 64) (ks + 8000) 3678 [(0, .ref b), (1, .ref c), (2, .ref (c + 277)), (3, .ref (c + 288)), (4, .ref (c + 289)), (5, .int (qa_i i))] [] σ := by
  obtain ⟨hZ9, hb, ⟨a0, ho⟩, ⟨b0, hd⟩, hI⟩ := hJ
  obtain ⟨⟨n, hc⟩, ⟨f0, hM0⟩, hsz⟩ := qI_o hI
  have hT := l_restoreSnapshot (E := E) hlo hsz hc ho (j_restoreSnapshot (E := E) hZ9 hz hlo hI hB9)
  refine qa_aload_n (pc' := 3679) ⟨rfl, rfl⟩ rfl ?_
  refine qa_aload_n (pc' := 3680) ⟨rfl, rfl⟩ rfl ?_
  refine qa_callSX rfl qf_L_restoreSnapshot rfl (qa_wj 7 219 (by decide +kernel) (by decide +kernel)) hT rfl rfl (qa_lt9 rfl) (qa_le9 rfl) (by omega) (by omega) (fun o9 τ9 hq9 => ?_)
  obtain ⟨k9, x9, rfl, hk9, hs9, hf9, ⟨a1, ho9, hv9⟩, hm9⟩ := hq9
  refine qa_nx (pc' := 3683) (kc' := kc) (ks' := ks) (st' := [_]) rfl (by omega) (by omega) rfl ?_
  have hb9 := (hf9 b (by omega)).trans hb
  have hM9 := (hf9 (c + 277) (by omega)).trans hM0
  refine qa_istore (L' := [(0, _), (1, _), (2, _), (3, _), (4, _), (5, _), (6, _)]) (pc' := 3685) ⟨rfl, rfl⟩ rfl rfl ?_
  refine qa_aload_n (pc' := 3686) ⟨rfl, rfl⟩ rfl ?_
  refine qa_callV rfl qf_M_restoreSnapshot ql_0_408 (hm9 τ9 rfl (fun _ _ _ => rfl)) hM9 rfl rfl rfl (qa_lt9 rfl) (qa_le9 rfl) (Nat.zero_le _) (Nat.zero_le _) (fun o8 τ8 hq8 => ?_)
  obtain ⟨y8, f8, rfl, hy8, hM8, hk8, he8, hf8, hI8⟩ := hq8
  refine qa_nx (pc' := 3689) (kc' := kc) (ks' := ks) (st' := [_]) rfl rfl rfl rfl ?_
  have hK8 : qK E Z b L g c (B + 13000) τ8 := ⟨hZ9.to (fun q hq => (hf8 q (by omega)).trans (hf9 q (by omega))), (hf8 b (by omega)).trans hb9, ⟨a1, (hf8 _ (by omega)).trans ho9⟩, ⟨b0, (hf8 _ (by omega)).trans ((hf9 _ (by omega)).trans hd)⟩, hI8⟩
  have ho8 := (hf8 (c + 288) (by omega)).trans ho9
  obtain ⟨w8, hw8, rfl⟩ : ∃ w : Int, qa_in w ∧ y8 = qa_i w := ⟨y8.toInt, qa_i_in y8, (qa_i_of y8).symm⟩
  refine qa_istore (L' := [(0, _), (1, _), (2, _), (3, _), (4, _), (5, _), (6, _), (7, _)]) (pc' := 3691) ⟨rfl, rfl⟩ rfl rfl ?_
  refine qa_aload_n (pc' := 3692) ⟨rfl, rfl⟩ rfl ?_
  refine qa_callV rfl qf_M_thrown ql_0_212 (c_M_thrown (E := E) hM8) hM8 rfl rfl rfl (qa_lt9 rfl) (qa_le9 rfl) (Nat.zero_le _) (Nat.zero_le _) (fun o7 τ7 hq7 => ?_)
  obtain ⟨rfl, hq7⟩ := hq7
  replace hq7 := hq7.symm; subst hq7
  rw [hk8]
  refine qa_nx (pc' := 3695) (kc' := kc) (ks' := ks) (st' := [_]) rfl rfl rfl rfl ?_
  refine qa_iload (pc' := 3697) ⟨rfl, rfl⟩ rfl ?_
  refine qa_icmp_eq (pc' := 3700) (tgt := 3702) ⟨rfl, rfl⟩ rfl (by omega) (by omega) (fun hc1 => ?_) (fun hc1 => ?_)
  · refine qa_iload (pc' := 3704) ⟨rfl, rfl⟩ rfl ?_
    refine qa_if_ne (pc' := 3707) (tgt := 3719) ⟨rfl, rfl⟩ rfl (by omega) (fun hc2 => ?_) (fun hc2 => ?_)
    · refine qa_goto (pc' := 3722) (tgt := 3722) ⟨rfl, rfl⟩ rfl ?_
      refine qa_sub (ks' := [0, 1, 2, 3, 4, 5]) (L' := [(0, _), (1, _), (2, _), (3, _), (4, _), (5, _)]) rfl ?_
      exact kk _ hK8
    · have hk0 : k9 = 0 := by omega
      have ha : a1 0 = w8 := by rw [hv9 hk0, ← hy8 hk0, qa_i_toInt hw8]
      refine qa_aload_n (pc' := 3708) ⟨rfl, rfl⟩ rfl ?_
      refine qa_iconst (pc' := 3709) ⟨rfl, rfl⟩ ?_
      refine qa_laload (pc' := 3710) ⟨rfl, rfl⟩ ho8 (by omega) ?_
      refine qa_iload (pc' := 3712) ⟨rfl, rfl⟩ rfl ?_
      refine qa_i2l (pc' := 3713) ⟨rfl, rfl⟩ hw8 ?_
      rw [ha]
      refine qa_lcmp (pc' := 3714) ⟨rfl, rfl⟩ (by omega) (by omega) ?_
      refine qa_if_eq (pc' := 3717) (tgt := 3719) ⟨rfl, rfl⟩ rfl (qa_sg_in _ _) (fun hc3 => ?_) (fun hc3 => ?_)
      · refine qa_goto (pc' := 3722) (tgt := 3722) ⟨rfl, rfl⟩ rfl ?_
        refine qa_sub (ks' := [0, 1, 2, 3, 4, 5]) (L' := [(0, _), (1, _), (2, _), (3, _), (4, _), (5, _)]) rfl ?_
        exact kk _ hK8
      · exact absurd (qa_sg_eq.mpr rfl) hc3
  · exact absurd rfl hc1
end WC
