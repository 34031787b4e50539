/-! more of the law's cases -/
section WC
variable {E : qa_V} {Z : Nat → Nat} {b L c kc ks : Nat} {g : Int → Int} {i B : Int} {σ : qa_S} {Q9 : qa_O → qa_S → Prop}
theorem w_16 (hz : qa_Sb E) (hlo : E.1 ≤ c) (hbE : b < E.1) (hg : ∀ j : Int, qa_in (g j)) (hi : 0 ≤ i ∧ i + 4 ≤ L) (hL : L ≤ 2048) (hB9 : B ≤ 800000000) (hJ : qK E Z b L g c B σ) (kk : ∀ τ : qa_S, qK E Z b L g c (B + 13000) τ → qa_W E qm_L_law Q9 kc ks 3722 [(0, .ref b), (1, .ref c), (2, .ref (c + 277)), (3, .ref (c + 288)), (4, .ref (c + 289)), (5, .int (qa_i i))] [] τ) : qa_W E qm_L_law Q9 (kc + 64) (ks + 8000) 1227 [(0, .ref b), (1, .ref c), (2, .ref (c + 277)), (3, .ref (c + 288)), (4, .ref (c + 289)), (5, .int (qa_i i))] [] σ := by
  obtain ⟨hZ9, hb, ⟨a0, ho⟩, ⟨b0, hd⟩, hI⟩ := hJ
  obtain ⟨⟨n, hc⟩, ⟨f0, hM0⟩, hsz⟩ := qI_o hI
  have hT := l_period (E := E) hlo hsz hc ho (j_period (E := E) (p := g (i + 1)) hZ9 hz hlo hI hB9 (hg _))
  refine qa_aload_n (pc' := 1228) ⟨rfl, rfl⟩ rfl ?_
  refine qa_aload_n (pc' := 1229) ⟨rfl, rfl⟩ rfl ?_
  refine qa_iload (pc' := 1231) ⟨rfl, rfl⟩ rfl ?_
  refine qa_iconst (pc' := 1232) ⟨rfl, rfl⟩ ?_
  refine qa_iadd (pc' := 1233) ⟨rfl, rfl⟩ rfl ?_
  refine qa_iaload (pc' := 1234) ⟨rfl, rfl⟩ hb (by omega) ?_
  refine qa_aload_n (pc' := 1235) ⟨rfl, rfl⟩ rfl ?_
  refine qa_callSX rfl qf_L_period rfl (qa_wj 4 173 (by decide +kernel) (by decide +kernel)) hT rfl rfl (qa_lt9 rfl) (qa_le9 rfl) (by omega) (by omega) (fun o9 τ9 hq9 => ?_)
  obtain ⟨k9, x9, rfl, hk9, hs9, hf9, ⟨a1, ho9, hv9⟩, hm9⟩ := hq9
  refine qa_nx (pc' := 1238) (kc' := kc) (ks' := ks) (st' := [_]) rfl (by omega) (by omega) rfl ?_
  have hb9 := (hf9 b (by omega)).trans hb
  have hM9 := (hf9 (c + 277) (by omega)).trans hM0
  refine qa_istore (L' := [(0, _), (1, _), (2, _), (3, _), (4, _), (5, _), (6, _)]) (pc' := 1240) ⟨rfl, rfl⟩ rfl rfl ?_
  refine qa_aload_n (pc' := 1241) ⟨rfl, rfl⟩ rfl ?_
  refine qa_aload_n (pc' := 1242) ⟨rfl, rfl⟩ rfl ?_
  refine qa_iload (pc' := 1244) ⟨rfl, rfl⟩ rfl ?_
  refine qa_iconst (pc' := 1245) ⟨rfl, rfl⟩ ?_
  refine qa_iadd (pc' := 1246) ⟨rfl, rfl⟩ rfl ?_
  refine qa_iaload (pc' := 1247) ⟨rfl, rfl⟩ hb9 (by omega) ?_
  refine qa_callV rfl qf_M_period ql_0_266 (hm9 τ9 rfl (fun _ _ _ => rfl)) hM9 rfl rfl rfl (qa_lt9 rfl) (qa_le9 rfl) (Nat.zero_le _) (Nat.zero_le _) (fun o8 τ8 hq8 => ?_)
  obtain ⟨y8, f8, rfl, hy8, hM8, hk8, he8, hf8, hI8⟩ := hq8
  refine qa_nx (pc' := 1250) (kc' := kc) (ks' := ks) (st' := [_]) rfl rfl rfl rfl ?_
  have hK8 : qK E Z b L g c (B + 13000) τ8 := ⟨hZ9.to (fun q hq => (hf8 q (by omega)).trans (hf9 q (by omega))), (hf8 b (by omega)).trans hb9, ⟨a1, (hf8 _ (by omega)).trans ho9⟩, ⟨b0, (hf8 _ (by omega)).trans ((hf9 _ (by omega)).trans hd)⟩, hI8⟩
  have ho8 := (hf8 (c + 288) (by omega)).trans ho9
  obtain ⟨w8, hw8, rfl⟩ : ∃ w : Int, qa_in w ∧ y8 = qa_i w := ⟨y8.toInt, qa_i_in y8, (qa_i_of y8).symm⟩
  refine qa_istore (L' := [(0, _), (1, _), (2, _), (3, _), (4, _), (5, _), (6, _), (7, _)]) (pc' := 1252) ⟨rfl, rfl⟩ rfl rfl ?_
  refine qa_aload_n (pc' := 1253) ⟨rfl, rfl⟩ rfl ?_
  refine qa_callV rfl qf_M_thrown ql_0_212 (c_M_thrown (E := E) hM8) hM8 rfl rfl rfl (qa_lt9 rfl) (qa_le9 rfl) (Nat.zero_le _) (Nat.zero_le _) (fun o7 τ7 hq7 => ?_)
  obtain ⟨rfl, hq7⟩ := hq7
  replace hq7 := hq7.symm; subst hq7
  rw [hk8]
  refine qa_nx (pc' := 1256) (kc' := kc) (ks' := ks) (st' := [_]) rfl rfl rfl rfl ?_
  refine qa_iload (pc' := 1258) ⟨rfl, rfl⟩ rfl ?_
  refine qa_icmp_eq (pc' := 1261) (tgt := 1263) ⟨rfl, rfl⟩ rfl (by omega) (by omega) (fun hc1 => ?_) (fun hc1 => ?_)
  · refine qa_iload (pc' := 1265) ⟨rfl, rfl⟩ rfl ?_
    refine qa_if_ne (pc' := 1268) (tgt := 1280) ⟨rfl, rfl⟩ rfl (by omega) (fun hc2 => ?_) (fun hc2 => ?_)
    · refine qa_goto (pc' := 1283) (tgt := 3722) ⟨rfl, rfl⟩ rfl ?_
      refine qa_sub (ks' := [0, 1, 2, 3, 4, 5]) (L' := [(0, _), (1, _), (2, _), (3, _), (4, _), (5, _)]) rfl ?_
      exact kk _ hK8
    · have hk0 : k9 = 0 := by omega
      have ha : a1 0 = w8 := by rw [hv9 hk0, ← hy8 hk0, qa_i_toInt hw8]
      refine qa_aload_n (pc' := 1269) ⟨rfl, rfl⟩ rfl ?_
      refine qa_iconst (pc' := 1270) ⟨rfl, rfl⟩ ?_
      refine qa_laload (pc' := 1271) ⟨rfl, rfl⟩ ho8 (by omega) ?_
      refine qa_iload (pc' := 1273) ⟨rfl, rfl⟩ rfl ?_
      refine qa_i2l (pc' := 1274) ⟨rfl, rfl⟩ hw8 ?_
      rw [ha]
      refine qa_lcmp (pc' := 1275) ⟨rfl, rfl⟩ (by omega) (by omega) ?_
      refine qa_if_eq (pc' := 1278) (tgt := 1280) ⟨rfl, rfl⟩ rfl (qa_sg_in _ _) (fun hc3 => ?_) (fun hc3 => ?_)
      · refine qa_goto (pc' := 1283) (tgt := 3722) ⟨rfl, rfl⟩ rfl ?_
        refine qa_sub (ks' := [0, 1, 2, 3, 4, 5]) (L' := [(0, _), (1, _), (2, _), (3, _), (4, _), (5, _)]) rfl ?_
        exact kk _ hK8
      · exact absurd (qa_sg_eq.mpr rfl) hc3
  · exact absurd rfl hc1
theorem w_17 (hz : qa_Sb E) (hlo : E.1 ≤ c) (hbE : b < E.1) (hg : ∀ j : Int, qa_in (g j)) (hi : 0 ≤ i ∧ i + 4 ≤ L) (hL : L ≤ 2048) (hB9 : B ≤ 800000000) (hJ : qK E Z b L g c B σ) (kk : ∀ τ : qa_S, qK E Z b L g c (B + 13000) τ → qa_W E qm_L_law Q9 kc ks 3722 [(0, .ref b), (1, .ref c), (2, .ref (c + 277)), (3, .ref (c + 288)), (4, .ref (c + 289)), (5, .int (qa_i i))] [] τ) : qa_W E qm_L_law Q9 (kc + 64) (ks + 8000) 1283 [(0, .ref b), (1, .ref c), (2, .ref (c + 277)), (3, .ref (c + 288)), (4, .ref (c + 289)), (5, .int (qa_i i))] [] σ := by
  obtain ⟨hZ9, hb, ⟨a0, ho⟩, ⟨b0, hd⟩, hI⟩ := hJ
  obtain ⟨⟨n, hc⟩, ⟨f0, hM0⟩, hsz⟩ := qI_o hI
  have hT := l_periodByTrying (E := E) hlo hsz hc ho (j_periodByTrying (E := E) (p := g (i + 1)) hZ9 hz hlo hI hB9 (hg _))
  refine qa_aload_n (pc' := 1284) ⟨rfl, rfl⟩ rfl ?_
  refine qa_aload_n (pc' := 1285) ⟨rfl, rfl⟩ rfl ?_
  refine qa_iload (pc' := 1287) ⟨rfl, rfl⟩ rfl ?_
  refine qa_iconst (pc' := 1288) ⟨rfl, rfl⟩ ?_
  refine qa_iadd (pc' := 1289) ⟨rfl, rfl⟩ rfl ?_
  refine qa_iaload (pc' := 1290) ⟨rfl, rfl⟩ hb (by omega) ?_
  refine qa_aload_n (pc' := 1291) ⟨rfl, rfl⟩ rfl ?_
  refine qa_callSX rfl qf_L_periodByTrying rfl (qa_wj 4 185 (by decide +kernel) (by decide +kernel)) hT rfl rfl (qa_lt9 rfl) (qa_le9 rfl) (by omega) (by omega) (fun o9 τ9 hq9 => ?_)
  obtain ⟨k9, x9, rfl, hk9, hs9, hf9, ⟨a1, ho9, hv9⟩, hm9⟩ := hq9
  refine qa_nx (pc' := 1294) (kc' := kc) (ks' := ks) (st' := [_]) rfl (by omega) (by omega) rfl ?_
  have hb9 := (hf9 b (by omega)).trans hb
  have hM9 := (hf9 (c + 277) (by omega)).trans hM0
  refine qa_istore (L' := [(0, _), (1, _), (2, _), (3, _), (4, _), (5, _), (6, _)]) (pc' := 1296) ⟨rfl, rfl⟩ rfl rfl ?_
  refine qa_aload_n (pc' := 1297) ⟨rfl, rfl⟩ rfl ?_
  refine qa_aload_n (pc' := 1298) ⟨rfl, rfl⟩ rfl ?_
  refine qa_iload (pc' := 1300) ⟨rfl, rfl⟩ rfl ?_
  refine qa_iconst (pc' := 1301) ⟨rfl, rfl⟩ ?_
  refine qa_iadd (pc' := 1302) ⟨rfl, rfl⟩ rfl ?_
  refine qa_iaload (pc' := 1303) ⟨rfl, rfl⟩ hb9 (by omega) ?_
  refine qa_callV rfl qf_M_periodByTrying ql_0_269 (hm9 τ9 rfl (fun _ _ _ => rfl)) hM9 rfl rfl rfl (qa_lt9 rfl) (qa_le9 rfl) (Nat.zero_le _) (Nat.zero_le _) (fun o8 τ8 hq8 => ?_)
  obtain ⟨y8, f8, rfl, hy8, hM8, hk8, he8, hf8, hI8⟩ := hq8
  refine qa_nx (pc' := 1306) (kc' := kc) (ks' := ks) (st' := [_]) rfl rfl rfl rfl ?_
  have hK8 : qK E Z b L g c (B + 13000) τ8 := ⟨hZ9.to (fun q hq => (hf8 q (by omega)).trans (hf9 q (by omega))), (hf8 b (by omega)).trans hb9, ⟨a1, (hf8 _ (by omega)).trans ho9⟩, ⟨b0, (hf8 _ (by omega)).trans ((hf9 _ (by omega)).trans hd)⟩, hI8⟩
  have ho8 := (hf8 (c + 288) (by omega)).trans ho9
  obtain ⟨w8, hw8, rfl⟩ : ∃ w : Int, qa_in w ∧ y8 = qa_i w := ⟨y8.toInt, qa_i_in y8, (qa_i_of y8).symm⟩
  refine qa_istore (L' := [(0, _), (1, _), (2, _), (3, _), (4, _), (5, _), (6, _), (7, _)]) (pc' := 1308) ⟨rfl, rfl⟩ rfl rfl ?_
  refine qa_aload_n (pc' := 1309) ⟨rfl, rfl⟩ rfl ?_
  refine qa_callV rfl qf_M_thrown ql_0_212 (c_M_thrown (E := E) hM8) hM8 rfl rfl rfl (qa_lt9 rfl) (qa_le9 rfl) (Nat.zero_le _) (Nat.zero_le _) (fun o7 τ7 hq7 => ?_)
  obtain ⟨rfl, hq7⟩ := hq7
  replace hq7 := hq7.symm; subst hq7
  rw [hk8]
  refine qa_nx (pc' := 1312) (kc' := kc) (ks' := ks) (st' := [_]) rfl rfl rfl rfl ?_
  refine qa_iload (pc' := 1314) ⟨rfl, rfl⟩ rfl ?_
  refine qa_icmp_eq (pc' := 1317) (tgt := 1319) ⟨rfl, rfl⟩ rfl (by omega) (by omega) (fun hc1 => ?_) (fun hc1 => ?_)
  · refine qa_iload (pc' := 1321) ⟨rfl, rfl⟩ rfl ?_
    refine qa_if_ne (pc' := 1324) (tgt := 1336) ⟨rfl, rfl⟩ rfl (by omega) (fun hc2 => ?_) (fun hc2 => ?_)
    · refine qa_goto (pc' := 1339) (tgt := 3722) ⟨rfl, rfl⟩ rfl ?_
      refine qa_sub (ks' := [0, 1, 2, 3, 4, 5]) (L' := [(0, _), (1, _), (2, _), (3, _), (4, _), (5, _)]) rfl ?_
      exact kk _ hK8
    · have hk0 : k9 = 0 := by omega
      have ha : a1 0 = w8 := by rw [hv9 hk0, ← hy8 hk0, qa_i_toInt hw8]
      refine qa_aload_n (pc' := 1325) ⟨rfl, rfl⟩ rfl ?_
      refine qa_iconst (pc' := 1326) ⟨rfl, rfl⟩ ?_
      refine qa_laload (pc' := 1327) ⟨rfl, rfl⟩ ho8 (by omega) ?_
      refine qa_iload (pc' := 1329) ⟨rfl, rfl⟩ rfl ?_
      refine qa_i2l (pc' := 1330) ⟨rfl, rfl⟩ hw8 ?_
      rw [ha]
      refine qa_lcmp (pc' := 1331) ⟨rfl, rfl⟩ (by omega) (by omega) ?_
      refine qa_if_eq (pc' := 1334) (tgt := 1336) ⟨rfl, rfl⟩ rfl (qa_sg_in _ _) (fun hc3 => ?_) (fun hc3 => ?_)
      · refine qa_goto (pc' := 1339) (tgt := 3722) ⟨rfl, rfl⟩ rfl ?_
        refine qa_sub (ks' := [0, 1, 2, 3, 4, 5]) (L' := [(0, _), (1, _), (2, _), (3, _), (4, _), (5, _)]) rfl ?_
        exact kk _ hK8
      · exact absurd (qa_sg_eq.mpr rfl) hc3
  · exact absurd rfl hc1
theorem w_18 (hz : qa_Sb E) (hlo : E.1 ≤ c) (hbE : b < E.1) (hg : ∀ j : Int, qa_in (g j)) (hi : 0 ≤ i ∧ i + 4 ≤ L) (hL : L ≤ 2048) (hB9 : B ≤ 800000000) (hJ : qK E Z b L g c B σ) (kk : ∀ τ : qa_S, qK E Z b L g c (B + 13000) τ → qa_W E qm_L_law Q9 kc ks 3722 [(0, .ref b), (1, .ref c), (2, .ref (c + 277)), (3, .ref (c + 288)), (4, .ref (c + 289)), (5, .int (qa_i i))] [] τ) : qa_W E qm_L_law Q9 (kc + 64) (ks + 8000) 1339 [(0, .ref b), (1, .ref c), (2, .ref (c + 277)), (3, .ref (c + 288)), (4, .ref (c + 289)), (5, .int (qa_i i))] [] σ := by
  obtain ⟨hZ9, hb, ⟨a0, ho⟩, ⟨b0, hd⟩, hI⟩ := hJ
  obtain ⟨⟨n, hc⟩, ⟨f0, hM0⟩, hsz⟩ := qI_o hI
  have hT := l_commonTheme (E := E) hlo hsz hc ho (j_commonTheme (E := E) (p := g (i + 1)) (q := g (i + 2)) hZ9 hz hlo hI hB9 (hg _) (hg _))
  refine qa_aload_n (pc' := 1340) ⟨rfl, rfl⟩ rfl ?_
  refine qa_aload_n (pc' := 1341) ⟨rfl, rfl⟩ rfl ?_
  refine qa_iload (pc' := 1343) ⟨rfl, rfl⟩ rfl ?_
  refine qa_iconst (pc' := 1344) ⟨rfl, rfl⟩ ?_
  refine qa_iadd (pc' := 1345) ⟨rfl, rfl⟩ rfl ?_
  refine qa_iaload (pc' := 1346) ⟨rfl, rfl⟩ hb (by omega) ?_
  refine qa_aload_n (pc' := 1347) ⟨rfl, rfl⟩ rfl ?_
  refine qa_iload (pc' := 1349) ⟨rfl, rfl⟩ rfl ?_
  refine qa_iconst (pc' := 1350) ⟨rfl, rfl⟩ ?_
  refine qa_iadd (pc' := 1351) ⟨rfl, rfl⟩ rfl ?_
  refine qa_iaload (pc' := 1352) ⟨rfl, rfl⟩ hb (by omega) ?_
  refine qa_aload_n (pc' := 1353) ⟨rfl, rfl⟩ rfl ?_
  refine qa_callSX rfl qf_L_commonTheme rfl (qa_wj 4 192 (by decide +kernel) (by decide +kernel)) hT rfl rfl (qa_lt9 rfl) (qa_le9 rfl) (by omega) (by omega) (fun o9 τ9 hq9 => ?_)
  obtain ⟨k9, x9, rfl, hk9, hs9, hf9, ⟨a1, ho9, hv9⟩, hm9⟩ := hq9
  refine qa_nx (pc' := 1356) (kc' := kc) (ks' := ks) (st' := [_]) rfl (by omega) (by omega) rfl ?_
  have hb9 := (hf9 b (by omega)).trans hb
  have hM9 := (hf9 (c + 277) (by omega)).trans hM0
  refine qa_istore (L' := [(0, _), (1, _), (2, _), (3, _), (4, _), (5, _), (6, _)]) (pc' := 1358) ⟨rfl, rfl⟩ rfl rfl ?_
  refine qa_aload_n (pc' := 1359) ⟨rfl, rfl⟩ rfl ?_
  refine qa_aload_n (pc' := 1360) ⟨rfl, rfl⟩ rfl ?_
  refine qa_iload (pc' := 1362) ⟨rfl, rfl⟩ rfl ?_
  refine qa_iconst (pc' := 1363) ⟨rfl, rfl⟩ ?_
  refine qa_iadd (pc' := 1364) ⟨rfl, rfl⟩ rfl ?_
  refine qa_iaload (pc' := 1365) ⟨rfl, rfl⟩ hb9 (by omega) ?_
  refine qa_aload_n (pc' := 1366) ⟨rfl, rfl⟩ rfl ?_
  refine qa_iload (pc' := 1368) ⟨rfl, rfl⟩ rfl ?_
  refine qa_iconst (pc' := 1369) ⟨rfl, rfl⟩ ?_
  refine qa_iadd (pc' := 1370) ⟨rfl, rfl⟩ rfl ?_
  refine qa_iaload (pc' := 1371) ⟨rfl, rfl⟩ hb9 (by omega) ?_
  refine qa_callV rfl qf_M_commonTheme ql_0_272 (hm9 τ9 rfl (fun _ _ _ => rfl)) hM9 rfl rfl rfl (qa_lt9 rfl) (qa_le9 rfl) (Nat.zero_le _) (Nat.zero_le _) (fun o8 τ8 hq8 => ?_)
  obtain ⟨y8, f8, rfl, hy8, hM8, hk8, he8, hf8, hI8⟩ := hq8
  refine qa_nx (pc' := 1374) (kc' := kc) (ks' := ks) (st' := [_]) rfl rfl rfl rfl ?_
  have hK8 : qK E Z b L g c (B + 13000) τ8 := ⟨hZ9.to (fun q hq => (hf8 q (by omega)).trans (hf9 q (by omega))), (hf8 b (by omega)).trans hb9, ⟨a1, (hf8 _ (by omega)).trans ho9⟩, ⟨b0, (hf8 _ (by omega)).trans ((hf9 _ (by omega)).trans hd)⟩, hI8⟩
  have ho8 := (hf8 (c + 288) (by omega)).trans ho9
  obtain ⟨w8, hw8, rfl⟩ : ∃ w : Int, qa_in w ∧ y8 = qa_i w := ⟨y8.toInt, qa_i_in y8, (qa_i_of y8).symm⟩
  refine qa_istore (L' := [(0, _), (1, _), (2, _), (3, _), (4, _), (5, _), (6, _), (7, _)]) (pc' := 1376) ⟨rfl, rfl⟩ rfl rfl ?_
  refine qa_aload_n (pc' := 1377) ⟨rfl, rfl⟩ rfl ?_
  refine qa_callV rfl qf_M_thrown ql_0_212 (c_M_thrown (E := E) hM8) hM8 rfl rfl rfl (qa_lt9 rfl) (qa_le9 rfl) (Nat.zero_le _) (Nat.zero_le _) (fun o7 τ7 hq7 => ?_)
  obtain ⟨rfl, hq7⟩ := hq7
  replace hq7 := hq7.symm; subst hq7
  rw [hk8]
  refine qa_nx (pc' := 1380) (kc' := kc) (ks' := ks) (st' := [_]) rfl rfl rfl rfl ?_
  refine qa_iload (pc' := 1382) ⟨rfl, rfl⟩ rfl ?_
  refine qa_icmp_eq (pc' := 1385) (tgt := 1387) ⟨rfl, rfl⟩ rfl (by omega) (by omega) (fun hc1 => ?_) (fun hc1 => ?_)
  · refine qa_iload (pc' := 1389) ⟨rfl, rfl⟩ rfl ?_
    refine qa_if_ne (pc' := 1392) (tgt := 1404) ⟨rfl, rfl⟩ rfl (by omega) (fun hc2 => ?_) (fun hc2 => ?_)
    · refine qa_goto (pc' := 1407) (tgt := 3722) ⟨rfl, rfl⟩ rfl ?_
      refine qa_sub (ks' := [0, 1, 2, 3, 4, 5]) (L' := [(0, _), (1, _), (2, _), (3, _), (4, _), (5, _)]) rfl ?_
      exact kk _ hK8
    · have hk0 : k9 = 0 := by omega
      have ha : a1 0 = w8 := by rw [hv9 hk0, ← hy8 hk0, qa_i_toInt hw8]
      refine qa_aload_n (pc' := 1393) ⟨rfl, rfl⟩ rfl ?_
      refine qa_iconst (pc' := 1394) ⟨rfl, rfl⟩ ?_
      refine qa_laload (pc' := 1395) ⟨rfl, rfl⟩ ho8 (by omega) ?_
      refine qa_iload (pc' := 1397) ⟨rfl, rfl⟩ rfl ?_
      refine qa_i2l (pc' := 1398) ⟨rfl, rfl⟩ hw8 ?_
      rw [ha]
      refine qa_lcmp (pc' := 1399) ⟨rfl, rfl⟩ (by omega) (by omega) ?_
      refine qa_if_eq (pc' := 1402) (tgt := 1404) ⟨rfl, rfl⟩ rfl (qa_sg_in _ _) (fun hc3 => ?_) (fun hc3 => ?_)
      · refine qa_goto (pc' := 1407) (tgt := 3722) ⟨rfl, rfl⟩ rfl ?_
        refine qa_sub (ks' := [0, 1, 2, 3, 4, 5]) (L' := [(0, _), (1, _), (2, _), (3, _), (4, _), (5, _)]) rfl ?_
        exact kk _ hK8
      · exact absurd (qa_sg_eq.mpr rfl) hc3
  · exact absurd rfl hc1
theorem w_19 (hz : qa_Sb E) (hlo : E.1 ≤ c) (hbE : b < E.1) (hg : ∀ j : Int, qa_in (g j)) (hi : 0 ≤ i ∧ i + 4 ≤ L) (hL : L ≤ 2048) (hB9 : B ≤ 800000000) (hJ : qK E Z b L g c B σ) (kk : ∀ τ : qa_S, qK E Z b L g c (B + 13000) τ → qa_W E qm_L_law Q9 kc ks 3722 [(0, .ref b), (1, .ref c), (2, .ref (c + 277)), (3, .ref (c + 288)), (4, .ref (c + 289)), (5, .int (qa_i i))] [] τ) : qa_W E qm_L_law Q9 (kc + 64) (ks + 8000) 1407 [(0, .ref b), (1, .ref c), (2, .ref (c + 277)), (3, .ref (c + 288)), (4, .ref (c + 289)), (5, .int (qa_i i))] [] σ := by
  obtain ⟨hZ9, hb, ⟨a0, ho⟩, ⟨b0, hd⟩, hI⟩ := hJ
  obtain ⟨⟨n, hc⟩, ⟨f0, hM0⟩, hsz⟩ := qI_o hI
  have hT := l_commonThemeByTrying (E := E) hlo hsz hc ho (j_commonThemeByTrying (E := E) (p := g (i + 1)) (q := g (i + 2)) hZ9 hz hlo hI hB9 (hg _) (hg _))
  refine qa_aload_n (pc' := 1408) ⟨rfl, rfl⟩ rfl ?_
  refine qa_aload_n (pc' := 1409) ⟨rfl, rfl⟩ rfl ?_
  refine qa_iload (pc' := 1411) ⟨rfl, rfl⟩ rfl ?_
  refine qa_iconst (pc' := 1412) ⟨rfl, rfl⟩ ?_
  refine qa_iadd (pc' := 1413) ⟨rfl, rfl⟩ rfl ?_
  refine qa_iaload (pc' := 1414) ⟨rfl, rfl⟩ hb (by omega) ?_
  refine qa_aload_n (pc' := 1415) ⟨rfl, rfl⟩ rfl ?_
  refine qa_iload (pc' := 1417) ⟨rfl, rfl⟩ rfl ?_
  refine qa_iconst (pc' := 1418) ⟨rfl, rfl⟩ ?_
  refine qa_iadd (pc' := 1419) ⟨rfl, rfl⟩ rfl ?_
  refine qa_iaload (pc' := 1420) ⟨rfl, rfl⟩ hb (by omega) ?_
  refine qa_aload_n (pc' := 1421) ⟨rfl, rfl⟩ rfl ?_
  refine qa_callSX rfl qf_L_commonThemeByTrying rfl (qa_wj 4 199 (by decide +kernel) (by decide +kernel)) hT rfl rfl (qa_lt9 rfl) (qa_le9 rfl) (by omega) (by omega) (fun o9 τ9 hq9 => ?_)
  obtain ⟨k9, x9, rfl, hk9, hs9, hf9, ⟨a1, ho9, hv9⟩, hm9⟩ := hq9
  refine qa_nx (pc' := 1424) (kc' := kc) (ks' := ks) (st' := [_]) rfl (by omega) (by omega) rfl ?_
  have hb9 := (hf9 b (by omega)).trans hb
  have hM9 := (hf9 (c + 277) (by omega)).trans hM0
  refine qa_istore (L' := [(0, _), (1, _), (2, _), (3, _), (4, _), (5, _), (6, _)]) (pc' := 1426) ⟨rfl, rfl⟩ rfl rfl ?_
  refine qa_aload_n (pc' := 1427) ⟨rfl, rfl⟩ rfl ?_
  refine qa_aload_n (pc' := 1428) ⟨rfl, rfl⟩ rfl ?_
  refine qa_iload (pc' := 1430) ⟨rfl, rfl⟩ rfl ?_
  refine qa_iconst (pc' := 1431) ⟨rfl, rfl⟩ ?_
  refine qa_iadd (pc' := 1432) ⟨rfl, rfl⟩ rfl ?_
  refine qa_iaload (pc' := 1433) ⟨rfl, rfl⟩ hb9 (by omega) ?_
  refine qa_aload_n (pc' := 1434) ⟨rfl, rfl⟩ rfl ?_
  refine qa_iload (pc' := 1436) ⟨rfl, rfl⟩ rfl ?_
  refine qa_iconst (pc' := 1437) ⟨rfl, rfl⟩ ?_
  refine qa_iadd (pc' := 1438) ⟨rfl, rfl⟩ rfl ?_
  refine qa_iaload (pc' := 1439) ⟨rfl, rfl⟩ hb9 (by omega) ?_
  refine qa_callV rfl qf_M_commonThemeByTrying ql_0_275 (hm9 τ9 rfl (fun _ _ _ => rfl)) hM9 rfl rfl rfl (qa_lt9 rfl) (qa_le9 rfl) (Nat.zero_le _) (Nat.zero_le _) (fun o8 τ8 hq8 => ?_)
  obtain ⟨y8, f8, rfl, hy8, hM8, hk8, he8, hf8, hI8⟩ := hq8
  refine qa_nx (pc' := 1442) (kc' := kc) (ks' := ks) (st' := [_]) rfl rfl rfl rfl ?_
  have hK8 : qK E Z b L g c (B + 13000) τ8 := ⟨hZ9.to (fun q hq => (hf8 q (by omega)).trans (hf9 q (by omega))), (hf8 b (by omega)).trans hb9, ⟨a1, (hf8 _ (by omega)).trans ho9⟩, ⟨b0, (hf8 _ (by omega)).trans ((hf9 _ (by omega)).trans hd)⟩, hI8⟩
  have ho8 := (hf8 (c + 288) (by omega)).trans ho9
  obtain ⟨w8, hw8, rfl⟩ : ∃ w : Int, qa_in w ∧ y8 = qa_i w := ⟨y8.toInt, qa_i_in y8, (qa_i_of y8).symm⟩
  refine qa_istore (L' := [(0, _), (1, _), (2, _), (3, _), (4, _), (5, _), (6, _), (7, _)]) (pc' := 1444) ⟨rfl, rfl⟩ rfl rfl ?_
  refine qa_aload_n (pc' := 1445) ⟨rfl, rfl⟩ rfl ?_
  refine qa_callV rfl qf_M_thrown ql_0_212 (c_M_thrown (E := E) hM8) hM8 rfl rfl rfl (qa_lt9 rfl) (qa_le9 rfl) (Nat.zero_le _) (Nat.zero_le _) (fun o7 τ7 hq7 => ?_)
  obtain ⟨rfl, hq7⟩ := hq7
  replace hq7 := hq7.symm; subst hq7
  rw [hk8]
  refine qa_nx (pc' := 1448) (kc' := kc) (ks' := ks) (st' := [_]) rfl rfl rfl rfl ?_
  refine qa_iload (pc' := 1450) ⟨rfl, rfl⟩ rfl ?_
  refine qa_icmp_eq (pc' := 1453) (tgt := 1455) ⟨rfl, rfl⟩ rfl (by omega) (by omega) (fun hc1 => ?_) (fun hc1 => ?_)
  · refine qa_iload (pc' := 1457) ⟨rfl, rfl⟩ rfl ?_
    refine qa_if_ne (pc' := 1460) (tgt := 1472) ⟨rfl, rfl⟩ rfl (by omega) (fun hc2 => ?_) (fun hc2 => ?_)
    · refine qa_goto (pc' := 1475) (tgt := 3722) ⟨rfl, rfl⟩ rfl ?_
      refine qa_sub (ks' := [0, 1, 2, 3, 4, 5]) (L' := [(0, _), (1, _), (2, _), (3, _), (4, _), (5, _)]) rfl ?_
      exact kk _ hK8
    · have hk0 : k9 = 0 := by omega
      have ha : a1 0 = w8 := by rw [hv9 hk0, ← hy8 hk0, qa_i_toInt hw8]
      refine qa_aload_n (pc' := 1461) ⟨rfl, rfl⟩ rfl ?_
      refine qa_iconst (pc' := 1462) ⟨rfl, rfl⟩ ?_
      refine qa_laload (pc' := 1463) ⟨rfl, rfl⟩ ho8 (by omega) ?_
      refine qa_iload (pc' := 1465) ⟨rfl, rfl⟩ rfl ?_
      refine qa_i2l (pc' := 1466) ⟨rfl, rfl⟩ hw8 ?_
      rw [ha]
      refine qa_lcmp (pc' := 1467) ⟨rfl, rfl⟩ (by omega) (by omega) ?_
      refine qa_if_eq (pc' := 1470) (tgt := 1472) ⟨rfl, rfl⟩ rfl (qa_sg_in _ _) (fun hc3 => ?_) (fun hc3 => ?_)
      · refine qa_goto (pc' := 1475) (tgt := 3722) ⟨rfl, rfl⟩ rfl ?_
        refine qa_sub (ks' := [0, 1, 2, 3, 4, 5]) (L' := [(0, _), (1, _), (2, _), (3, _), (4, _), (5, _)]) rfl ?_
        exact kk _ hK8
      · exact absurd (qa_sg_eq.mpr rfl) hc3
  · exact absurd rfl hc1
theorem w_20 (hz : qa_Sb E) (hlo : E.1 ≤ c) (hbE : b < E.1) (hg : ∀ j : Int, qa_in (g j)) (hi : 0 ≤ i ∧ i + 4 ≤ L) (hL : L ≤ 2048) (hB9 : B ≤ 800000000) (hJ : qK E Z b L g c B σ) (kk : ∀ τ : qa_S, qK E Z b L g c (B + 13000) τ → qa_W E qm_L_law Q9 kc ks 3722 [(0, .ref b), (1, .ref c), (2, .ref (c + 277)), (3, .ref (c + 288)), (4, .ref (c + 289)), (5, .int (qa_i i))] [] τ) : qa_W E qm_L_law Q9 (kc + 64) (ks + 8000) 1475 [(0, .ref b), (1, .ref c), (2, .ref (c + 277)), (3, .ref (c + 288)), (4, .ref (c + 289)), (5, .int (qa_i i))] [] σ := by
  obtain ⟨hZ9, hb, ⟨a0, ho⟩, ⟨b0, hd⟩, hI⟩ := hJ
  obtain ⟨⟨n, hc⟩, ⟨f0, hM0⟩, hsz⟩ := qI_o hI
  have hT := l_setTuning (E := E) hlo hsz hc ho (j_setTuning (E := E) (p := g (i + 1)) (x := g (i + 2)) (y := g (i + 3)) hZ9 hz hlo hI hB9 (hg _) (hg _) (hg _))
  refine qa_aload_n (pc' := 1476) ⟨rfl, rfl⟩ rfl ?_
  refine qa_aload_n (pc' := 1477) ⟨rfl, rfl⟩ rfl ?_
  refine qa_iload (pc' := 1479) ⟨rfl, rfl⟩ rfl ?_
  refine qa_iconst (pc' := 1480) ⟨rfl, rfl⟩ ?_
  refine qa_iadd (pc' := 1481) ⟨rfl, rfl⟩ rfl ?_
  refine qa_iaload (pc' := 1482) ⟨rfl, rfl⟩ hb (by omega) ?_
  refine qa_aload_n (pc' := 1483) ⟨rfl, rfl⟩ rfl ?_
  refine qa_iload (pc' := 1485) ⟨rfl, rfl⟩ rfl ?_
  refine qa_iconst (pc' := 1486) ⟨rfl, rfl⟩ ?_
  refine qa_iadd (pc' := 1487) ⟨rfl, rfl⟩ rfl ?_
  refine qa_iaload (pc' := 1488) ⟨rfl, rfl⟩ hb (by omega) ?_
  refine qa_aload_n (pc' := 1489) ⟨rfl, rfl⟩ rfl ?_
  refine qa_iload (pc' := 1491) ⟨rfl, rfl⟩ rfl ?_
  refine qa_iconst (pc' := 1492) ⟨rfl, rfl⟩ ?_
  refine qa_iadd (pc' := 1493) ⟨rfl, rfl⟩ rfl ?_
  refine qa_iaload (pc' := 1494) ⟨rfl, rfl⟩ hb (by omega) ?_
  refine qa_aload_n (pc' := 1495) ⟨rfl, rfl⟩ rfl ?_
  refine qa_callSX rfl qf_L_setTuning rfl (qa_wj 4 206 (by decide +kernel) (by decide +kernel)) hT rfl rfl (qa_lt9 rfl) (qa_le9 rfl) (by omega) (by omega) (fun o9 τ9 hq9 => ?_)
  obtain ⟨k9, x9, rfl, hk9, hs9, hf9, ⟨a1, ho9, hv9⟩, hm9⟩ := hq9
  refine qa_nx (pc' := 1498) (kc' := kc) (ks' := ks) (st' := [_]) rfl (by omega) (by omega) rfl ?_
  have hb9 := (hf9 b (by omega)).trans hb
  have hM9 := (hf9 (c + 277) (by omega)).trans hM0
  refine qa_istore (L' := [(0, _), (1, _), (2, _), (3, _), (4, _), (5, _), (6, _)]) (pc' := 1500) ⟨rfl, rfl⟩ rfl rfl ?_
  refine qa_aload_n (pc' := 1501) ⟨rfl, rfl⟩ rfl ?_
  refine qa_aload_n (pc' := 1502) ⟨rfl, rfl⟩ rfl ?_
  refine qa_iload (pc' := 1504) ⟨rfl, rfl⟩ rfl ?_
  refine qa_iconst (pc' := 1505) ⟨rfl, rfl⟩ ?_
  refine qa_iadd (pc' := 1506) ⟨rfl, rfl⟩ rfl ?_
  refine qa_iaload (pc' := 1507) ⟨rfl, rfl⟩ hb9 (by omega) ?_
  refine qa_aload_n (pc' := 1508) ⟨rfl, rfl⟩ rfl ?_
  refine qa_iload (pc' := 1510) ⟨rfl, rfl⟩ rfl ?_
  refine qa_iconst (pc' := 1511) ⟨rfl, rfl⟩ ?_
  refine qa_iadd (pc' := 1512) ⟨rfl, rfl⟩ rfl ?_
  refine qa_iaload (pc' := 1513) ⟨rfl, rfl⟩ hb9 (by omega) ?_
  refine qa_aload_n (pc' := 1514) ⟨rfl, rfl⟩ rfl ?_
  refine qa_iload (pc' := 1516) ⟨rfl, rfl⟩ rfl ?_
  refine qa_iconst (pc' := 1517) ⟨rfl, rfl⟩ ?_
  refine qa_iadd (pc' := 1518) ⟨rfl, rfl⟩ rfl ?_
  refine qa_iaload (pc' := 1519) ⟨rfl, rfl⟩ hb9 (by omega) ?_
  refine qa_callV rfl qf_M_setTuning ql_0_278 (hm9 τ9 rfl (fun _ _ _ => rfl)) hM9 rfl rfl rfl (qa_lt9 rfl) (qa_le9 rfl) (Nat.zero_le _) (Nat.zero_le _) (fun o8 τ8 hq8 => ?_)
  obtain ⟨y8, f8, rfl, hy8, hM8, hk8, he8, hf8, hI8⟩ := hq8
  refine qa_nx (pc' := 1522) (kc' := kc) (ks' := ks) (st' := [_]) rfl rfl rfl rfl ?_
  have hK8 : qK E Z b L g c (B + 13000) τ8 := ⟨hZ9.to (fun q hq => (hf8 q (by omega)).trans (hf9 q (by omega))), (hf8 b (by omega)).trans hb9, ⟨a1, (hf8 _ (by omega)).trans ho9⟩, ⟨b0, (hf8 _ (by omega)).trans ((hf9 _ (by omega)).trans hd)⟩, hI8⟩
  have ho8 := (hf8 (c + 288) (by omega)).trans ho9
  obtain ⟨w8, hw8, rfl⟩ : ∃ w : Int, qa_in w ∧ y8 = qa_i w := ⟨y8.toInt, qa_i_in y8, (qa_i_of y8).symm⟩
  refine qa_istore (L' := [(0, _), (1, _), (2, _), (3, _), (4, _), (5, _), (6, _), (7, _)]) (pc' := 1524) ⟨rfl, rfl⟩ rfl rfl ?_
  refine qa_aload_n (pc' := 1525) ⟨rfl, rfl⟩ rfl ?_
  refine qa_callV rfl qf_M_thrown ql_0_212 (c_M_thrown (E := E) hM8) hM8 rfl rfl rfl (qa_lt9 rfl) (qa_le9 rfl) (Nat.zero_le _) (Nat.zero_le _) (fun o7 τ7 hq7 => ?_)
  obtain ⟨rfl, hq7⟩ := hq7
  replace hq7 := hq7.symm; subst hq7
  rw [hk8]
  refine qa_nx (pc' := 1528) (kc' := kc) (ks' := ks) (st' := [_]) rfl rfl rfl rfl ?_
  refine qa_iload (pc' := 1530) ⟨rfl, rfl⟩ rfl ?_
  refine qa_icmp_eq (pc' := 1533) (tgt := 1535) ⟨rfl, rfl⟩ rfl (by omega) (by omega) (fun hc1 => ?_) (fun hc1 => ?_)
  · refine qa_iload (pc' := 1537) ⟨rfl, rfl⟩ rfl ?_
    refine qa_if_ne (pc' := 1540) (tgt := 1552) ⟨rfl, rfl⟩ rfl (by omega) (fun hc2 => ?_) (fun hc2 => ?_)
    · refine qa_goto (pc' := 1555) (tgt := 3722) ⟨rfl, rfl⟩ rfl ?_
      refine qa_sub (ks' := [0, 1, 2, 3, 4, 5]) (L' := [(0, _), (1, _), (2, _), (3, _), (4, _), (5, _)]) rfl ?_
      exact kk _ hK8
    · have hk0 : k9 = 0 := by omega
      have ha : a1 0 = w8 := by rw [hv9 hk0, ← hy8 hk0, qa_i_toInt hw8]
      refine qa_aload_n (pc' := 1541) ⟨rfl, rfl⟩ rfl ?_
      refine qa_iconst (pc' := 1542) ⟨rfl, rfl⟩ ?_
      refine qa_laload (pc' := 1543) ⟨rfl, rfl⟩ ho8 (by omega) ?_
      refine qa_iload (pc' := 1545) ⟨rfl, rfl⟩ rfl ?_
      refine qa_i2l (pc' := 1546) ⟨rfl, rfl⟩ hw8 ?_
      rw [ha]
      refine qa_lcmp (pc' := 1547) ⟨rfl, rfl⟩ (by omega) (by omega) ?_
      refine qa_if_eq (pc' := 1550) (tgt := 1552) ⟨rfl, rfl⟩ rfl (qa_sg_in _ _) (fun hc3 => ?_) (fun hc3 => ?_)
      · refine qa_goto (pc' := 1555) (tgt := 3722) ⟨rfl, rfl⟩ rfl ?_
        refine qa_sub (ks' := [0, 1, 2, 3, 4, 5]) (L' := [(0, _), (1, _), (2, _), (3, _), (4, _), (5, _)]) rfl ?_
        exact kk _ hK8
      · exact absurd (qa_sg_eq.mpr rfl) hc3
  · exact absurd rfl hc1
theorem w_21 (hz : qa_Sb E) (hlo : E.1 ≤ c) (hbE : b < E.1) (hg : ∀ j : Int, qa_in (g j)) (hi : 0 ≤ i ∧ i + 4 ≤ L) (hL : L ≤ 2048) (hB9 : B ≤ 800000000) (hJ : qK E Z b L g c B σ) (kk : ∀ τ : qa_S, qK E Z b L g c (B + 13000) τ → qa_W E qm_L_law Q9 kc ks 3722 [(0, .ref b), (1, .ref c), (2, .ref (c + 277)), (3, .ref (c + 288)), (4, .ref (c + 289)), (5, .int (qa_i i))] [] τ) : qa_W E qm_L_law Q9 (kc + 64) (ks + 8000) 1555 [(0, .ref b), (1, .ref c), (2, .ref (c + 277)), (3, .ref (c + 288)), (4, .ref (c + 289)), (5, .int (qa_i i))] [] σ := by
  obtain ⟨hZ9, hb, ⟨a0, ho⟩, ⟨b0, hd⟩, hI⟩ := hJ
  obtain ⟨⟨n, hc⟩, ⟨f0, hM0⟩, hsz⟩ := qI_o hI
  have hT := l_tuningNumerator (E := E) hlo hsz hc ho (j_tuningNumerator (E := E) (p := g (i + 1)) hZ9 hz hlo hI hB9 (hg _))
  refine qa_aload_n (pc' := 1556) ⟨rfl, rfl⟩ rfl ?_
  refine qa_aload_n (pc' := 1557) ⟨rfl, rfl⟩ rfl ?_
  refine qa_iload (pc' := 1559) ⟨rfl, rfl⟩ rfl ?_
  refine qa_iconst (pc' := 1560) ⟨rfl, rfl⟩ ?_
  refine qa_iadd (pc' := 1561) ⟨rfl, rfl⟩ rfl ?_
  refine qa_iaload (pc' := 1562) ⟨rfl, rfl⟩ hb (by omega) ?_
  refine qa_aload_n (pc' := 1563) ⟨rfl, rfl⟩ rfl ?_
  refine qa_callSX rfl qf_L_tuningNumerator rfl (qa_wj 4 215 (by decide +kernel) (by decide +kernel)) hT rfl rfl (qa_lt9 rfl) (qa_le9 rfl) (by omega) (by omega) (fun o9 τ9 hq9 => ?_)
  obtain ⟨k9, x9, rfl, hk9, hs9, hf9, ⟨a1, ho9, hv9⟩, hm9⟩ := hq9
  refine qa_nx (pc' := 1566) (kc' := kc) (ks' := ks) (st' := [_]) rfl (by omega) (by omega) rfl ?_
  have hb9 := (hf9 b (by omega)).trans hb
  have hM9 := (hf9 (c + 277) (by omega)).trans hM0
  refine qa_istore (L' := [(0, _), (1, _), (2, _), (3, _), (4, _), (5, _), (6, _)]) (pc' := 1568) ⟨rfl, rfl⟩ rfl rfl ?_
  refine qa_aload_n (pc' := 1569) ⟨rfl, rfl⟩ rfl ?_
  refine qa_aload_n (pc' := 1570) ⟨rfl, rfl⟩ rfl ?_
  refine qa_iload (pc' := 1572) ⟨rfl, rfl⟩ rfl ?_
  refine qa_iconst (pc' := 1573) ⟨rfl, rfl⟩ ?_
  refine qa_iadd (pc' := 1574) ⟨rfl, rfl⟩ rfl ?_
  refine qa_iaload (pc' := 1575) ⟨rfl, rfl⟩ hb9 (by omega) ?_
  refine qa_callV rfl qf_M_tuningNumerator ql_0_281 (hm9 τ9 rfl (fun _ _ _ => rfl)) hM9 rfl rfl rfl (qa_lt9 rfl) (qa_le9 rfl) (Nat.zero_le _) (Nat.zero_le _) (fun o8 τ8 hq8 => ?_)
  obtain ⟨y8, f8, rfl, hy8, hM8, hk8, he8, hf8, hI8⟩ := hq8
  refine qa_nx (pc' := 1578) (kc' := kc) (ks' := ks) (st' := [_]) rfl rfl rfl rfl ?_
  have hK8 : qK E Z b L g c (B + 13000) τ8 := ⟨hZ9.to (fun q hq => (hf8 q (by omega)).trans (hf9 q (by omega))), (hf8 b (by omega)).trans hb9, ⟨a1, (hf8 _ (by omega)).trans ho9⟩, ⟨b0, (hf8 _ (by omega)).trans ((hf9 _ (by omega)).trans hd)⟩, hI8⟩
  have ho8 := (hf8 (c + 288) (by omega)).trans ho9
  obtain ⟨w8, hw8, rfl⟩ : ∃ w : Int, qa_in w ∧ y8 = qa_i w := ⟨y8.toInt, qa_i_in y8, (qa_i_of y8).symm⟩
  refine qa_istore (L' := [(0, _), (1, _), (2, _), (3, _), (4, _), (5, _), (6, _), (7, _)]) (pc' := 1580) ⟨rfl, rfl⟩ rfl rfl ?_
  refine qa_aload_n (pc' := 1581) ⟨rfl, rfl⟩ rfl ?_
  refine qa_callV rfl qf_M_thrown ql_0_212 (c_M_thrown (E := E) hM8) hM8 rfl rfl rfl (qa_lt9 rfl) (qa_le9 rfl) (Nat.zero_le _) (Nat.zero_le _) (fun o7 τ7 hq7 => ?_)
  obtain ⟨rfl, hq7⟩ := hq7
  replace hq7 := hq7.symm; subst hq7
  rw [hk8]
  refine qa_nx (pc' := 1584) (kc' := kc) (ks' := ks) (st' := [_]) rfl rfl rfl rfl ?_
  refine qa_iload (pc' := 1586) ⟨rfl, rfl⟩ rfl ?_
  refine qa_icmp_eq (pc' := 1589) (tgt := 1591) ⟨rfl, rfl⟩ rfl (by omega) (by omega) (fun hc1 => ?_) (fun hc1 => ?_)
  · refine qa_iload (pc' := 1593) ⟨rfl, rfl⟩ rfl ?_
    refine qa_if_ne (pc' := 1596) (tgt := 1608) ⟨rfl, rfl⟩ rfl (by omega) (fun hc2 => ?_) (fun hc2 => ?_)
    · refine qa_goto (pc' := 1611) (tgt := 3722) ⟨rfl, rfl⟩ rfl ?_
      refine qa_sub (ks' := [0, 1, 2, 3, 4, 5]) (L' := [(0, _), (1, _), (2, _), (3, _), (4, _), (5, _)]) rfl ?_
      exact kk _ hK8
    · have hk0 : k9 = 0 := by omega
      have ha : a1 0 = w8 := by rw [hv9 hk0, ← hy8 hk0, qa_i_toInt hw8]
      refine qa_aload_n (pc' := 1597) ⟨rfl, rfl⟩ rfl ?_
      refine qa_iconst (pc' := 1598) ⟨rfl, rfl⟩ ?_
      refine qa_laload (pc' := 1599) ⟨rfl, rfl⟩ ho8 (by omega) ?_
      refine qa_iload (pc' := 1601) ⟨rfl, rfl⟩ rfl ?_
      refine qa_i2l (pc' := 1602) ⟨rfl, rfl⟩ hw8 ?_
      rw [ha]
      refine qa_lcmp (pc' := 1603) ⟨rfl, rfl⟩ (by omega) (by omega) ?_
      refine qa_if_eq (pc' := 1606) (tgt := 1608) ⟨rfl, rfl⟩ rfl (qa_sg_in _ _) (fun hc3 => ?_) (fun hc3 => ?_)
      · refine qa_goto (pc' := 1611) (tgt := 3722) ⟨rfl, rfl⟩ rfl ?_
        refine qa_sub (ks' := [0, 1, 2, 3, 4, 5]) (L' := [(0, _), (1, _), (2, _), (3, _), (4, _), (5, _)]) rfl ?_
        exact kk _ hK8
      · exact absurd (qa_sg_eq.mpr rfl) hc3
  · exact absurd rfl hc1
theorem w_22 (hz : qa_Sb E) (hlo : E.1 ≤ c) (hbE : b < E.1) (hg : ∀ j : Int, qa_in (g j)) (hi : 0 ≤ i ∧ i + 4 ≤ L) (hL : L ≤ 2048) (hB9 : B ≤ 800000000) (hJ : qK E Z b L g c B σ) (kk : ∀ τ : qa_S, qK E Z b L g c (B + 13000) τ → qa_W E qm_L_law Q9 kc ks 3722 [(0, .ref b), (1, .ref c), (2, .ref (c + 277)), (3, .ref (c + 288)), (4, .ref (c + 289)), (5, .int (qa_i i))] [] τ) : qa_W E qm_L_law Q9 (kc + 64) (ks + 8000) 1611 [(0, .ref b), (1, .ref c), (2, .ref (c + 277)), (3, .ref (c + 288)), (4, .ref (c + 289)), (5, .int (qa_i i))] [] σ := by
  obtain ⟨hZ9, hb, ⟨a0, ho⟩, ⟨b0, hd⟩, hI⟩ := hJ
  obtain ⟨⟨n, hc⟩, ⟨f0, hM0⟩, hsz⟩ := qI_o hI
  have hT := l_tuningDenominator (E := E) hlo hsz hc ho (j_tuningDenominator (E := E) (p := g (i + 1)) hZ9 hz hlo hI hB9 (hg _))
  refine qa_aload_n (pc' := 1612) ⟨rfl, rfl⟩ rfl ?_
  refine qa_aload_n (pc' := 1613) ⟨rfl, rfl⟩ rfl ?_
  refine qa_iload (pc' := 1615) ⟨rfl, rfl⟩ rfl ?_
  refine qa_iconst (pc' := 1616) ⟨rfl, rfl⟩ ?_
  refine qa_iadd (pc' := 1617) ⟨rfl, rfl⟩ rfl ?_
  refine qa_iaload (pc' := 1618) ⟨rfl, rfl⟩ hb (by omega) ?_
  refine qa_aload_n (pc' := 1619) ⟨rfl, rfl⟩ rfl ?_
  refine qa_callSX rfl qf_L_tuningDenominator rfl (qa_wj 4 222 (by decide +kernel) (by decide +kernel)) hT rfl rfl (qa_lt9 rfl) (qa_le9 rfl) (by omega) (by omega) (fun o9 τ9 hq9 => ?_)
  obtain ⟨k9, x9, rfl, hk9, hs9, hf9, ⟨a1, ho9, hv9⟩, hm9⟩ := hq9
  refine qa_nx (pc' := 1622) (kc' := kc) (ks' := ks) (st' := [_]) rfl (by omega) (by omega) rfl ?_
  have hb9 := (hf9 b (by omega)).trans hb
  have hM9 := (hf9 (c + 277) (by omega)).trans hM0
  refine qa_istore (L' := [(0, _), (1, _), (2, _), (3, _), (4, _), (5, _), (6, _)]) (pc' := 1624) ⟨rfl, rfl⟩ rfl rfl ?_
  refine qa_aload_n (pc' := 1625) ⟨rfl, rfl⟩ rfl ?_
  refine qa_aload_n (pc' := 1626) ⟨rfl, rfl⟩ rfl ?_
  refine qa_iload (pc' := 1628) ⟨rfl, rfl⟩ rfl ?_
  refine qa_iconst (pc' := 1629) ⟨rfl, rfl⟩ ?_
  refine qa_iadd (pc' := 1630) ⟨rfl, rfl⟩ rfl ?_
  refine qa_iaload (pc' := 1631) ⟨rfl, rfl⟩ hb9 (by omega) ?_
  refine qa_callV rfl qf_M_tuningDenominator ql_0_284 (hm9 τ9 rfl (fun _ _ _ => rfl)) hM9 rfl rfl rfl (qa_lt9 rfl) (qa_le9 rfl) (Nat.zero_le _) (Nat.zero_le _) (fun o8 τ8 hq8 => ?_)
  obtain ⟨y8, f8, rfl, hy8, hM8, hk8, he8, hf8, hI8⟩ := hq8
  refine qa_nx (pc' := 1634) (kc' := kc) (ks' := ks) (st' := [_]) rfl rfl rfl rfl ?_
  have hK8 : qK E Z b L g c (B + 13000) τ8 := ⟨hZ9.to (fun q hq => (hf8 q (by omega)).trans (hf9 q (by omega))), (hf8 b (by omega)).trans hb9, ⟨a1, (hf8 _ (by omega)).trans ho9⟩, ⟨b0, (hf8 _ (by omega)).trans ((hf9 _ (by omega)).trans hd)⟩, hI8⟩
  have ho8 := (hf8 (c + 288) (by omega)).trans ho9
  obtain ⟨w8, hw8, rfl⟩ : ∃ w : Int, qa_in w ∧ y8 = qa_i w := ⟨y8.toInt, qa_i_in y8, (qa_i_of y8).symm⟩
  refine qa_istore (L' := [(0, _), (1, _), (2, _), (3, _), (4, _), (5, _), (6, _), (7, _)]) (pc' := 1636) ⟨rfl, rfl⟩ rfl rfl ?_
  refine qa_aload_n (pc' := 1637) ⟨rfl, rfl⟩ rfl ?_
  refine qa_callV rfl qf_M_thrown ql_0_212 (c_M_thrown (E := E) hM8) hM8 rfl rfl rfl (qa_lt9 rfl) (qa_le9 rfl) (Nat.zero_le _) (Nat.zero_le _) (fun o7 τ7 hq7 => ?_)
  obtain ⟨rfl, hq7⟩ := hq7
  replace hq7 := hq7.symm; subst hq7
  rw [hk8]
  refine qa_nx (pc' := 1640) (kc' := kc) (ks' := ks) (st' := [_]) rfl rfl rfl rfl ?_
  refine qa_iload (pc' := 1642) ⟨rfl, rfl⟩ rfl ?_
  refine qa_icmp_eq (pc' := 1645) (tgt := 1647) ⟨rfl, rfl⟩ rfl (by omega) (by omega) (fun hc1 => ?_) (fun hc1 => ?_)
  · refine qa_iload (pc' := 1649) ⟨rfl, rfl⟩ rfl ?_
    refine qa_if_ne (pc' := 1652) (tgt := 1664) ⟨rfl, rfl⟩ rfl (by omega) (fun hc2 => ?_) (fun hc2 => ?_)
    · refine qa_goto (pc' := 1667) (tgt := 3722) ⟨rfl, rfl⟩ rfl ?_
      refine qa_sub (ks' := [0, 1, 2, 3, 4, 5]) (L' := [(0, _), (1, _), (2, _), (3, _), (4, _), (5, _)]) rfl ?_
      exact kk _ hK8
    · have hk0 : k9 = 0 := by omega
      have ha : a1 0 = w8 := by rw [hv9 hk0, ← hy8 hk0, qa_i_toInt hw8]
      refine qa_aload_n (pc' := 1653) ⟨rfl, rfl⟩ rfl ?_
      refine qa_iconst (pc' := 1654) ⟨rfl, rfl⟩ ?_
      refine qa_laload (pc' := 1655) ⟨rfl, rfl⟩ ho8 (by omega) ?_
      refine qa_iload (pc' := 1657) ⟨rfl, rfl⟩ rfl ?_
      refine qa_i2l (pc' := 1658) ⟨rfl, rfl⟩ hw8 ?_
      rw [ha]
      refine qa_lcmp (pc' := 1659) ⟨rfl, rfl⟩ (by omega) (by omega) ?_
      refine qa_if_eq (pc' := 1662) (tgt := 1664) ⟨rfl, rfl⟩ rfl (qa_sg_in _ _) (fun hc3 => ?_) (fun hc3 => ?_)
      · refine qa_goto (pc' := 1667) (tgt := 3722) ⟨rfl, rfl⟩ rfl ?_
        refine qa_sub (ks' := [0, 1, 2, 3, 4, 5]) (L' := [(0, _), (1, _), (2, _), (3, _), (4, _), (5, _)]) rfl ?_
        exact kk _ hK8
      · exact absurd (qa_sg_eq.mpr rfl) hc3
  · exact absurd rfl hc1
theorem w_23 (hz : qa_Sb E) (hlo : E.1 ≤ c) (hbE : b < E.1) (hg : ∀ j : Int, qa_in (g j)) (hi : 0 ≤ i ∧ i + 4 ≤ L) (hL : L ≤ 2048) (hB9 : B ≤ 800000000) (hJ : qK E Z b L g c B σ) (kk : ∀ τ : qa_S, qK E Z b L g c (B + 13000) τ → qa_W E qm_L_law Q9 kc ks 3722 [(0, .ref b), (1, .ref c), (2, .ref (c + 277)), (3, .ref (c + 288)), (4, .ref (c + 289)), (5, .int (qa_i i))] [] τ) : qa_W E qm_L_law Q9 (kc + 64) (ks + 8000) 1667 [(0, .ref b), (1, .ref c), (2, .ref (c + 277)), (3, .ref (c + 288)), (4, .ref (c + 289)), (5, .int (qa_i i))] [] σ := by
  obtain ⟨hZ9, hb, ⟨a0, ho⟩, ⟨b0, hd⟩, hI⟩ := hJ
  obtain ⟨⟨n, hc⟩, ⟨f0, hM0⟩, hsz⟩ := qI_o hI
  have hT := l_nearestNumerator (E := E) hlo hsz hc ho (j_nearestNumerator (E := E) (p := g (i + 1)) (x := g (i + 2)) hZ9 hz hlo hI hB9 (hg _) (hg _))
  refine qa_aload_n (pc' := 1668) ⟨rfl, rfl⟩ rfl ?_
  refine qa_aload_n (pc' := 1669) ⟨rfl, rfl⟩ rfl ?_
  refine qa_iload (pc' := 1671) ⟨rfl, rfl⟩ rfl ?_
  refine qa_iconst (pc' := 1672) ⟨rfl, rfl⟩ ?_
  refine qa_iadd (pc' := 1673) ⟨rfl, rfl⟩ rfl ?_
  refine qa_iaload (pc' := 1674) ⟨rfl, rfl⟩ hb (by omega) ?_
  refine qa_aload_n (pc' := 1675) ⟨rfl, rfl⟩ rfl ?_
  refine qa_iload (pc' := 1677) ⟨rfl, rfl⟩ rfl ?_
  refine qa_iconst (pc' := 1678) ⟨rfl, rfl⟩ ?_
  refine qa_iadd (pc' := 1679) ⟨rfl, rfl⟩ rfl ?_
  refine qa_iaload (pc' := 1680) ⟨rfl, rfl⟩ hb (by omega) ?_
  refine qa_aload_n (pc' := 1681) ⟨rfl, rfl⟩ rfl ?_
  refine qa_callSX rfl qf_L_nearestNumerator rfl (qa_wj 4 229 (by decide +kernel) (by decide +kernel)) hT rfl rfl (qa_lt9 rfl) (qa_le9 rfl) (by omega) (by omega) (fun o9 τ9 hq9 => ?_)
  obtain ⟨k9, x9, rfl, hk9, hs9, hf9, ⟨a1, ho9, hv9⟩, hm9⟩ := hq9
  refine qa_nx (pc' := 1684) (kc' := kc) (ks' := ks) (st' := [_]) rfl (by omega) (by omega) rfl ?_
  have hb9 := (hf9 b (by omega)).trans hb
  have hM9 := (hf9 (c + 277) (by omega)).trans hM0
  refine qa_istore (L' := [(0, _), (1, _), (2, _), (3, _), (4, _), (5, _), (6, _)]) (pc' := 1686) ⟨rfl, rfl⟩ rfl rfl ?_
  refine qa_aload_n (pc' := 1687) ⟨rfl, rfl⟩ rfl ?_
  refine qa_aload_n (pc' := 1688) ⟨rfl, rfl⟩ rfl ?_
  refine qa_iload (pc' := 1690) ⟨rfl, rfl⟩ rfl ?_
  refine qa_iconst (pc' := 1691) ⟨rfl, rfl⟩ ?_
  refine qa_iadd (pc' := 1692) ⟨rfl, rfl⟩ rfl ?_
  refine qa_iaload (pc' := 1693) ⟨rfl, rfl⟩ hb9 (by omega) ?_
  refine qa_aload_n (pc' := 1694) ⟨rfl, rfl⟩ rfl ?_
  refine qa_iload (pc' := 1696) ⟨rfl, rfl⟩ rfl ?_
  refine qa_iconst (pc' := 1697) ⟨rfl, rfl⟩ ?_
  refine qa_iadd (pc' := 1698) ⟨rfl, rfl⟩ rfl ?_
  refine qa_iaload (pc' := 1699) ⟨rfl, rfl⟩ hb9 (by omega) ?_
  refine qa_callV rfl qf_M_nearestNumerator ql_0_287 (hm9 τ9 rfl (fun _ _ _ => rfl)) hM9 rfl rfl rfl (qa_lt9 rfl) (qa_le9 rfl) (Nat.zero_le _) (Nat.zero_le _) (fun o8 τ8 hq8 => ?_)
  obtain ⟨y8, f8, rfl, hy8, hM8, hk8, he8, hf8, hI8⟩ := hq8
  refine qa_nx (pc' := 1702) (kc' := kc) (ks' := ks) (st' := [_]) rfl rfl rfl rfl ?_
  have hK8 : qK E Z b L g c (B + 13000) τ8 := ⟨hZ9.to (fun q hq => (hf8 q (by omega)).trans (hf9 q (by omega))), (hf8 b (by omega)).trans hb9, ⟨a1, (hf8 _ (by omega)).trans ho9⟩, ⟨b0, (hf8 _ (by omega)).trans ((hf9 _ (by omega)).trans hd)⟩, hI8⟩
  have ho8 := (hf8 (c + 288) (by omega)).trans ho9
  obtain ⟨w8, hw8, rfl⟩ : ∃ w : Int, qa_in w ∧ y8 = qa_i w := ⟨y8.toInt, qa_i_in y8, (qa_i_of y8).symm⟩
  refine qa_istore (L' := [(0, _), (1, _), (2, _), (3, _), (4, _), (5, _), (6, _), (7, _)]) (pc' := 1704) ⟨rfl, rfl⟩ rfl rfl ?_
  refine qa_aload_n (pc' := 1705) ⟨rfl, rfl⟩ rfl ?_
  refine qa_callV rfl qf_M_thrown ql_0_212 (c_M_thrown (E := E) hM8) hM8 rfl rfl rfl (qa_lt9 rfl) (qa_le9 rfl) (Nat.zero_le _) (Nat.zero_le _) (fun o7 τ7 hq7 => ?_)
  obtain ⟨rfl, hq7⟩ := hq7
  replace hq7 := hq7.symm; subst hq7
  rw [hk8]
  refine qa_nx (pc' := 1708) (kc' := kc) (ks' := ks) (st' := [_]) rfl rfl rfl rfl ?_
  refine qa_iload (pc' := 1710) ⟨rfl, rfl⟩ rfl ?_
  refine qa_icmp_eq (pc' := 1713) (tgt := 1715) ⟨rfl, rfl⟩ rfl (by omega) (by omega) (fun hc1 => ?_) (fun hc1 => ?_)
  · refine qa_iload (pc' := 1717) ⟨rfl, rfl⟩ rfl ?_
    refine qa_if_ne (pc' := 1720) (tgt := 1732) ⟨rfl, rfl⟩ rfl (by omega) (fun hc2 => ?_) (fun hc2 => ?_)
    · refine qa_goto (pc' := 1735) (tgt := 3722) ⟨rfl, rfl⟩ rfl ?_
      refine qa_sub (ks' := [0, 1, 2, 3, 4, 5]) (L' := [(0, _), (1, _), (2, _), (3, _), (4, _), (5, _)]) rfl ?_
      exact kk _ hK8
    · have hk0 : k9 = 0 := by omega
      have ha : a1 0 = w8 := by rw [hv9 hk0, ← hy8 hk0, qa_i_toInt hw8]
      refine qa_aload_n (pc' := 1721) ⟨rfl, rfl⟩ rfl ?_
      refine qa_iconst (pc' := 1722) ⟨rfl, rfl⟩ ?_
      refine qa_laload (pc' := 1723) ⟨rfl, rfl⟩ ho8 (by omega) ?_
      refine qa_iload (pc' := 1725) ⟨rfl, rfl⟩ rfl ?_
      refine qa_i2l (pc' := 1726) ⟨rfl, rfl⟩ hw8 ?_
      rw [ha]
      refine qa_lcmp (pc' := 1727) ⟨rfl, rfl⟩ (by omega) (by omega) ?_
      refine qa_if_eq (pc' := 1730) (tgt := 1732) ⟨rfl, rfl⟩ rfl (qa_sg_in _ _) (fun hc3 => ?_) (fun hc3 => ?_)
      · refine qa_goto (pc' := 1735) (tgt := 3722) ⟨rfl, rfl⟩ rfl ?_
        refine qa_sub (ks' := [0, 1, 2, 3, 4, 5]) (L' := [(0, _), (1, _), (2, _), (3, _), (4, _), (5, _)]) rfl ?_
        exact kk _ hK8
      · exact absurd (qa_sg_eq.mpr rfl) hc3
  · exact absurd rfl hc1
theorem w_24 (hz : qa_Sb E) (hlo : E.1 ≤ c) (hbE : b < E.1) (hg : ∀ j : Int, qa_in (g j)) (hi : 0 ≤ i ∧ i + 4 ≤ L) (hL : L ≤ 2048) (hB9 : B ≤ 800000000) (hJ : qK E Z b L g c B σ) (kk : ∀ τ : qa_S, qK E Z b L g c (B + 13000) τ → qa_W E qm_L_law Q9 kc ks 3722 [(0, .ref b), (1, .ref c), (2, .ref (c + 277)), (3, .ref (c + 288)), (4, .ref (c + 289)), (5, .int (qa_i i))] [] τ) : qa_W E qm_L_law Q9 (kc + 64) (ks + 8000) 1735 [(0, .ref b), (1, .ref c), (2, .ref (c + 277)), (3, .ref (c + 288)), (4, .ref (c + 289)), (5, .int (qa_i i))] [] σ := by
  obtain ⟨hZ9, hb, ⟨a0, ho⟩, ⟨b0, hd⟩, hI⟩ := hJ
  obtain ⟨⟨n, hc⟩, ⟨f0, hM0⟩, hsz⟩ := qI_o hI
  have hT := l_nearestDenominator (E := E) hlo hsz hc ho (j_nearestDenominator (E := E) (p := g (i + 1)) (x := g (i + 2)) hZ9 hz hlo hI hB9 (hg _) (hg _))
  refine qa_aload_n (pc' := 1736) ⟨rfl, rfl⟩ rfl ?_
  refine qa_aload_n (pc' := 1737) ⟨rfl, rfl⟩ rfl ?_
  refine qa_iload (pc' := 1739) ⟨rfl, rfl⟩ rfl ?_
  refine qa_iconst (pc' := 1740) ⟨rfl, rfl⟩ ?_
  refine qa_iadd (pc' := 1741) ⟨rfl, rfl⟩ rfl ?_
  refine qa_iaload (pc' := 1742) ⟨rfl, rfl⟩ hb (by omega) ?_
  refine qa_aload_n (pc' := 1743) ⟨rfl, rfl⟩ rfl ?_
  refine qa_iload (pc' := 1745) ⟨rfl, rfl⟩ rfl ?_
  refine qa_iconst (pc' := 1746) ⟨rfl, rfl⟩ ?_
  refine qa_iadd (pc' := 1747) ⟨rfl, rfl⟩ rfl ?_
  refine qa_iaload (pc' := 1748) ⟨rfl, rfl⟩ hb (by omega) ?_
  refine qa_aload_n (pc' := 1749) ⟨rfl, rfl⟩ rfl ?_
  refine qa_callSX rfl qf_L_nearestDenominator rfl (qa_wj 4 237 (by decide +kernel) (by decide +kernel)) hT rfl rfl (qa_lt9 rfl) (qa_le9 rfl) (by omega) (by omega) (fun o9 τ9 hq9 => ?_)
  obtain ⟨k9, x9, rfl, hk9, hs9, hf9, ⟨a1, ho9, hv9⟩, hm9⟩ := hq9
  refine qa_nx (pc' := 1752) (kc' := kc) (ks' := ks) (st' := [_]) rfl (by omega) (by omega) rfl ?_
  have hb9 := (hf9 b (by omega)).trans hb
  have hM9 := (hf9 (c + 277) (by omega)).trans hM0
  refine qa_istore (L' := [(0, _), (1, _), (2, _), (3, _), (4, _), (5, _), (6, _)]) (pc' := 1754) ⟨rfl, rfl⟩ rfl rfl ?_
  refine qa_aload_n (pc' := 1755) ⟨rfl, rfl⟩ rfl ?_
  refine qa_aload_n (pc' := 1756) ⟨rfl, rfl⟩ rfl ?_
  refine qa_iload (pc' := 1758) ⟨rfl, rfl⟩ rfl ?_
  refine qa_iconst (pc' := 1759) ⟨rfl, rfl⟩ ?_
  refine qa_iadd (pc' := 1760) ⟨rfl, rfl⟩ rfl ?_
  refine qa_iaload (pc' := 1761) ⟨rfl, rfl⟩ hb9 (by omega) ?_
  refine qa_aload_n (pc' := 1762) ⟨rfl, rfl⟩ rfl ?_
  refine qa_iload (pc' := 1764) ⟨rfl, rfl⟩ rfl ?_
  refine qa_iconst (pc' := 1765) ⟨rfl, rfl⟩ ?_
  refine qa_iadd (pc' := 1766) ⟨rfl, rfl⟩ rfl ?_
  refine qa_iaload (pc' := 1767) ⟨rfl, rfl⟩ hb9 (by omega) ?_
  refine qa_callV rfl qf_M_nearestDenominator ql_0_290 (hm9 τ9 rfl (fun _ _ _ => rfl)) hM9 rfl rfl rfl (qa_lt9 rfl) (qa_le9 rfl) (Nat.zero_le _) (Nat.zero_le _) (fun o8 τ8 hq8 => ?_)
  obtain ⟨y8, f8, rfl, hy8, hM8, hk8, he8, hf8, hI8⟩ := hq8
  refine qa_nx (pc' := 1770) (kc' := kc) (ks' := ks) (st' := [_]) rfl rfl rfl rfl ?_
  have hK8 : qK E Z b L g c (B + 13000) τ8 := ⟨hZ9.to (fun q hq => (hf8 q (by omega)).trans (hf9 q (by omega))), (hf8 b (by omega)).trans hb9, ⟨a1, (hf8 _ (by omega)).trans ho9⟩, ⟨b0, (hf8 _ (by omega)).trans ((hf9 _ (by omega)).trans hd)⟩, hI8⟩
  have ho8 := (hf8 (c + 288) (by omega)).trans ho9
  obtain ⟨w8, hw8, rfl⟩ : ∃ w : Int, qa_in w ∧ y8 = qa_i w := ⟨y8.toInt, qa_i_in y8, (qa_i_of y8).symm⟩
  refine qa_istore (L' := [(0, _), (1, _), (2, _), (3, _), (4, _), (5, _), (6, _), (7, _)]) (pc' := 1772) ⟨rfl, rfl⟩ rfl rfl ?_
  refine qa_aload_n (pc' := 1773) ⟨rfl, rfl⟩ rfl ?_
  refine qa_callV rfl qf_M_thrown ql_0_212 (c_M_thrown (E := E) hM8) hM8 rfl rfl rfl (qa_lt9 rfl) (qa_le9 rfl) (Nat.zero_le _) (Nat.zero_le _) (fun o7 τ7 hq7 => ?_)
  obtain ⟨rfl, hq7⟩ := hq7
  replace hq7 := hq7.symm; subst hq7
  rw [hk8]
  refine qa_nx (pc' := 1776) (kc' := kc) (ks' := ks) (st' := [_]) rfl rfl rfl rfl ?_
  refine qa_iload (pc' := 1778) ⟨rfl, rfl⟩ rfl ?_
  refine qa_icmp_eq (pc' := 1781) (tgt := 1783) ⟨rfl, rfl⟩ rfl (by omega) (by omega) (fun hc1 => ?_) (fun hc1 => ?_)
  · refine qa_iload (pc' := 1785) ⟨rfl, rfl⟩ rfl ?_
    refine qa_if_ne (pc' := 1788) (tgt := 1800) ⟨rfl, rfl⟩ rfl (by omega) (fun hc2 => ?_) (fun hc2 => ?_)
    · refine qa_goto (pc' := 1803) (tgt := 3722) ⟨rfl, rfl⟩ rfl ?_
      refine qa_sub (ks' := [0, 1, 2, 3, 4, 5]) (L' := [(0, _), (1, _), (2, _), (3, _), (4, _), (5, _)]) rfl ?_
      exact kk _ hK8
    · have hk0 : k9 = 0 := by omega
      have ha : a1 0 = w8 := by rw [hv9 hk0, ← hy8 hk0, qa_i_toInt hw8]
      refine qa_aload_n (pc' := 1789) ⟨rfl, rfl⟩ rfl ?_
      refine qa_iconst (pc' := 1790) ⟨rfl, rfl⟩ ?_
      refine qa_laload (pc' := 1791) ⟨rfl, rfl⟩ ho8 (by omega) ?_
      refine qa_iload (pc' := 1793) ⟨rfl, rfl⟩ rfl ?_
      refine qa_i2l (pc' := 1794) ⟨rfl, rfl⟩ hw8 ?_
      rw [ha]
      refine qa_lcmp (pc' := 1795) ⟨rfl, rfl⟩ (by omega) (by omega) ?_
      refine qa_if_eq (pc' := 1798) (tgt := 1800) ⟨rfl, rfl⟩ rfl (qa_sg_in _ _) (fun hc3 => ?_) (fun hc3 => ?_)
      · refine qa_goto (pc' := 1803) (tgt := 3722) ⟨rfl, rfl⟩ rfl ?_
        refine qa_sub (ks' := [0, 1, 2, 3, 4, 5]) (L' := [(0, _), (1, _), (2, _), (3, _), (4, _), (5, _)]) rfl ?_
        exact kk _ hK8
      · exact absurd (qa_sg_eq.mpr rfl) hc3
  · exact absurd rfl hc1
theorem w_25 (hz : qa_Sb E) (hlo : E.1 ≤ c) (hbE : b < E.1) (hg : ∀ j : Int, qa_in (g j)) (hi : 0 ≤ i ∧ i + 4 ≤ L) (hL : L ≤ 2048) (hB9 : B ≤ 800000000) (hJ : qK E Z b L g c B σ) (kk : ∀ τ : qa_S, qK E Z b L g c (B + 13000) τ → qa_W E qm_L_law Q9 kc ks 3722 [(0, .ref b), (1, .ref c), (2, .ref (c + 277)), (3, .ref (c + 288)), (4, .ref (c + 289)), (5, .int (qa_i i))] [] τ) : qa_W E qm_L_law Q9 (kc + 64) (ks + 8000) 1803 [(0, .ref b), (1, .ref c), (2, .ref (c + 277)), (3, .ref (c + 288)), (4, .ref (c + 289)), (5, .int (qa_i i))] [] σ := by
  obtain ⟨hZ9, hb, ⟨a0, ho⟩, ⟨b0, hd⟩, hI⟩ := hJ
  obtain ⟨⟨n, hc⟩, ⟨f0, hM0⟩, hsz⟩ := qI_o hI
  have hT := l_nearestDenominatorByTrying (E := E) hlo hsz hc ho (j_nearestDenominatorByTrying (E := E) (p := g (i + 1)) (x := g (i + 2)) hZ9 hz hlo hI hB9 (hg _) (hg _))
  refine qa_aload_n (pc' := 1804) ⟨rfl, rfl⟩ rfl ?_
  refine qa_aload_n (pc' := 1805) ⟨rfl, rfl⟩ rfl ?_
  refine qa_iload (pc' := 1807) ⟨rfl, rfl⟩ rfl ?_
  refine qa_iconst (pc' := 1808) ⟨rfl, rfl⟩ ?_
  refine qa_iadd (pc' := 1809) ⟨rfl, rfl⟩ rfl ?_
  refine qa_iaload (pc' := 1810) ⟨rfl, rfl⟩ hb (by omega) ?_
  refine qa_aload_n (pc' := 1811) ⟨rfl, rfl⟩ rfl ?_
  refine qa_iload (pc' := 1813) ⟨rfl, rfl⟩ rfl ?_
  refine qa_iconst (pc' := 1814) ⟨rfl, rfl⟩ ?_
  refine qa_iadd (pc' := 1815) ⟨rfl, rfl⟩ rfl ?_
  refine qa_iaload (pc' := 1816) ⟨rfl, rfl⟩ hb (by omega) ?_
  refine qa_aload_n (pc' := 1817) ⟨rfl, rfl⟩ rfl ?_
  refine qa_callSX rfl qf_L_nearestDenominatorByTrying rfl (qa_wj 5 4 (by decide +kernel) (by decide +kernel)) hT rfl rfl (qa_lt9 rfl) (qa_le9 rfl) (by omega) (by omega) (fun o9 τ9 hq9 => ?_)
  obtain ⟨k9, x9, rfl, hk9, hs9, hf9, ⟨a1, ho9, hv9⟩, hm9⟩ := hq9
  refine qa_nx (pc' := 1820) (kc' := kc) (ks' := ks) (st' := [_]) rfl (by omega) (by omega) rfl ?_
  have hb9 := (hf9 b (by omega)).trans hb
  have hM9 := (hf9 (c + 277) (by omega)).trans hM0
  refine qa_istore (L' := [(0, _), (1, _), (2, _), (3, _), (4, _), (5, _), (6, _)]) (pc' := 1822) ⟨rfl, rfl⟩ rfl rfl ?_
  refine qa_aload_n (pc' := 1823) ⟨rfl, rfl⟩ rfl ?_
  refine qa_aload_n (pc' := 1824) ⟨rfl, rfl⟩ rfl ?_
  refine qa_iload (pc' := 1826) ⟨rfl, rfl⟩ rfl ?_
  refine qa_iconst (pc' := 1827) ⟨rfl, rfl⟩ ?_
  refine qa_iadd (pc' := 1828) ⟨rfl, rfl⟩ rfl ?_
  refine qa_iaload (pc' := 1829) ⟨rfl, rfl⟩ hb9 (by omega) ?_
  refine qa_aload_n (pc' := 1830) ⟨rfl, rfl⟩ rfl ?_
  refine qa_iload (pc' := 1832) ⟨rfl, rfl⟩ rfl ?_
  refine qa_iconst (pc' := 1833) ⟨rfl, rfl⟩ ?_
  refine qa_iadd (pc' := 1834) ⟨rfl, rfl⟩ rfl ?_
  refine qa_iaload (pc' := 1835) ⟨rfl, rfl⟩ hb9 (by omega) ?_
  refine qa_callV rfl qf_M_nearestDenominatorByTrying ql_0_293 (hm9 τ9 rfl (fun _ _ _ => rfl)) hM9 rfl rfl rfl (qa_lt9 rfl) (qa_le9 rfl) (Nat.zero_le _) (Nat.zero_le _) (fun o8 τ8 hq8 => ?_)
  obtain ⟨y8, f8, rfl, hy8, hM8, hk8, he8, hf8, hI8⟩ := hq8
  refine qa_nx (pc' := 1838) (kc' := kc) (ks' := ks) (st' := [_]) rfl rfl rfl rfl ?_
  have hK8 : qK E Z b L g c (B + 13000) τ8 := ⟨hZ9.to (fun q hq => (hf8 q (by omega)).trans (hf9 q (by omega))), (hf8 b (by omega)).trans hb9, ⟨a1, (hf8 _ (by omega)).trans ho9⟩, ⟨b0, (hf8 _ (by omega)).trans ((hf9 _ (by omega)).trans hd)⟩, hI8⟩
  have ho8 := (hf8 (c + 288) (by omega)).trans ho9
  obtain ⟨w8, hw8, rfl⟩ : ∃ w : Int, qa_in w ∧ y8 = qa_i w := ⟨y8.toInt, qa_i_in y8, (qa_i_of y8).symm⟩
  refine qa_istore (L' := [(0, _), (1, _), (2, _), (3, _), (4, _), (5, _), (6, _), (7, _)]) (pc' := 1840) ⟨rfl, rfl⟩ rfl rfl ?_
  refine qa_aload_n (pc' := 1841) ⟨rfl, rfl⟩ rfl ?_
  refine qa_callV rfl qf_M_thrown ql_0_212 (c_M_thrown (E := E) hM8) hM8 rfl rfl rfl (qa_lt9 rfl) (qa_le9 rfl) (Nat.zero_le _) (Nat.zero_le _) (fun o7 τ7 hq7 => ?_)
  obtain ⟨rfl, hq7⟩ := hq7
  replace hq7 := hq7.symm; subst hq7
  rw [hk8]
  refine qa_nx (pc' := 1844) (kc' := kc) (ks' := ks) (st' := [_]) rfl rfl rfl rfl ?_
  refine qa_iload (pc' := 1846) ⟨rfl, rfl⟩ rfl ?_
  refine qa_icmp_eq (pc' := 1849) (tgt := 1851) ⟨rfl, rfl⟩ rfl (by omega) (by omega) (fun hc1 => ?_) (fun hc1 => ?_)
  · refine qa_iload (pc' := 1853) ⟨rfl, rfl⟩ rfl ?_
    refine qa_if_ne (pc' := 1856) (tgt := 1868) ⟨rfl, rfl⟩ rfl (by omega) (fun hc2 => ?_) (fun hc2 => ?_)
    · refine qa_goto (pc' := 1871) (tgt := 3722) ⟨rfl, rfl⟩ rfl ?_
      refine qa_sub (ks' := [0, 1, 2, 3, 4, 5]) (L' := [(0, _), (1, _), (2, _), (3, _), (4, _), (5, _)]) rfl ?_
      exact kk _ hK8
    · have hk0 : k9 = 0 := by omega
      have ha : a1 0 = w8 := by rw [hv9 hk0, ← hy8 hk0, qa_i_toInt hw8]
      refine qa_aload_n (pc' := 1857) ⟨rfl, rfl⟩ rfl ?_
      refine qa_iconst (pc' := 1858) ⟨rfl, rfl⟩ ?_
      refine qa_laload (pc' := 1859) ⟨rfl, rfl⟩ ho8 (by omega) ?_
      refine qa_iload (pc' := 1861) ⟨rfl, rfl⟩ rfl ?_
      refine qa_i2l (pc' := 1862) ⟨rfl, rfl⟩ hw8 ?_
      rw [ha]
      refine qa_lcmp (pc' := 1863) ⟨rfl, rfl⟩ (by omega) (by omega) ?_
      refine qa_if_eq (pc' := 1866) (tgt := 1868) ⟨rfl, rfl⟩ rfl (qa_sg_in _ _) (fun hc3 => ?_) (fun hc3 => ?_)
      · refine qa_goto (pc' := 1871) (tgt := 3722) ⟨rfl, rfl⟩ rfl ?_
        refine qa_sub (ks' := [0, 1, 2, 3, 4, 5]) (L' := [(0, _), (1, _), (2, _), (3, _), (4, _), (5, _)]) rfl ?_
        exact kk _ hK8
      · exact absurd (qa_sg_eq.mpr rfl) hc3
  · exact absurd rfl hc1
theorem w_26 (hz : qa_Sb E) (hlo : E.1 ≤ c) (hbE : b < E.1) (hg : ∀ j : Int, qa_in (g j)) (hi : 0 ≤ i ∧ i + 4 ≤ L) (hL : L ≤ 2048) (hB9 : B ≤ 800000000) (hJ : qK E Z b L g c B σ) (kk : ∀ τ : qa_S, qK E Z b L g c (B + 13000) τ → qa_W E qm_L_law Q9 kc ks 3722 [(0, .ref b), (1, .ref c), (2, .ref (c + 277)), (3, .ref (c + 288)), (4, .ref (c + 289)), (5, .int (qa_i i))] [] τ) : qa_W E qm_L_law Q9 (kc + 64) (ks + 8000) 1871 [(0, .ref b), (1, .ref c), (2, .ref (c + 277)), (3, .ref (c + 288)), (4, .ref (c + 289)), (5, .int (qa_i i))] [] σ := by
  obtain ⟨hZ9, hb, ⟨a0, ho⟩, ⟨b0, hd⟩, hI⟩ := hJ
  obtain ⟨⟨n, hc⟩, ⟨f0, hM0⟩, hsz⟩ := qI_o hI
  have hT := l_intervalNumerator (E := E) hlo hsz hc ho (j_intervalNumerator (E := E) (p := g (i + 1)) (q := g (i + 2)) hZ9 hz hlo hI hB9 (hg _) (hg _))
  refine qa_aload_n (pc' := 1872) ⟨rfl, rfl⟩ rfl ?_
  refine qa_aload_n (pc' := 1873) ⟨rfl, rfl⟩ rfl ?_
  refine qa_iload (pc' := 1875) ⟨rfl, rfl⟩ rfl ?_
  refine qa_iconst (pc' := 1876) ⟨rfl, rfl⟩ ?_
  refine qa_iadd (pc' := 1877) ⟨rfl, rfl⟩ rfl ?_
  refine qa_iaload (pc' := 1878) ⟨rfl, rfl⟩ hb (by omega) ?_
  refine qa_aload_n (pc' := 1879) ⟨rfl, rfl⟩ rfl ?_
  refine qa_iload (pc' := 1881) ⟨rfl, rfl⟩ rfl ?_
  refine qa_iconst (pc' := 1882) ⟨rfl, rfl⟩ ?_
  refine qa_iadd (pc' := 1883) ⟨rfl, rfl⟩ rfl ?_
  refine qa_iaload (pc' := 1884) ⟨rfl, rfl⟩ hb (by omega) ?_
  refine qa_aload_n (pc' := 1885) ⟨rfl, rfl⟩ rfl ?_
  refine qa_callSX rfl qf_L_intervalNumerator rfl (qa_wj 5 11 (by decide +kernel) (by decide +kernel)) hT rfl rfl (qa_lt9 rfl) (qa_le9 rfl) (by omega) (by omega) (fun o9 τ9 hq9 => ?_)
  obtain ⟨k9, x9, rfl, hk9, hs9, hf9, ⟨a1, ho9, hv9⟩, hm9⟩ := hq9
  refine qa_nx (pc' := 1888) (kc' := kc) (ks' := ks) (st' := [_]) rfl (by omega) (by omega) rfl ?_
  have hb9 := (hf9 b (by omega)).trans hb
  have hM9 := (hf9 (c + 277) (by omega)).trans hM0
  refine qa_istore (L' := [(0, _), (1, _), (2, _), (3, _), (4, _), (5, _), (6, _)]) (pc' := 1890) ⟨rfl, rfl⟩ rfl rfl ?_
  refine qa_aload_n (pc' := 1891) ⟨rfl, rfl⟩ rfl ?_
  refine qa_aload_n (pc' := 1892) ⟨rfl, rfl⟩ rfl ?_
  refine qa_iload (pc' := 1894) ⟨rfl, rfl⟩ rfl ?_
  refine qa_iconst (pc' := 1895) ⟨rfl, rfl⟩ ?_
  refine qa_iadd (pc' := 1896) ⟨rfl, rfl⟩ rfl ?_
  refine qa_iaload (pc' := 1897) ⟨rfl, rfl⟩ hb9 (by omega) ?_
  refine qa_aload_n (pc' := 1898) ⟨rfl, rfl⟩ rfl ?_
  refine qa_iload (pc' := 1900) ⟨rfl, rfl⟩ rfl ?_
  refine qa_iconst (pc' := 1901) ⟨rfl, rfl⟩ ?_
  refine qa_iadd (pc' := 1902) ⟨rfl, rfl⟩ rfl ?_
  refine qa_iaload (pc' := 1903) ⟨rfl, rfl⟩ hb9 (by omega) ?_
  refine qa_callV rfl qf_M_intervalNumerator ql_0_296 (hm9 τ9 rfl (fun _ _ _ => rfl)) hM9 rfl rfl rfl (qa_lt9 rfl) (qa_le9 rfl) (Nat.zero_le _) (Nat.zero_le _) (fun o8 τ8 hq8 => ?_)
  obtain ⟨y8, f8, rfl, hy8, hM8, hk8, he8, hf8, hI8⟩ := hq8
  refine qa_nx (pc' := 1906) (kc' := kc) (ks' := ks) (st' := [_]) rfl rfl rfl rfl ?_
  have hK8 : qK E Z b L g c (B + 13000) τ8 := ⟨hZ9.to (fun q hq => (hf8 q (by omega)).trans (hf9 q (by omega))), (hf8 b (by omega)).trans hb9, ⟨a1, (hf8 _ (by omega)).trans ho9⟩, ⟨b0, (hf8 _ (by omega)).trans ((hf9 _ (by omega)).trans hd)⟩, hI8⟩
  have ho8 := (hf8 (c + 288) (by omega)).trans ho9
  obtain ⟨w8, hw8, rfl⟩ : ∃ w : Int, qa_in w ∧ y8 = qa_i w := ⟨y8.toInt, qa_i_in y8, (qa_i_of y8).symm⟩
  refine qa_istore (L' := [(0, _), (1, _), (2, _), (3, _), (4, _), (5, _), (6, _), (7, _)]) (pc' := 1908) ⟨rfl, rfl⟩ rfl rfl ?_
  refine qa_aload_n (pc' := 1909) ⟨rfl, rfl⟩ rfl ?_
  refine qa_callV rfl qf_M_thrown ql_0_212 (c_M_thrown (E := E) hM8) hM8 rfl rfl rfl (qa_lt9 rfl) (qa_le9 rfl) (Nat.zero_le _) (Nat.zero_le _) (fun o7 τ7 hq7 => ?_)
  obtain ⟨rfl, hq7⟩ := hq7
  replace hq7 := hq7.symm; subst hq7
  rw [hk8]
  refine qa_nx (pc' := 1912) (kc' := kc) (ks' := ks) (st' := [_]) rfl rfl rfl rfl ?_
  refine qa_iload (pc' := 1914) ⟨rfl, rfl⟩ rfl ?_
  refine qa_icmp_eq (pc' := 1917) (tgt := 1919) ⟨rfl, rfl⟩ rfl (by omega) (by omega) (fun hc1 => ?_) (fun hc1 => ?_)
  · refine qa_iload (pc' := 1921) ⟨rfl, rfl⟩ rfl ?_
    refine qa_if_ne (pc' := 1924) (tgt := 1936) ⟨rfl, rfl⟩ rfl (by omega) (fun hc2 => ?_) (fun hc2 => ?_)
    · refine qa_goto (pc' := 1939) (tgt := 3722) ⟨rfl, rfl⟩ rfl ?_
      refine qa_sub (ks' := [0, 1, 2, 3, 4, 5]) (L' := [(0, _), (1, _), (2, _), (3, _), (4, _), (5, _)]) rfl ?_
      exact kk _ hK8
    · have hk0 : k9 = 0 := by omega
      have ha : a1 0 = w8 := by rw [hv9 hk0, ← hy8 hk0, qa_i_toInt hw8]
      refine qa_aload_n (pc' := 1925) ⟨rfl, rfl⟩ rfl ?_
      refine qa_iconst (pc' := 1926) ⟨rfl, rfl⟩ ?_
      refine qa_laload (pc' := 1927) ⟨rfl, rfl⟩ ho8 (by omega) ?_
      refine qa_iload (pc' := 1929) ⟨rfl, rfl⟩ rfl ?_
      refine qa_i2l (pc' := 1930) ⟨rfl, rfl⟩ hw8 ?_
      rw [ha]
      refine qa_lcmp (pc' := 1931) ⟨rfl, rfl⟩ (by omega) (by omega) ?_
      refine qa_if_eq (pc' := 1934) (tgt := 1936) ⟨rfl, rfl⟩ rfl (qa_sg_in _ _) (fun hc3 => ?_) (fun hc3 => ?_)
      · refine qa_goto (pc' := 1939) (tgt := 3722) ⟨rfl, rfl⟩ rfl ?_
        refine qa_sub (ks' := [0, 1, 2, 3, 4, 5]) (L' := [(0, _), (1, _), (2, _), (3, _), (4, _), (5, _)]) rfl ?_
        exact kk _ hK8
      · exact absurd (qa_sg_eq.mpr rfl) hc3
  · exact absurd rfl hc1
theorem w_27 (hz : qa_Sb E) (hlo : E.1 ≤ c) (hbE : b < E.1) (hg : ∀ j : Int, qa_in (g j)) (hi : 0 ≤ i ∧ i + 4 ≤ L) (hL : L ≤ 2048) (hB9 : B ≤ 800000000) (hJ : qK E Z b L g c B σ) (kk : ∀ τ : qa_S, qK E Z b L g c (B + 13000) τ → qa_W E qm_L_law Q9 kc ks 3722 [(0, .ref b), (1, .ref c), (2, .ref (c + 277)), (3, .ref (c + 288)), (4, .ref (c + 289)), (5, .int (qa_i i))] [] τ) : qa_W E qm_L_law Q9 (kc + 64) (ks + 8000) 1939 [(0, .ref b), (1, .ref c), (2, .ref (c + 277)), (3, .ref (c + 288)), (4, .ref (c + 289)), (5, .int (qa_i i))] [] σ := by
  obtain ⟨hZ9, hb, ⟨a0, ho⟩, ⟨b0, hd⟩, hI⟩ := hJ
  obtain ⟨⟨n, hc⟩, ⟨f0, hM0⟩, hsz⟩ := qI_o hI
  have hT := l_intervalDenominator (E := E) hlo hsz hc ho (j_intervalDenominator (E := E) (p := g (i + 1)) (q := g (i + 2)) hZ9 hz hlo hI hB9 (hg _) (hg _))
  refine qa_aload_n (pc' := 1940) ⟨rfl, rfl⟩ rfl ?_
  refine qa_aload_n (pc' := 1941) ⟨rfl, rfl⟩ rfl ?_
  refine qa_iload (pc' := 1943) ⟨rfl, rfl⟩ rfl ?_
  refine qa_iconst (pc' := 1944) ⟨rfl, rfl⟩ ?_
  refine qa_iadd (pc' := 1945) ⟨rfl, rfl⟩ rfl ?_
  refine qa_iaload (pc' := 1946) ⟨rfl, rfl⟩ hb (by omega) ?_
  refine qa_aload_n (pc' := 1947) ⟨rfl, rfl⟩ rfl ?_
  refine qa_iload (pc' := 1949) ⟨rfl, rfl⟩ rfl ?_
  refine qa_iconst (pc' := 1950) ⟨rfl, rfl⟩ ?_
  refine qa_iadd (pc' := 1951) ⟨rfl, rfl⟩ rfl ?_
  refine qa_iaload (pc' := 1952) ⟨rfl, rfl⟩ hb (by omega) ?_
  refine qa_aload_n (pc' := 1953) ⟨rfl, rfl⟩ rfl ?_
  refine qa_callSX rfl qf_L_intervalDenominator rfl (qa_wj 5 19 (by decide +kernel) (by decide +kernel)) hT rfl rfl (qa_lt9 rfl) (qa_le9 rfl) (by omega) (by omega) (fun o9 τ9 hq9 => ?_)
  obtain ⟨k9, x9, rfl, hk9, hs9, hf9, ⟨a1, ho9, hv9⟩, hm9⟩ := hq9
  refine qa_nx (pc' := 1956) (kc' := kc) (ks' := ks) (st' := [_]) rfl (by omega) (by omega) rfl ?_
  have hb9 := (hf9 b (by omega)).trans hb
  have hM9 := (hf9 (c + 277) (by omega)).trans hM0
  refine qa_istore (L' := [(0, _), (1, _), (2, _), (3, _), (4, _), (5, _), (6, _)]) (pc' := 1958) ⟨rfl, rfl⟩ rfl rfl ?_
  refine qa_aload_n (pc' := 1959) ⟨rfl, rfl⟩ rfl ?_
  refine qa_aload_n (pc' := 1960) ⟨rfl, rfl⟩ rfl ?_
  refine qa_iload (pc' := 1962) ⟨rfl, rfl⟩ rfl ?_
  refine qa_iconst (pc' := 1963) ⟨rfl, rfl⟩ ?_
  refine qa_iadd (pc' := 1964) ⟨rfl, rfl⟩ rfl ?_
  refine qa_iaload (pc' := 1965) ⟨rfl, rfl⟩ hb9 (by omega) ?_
  refine qa_aload_n (pc' := 1966) ⟨rfl, rfl⟩ rfl ?_
  refine qa_iload (pc' := 1968) ⟨rfl, rfl⟩ rfl ?_
  refine qa_iconst (pc' := 1969) ⟨rfl, rfl⟩ ?_
  refine qa_iadd (pc' := 1970) ⟨rfl, rfl⟩ rfl ?_
  refine qa_iaload (pc' := 1971) ⟨rfl, rfl⟩ hb9 (by omega) ?_
  refine qa_callV rfl qf_M_intervalDenominator ql_0_299 (hm9 τ9 rfl (fun _ _ _ => rfl)) hM9 rfl rfl rfl (qa_lt9 rfl) (qa_le9 rfl) (Nat.zero_le _) (Nat.zero_le _) (fun o8 τ8 hq8 => ?_)
  obtain ⟨y8, f8, rfl, hy8, hM8, hk8, he8, hf8, hI8⟩ := hq8
  refine qa_nx (pc' := 1974) (kc' := kc) (ks' := ks) (st' := [_]) rfl rfl rfl rfl ?_
  have hK8 : qK E Z b L g c (B + 13000) τ8 := ⟨hZ9.to (fun q hq => (hf8 q (by omega)).trans (hf9 q (by omega))), (hf8 b (by omega)).trans hb9, ⟨a1, (hf8 _ (by omega)).trans ho9⟩, ⟨b0, (hf8 _ (by omega)).trans ((hf9 _ (by omega)).trans hd)⟩, hI8⟩
  have ho8 := (hf8 (c + 288) (by omega)).trans ho9
  obtain ⟨w8, hw8, rfl⟩ : ∃ w : Int, qa_in w ∧ y8 = qa_i w := ⟨y8.toInt, qa_i_in y8, (qa_i_of y8).symm⟩
  refine qa_istore (L' := [(0, _), (1, _), (2, _), (3, _), (4, _), (5, _), (6, _), (7, _)]) (pc' := 1976) ⟨rfl, rfl⟩ rfl rfl ?_
  refine qa_aload_n (pc' := 1977) ⟨rfl, rfl⟩ rfl ?_
  refine qa_callV rfl qf_M_thrown ql_0_212 (c_M_thrown (E := E) hM8) hM8 rfl rfl rfl (qa_lt9 rfl) (qa_le9 rfl) (Nat.zero_le _) (Nat.zero_le _) (fun o7 τ7 hq7 => ?_)
  obtain ⟨rfl, hq7⟩ := hq7
  replace hq7 := hq7.symm; subst hq7
  rw [hk8]
  refine qa_nx (pc' := 1980) (kc' := kc) (ks' := ks) (st' := [_]) rfl rfl rfl rfl ?_
  refine qa_iload (pc' := 1982) ⟨rfl, rfl⟩ rfl ?_
  refine qa_icmp_eq (pc' := 1985) (tgt := 1987) ⟨rfl, rfl⟩ rfl (by omega) (by omega) (fun hc1 => ?_) (fun hc1 => ?_)
  · refine qa_iload (pc' := 1989) ⟨rfl, rfl⟩ rfl ?_
    refine qa_if_ne (pc' := 1992) (tgt := 2004) ⟨rfl, rfl⟩ rfl (by omega) (fun hc2 => ?_) (fun hc2 => ?_)
    · refine qa_goto (pc' := 2007) (tgt := 3722) ⟨rfl, rfl⟩ rfl ?_
      refine qa_sub (ks' := [0, 1, 2, 3, 4, 5]) (L' := [(0, _), (1, _), (2, _), (3, _), (4, _), (5, _)]) rfl ?_
      exact kk _ hK8
    · have hk0 : k9 = 0 := by omega
      have ha : a1 0 = w8 := by rw [hv9 hk0, ← hy8 hk0, qa_i_toInt hw8]
      refine qa_aload_n (pc' := 1993) ⟨rfl, rfl⟩ rfl ?_
      refine qa_iconst (pc' := 1994) ⟨rfl, rfl⟩ ?_
      refine qa_laload (pc' := 1995) ⟨rfl, rfl⟩ ho8 (by omega) ?_
      refine qa_iload (pc' := 1997) ⟨rfl, rfl⟩ rfl ?_
      refine qa_i2l (pc' := 1998) ⟨rfl, rfl⟩ hw8 ?_
      rw [ha]
      refine qa_lcmp (pc' := 1999) ⟨rfl, rfl⟩ (by omega) (by omega) ?_
      refine qa_if_eq (pc' := 2002) (tgt := 2004) ⟨rfl, rfl⟩ rfl (qa_sg_in _ _) (fun hc3 => ?_) (fun hc3 => ?_)
      · refine qa_goto (pc' := 2007) (tgt := 3722) ⟨rfl, rfl⟩ rfl ?_
        refine qa_sub (ks' := [0, 1, 2, 3, 4, 5]) (L' := [(0, _), (1, _), (2, _), (3, _), (4, _), (5, _)]) rfl ?_
        exact kk _ hK8
      · exact absurd (qa_sg_eq.mpr rfl) hc3
  · exact absurd rfl hc1
theorem w_28 (hz : qa_Sb E) (hlo : E.1 ≤ c) (hbE : b < E.1) (hg : ∀ j : Int, qa_in (g j)) (hi : 0 ≤ i ∧ i + 4 ≤ L) (hL : L ≤ 2048) (hB9 : B ≤ 800000000) (hJ : qK E Z b L g c B σ) (kk : ∀ τ : qa_S, qK E Z b L g c (B + 13000) τ → qa_W E qm_L_law Q9 kc ks 3722 [(0, .ref b), (1, .ref c), (2, .ref (c + 277)), (3, .ref (c + 288)), (4, .ref (c + 289)), (5, .int (qa_i i))] [] τ) : qa_W E qm_L_law Q9 (kc + 64) (ks + 8000) 2007 [(0, .ref b), (1, .ref c), (2, .ref (c + 277)), (3, .ref (c + 288)), (4, .ref (c + 289)), (5, .int (qa_i i))] [] σ := by
  obtain ⟨hZ9, hb, ⟨a0, ho⟩, ⟨b0, hd⟩, hI⟩ := hJ
  obtain ⟨⟨n, hc⟩, ⟨f0, hM0⟩, hsz⟩ := qI_o hI
  have hT := l_partByTuning (E := E) hlo hsz hc ho (j_partByTuning (E := E) (x := g (i + 1)) hZ9 hz hlo hI hB9 (hg _))
  refine qa_aload_n (pc' := 2008) ⟨rfl, rfl⟩ rfl ?_
  refine qa_aload_n (pc' := 2009) ⟨rfl, rfl⟩ rfl ?_
  refine qa_iload (pc' := 2011) ⟨rfl, rfl⟩ rfl ?_
  refine qa_iconst (pc' := 2012) ⟨rfl, rfl⟩ ?_
  refine qa_iadd (pc' := 2013) ⟨rfl, rfl⟩ rfl ?_
  refine qa_iaload (pc' := 2014) ⟨rfl, rfl⟩ hb (by omega) ?_
  refine qa_aload_n (pc' := 2015) ⟨rfl, rfl⟩ rfl ?_
  refine qa_callSX rfl qf_L_partByTuning rfl (qa_wj 5 26 (by decide +kernel) (by decide +kernel)) hT rfl rfl (qa_lt9 rfl) (qa_le9 rfl) (by omega) (by omega) (fun o9 τ9 hq9 => ?_)
  obtain ⟨k9, x9, rfl, hk9, hs9, hf9, ⟨a1, ho9, hv9⟩, hm9⟩ := hq9
  refine qa_nx (pc' := 2018) (kc' := kc) (ks' := ks) (st' := [_]) rfl (by omega) (by omega) rfl ?_
  have hb9 := (hf9 b (by omega)).trans hb
  have hM9 := (hf9 (c + 277) (by omega)).trans hM0
  refine qa_istore (L' := [(0, _), (1, _), (2, _), (3, _), (4, _), (5, _), (6, _)]) (pc' := 2020) ⟨rfl, rfl⟩ rfl rfl ?_
  refine qa_aload_n (pc' := 2021) ⟨rfl, rfl⟩ rfl ?_
  refine qa_aload_n (pc' := 2022) ⟨rfl, rfl⟩ rfl ?_
  refine qa_iload (pc' := 2024) ⟨rfl, rfl⟩ rfl ?_
  refine qa_iconst (pc' := 2025) ⟨rfl, rfl⟩ ?_
  refine qa_iadd (pc' := 2026) ⟨rfl, rfl⟩ rfl ?_
  refine qa_iaload (pc' := 2027) ⟨rfl, rfl⟩ hb9 (by omega) ?_
  refine qa_callV rfl qf_M_partByTuning ql_0_302 (hm9 τ9 rfl (fun _ _ _ => rfl)) hM9 rfl rfl rfl (qa_lt9 rfl) (qa_le9 rfl) (Nat.zero_le _) (Nat.zero_le _) (fun o8 τ8 hq8 => ?_)
  obtain ⟨y8, f8, rfl, hy8, hM8, hk8, he8, hf8, hI8⟩ := hq8
  refine qa_nx (pc' := 2030) (kc' := kc) (ks' := ks) (st' := [_]) rfl rfl rfl rfl ?_
  have hK8 : qK E Z b L g c (B + 13000) τ8 := ⟨hZ9.to (fun q hq => (hf8 q (by omega)).trans (hf9 q (by omega))), (hf8 b (by omega)).trans hb9, ⟨a1, (hf8 _ (by omega)).trans ho9⟩, ⟨b0, (hf8 _ (by omega)).trans ((hf9 _ (by omega)).trans hd)⟩, hI8⟩
  have ho8 := (hf8 (c + 288) (by omega)).trans ho9
  obtain ⟨w8, hw8, rfl⟩ : ∃ w : Int, qa_in w ∧ y8 = qa_i w := ⟨y8.toInt, qa_i_in y8, (qa_i_of y8).symm⟩
  refine qa_istore (L' := [(0, _), (1, _), (2, _), (3, _), (4, _), (5, _), (6, _), (7, _)]) (pc' := 2032) ⟨rfl, rfl⟩ rfl rfl ?_
  refine qa_aload_n (pc' := 2033) ⟨rfl, rfl⟩ rfl ?_
  refine qa_callV rfl qf_M_thrown ql_0_212 (c_M_thrown (E := E) hM8) hM8 rfl rfl rfl (qa_lt9 rfl) (qa_le9 rfl) (Nat.zero_le _) (Nat.zero_le _) (fun o7 τ7 hq7 => ?_)
  obtain ⟨rfl, hq7⟩ := hq7
  replace hq7 := hq7.symm; subst hq7
  rw [hk8]
  refine qa_nx (pc' := 2036) (kc' := kc) (ks' := ks) (st' := [_]) rfl rfl rfl rfl ?_
  refine qa_iload (pc' := 2038) ⟨rfl, rfl⟩ rfl ?_
  refine qa_icmp_eq (pc' := 2041) (tgt := 2043) ⟨rfl, rfl⟩ rfl (by omega) (by omega) (fun hc1 => ?_) (fun hc1 => ?_)
  · refine qa_iload (pc' := 2045) ⟨rfl, rfl⟩ rfl ?_
    refine qa_if_ne (pc' := 2048) (tgt := 2060) ⟨rfl, rfl⟩ rfl (by omega) (fun hc2 => ?_) (fun hc2 => ?_)
    · refine qa_goto (pc' := 2063) (tgt := 3722) ⟨rfl, rfl⟩ rfl ?_
      refine qa_sub (ks' := [0, 1, 2, 3, 4, 5]) (L' := [(0, _), (1, _), (2, _), (3, _), (4, _), (5, _)]) rfl ?_
      exact kk _ hK8
    · have hk0 : k9 = 0 := by omega
      have ha : a1 0 = w8 := by rw [hv9 hk0, ← hy8 hk0, qa_i_toInt hw8]
      refine qa_aload_n (pc' := 2049) ⟨rfl, rfl⟩ rfl ?_
      refine qa_iconst (pc' := 2050) ⟨rfl, rfl⟩ ?_
      refine qa_laload (pc' := 2051) ⟨rfl, rfl⟩ ho8 (by omega) ?_
      refine qa_iload (pc' := 2053) ⟨rfl, rfl⟩ rfl ?_
      refine qa_i2l (pc' := 2054) ⟨rfl, rfl⟩ hw8 ?_
      rw [ha]
      refine qa_lcmp (pc' := 2055) ⟨rfl, rfl⟩ (by omega) (by omega) ?_
      refine qa_if_eq (pc' := 2058) (tgt := 2060) ⟨rfl, rfl⟩ rfl (qa_sg_in _ _) (fun hc3 => ?_) (fun hc3 => ?_)
      · refine qa_goto (pc' := 2063) (tgt := 3722) ⟨rfl, rfl⟩ rfl ?_
        refine qa_sub (ks' := [0, 1, 2, 3, 4, 5]) (L' := [(0, _), (1, _), (2, _), (3, _), (4, _), (5, _)]) rfl ?_
        exact kk _ hK8
      · exact absurd (qa_sg_eq.mpr rfl) hc3
  · exact absurd rfl hc1
theorem w_29 (hz : qa_Sb E) (hlo : E.1 ≤ c) (hbE : b < E.1) (hg : ∀ j : Int, qa_in (g j)) (hi : 0 ≤ i ∧ i + 4 ≤ L) (hL : L ≤ 2048) (hB9 : B ≤ 800000000) (hJ : qK E Z b L g c B σ) (kk : ∀ τ : qa_S, qK E Z b L g c (B + 13000) τ → qa_W E qm_L_law Q9 kc ks 3722 [(0, .ref b), (1, .ref c), (2, .ref (c + 277)), (3, .ref (c + 288)), (4, .ref (c + 289)), (5, .int (qa_i i))] [] τ) : qa_W E qm_L_law Q9 (kc + 64) (ks + 8000) 2063 [(0, .ref b), (1, .ref c), (2, .ref (c + 277)), (3, .ref (c + 288)), (4, .ref (c + 289)), (5, .int (qa_i i))] [] σ := by
  obtain ⟨hZ9, hb, ⟨a0, ho⟩, ⟨b0, hd⟩, hI⟩ := hJ
  obtain ⟨⟨n, hc⟩, ⟨f0, hM0⟩, hsz⟩ := qI_o hI
  have hT := l_setCue (E := E) hlo hsz hc ho (j_setCue (E := E) (p := g (i + 1)) (x := g (i + 2)) hZ9 hz hlo hI hB9 (hg _) (hg _))
  refine qa_aload_n (pc' := 2064) ⟨rfl, rfl⟩ rfl ?_
  refine qa_aload_n (pc' := 2065) ⟨rfl, rfl⟩ rfl ?_
  refine qa_iload (pc' := 2067) ⟨rfl, rfl⟩ rfl ?_
  refine qa_iconst (pc' := 2068) ⟨rfl, rfl⟩ ?_
  refine qa_iadd (pc' := 2069) ⟨rfl, rfl⟩ rfl ?_
  refine qa_iaload (pc' := 2070) ⟨rfl, rfl⟩ hb (by omega) ?_
  refine qa_aload_n (pc' := 2071) ⟨rfl, rfl⟩ rfl ?_
  refine qa_iload (pc' := 2073) ⟨rfl, rfl⟩ rfl ?_
  refine qa_iconst (pc' := 2074) ⟨rfl, rfl⟩ ?_
  refine qa_iadd (pc' := 2075) ⟨rfl, rfl⟩ rfl ?_
  refine qa_iaload (pc' := 2076) ⟨rfl, rfl⟩ hb (by omega) ?_
  refine qa_aload_n (pc' := 2077) ⟨rfl, rfl⟩ rfl ?_
  refine qa_callSX rfl qf_L_setCue rfl (qa_wj 5 45 (by decide +kernel) (by decide +kernel)) hT rfl rfl (qa_lt9 rfl) (qa_le9 rfl) (by omega) (by omega) (fun o9 τ9 hq9 => ?_)
  obtain ⟨k9, x9, rfl, hk9, hs9, hf9, ⟨a1, ho9, hv9⟩, hm9⟩ := hq9
  refine qa_nx (pc' := 2080) (kc' := kc) (ks' := ks) (st' := [_]) rfl (by omega) (by omega) rfl ?_
  have hb9 := (hf9 b (by omega)).trans hb
  have hM9 := (hf9 (c + 277) (by omega)).trans hM0
  refine qa_istore (L' := [(0, _), (1, _), (2, _), (3, _), (4, _), (5, _), (6, _)]) (pc' := 2082) ⟨rfl, rfl⟩ rfl rfl ?_
  refine qa_aload_n (pc' := 2083) ⟨rfl, rfl⟩ rfl ?_
  refine qa_aload_n (pc' := 2084) ⟨rfl, rfl⟩ rfl ?_
  refine qa_iload (pc' := 2086) ⟨rfl, rfl⟩ rfl ?_
  refine qa_iconst (pc' := 2087) ⟨rfl, rfl⟩ ?_
  refine qa_iadd (pc' := 2088) ⟨rfl, rfl⟩ rfl ?_
  refine qa_iaload (pc' := 2089) ⟨rfl, rfl⟩ hb9 (by omega) ?_
  refine qa_aload_n (pc' := 2090) ⟨rfl, rfl⟩ rfl ?_
  refine qa_iload (pc' := 2092) ⟨rfl, rfl⟩ rfl ?_
  refine qa_iconst (pc' := 2093) ⟨rfl, rfl⟩ ?_
  refine qa_iadd (pc' := 2094) ⟨rfl, rfl⟩ rfl ?_
  refine qa_iaload (pc' := 2095) ⟨rfl, rfl⟩ hb9 (by omega) ?_
  refine qa_callV rfl qf_M_setCue ql_0_305 (hm9 τ9 rfl (fun _ _ _ => rfl)) hM9 rfl rfl rfl (qa_lt9 rfl) (qa_le9 rfl) (Nat.zero_le _) (Nat.zero_le _) (fun o8 τ8 hq8 => ?_)
  obtain ⟨y8, f8, rfl, hy8, hM8, hk8, he8, hf8, hI8⟩ := hq8
  refine qa_nx (pc' := 2098) (kc' := kc) (ks' := ks) (st' := [_]) rfl rfl rfl rfl ?_
  have hK8 : qK E Z b L g c (B + 13000) τ8 := ⟨hZ9.to (fun q hq => (hf8 q (by omega)).trans (hf9 q (by omega))), (hf8 b (by omega)).trans hb9, ⟨a1, (hf8 _ (by omega)).trans ho9⟩, ⟨b0, (hf8 _ (by omega)).trans ((hf9 _ (by omega)).trans hd)⟩, hI8⟩
  have ho8 := (hf8 (c + 288) (by omega)).trans ho9
  obtain ⟨w8, hw8, rfl⟩ : ∃ w : Int, qa_in w ∧ y8 = qa_i w := ⟨y8.toInt, qa_i_in y8, (qa_i_of y8).symm⟩
  refine qa_istore (L' := [(0, _), (1, _), (2, _), (3, _), (4, _), (5, _), (6, _), (7, _)]) (pc' := 2100) ⟨rfl, rfl⟩ rfl rfl ?_
  refine qa_aload_n (pc' := 2101) ⟨rfl, rfl⟩ rfl ?_
  refine qa_callV rfl qf_M_thrown ql_0_212 (c_M_thrown (E := E) hM8) hM8 rfl rfl rfl (qa_lt9 rfl) (qa_le9 rfl) (Nat.zero_le _) (Nat.zero_le _) (fun o7 τ7 hq7 => ?_)
  obtain ⟨rfl, hq7⟩ := hq7
  replace hq7 := hq7.symm; subst hq7
  rw [hk8]
  refine qa_nx (pc' := 2104) (kc' := kc) (ks' := ks) (st' := [_]) rfl rfl rfl rfl ?_
  refine qa_iload (pc' := 2106) ⟨rfl, rfl⟩ rfl ?_
  refine qa_icmp_eq (pc' := 2109) (tgt := 2111) ⟨rfl, rfl⟩ rfl (by omega) (by omega) (fun hc1 => ?_) (fun hc1 => ?_)
  · refine qa_iload (pc' := 2113) ⟨rfl, rfl⟩ rfl ?_
    refine qa_if_ne (pc' := 2116) (tgt := 2128) ⟨rfl, rfl⟩ rfl (by omega) (fun hc2 => ?_) (fun hc2 => ?_)
    · refine qa_goto (pc' := 2131) (tgt := 3722) ⟨rfl, rfl⟩ rfl ?_
      refine qa_sub (ks' := [0, 1, 2, 3, 4, 5]) (L' := [(0, _), (1, _), (2, _), (3, _), (4, _), (5, _)]) rfl ?_
      exact kk _ hK8
    · have hk0 : k9 = 0 := by omega
      have ha : a1 0 = w8 := by rw [hv9 hk0, ← hy8 hk0, qa_i_toInt hw8]
      refine qa_aload_n (pc' := 2117) ⟨rfl, rfl⟩ rfl ?_
      refine qa_iconst (pc' := 2118) ⟨rfl, rfl⟩ ?_
      refine qa_laload (pc' := 2119) ⟨rfl, rfl⟩ ho8 (by omega) ?_
      refine qa_iload (pc' := 2121) ⟨rfl, rfl⟩ rfl ?_
      refine qa_i2l (pc' := 2122) ⟨rfl, rfl⟩ hw8 ?_
      rw [ha]
      refine qa_lcmp (pc' := 2123) ⟨rfl, rfl⟩ (by omega) (by omega) ?_
      refine qa_if_eq (pc' := 2126) (tgt := 2128) ⟨rfl, rfl⟩ rfl (qa_sg_in _ _) (fun hc3 => ?_) (fun hc3 => ?_)
      · refine qa_goto (pc' := 2131) (tgt := 3722) ⟨rfl, rfl⟩ rfl ?_
        refine qa_sub (ks' := [0, 1, 2, 3, 4, 5]) (L' := [(0, _), (1, _), (2, _), (3, _), (4, _), (5, _)]) rfl ?_
        exact kk _ hK8
      · exact absurd (qa_sg_eq.mpr rfl) hc3
  · exact absurd rfl hc1
theorem w_30 (hz : qa_Sb E) (hlo : E.1 ≤ c) (hbE : b < E.1) (hg : ∀ j : Int, qa_in (g j)) (hi : 0 ≤ i ∧ i + 4 ≤ L) (hL : L ≤ 2048) (hB9 : B ≤ 800000000) (hJ : qK E Z b L g c B σ) (kk : ∀ τ : qa_S, qK E Z b L g c (B + 13000) τ → qa_W E qm_L_law Q9 kc ks 3722 [(0, .ref b), (1, .ref c), (2, .ref (c + 277)), (3, .ref (c + 288)), (4, .ref (c + 289)), (5, .int (qa_i i))] [] τ) : qa_W E qm_L_law Q9 (kc + 64) (ks + 8000) 2131 [(0, .ref b), (1, .ref c), (2, .ref (c + 277)), (3, .ref (c + 288)), (4, .ref (c + 289)), (5, .int (qa_i i))] [] σ := by
  obtain ⟨hZ9, hb, ⟨a0, ho⟩, ⟨b0, hd⟩, hI⟩ := hJ
  obtain ⟨⟨n, hc⟩, ⟨f0, hM0⟩, hsz⟩ := qI_o hI
  have hT := l_removeCue (E := E) hlo hsz hc ho (j_removeCue (E := E) (p := g (i + 1)) hZ9 hz hlo hI hB9 (hg _))
  refine qa_aload_n (pc' := 2132) ⟨rfl, rfl⟩ rfl ?_
  refine qa_aload_n (pc' := 2133) ⟨rfl, rfl⟩ rfl ?_
  refine qa_iload (pc' := 2135) ⟨rfl, rfl⟩ rfl ?_
  refine qa_iconst (pc' := 2136) ⟨rfl, rfl⟩ ?_
  refine qa_iadd (pc' := 2137) ⟨rfl, rfl⟩ rfl ?_
  refine qa_iaload (pc' := 2138) ⟨rfl, rfl⟩ hb (by omega) ?_
  refine qa_aload_n (pc' := 2139) ⟨rfl, rfl⟩ rfl ?_
  refine qa_callSX rfl qf_L_removeCue rfl (qa_wj 5 54 (by decide +kernel) (by decide +kernel)) hT rfl rfl (qa_lt9 rfl) (qa_le9 rfl) (by omega) (by omega) (fun o9 τ9 hq9 => ?_)
  obtain ⟨k9, x9, rfl, hk9, hs9, hf9, ⟨a1, ho9, hv9⟩, hm9⟩ := hq9
  refine qa_nx (pc' := 2142) (kc' := kc) (ks' := ks) (st' := [_]) rfl (by omega) (by omega) rfl ?_
  have hb9 := (hf9 b (by omega)).trans hb
  have hM9 := (hf9 (c + 277) (by omega)).trans hM0
  refine qa_istore (L' := [(0, _), (1, _), (2, _), (3, _), (4, _), (5, _), (6, _)]) (pc' := 2144) ⟨rfl, rfl⟩ rfl rfl ?_
  refine qa_aload_n (pc' := 2145) ⟨rfl, rfl⟩ rfl ?_
  refine qa_aload_n (pc' := 2146) ⟨rfl, rfl⟩ rfl ?_
  refine qa_iload (pc' := 2148) ⟨rfl, rfl⟩ rfl ?_
  refine qa_iconst (pc' := 2149) ⟨rfl, rfl⟩ ?_
  refine qa_iadd (pc' := 2150) ⟨rfl, rfl⟩ rfl ?_
  refine qa_iaload (pc' := 2151) ⟨rfl, rfl⟩ hb9 (by omega) ?_
  refine qa_callV rfl qf_M_removeCue ql_0_308 (hm9 τ9 rfl (fun _ _ _ => rfl)) hM9 rfl rfl rfl (qa_lt9 rfl) (qa_le9 rfl) (Nat.zero_le _) (Nat.zero_le _) (fun o8 τ8 hq8 => ?_)
  obtain ⟨y8, f8, rfl, hy8, hM8, hk8, he8, hf8, hI8⟩ := hq8
  refine qa_nx (pc' := 2154) (kc' := kc) (ks' := ks) (st' := [_]) rfl rfl rfl rfl ?_
  have hK8 : qK E Z b L g c (B + 13000) τ8 := ⟨hZ9.to (fun q hq => (hf8 q (by omega)).trans (hf9 q (by omega))), (hf8 b (by omega)).trans hb9, ⟨a1, (hf8 _ (by omega)).trans ho9⟩, ⟨b0, (hf8 _ (by omega)).trans ((hf9 _ (by omega)).trans hd)⟩, hI8⟩
  have ho8 := (hf8 (c + 288) (by omega)).trans ho9
  obtain ⟨w8, hw8, rfl⟩ : ∃ w : Int, qa_in w ∧ y8 = qa_i w := ⟨y8.toInt, qa_i_in y8, (qa_i_of y8).symm⟩
  refine qa_istore (L' := [(0, _), (1, _), (2, _), (3, _), (4, _), (5, _), (6, _), (7, _)]) (pc' := 2156) ⟨rfl, rfl⟩ rfl rfl ?_
  refine qa_aload_n (pc' := 2157) ⟨rfl, rfl⟩ rfl ?_
  refine qa_callV rfl qf_M_thrown ql_0_212 (c_M_thrown (E := E) hM8) hM8 rfl rfl rfl (qa_lt9 rfl) (qa_le9 rfl) (Nat.zero_le _) (Nat.zero_le _) (fun o7 τ7 hq7 => ?_)
  obtain ⟨rfl, hq7⟩ := hq7
  replace hq7 := hq7.symm; subst hq7
  rw [hk8]
  refine qa_nx (pc' := 2160) (kc' := kc) (ks' := ks) (st' := [_]) rfl rfl rfl rfl ?_
  refine qa_iload (pc' := 2162) ⟨rfl, rfl⟩ rfl ?_
  refine qa_icmp_eq (pc' := 2165) (tgt := 2167) ⟨rfl, rfl⟩ rfl (by omega) (by omega) (fun hc1 => ?_) (fun hc1 => ?_)
  · refine qa_iload (pc' := 2169) ⟨rfl, rfl⟩ rfl ?_
    refine qa_if_ne (pc' := 2172) (tgt := 2184) ⟨rfl, rfl⟩ rfl (by omega) (fun hc2 => ?_) (fun hc2 => ?_)
    · refine qa_goto (pc' := 2187) (tgt := 3722) ⟨rfl, rfl⟩ rfl ?_
      refine qa_sub (ks' := [0, 1, 2, 3, 4, 5]) (L' := [(0, _), (1, _), (2, _), (3, _), (4, _), (5, _)]) rfl ?_
      exact kk _ hK8
    · have hk0 : k9 = 0 := by omega
      have ha : a1 0 = w8 := by rw [hv9 hk0, ← hy8 hk0, qa_i_toInt hw8]
      refine qa_aload_n (pc' := 2173) ⟨rfl, rfl⟩ rfl ?_
      refine qa_iconst (pc' := 2174) ⟨rfl, rfl⟩ ?_
      refine qa_laload (pc' := 2175) ⟨rfl, rfl⟩ ho8 (by omega) ?_
      refine qa_iload (pc' := 2177) ⟨rfl, rfl⟩ rfl ?_
      refine qa_i2l (pc' := 2178) ⟨rfl, rfl⟩ hw8 ?_
      rw [ha]
      refine qa_lcmp (pc' := 2179) ⟨rfl, rfl⟩ (by omega) (by omega) ?_
      refine qa_if_eq (pc' := 2182) (tgt := 2184) ⟨rfl, rfl⟩ rfl (qa_sg_in _ _) (fun hc3 => ?_) (fun hc3 => ?_)
      · refine qa_goto (pc' := 2187) (tgt := 3722) ⟨rfl, rfl⟩ rfl ?_
        refine qa_sub (ks' := [0, 1, 2, 3, 4, 5]) (L' := [(0, _), (1, _), (2, _), (3, _), (4, _), (5, _)]) rfl ?_
        exact kk _ hK8
      · exact absurd (qa_sg_eq.mpr rfl) hc3
  · exact absurd rfl hc1
theorem w_31 (hz : qa_Sb E) (hlo : E.1 ≤ c) (hbE : b < E.1) (hg : ∀ j : Int, qa_in (g j)) (hi : 0 ≤ i ∧ i + 4 ≤ L) (hL : L ≤ 2048) (hB9 : B ≤ 800000000) (hJ : qK E Z b L g c B σ) (kk : ∀ τ : qa_S, qK E Z b L g c (B + 13000) τ → qa_W E qm_L_law Q9 kc ks 3722 [(0, .ref b), (1, .ref c), (2, .ref (c + 277)), (3, .ref (c + 288)), (4, .ref (c + 289)), (5, .int (qa_i i))] [] τ) : qa_W E qm_L_law Q9 (kc + 64) (ks + 8000) 2187 [(0, .ref b), (1, .ref c), (2, .ref (c + 277)), (3, .ref (c + 288)), (4, .ref (c + 289)), (5, .int (qa_i i))] [] σ := by
  obtain ⟨hZ9, hb, ⟨a0, ho⟩, ⟨b0, hd⟩, hI⟩ := hJ
  obtain ⟨⟨n, hc⟩, ⟨f0, hM0⟩, hsz⟩ := qI_o hI
  have hT := l_cueOf (E := E) hlo hsz hc ho (j_cueOf (E := E) (p := g (i + 1)) hZ9 hz hlo hI hB9 (hg _))
  refine qa_aload_n (pc' := 2188) ⟨rfl, rfl⟩ rfl ?_
  refine qa_aload_n (pc' := 2189) ⟨rfl, rfl⟩ rfl ?_
  refine qa_iload (pc' := 2191) ⟨rfl, rfl⟩ rfl ?_
  refine qa_iconst (pc' := 2192) ⟨rfl, rfl⟩ ?_
  refine qa_iadd (pc' := 2193) ⟨rfl, rfl⟩ rfl ?_
  refine qa_iaload (pc' := 2194) ⟨rfl, rfl⟩ hb (by omega) ?_
  refine qa_aload_n (pc' := 2195) ⟨rfl, rfl⟩ rfl ?_
  refine qa_callSX rfl qf_L_cueOf rfl (qa_wj 5 63 (by decide +kernel) (by decide +kernel)) hT rfl rfl (qa_lt9 rfl) (qa_le9 rfl) (by omega) (by omega) (fun o9 τ9 hq9 => ?_)
  obtain ⟨k9, x9, rfl, hk9, hs9, hf9, ⟨a1, ho9, hv9⟩, hm9⟩ := hq9
  refine qa_nx (pc' := 2198) (kc' := kc) (ks' := ks) (st' := [_]) rfl (by omega) (by omega) rfl ?_
  have hb9 := (hf9 b (by omega)).trans hb
  have hM9 := (hf9 (c + 277) (by omega)).trans hM0
  refine qa_istore (L' := [(0, _), (1, _), (2, _), (3, _), (4, _), (5, _), (6, _)]) (pc' := 2200) ⟨rfl, rfl⟩ rfl rfl ?_
  refine qa_aload_n (pc' := 2201) ⟨rfl, rfl⟩ rfl ?_
  refine qa_aload_n (pc' := 2202) ⟨rfl, rfl⟩ rfl ?_
  refine qa_iload (pc' := 2204) ⟨rfl, rfl⟩ rfl ?_
  refine qa_iconst (pc' := 2205) ⟨rfl, rfl⟩ ?_
  refine qa_iadd (pc' := 2206) ⟨rfl, rfl⟩ rfl ?_
  refine qa_iaload (pc' := 2207) ⟨rfl, rfl⟩ hb9 (by omega) ?_
  refine qa_callV rfl qf_M_cueOf ql_0_311 (hm9 τ9 rfl (fun _ _ _ => rfl)) hM9 rfl rfl rfl (qa_lt9 rfl) (qa_le9 rfl) (Nat.zero_le _) (Nat.zero_le _) (fun o8 τ8 hq8 => ?_)
  obtain ⟨y8, f8, rfl, hy8, hM8, hk8, he8, hf8, hI8⟩ := hq8
  refine qa_nx (pc' := 2210) (kc' := kc) (ks' := ks) (st' := [_]) rfl rfl rfl rfl ?_
  have hK8 : qK E Z b L g c (B + 13000) τ8 := ⟨hZ9.to (fun q hq => (hf8 q (by omega)).trans (hf9 q (by omega))), (hf8 b (by omega)).trans hb9, ⟨a1, (hf8 _ (by omega)).trans ho9⟩, ⟨b0, (hf8 _ (by omega)).trans ((hf9 _ (by omega)).trans hd)⟩, hI8⟩
  have ho8 := (hf8 (c + 288) (by omega)).trans ho9
  obtain ⟨w8, hw8, rfl⟩ : ∃ w : Int, qa_in w ∧ y8 = qa_i w := ⟨y8.toInt, qa_i_in y8, (qa_i_of y8).symm⟩
  refine qa_istore (L' := [(0, _), (1, _), (2, _), (3, _), (4, _), (5, _), (6, _), (7, _)]) (pc' := 2212) ⟨rfl, rfl⟩ rfl rfl ?_
  refine qa_aload_n (pc' := 2213) ⟨rfl, rfl⟩ rfl ?_
  refine qa_callV rfl qf_M_thrown ql_0_212 (c_M_thrown (E := E) hM8) hM8 rfl rfl rfl (qa_lt9 rfl) (qa_le9 rfl) (Nat.zero_le _) (Nat.zero_le _) (fun o7 τ7 hq7 => ?_)
  obtain ⟨rfl, hq7⟩ := hq7
  replace hq7 := hq7.symm; subst hq7
  rw [hk8]
  refine qa_nx (pc' := 2216) (kc' := kc) (ks' := ks) (st' := [_]) rfl rfl rfl rfl ?_
  refine qa_iload (pc' := 2218) ⟨rfl, rfl⟩ rfl ?_
  refine qa_icmp_eq (pc' := 2221) (tgt := 2223) ⟨rfl, rfl⟩ rfl (by omega) (by omega) (fun hc1 => ?_) (fun hc1 => ?_)
  · refine qa_iload (pc' := 2225) ⟨rfl, rfl⟩ rfl ?_
    refine qa_if_ne (pc' := 2228) (tgt := 2240) ⟨rfl, rfl⟩ rfl (by omega) (fun hc2 => ?_) (fun hc2 => ?_)
    · refine qa_goto (pc' := 2243) (tgt := 3722) ⟨rfl, rfl⟩ rfl ?_
      refine qa_sub (ks' := [0, 1, 2, 3, 4, 5]) (L' := [(0, _), (1, _), (2, _), (3, _), (4, _), (5, _)]) rfl ?_
      exact kk _ hK8
    · have hk0 : k9 = 0 := by omega
      have ha : a1 0 = w8 := by rw [hv9 hk0, ← hy8 hk0, qa_i_toInt hw8]
      refine qa_aload_n (pc' := 2229) ⟨rfl, rfl⟩ rfl ?_
      refine qa_iconst (pc' := 2230) ⟨rfl, rfl⟩ ?_
      refine qa_laload (pc' := 2231) ⟨rfl, rfl⟩ ho8 (by omega) ?_
      refine qa_iload (pc' := 2233) ⟨rfl, rfl⟩ rfl ?_
      refine qa_i2l (pc' := 2234) ⟨rfl, rfl⟩ hw8 ?_
      rw [ha]
      refine qa_lcmp (pc' := 2235) ⟨rfl, rfl⟩ (by omega) (by omega) ?_
      refine qa_if_eq (pc' := 2238) (tgt := 2240) ⟨rfl, rfl⟩ rfl (qa_sg_in _ _) (fun hc3 => ?_) (fun hc3 => ?_)
      · refine qa_goto (pc' := 2243) (tgt := 3722) ⟨rfl, rfl⟩ rfl ?_
        refine qa_sub (ks' := [0, 1, 2, 3, 4, 5]) (L' := [(0, _), (1, _), (2, _), (3, _), (4, _), (5, _)]) rfl ?_
        exact kk _ hK8
      · exact absurd (qa_sg_eq.mpr rfl) hc3
  · exact absurd rfl hc1
end WC
