/-! the law's cases -/
theorem qa_W.less {E : qa_V} {M : qa_M} {Q : qa_O → qa_S → Prop} {kc ks kc' ks' pc : Nat} {L : qa_L} {st : List Value} {σ : qa_S} (h1 : kc' ≤ kc) (h2 : ks' ≤ ks) (k : qa_W E M Q kc' ks' pc L st σ) : qa_W E M Q kc ks pc L st σ := by
  intro G p l e R s m args below meth c H locs cells slots ls ok C hR hS hL hc hs
  exact k G p l e R s m args below meth c H locs cells slots ls ok C hR hS hL (by omega) (by omega)
/-- what holds at the head of the law's loop -/
def qK (E : qa_V) (Z : Nat → Nat) (b L : Nat) (g : Int → Int) (c : Nat) (B : Int) (σ : qa_S) : Prop := qa_St E Z σ.1 ∧ σ.1 b = some (qa_ia L g) ∧ (∃ a : Int → Int, σ.1 (c + 288) = some (qa_la 1 a)) ∧ (∃ a : Int → UInt64, σ.1 (c + 289) = some (qa_da 1 a)) ∧ qI c Z B σ
theorem qI_o {c : Nat} {Z : Nat → Nat} {B : Int} {σ : qa_S} (h : qI c Z B σ) : (∃ n : Nat → Int, σ.1 c = some (qa_CoF c n)) ∧ (∃ f : Nat → Int, σ.1 (c + 277) = some (qa_MoF (c + 277) f)) ∧ c + 290 ≤ σ.2 := by
  obtain ⟨vi, vo, m, msn, mh, sp, ct, t, u, cs, n, f, sv, ps, ip, li, I⟩ := h
  exact ⟨⟨n, I.1.1.1⟩, ⟨f, I.2.1.1.1⟩, I.2.2.1.1⟩
theorem qa_c16 (x : Int32) : ∃ z : Int, (0 ≤ z ∧ z ≤ 65535) ∧ (x.toUInt32 % 65536).toInt32 = qa_i z := by
  refine ⟨((x.toUInt32 % 65536).toNat : Int), ?_, ?_⟩
  · have h : (x.toUInt32 % 65536).toNat = x.toUInt32.toNat % 65536 := UInt32.toNat_mod _ _
    omega
  · apply Int32.toInt_inj.mp
    unfold qa_i
    rw [Int32.toInt_ofInt]
    exact BitVec.toInt_eq_toNat_bmod _
theorem qa_cmp0 (op : CmpOp) : Op.cmpValue (some .eq) op = qa_i 0 := by cases op <;> rfl
section WC
variable {E : qa_V} {Z : Nat → Nat} {b L c kc ks : Nat} {g : Int → Int} {i B : Int} {σ : qa_S} {Q9 : qa_O → qa_S → Prop}
theorem w_0 (hz : qa_Sb E) (hlo : E.1 ≤ c) (hbE : b < E.1) (hg : ∀ j : Int, qa_in (g j)) (hi : 0 ≤ i ∧ i + 4 ≤ L) (hL : L ≤ 2048) (hB9 : B ≤ 800000000) (hJ : qK E Z b L g c B σ) (kk : ∀ τ : qa_S, qK E Z b L g c (B + 13000) τ → qa_W E qm_L_law Q9 kc ks 3722 [(0, .ref b), (1, .ref c), (2, .ref (c + 277)), (3, .ref (c + 288)), (4, .ref (c + 289)), (5, .int (qa_i i))] [] τ) : qa_W E qm_L_law Q9 (kc + 64) (ks + 8000) 308 [(0, .ref b), (1, .ref c), (2, .ref (c + 277)), (3, .ref (c + 288)), (4, .ref (c + 289)), (5, .int (qa_i i))] [] σ := by
  obtain ⟨hZ9, hb, ⟨a0, ho⟩, ⟨b0, hd⟩, hI⟩ := hJ
  obtain ⟨⟨n, hc⟩, ⟨f0, hM0⟩, hsz⟩ := qI_o hI
  have hT := l_addPart (E := E) hlo hsz hc ho (j_addPart (E := E) hZ9 hz hlo hI hB9)
  refine qa_aload_n (pc' := 309) ⟨rfl, rfl⟩ rfl ?_
  refine qa_aload_n (pc' := 310) ⟨rfl, rfl⟩ rfl ?_
  refine qa_callSX rfl qf_L_addPart rfl (qa_wj 2 228 (by decide +kernel) (by decide +kernel)) hT rfl rfl (qa_lt9 rfl) (qa_le9 rfl) (by omega) (by omega) (fun o9 τ9 hq9 => ?_)
  obtain ⟨k9, x9, rfl, hk9, hs9, hf9, ⟨a1, ho9, hv9⟩, hm9⟩ := hq9
  refine qa_nx (pc' := 313) (kc' := kc) (ks' := ks) (st' := [_]) rfl (by omega) (by omega) rfl ?_
  have hb9 := (hf9 b (by omega)).trans hb
  have hM9 := (hf9 (c + 277) (by omega)).trans hM0
  refine qa_istore (L' := [(0, _), (1, _), (2, _), (3, _), (4, _), (5, _), (6, _)]) (pc' := 315) ⟨rfl, rfl⟩ rfl rfl ?_
  refine qa_aload_n (pc' := 316) ⟨rfl, rfl⟩ rfl ?_
  refine qa_callV rfl qf_M_addPart ql_0_211 (hm9 τ9 rfl (fun _ _ _ => rfl)) hM9 rfl rfl rfl (qa_lt9 rfl) (qa_le9 rfl) (Nat.zero_le _) (Nat.zero_le _) (fun o8 τ8 hq8 => ?_)
  obtain ⟨y8, f8, rfl, hy8, hM8, hk8, he8, hf8, hI8⟩ := hq8
  refine qa_nx (pc' := 319) (kc' := kc) (ks' := ks) (st' := [_]) rfl rfl rfl rfl ?_
  have hK8 : qK E Z b L g c (B + 13000) τ8 := ⟨hZ9.to (fun q hq => (hf8 q (by omega)).trans (hf9 q (by omega))), (hf8 b (by omega)).trans hb9, ⟨a1, (hf8 _ (by omega)).trans ho9⟩, ⟨b0, (hf8 _ (by omega)).trans ((hf9 _ (by omega)).trans hd)⟩, hI8⟩
  have ho8 := (hf8 (c + 288) (by omega)).trans ho9
  obtain ⟨w8, hw8, rfl⟩ : ∃ w : Int, qa_in w ∧ y8 = qa_i w := ⟨y8.toInt, qa_i_in y8, (qa_i_of y8).symm⟩
  refine qa_istore (L' := [(0, _), (1, _), (2, _), (3, _), (4, _), (5, _), (6, _), (7, _)]) (pc' := 321) ⟨rfl, rfl⟩ rfl rfl ?_
  refine qa_aload_n (pc' := 322) ⟨rfl, rfl⟩ rfl ?_
  refine qa_callV rfl qf_M_thrown ql_0_212 (c_M_thrown (E := E) hM8) hM8 rfl rfl rfl (qa_lt9 rfl) (qa_le9 rfl) (Nat.zero_le _) (Nat.zero_le _) (fun o7 τ7 hq7 => ?_)
  obtain ⟨rfl, hq7⟩ := hq7
  replace hq7 := hq7.symm; subst hq7
  rw [hk8]
  refine qa_nx (pc' := 325) (kc' := kc) (ks' := ks) (st' := [_]) rfl rfl rfl rfl ?_
  refine qa_iload (pc' := 327) ⟨rfl, rfl⟩ rfl ?_
  refine qa_icmp_eq (pc' := 330) (tgt := 332) ⟨rfl, rfl⟩ rfl (by omega) (by omega) (fun hc1 => ?_) (fun hc1 => ?_)
  · refine qa_iload (pc' := 334) ⟨rfl, rfl⟩ rfl ?_
    refine qa_if_ne (pc' := 337) (tgt := 349) ⟨rfl, rfl⟩ rfl (by omega) (fun hc2 => ?_) (fun hc2 => ?_)
    · refine qa_goto (pc' := 352) (tgt := 3722) ⟨rfl, rfl⟩ rfl ?_
      refine qa_sub (ks' := [0, 1, 2, 3, 4, 5]) (L' := [(0, _), (1, _), (2, _), (3, _), (4, _), (5, _)]) rfl ?_
      exact kk _ hK8
    · have hk0 : k9 = 0 := by omega
      have ha : a1 0 = w8 := by rw [hv9 hk0, ← hy8 hk0, qa_i_toInt hw8]
      refine qa_aload_n (pc' := 338) ⟨rfl, rfl⟩ rfl ?_
      refine qa_iconst (pc' := 339) ⟨rfl, rfl⟩ ?_
      refine qa_laload (pc' := 340) ⟨rfl, rfl⟩ ho8 (by omega) ?_
      refine qa_iload (pc' := 342) ⟨rfl, rfl⟩ rfl ?_
      refine qa_i2l (pc' := 343) ⟨rfl, rfl⟩ hw8 ?_
      rw [ha]
      refine qa_lcmp (pc' := 344) ⟨rfl, rfl⟩ (by omega) (by omega) ?_
      refine qa_if_eq (pc' := 347) (tgt := 349) ⟨rfl, rfl⟩ rfl (qa_sg_in _ _) (fun hc3 => ?_) (fun hc3 => ?_)
      · refine qa_goto (pc' := 352) (tgt := 3722) ⟨rfl, rfl⟩ rfl ?_
        refine qa_sub (ks' := [0, 1, 2, 3, 4, 5]) (L' := [(0, _), (1, _), (2, _), (3, _), (4, _), (5, _)]) rfl ?_
        exact kk _ hK8
      · exact absurd (qa_sg_eq.mpr rfl) hc3
  · exact absurd rfl hc1
theorem w_1 (hz : qa_Sb E) (hlo : E.1 ≤ c) (hbE : b < E.1) (hg : ∀ j : Int, qa_in (g j)) (hi : 0 ≤ i ∧ i + 4 ≤ L) (hL : L ≤ 2048) (hB9 : B ≤ 800000000) (hJ : qK E Z b L g c B σ) (kk : ∀ τ : qa_S, qK E Z b L g c (B + 13000) τ → qa_W E qm_L_law Q9 kc ks 3722 [(0, .ref b), (1, .ref c), (2, .ref (c + 277)), (3, .ref (c + 288)), (4, .ref (c + 289)), (5, .int (qa_i i))] [] τ) : qa_W E qm_L_law Q9 (kc + 64) (ks + 8000) 352 [(0, .ref b), (1, .ref c), (2, .ref (c + 277)), (3, .ref (c + 288)), (4, .ref (c + 289)), (5, .int (qa_i i))] [] σ := by
  obtain ⟨hZ9, hb, ⟨a0, ho⟩, ⟨b0, hd⟩, hI⟩ := hJ
  obtain ⟨⟨n, hc⟩, ⟨f0, hM0⟩, hsz⟩ := qI_o hI
  have hT := l_addNote (E := E) hlo hsz hc ho (j_addNote (E := E) (p := g (i + 1)) (x := g (i + 2)) (y := g (i + 3)) hZ9 hz hlo hI hB9 (hg _) (hg _) (hg _))
  refine qa_aload_n (pc' := 353) ⟨rfl, rfl⟩ rfl ?_
  refine qa_aload_n (pc' := 354) ⟨rfl, rfl⟩ rfl ?_
  refine qa_iload (pc' := 356) ⟨rfl, rfl⟩ rfl ?_
  refine qa_iconst (pc' := 357) ⟨rfl, rfl⟩ ?_
  refine qa_iadd (pc' := 358) ⟨rfl, rfl⟩ rfl ?_
  refine qa_iaload (pc' := 359) ⟨rfl, rfl⟩ hb (by omega) ?_
  refine qa_aload_n (pc' := 360) ⟨rfl, rfl⟩ rfl ?_
  refine qa_iload (pc' := 362) ⟨rfl, rfl⟩ rfl ?_
  refine qa_iconst (pc' := 363) ⟨rfl, rfl⟩ ?_
  refine qa_iadd (pc' := 364) ⟨rfl, rfl⟩ rfl ?_
  refine qa_iaload (pc' := 365) ⟨rfl, rfl⟩ hb (by omega) ?_
  refine qa_aload_n (pc' := 366) ⟨rfl, rfl⟩ rfl ?_
  refine qa_iload (pc' := 368) ⟨rfl, rfl⟩ rfl ?_
  refine qa_iconst (pc' := 369) ⟨rfl, rfl⟩ ?_
  refine qa_iadd (pc' := 370) ⟨rfl, rfl⟩ rfl ?_
  refine qa_iaload (pc' := 371) ⟨rfl, rfl⟩ hb (by omega) ?_
  refine qa_aload_n (pc' := 372) ⟨rfl, rfl⟩ rfl ?_
  refine qa_callSX rfl qf_L_addNote rfl (qa_wj 3 236 (by decide +kernel) (by decide +kernel)) hT rfl rfl (qa_lt9 rfl) (qa_le9 rfl) (by omega) (by omega) (fun o9 τ9 hq9 => ?_)
  obtain ⟨k9, x9, rfl, hk9, hs9, hf9, ⟨a1, ho9, hv9⟩, hm9⟩ := hq9
  refine qa_nx (pc' := 375) (kc' := kc) (ks' := ks) (st' := [_]) rfl (by omega) (by omega) rfl ?_
  have hb9 := (hf9 b (by omega)).trans hb
  have hM9 := (hf9 (c + 277) (by omega)).trans hM0
  refine qa_istore (L' := [(0, _), (1, _), (2, _), (3, _), (4, _), (5, _), (6, _)]) (pc' := 377) ⟨rfl, rfl⟩ rfl rfl ?_
  refine qa_aload_n (pc' := 378) ⟨rfl, rfl⟩ rfl ?_
  refine qa_aload_n (pc' := 379) ⟨rfl, rfl⟩ rfl ?_
  refine qa_iload (pc' := 381) ⟨rfl, rfl⟩ rfl ?_
  refine qa_iconst (pc' := 382) ⟨rfl, rfl⟩ ?_
  refine qa_iadd (pc' := 383) ⟨rfl, rfl⟩ rfl ?_
  refine qa_iaload (pc' := 384) ⟨rfl, rfl⟩ hb9 (by omega) ?_
  refine qa_aload_n (pc' := 385) ⟨rfl, rfl⟩ rfl ?_
  refine qa_iload (pc' := 387) ⟨rfl, rfl⟩ rfl ?_
  refine qa_iconst (pc' := 388) ⟨rfl, rfl⟩ ?_
  refine qa_iadd (pc' := 389) ⟨rfl, rfl⟩ rfl ?_
  refine qa_iaload (pc' := 390) ⟨rfl, rfl⟩ hb9 (by omega) ?_
  refine qa_aload_n (pc' := 391) ⟨rfl, rfl⟩ rfl ?_
  refine qa_iload (pc' := 393) ⟨rfl, rfl⟩ rfl ?_
  refine qa_iconst (pc' := 394) ⟨rfl, rfl⟩ ?_
  refine qa_iadd (pc' := 395) ⟨rfl, rfl⟩ rfl ?_
  refine qa_iaload (pc' := 396) ⟨rfl, rfl⟩ hb9 (by omega) ?_
  refine qa_callV rfl qf_M_addNote ql_0_218 (hm9 τ9 rfl (fun _ _ _ => rfl)) hM9 rfl rfl rfl (qa_lt9 rfl) (qa_le9 rfl) (Nat.zero_le _) (Nat.zero_le _) (fun o8 τ8 hq8 => ?_)
  obtain ⟨y8, f8, rfl, hy8, hM8, hk8, he8, hf8, hI8⟩ := hq8
  refine qa_nx (pc' := 399) (kc' := kc) (ks' := ks) (st' := [_]) rfl rfl rfl rfl ?_
  have hK8 : qK E Z b L g c (B + 13000) τ8 := ⟨hZ9.to (fun q hq => (hf8 q (by omega)).trans (hf9 q (by omega))), (hf8 b (by omega)).trans hb9, ⟨a1, (hf8 _ (by omega)).trans ho9⟩, ⟨b0, (hf8 _ (by omega)).trans ((hf9 _ (by omega)).trans hd)⟩, hI8⟩
  have ho8 := (hf8 (c + 288) (by omega)).trans ho9
  obtain ⟨w8, hw8, rfl⟩ : ∃ w : Int, qa_in w ∧ y8 = qa_i w := ⟨y8.toInt, qa_i_in y8, (qa_i_of y8).symm⟩
  refine qa_istore (L' := [(0, _), (1, _), (2, _), (3, _), (4, _), (5, _), (6, _), (7, _)]) (pc' := 401) ⟨rfl, rfl⟩ rfl rfl ?_
  refine qa_aload_n (pc' := 402) ⟨rfl, rfl⟩ rfl ?_
  refine qa_callV rfl qf_M_thrown ql_0_212 (c_M_thrown (E := E) hM8) hM8 rfl rfl rfl (qa_lt9 rfl) (qa_le9 rfl) (Nat.zero_le _) (Nat.zero_le _) (fun o7 τ7 hq7 => ?_)
  obtain ⟨rfl, hq7⟩ := hq7
  replace hq7 := hq7.symm; subst hq7
  rw [hk8]
  refine qa_nx (pc' := 405) (kc' := kc) (ks' := ks) (st' := [_]) rfl rfl rfl rfl ?_
  refine qa_iload (pc' := 407) ⟨rfl, rfl⟩ rfl ?_
  refine qa_icmp_eq (pc' := 410) (tgt := 412) ⟨rfl, rfl⟩ rfl (by omega) (by omega) (fun hc1 => ?_) (fun hc1 => ?_)
  · refine qa_iload (pc' := 414) ⟨rfl, rfl⟩ rfl ?_
    refine qa_if_ne (pc' := 417) (tgt := 429) ⟨rfl, rfl⟩ rfl (by omega) (fun hc2 => ?_) (fun hc2 => ?_)
    · refine qa_goto (pc' := 432) (tgt := 3722) ⟨rfl, rfl⟩ rfl ?_
      refine qa_sub (ks' := [0, 1, 2, 3, 4, 5]) (L' := [(0, _), (1, _), (2, _), (3, _), (4, _), (5, _)]) rfl ?_
      exact kk _ hK8
    · have hk0 : k9 = 0 := by omega
      have ha : a1 0 = w8 := by rw [hv9 hk0, ← hy8 hk0, qa_i_toInt hw8]
      refine qa_aload_n (pc' := 418) ⟨rfl, rfl⟩ rfl ?_
      refine qa_iconst (pc' := 419) ⟨rfl, rfl⟩ ?_
      refine qa_laload (pc' := 420) ⟨rfl, rfl⟩ ho8 (by omega) ?_
      refine qa_iload (pc' := 422) ⟨rfl, rfl⟩ rfl ?_
      refine qa_i2l (pc' := 423) ⟨rfl, rfl⟩ hw8 ?_
      rw [ha]
      refine qa_lcmp (pc' := 424) ⟨rfl, rfl⟩ (by omega) (by omega) ?_
      refine qa_if_eq (pc' := 427) (tgt := 429) ⟨rfl, rfl⟩ rfl (qa_sg_in _ _) (fun hc3 => ?_) (fun hc3 => ?_)
      · refine qa_goto (pc' := 432) (tgt := 3722) ⟨rfl, rfl⟩ rfl ?_
        refine qa_sub (ks' := [0, 1, 2, 3, 4, 5]) (L' := [(0, _), (1, _), (2, _), (3, _), (4, _), (5, _)]) rfl ?_
        exact kk _ hK8
      · exact absurd (qa_sg_eq.mpr rfl) hc3
  · exact absurd rfl hc1
theorem w_2 (hz : qa_Sb E) (hlo : E.1 ≤ c) (hbE : b < E.1) (hg : ∀ j : Int, qa_in (g j)) (hi : 0 ≤ i ∧ i + 4 ≤ L) (hL : L ≤ 2048) (hB9 : B ≤ 800000000) (hJ : qK E Z b L g c B σ) (kk : ∀ τ : qa_S, qK E Z b L g c (B + 13000) τ → qa_W E qm_L_law Q9 kc ks 3722 [(0, .ref b), (1, .ref c), (2, .ref (c + 277)), (3, .ref (c + 288)), (4, .ref (c + 289)), (5, .int (qa_i i))] [] τ) : qa_W E qm_L_law Q9 (kc + 64) (ks + 8000) 432 [(0, .ref b), (1, .ref c), (2, .ref (c + 277)), (3, .ref (c + 288)), (4, .ref (c + 289)), (5, .int (qa_i i))] [] σ := by
  obtain ⟨hZ9, hb, ⟨a0, ho⟩, ⟨b0, hd⟩, hI⟩ := hJ
  obtain ⟨⟨n, hc⟩, ⟨f0, hM0⟩, hsz⟩ := qI_o hI
  have hT := l_addRest (E := E) hlo hsz hc ho (j_addRest (E := E) (p := g (i + 1)) (y := g (i + 2)) hZ9 hz hlo hI hB9 (hg _) (hg _))
  refine qa_aload_n (pc' := 433) ⟨rfl, rfl⟩ rfl ?_
  refine qa_aload_n (pc' := 434) ⟨rfl, rfl⟩ rfl ?_
  refine qa_iload (pc' := 436) ⟨rfl, rfl⟩ rfl ?_
  refine qa_iconst (pc' := 437) ⟨rfl, rfl⟩ ?_
  refine qa_iadd (pc' := 438) ⟨rfl, rfl⟩ rfl ?_
  refine qa_iaload (pc' := 439) ⟨rfl, rfl⟩ hb (by omega) ?_
  refine qa_aload_n (pc' := 440) ⟨rfl, rfl⟩ rfl ?_
  refine qa_iload (pc' := 442) ⟨rfl, rfl⟩ rfl ?_
  refine qa_iconst (pc' := 443) ⟨rfl, rfl⟩ ?_
  refine qa_iadd (pc' := 444) ⟨rfl, rfl⟩ rfl ?_
  refine qa_iaload (pc' := 445) ⟨rfl, rfl⟩ hb (by omega) ?_
  refine qa_aload_n (pc' := 446) ⟨rfl, rfl⟩ rfl ?_
  refine qa_callSX rfl qf_L_addRest rfl (qa_wj 4 27 (by decide +kernel) (by decide +kernel)) hT rfl rfl (qa_lt9 rfl) (qa_le9 rfl) (by omega) (by omega) (fun o9 τ9 hq9 => ?_)
  obtain ⟨k9, x9, rfl, hk9, hs9, hf9, ⟨a1, ho9, hv9⟩, hm9⟩ := hq9
  refine qa_nx (pc' := 449) (kc' := kc) (ks' := ks) (st' := [_]) rfl (by omega) (by omega) rfl ?_
  have hb9 := (hf9 b (by omega)).trans hb
  have hM9 := (hf9 (c + 277) (by omega)).trans hM0
  refine qa_istore (L' := [(0, _), (1, _), (2, _), (3, _), (4, _), (5, _), (6, _)]) (pc' := 451) ⟨rfl, rfl⟩ rfl rfl ?_
  refine qa_aload_n (pc' := 452) ⟨rfl, rfl⟩ rfl ?_
  refine qa_aload_n (pc' := 453) ⟨rfl, rfl⟩ rfl ?_
  refine qa_iload (pc' := 455) ⟨rfl, rfl⟩ rfl ?_
  refine qa_iconst (pc' := 456) ⟨rfl, rfl⟩ ?_
  refine qa_iadd (pc' := 457) ⟨rfl, rfl⟩ rfl ?_
  refine qa_iaload (pc' := 458) ⟨rfl, rfl⟩ hb9 (by omega) ?_
  refine qa_aload_n (pc' := 459) ⟨rfl, rfl⟩ rfl ?_
  refine qa_iload (pc' := 461) ⟨rfl, rfl⟩ rfl ?_
  refine qa_iconst (pc' := 462) ⟨rfl, rfl⟩ ?_
  refine qa_iadd (pc' := 463) ⟨rfl, rfl⟩ rfl ?_
  refine qa_iaload (pc' := 464) ⟨rfl, rfl⟩ hb9 (by omega) ?_
  refine qa_callV rfl qf_M_addRest ql_0_222 (hm9 τ9 rfl (fun _ _ _ => rfl)) hM9 rfl rfl rfl (qa_lt9 rfl) (qa_le9 rfl) (Nat.zero_le _) (Nat.zero_le _) (fun o8 τ8 hq8 => ?_)
  obtain ⟨y8, f8, rfl, hy8, hM8, hk8, he8, hf8, hI8⟩ := hq8
  refine qa_nx (pc' := 467) (kc' := kc) (ks' := ks) (st' := [_]) rfl rfl rfl rfl ?_
  have hK8 : qK E Z b L g c (B + 13000) τ8 := ⟨hZ9.to (fun q hq => (hf8 q (by omega)).trans (hf9 q (by omega))), (hf8 b (by omega)).trans hb9, ⟨a1, (hf8 _ (by omega)).trans ho9⟩, ⟨b0, (hf8 _ (by omega)).trans ((hf9 _ (by omega)).trans hd)⟩, hI8⟩
  have ho8 := (hf8 (c + 288) (by omega)).trans ho9
  obtain ⟨w8, hw8, rfl⟩ : ∃ w : Int, qa_in w ∧ y8 = qa_i w := ⟨y8.toInt, qa_i_in y8, (qa_i_of y8).symm⟩
  refine qa_istore (L' := [(0, _), (1, _), (2, _), (3, _), (4, _), (5, _), (6, _), (7, _)]) (pc' := 469) ⟨rfl, rfl⟩ rfl rfl ?_
  refine qa_aload_n (pc' := 470) ⟨rfl, rfl⟩ rfl ?_
  refine qa_callV rfl qf_M_thrown ql_0_212 (c_M_thrown (E := E) hM8) hM8 rfl rfl rfl (qa_lt9 rfl) (qa_le9 rfl) (Nat.zero_le _) (Nat.zero_le _) (fun o7 τ7 hq7 => ?_)
  obtain ⟨rfl, hq7⟩ := hq7
  replace hq7 := hq7.symm; subst hq7
  rw [hk8]
  refine qa_nx (pc' := 473) (kc' := kc) (ks' := ks) (st' := [_]) rfl rfl rfl rfl ?_
  refine qa_iload (pc' := 475) ⟨rfl, rfl⟩ rfl ?_
  refine qa_icmp_eq (pc' := 478) (tgt := 480) ⟨rfl, rfl⟩ rfl (by omega) (by omega) (fun hc1 => ?_) (fun hc1 => ?_)
  · refine qa_iload (pc' := 482) ⟨rfl, rfl⟩ rfl ?_
    refine qa_if_ne (pc' := 485) (tgt := 497) ⟨rfl, rfl⟩ rfl (by omega) (fun hc2 => ?_) (fun hc2 => ?_)
    · refine qa_goto (pc' := 500) (tgt := 3722) ⟨rfl, rfl⟩ rfl ?_
      refine qa_sub (ks' := [0, 1, 2, 3, 4, 5]) (L' := [(0, _), (1, _), (2, _), (3, _), (4, _), (5, _)]) rfl ?_
      exact kk _ hK8
    · have hk0 : k9 = 0 := by omega
      have ha : a1 0 = w8 := by rw [hv9 hk0, ← hy8 hk0, qa_i_toInt hw8]
      refine qa_aload_n (pc' := 486) ⟨rfl, rfl⟩ rfl ?_
      refine qa_iconst (pc' := 487) ⟨rfl, rfl⟩ ?_
      refine qa_laload (pc' := 488) ⟨rfl, rfl⟩ ho8 (by omega) ?_
      refine qa_iload (pc' := 490) ⟨rfl, rfl⟩ rfl ?_
      refine qa_i2l (pc' := 491) ⟨rfl, rfl⟩ hw8 ?_
      rw [ha]
      refine qa_lcmp (pc' := 492) ⟨rfl, rfl⟩ (by omega) (by omega) ?_
      refine qa_if_eq (pc' := 495) (tgt := 497) ⟨rfl, rfl⟩ rfl (qa_sg_in _ _) (fun hc3 => ?_) (fun hc3 => ?_)
      · refine qa_goto (pc' := 500) (tgt := 3722) ⟨rfl, rfl⟩ rfl ?_
        refine qa_sub (ks' := [0, 1, 2, 3, 4, 5]) (L' := [(0, _), (1, _), (2, _), (3, _), (4, _), (5, _)]) rfl ?_
        exact kk _ hK8
      · exact absurd (qa_sg_eq.mpr rfl) hc3
  · exact absurd rfl hc1
theorem w_3 (hz : qa_Sb E) (hlo : E.1 ≤ c) (hbE : b < E.1) (hg : ∀ j : Int, qa_in (g j)) (hi : 0 ≤ i ∧ i + 4 ≤ L) (hL : L ≤ 2048) (hB9 : B ≤ 800000000) (hJ : qK E Z b L g c B σ) (kk : ∀ τ : qa_S, qK E Z b L g c (B + 13000) τ → qa_W E qm_L_law Q9 kc ks 3722 [(0, .ref b), (1, .ref c), (2, .ref (c + 277)), (3, .ref (c + 288)), (4, .ref (c + 289)), (5, .int (qa_i i))] [] τ) : qa_W E qm_L_law Q9 (kc + 64) (ks + 8000) 500 [(0, .ref b), (1, .ref c), (2, .ref (c + 277)), (3, .ref (c + 288)), (4, .ref (c + 289)), (5, .int (qa_i i))] [] σ := by
  obtain ⟨hZ9, hb, ⟨a0, ho⟩, ⟨b0, hd⟩, hI⟩ := hJ
  obtain ⟨⟨n, hc⟩, ⟨f0, hM0⟩, hsz⟩ := qI_o hI
  have hT := l_removeLast (E := E) hlo hsz hc ho (j_removeLast (E := E) (p := g (i + 1)) hZ9 hz hlo hI hB9 (hg _))
  refine qa_aload_n (pc' := 501) ⟨rfl, rfl⟩ rfl ?_
  refine qa_aload_n (pc' := 502) ⟨rfl, rfl⟩ rfl ?_
  refine qa_iload (pc' := 504) ⟨rfl, rfl⟩ rfl ?_
  refine qa_iconst (pc' := 505) ⟨rfl, rfl⟩ ?_
  refine qa_iadd (pc' := 506) ⟨rfl, rfl⟩ rfl ?_
  refine qa_iaload (pc' := 507) ⟨rfl, rfl⟩ hb (by omega) ?_
  refine qa_aload_n (pc' := 508) ⟨rfl, rfl⟩ rfl ?_
  refine qa_callSX rfl qf_L_removeLast rfl (qa_wj 4 36 (by decide +kernel) (by decide +kernel)) hT rfl rfl (qa_lt9 rfl) (qa_le9 rfl) (by omega) (by omega) (fun o9 τ9 hq9 => ?_)
  obtain ⟨k9, x9, rfl, hk9, hs9, hf9, ⟨a1, ho9, hv9⟩, hm9⟩ := hq9
  refine qa_nx (pc' := 511) (kc' := kc) (ks' := ks) (st' := [_]) rfl (by omega) (by omega) rfl ?_
  have hb9 := (hf9 b (by omega)).trans hb
  have hM9 := (hf9 (c + 277) (by omega)).trans hM0
  refine qa_istore (L' := [(0, _), (1, _), (2, _), (3, _), (4, _), (5, _), (6, _)]) (pc' := 513) ⟨rfl, rfl⟩ rfl rfl ?_
  refine qa_aload_n (pc' := 514) ⟨rfl, rfl⟩ rfl ?_
  refine qa_aload_n (pc' := 515) ⟨rfl, rfl⟩ rfl ?_
  refine qa_iload (pc' := 517) ⟨rfl, rfl⟩ rfl ?_
  refine qa_iconst (pc' := 518) ⟨rfl, rfl⟩ ?_
  refine qa_iadd (pc' := 519) ⟨rfl, rfl⟩ rfl ?_
  refine qa_iaload (pc' := 520) ⟨rfl, rfl⟩ hb9 (by omega) ?_
  refine qa_callV rfl qf_M_removeLast ql_0_226 (hm9 τ9 rfl (fun _ _ _ => rfl)) hM9 rfl rfl rfl (qa_lt9 rfl) (qa_le9 rfl) (Nat.zero_le _) (Nat.zero_le _) (fun o8 τ8 hq8 => ?_)
  obtain ⟨y8, f8, rfl, hy8, hM8, hk8, he8, hf8, hI8⟩ := hq8
  refine qa_nx (pc' := 523) (kc' := kc) (ks' := ks) (st' := [_]) rfl rfl rfl rfl ?_
  have hK8 : qK E Z b L g c (B + 13000) τ8 := ⟨hZ9.to (fun q hq => (hf8 q (by omega)).trans (hf9 q (by omega))), (hf8 b (by omega)).trans hb9, ⟨a1, (hf8 _ (by omega)).trans ho9⟩, ⟨b0, (hf8 _ (by omega)).trans ((hf9 _ (by omega)).trans hd)⟩, hI8⟩
  have ho8 := (hf8 (c + 288) (by omega)).trans ho9
  obtain ⟨w8, hw8, rfl⟩ : ∃ w : Int, qa_in w ∧ y8 = qa_i w := ⟨y8.toInt, qa_i_in y8, (qa_i_of y8).symm⟩
  refine qa_istore (L' := [(0, _), (1, _), (2, _), (3, _), (4, _), (5, _), (6, _), (7, _)]) (pc' := 525) ⟨rfl, rfl⟩ rfl rfl ?_
  refine qa_aload_n (pc' := 526) ⟨rfl, rfl⟩ rfl ?_
  refine qa_callV rfl qf_M_thrown ql_0_212 (c_M_thrown (E := E) hM8) hM8 rfl rfl rfl (qa_lt9 rfl) (qa_le9 rfl) (Nat.zero_le _) (Nat.zero_le _) (fun o7 τ7 hq7 => ?_)
  obtain ⟨rfl, hq7⟩ := hq7
  replace hq7 := hq7.symm; subst hq7
  rw [hk8]
  refine qa_nx (pc' := 529) (kc' := kc) (ks' := ks) (st' := [_]) rfl rfl rfl rfl ?_
  refine qa_iload (pc' := 531) ⟨rfl, rfl⟩ rfl ?_
  refine qa_icmp_eq (pc' := 534) (tgt := 536) ⟨rfl, rfl⟩ rfl (by omega) (by omega) (fun hc1 => ?_) (fun hc1 => ?_)
  · refine qa_iload (pc' := 538) ⟨rfl, rfl⟩ rfl ?_
    refine qa_if_ne (pc' := 541) (tgt := 553) ⟨rfl, rfl⟩ rfl (by omega) (fun hc2 => ?_) (fun hc2 => ?_)
    · refine qa_goto (pc' := 556) (tgt := 3722) ⟨rfl, rfl⟩ rfl ?_
      refine qa_sub (ks' := [0, 1, 2, 3, 4, 5]) (L' := [(0, _), (1, _), (2, _), (3, _), (4, _), (5, _)]) rfl ?_
      exact kk _ hK8
    · have hk0 : k9 = 0 := by omega
      have ha : a1 0 = w8 := by rw [hv9 hk0, ← hy8 hk0, qa_i_toInt hw8]
      refine qa_aload_n (pc' := 542) ⟨rfl, rfl⟩ rfl ?_
      refine qa_iconst (pc' := 543) ⟨rfl, rfl⟩ ?_
      refine qa_laload (pc' := 544) ⟨rfl, rfl⟩ ho8 (by omega) ?_
      refine qa_iload (pc' := 546) ⟨rfl, rfl⟩ rfl ?_
      refine qa_i2l (pc' := 547) ⟨rfl, rfl⟩ hw8 ?_
      rw [ha]
      refine qa_lcmp (pc' := 548) ⟨rfl, rfl⟩ (by omega) (by omega) ?_
      refine qa_if_eq (pc' := 551) (tgt := 553) ⟨rfl, rfl⟩ rfl (qa_sg_in _ _) (fun hc3 => ?_) (fun hc3 => ?_)
      · refine qa_goto (pc' := 556) (tgt := 3722) ⟨rfl, rfl⟩ rfl ?_
        refine qa_sub (ks' := [0, 1, 2, 3, 4, 5]) (L' := [(0, _), (1, _), (2, _), (3, _), (4, _), (5, _)]) rfl ?_
        exact kk _ hK8
      · exact absurd (qa_sg_eq.mpr rfl) hc3
  · exact absurd rfl hc1
theorem w_4 (hz : qa_Sb E) (hlo : E.1 ≤ c) (hbE : b < E.1) (hg : ∀ j : Int, qa_in (g j)) (hi : 0 ≤ i ∧ i + 4 ≤ L) (hL : L ≤ 2048) (hB9 : B ≤ 800000000) (hJ : qK E Z b L g c B σ) (kk : ∀ τ : qa_S, qK E Z b L g c (B + 13000) τ → qa_W E qm_L_law Q9 kc ks 3722 [(0, .ref b), (1, .ref c), (2, .ref (c + 277)), (3, .ref (c + 288)), (4, .ref (c + 289)), (5, .int (qa_i i))] [] τ) : qa_W E qm_L_law Q9 (kc + 64) (ks + 8000) 556 [(0, .ref b), (1, .ref c), (2, .ref (c + 277)), (3, .ref (c + 288)), (4, .ref (c + 289)), (5, .int (qa_i i))] [] σ := by
  obtain ⟨hZ9, hb, ⟨a0, ho⟩, ⟨b0, hd⟩, hI⟩ := hJ
  obtain ⟨⟨n, hc⟩, ⟨f0, hM0⟩, hsz⟩ := qI_o hI
  have hT := l_transpose (E := E) hlo hsz hc ho (j_transpose (E := E) (p := g (i + 1)) (x := g (i + 2)) hZ9 hz hlo hI hB9 (hg _) (hg _))
  refine qa_aload_n (pc' := 557) ⟨rfl, rfl⟩ rfl ?_
  refine qa_aload_n (pc' := 558) ⟨rfl, rfl⟩ rfl ?_
  refine qa_iload (pc' := 560) ⟨rfl, rfl⟩ rfl ?_
  refine qa_iconst (pc' := 561) ⟨rfl, rfl⟩ ?_
  refine qa_iadd (pc' := 562) ⟨rfl, rfl⟩ rfl ?_
  refine qa_iaload (pc' := 563) ⟨rfl, rfl⟩ hb (by omega) ?_
  refine qa_aload_n (pc' := 564) ⟨rfl, rfl⟩ rfl ?_
  refine qa_iload (pc' := 566) ⟨rfl, rfl⟩ rfl ?_
  refine qa_iconst (pc' := 567) ⟨rfl, rfl⟩ ?_
  refine qa_iadd (pc' := 568) ⟨rfl, rfl⟩ rfl ?_
  refine qa_iaload (pc' := 569) ⟨rfl, rfl⟩ hb (by omega) ?_
  refine qa_aload_n (pc' := 570) ⟨rfl, rfl⟩ rfl ?_
  refine qa_callSX rfl qf_L_transpose rfl (qa_wj 4 45 (by decide +kernel) (by decide +kernel)) hT rfl rfl (qa_lt9 rfl) (qa_le9 rfl) (by omega) (by omega) (fun o9 τ9 hq9 => ?_)
  obtain ⟨k9, x9, rfl, hk9, hs9, hf9, ⟨a1, ho9, hv9⟩, hm9⟩ := hq9
  refine qa_nx (pc' := 573) (kc' := kc) (ks' := ks) (st' := [_]) rfl (by omega) (by omega) rfl ?_
  have hb9 := (hf9 b (by omega)).trans hb
  have hM9 := (hf9 (c + 277) (by omega)).trans hM0
  refine qa_istore (L' := [(0, _), (1, _), (2, _), (3, _), (4, _), (5, _), (6, _)]) (pc' := 575) ⟨rfl, rfl⟩ rfl rfl ?_
  refine qa_aload_n (pc' := 576) ⟨rfl, rfl⟩ rfl ?_
  refine qa_aload_n (pc' := 577) ⟨rfl, rfl⟩ rfl ?_
  refine qa_iload (pc' := 579) ⟨rfl, rfl⟩ rfl ?_
  refine qa_iconst (pc' := 580) ⟨rfl, rfl⟩ ?_
  refine qa_iadd (pc' := 581) ⟨rfl, rfl⟩ rfl ?_
  refine qa_iaload (pc' := 582) ⟨rfl, rfl⟩ hb9 (by omega) ?_
  refine qa_aload_n (pc' := 583) ⟨rfl, rfl⟩ rfl ?_
  refine qa_iload (pc' := 585) ⟨rfl, rfl⟩ rfl ?_
  refine qa_iconst (pc' := 586) ⟨rfl, rfl⟩ ?_
  refine qa_iadd (pc' := 587) ⟨rfl, rfl⟩ rfl ?_
  refine qa_iaload (pc' := 588) ⟨rfl, rfl⟩ hb9 (by omega) ?_
  refine qa_callV rfl qf_M_transpose ql_0_229 (hm9 τ9 rfl (fun _ _ _ => rfl)) hM9 rfl rfl rfl (qa_lt9 rfl) (qa_le9 rfl) (Nat.zero_le _) (Nat.zero_le _) (fun o8 τ8 hq8 => ?_)
  obtain ⟨y8, f8, rfl, hy8, hM8, hk8, he8, hf8, hI8⟩ := hq8
  refine qa_nx (pc' := 591) (kc' := kc) (ks' := ks) (st' := [_]) rfl rfl rfl rfl ?_
  have hK8 : qK E Z b L g c (B + 13000) τ8 := ⟨hZ9.to (fun q hq => (hf8 q (by omega)).trans (hf9 q (by omega))), (hf8 b (by omega)).trans hb9, ⟨a1, (hf8 _ (by omega)).trans ho9⟩, ⟨b0, (hf8 _ (by omega)).trans ((hf9 _ (by omega)).trans hd)⟩, hI8⟩
  have ho8 := (hf8 (c + 288) (by omega)).trans ho9
  obtain ⟨w8, hw8, rfl⟩ : ∃ w : Int, qa_in w ∧ y8 = qa_i w := ⟨y8.toInt, qa_i_in y8, (qa_i_of y8).symm⟩
  refine qa_istore (L' := [(0, _), (1, _), (2, _), (3, _), (4, _), (5, _), (6, _), (7, _)]) (pc' := 593) ⟨rfl, rfl⟩ rfl rfl ?_
  refine qa_aload_n (pc' := 594) ⟨rfl, rfl⟩ rfl ?_
  refine qa_callV rfl qf_M_thrown ql_0_212 (c_M_thrown (E := E) hM8) hM8 rfl rfl rfl (qa_lt9 rfl) (qa_le9 rfl) (Nat.zero_le _) (Nat.zero_le _) (fun o7 τ7 hq7 => ?_)
  obtain ⟨rfl, hq7⟩ := hq7
  replace hq7 := hq7.symm; subst hq7
  rw [hk8]
  refine qa_nx (pc' := 597) (kc' := kc) (ks' := ks) (st' := [_]) rfl rfl rfl rfl ?_
  refine qa_iload (pc' := 599) ⟨rfl, rfl⟩ rfl ?_
  refine qa_icmp_eq (pc' := 602) (tgt := 604) ⟨rfl, rfl⟩ rfl (by omega) (by omega) (fun hc1 => ?_) (fun hc1 => ?_)
  · refine qa_iload (pc' := 606) ⟨rfl, rfl⟩ rfl ?_
    refine qa_if_ne (pc' := 609) (tgt := 621) ⟨rfl, rfl⟩ rfl (by omega) (fun hc2 => ?_) (fun hc2 => ?_)
    · refine qa_goto (pc' := 624) (tgt := 3722) ⟨rfl, rfl⟩ rfl ?_
      refine qa_sub (ks' := [0, 1, 2, 3, 4, 5]) (L' := [(0, _), (1, _), (2, _), (3, _), (4, _), (5, _)]) rfl ?_
      exact kk _ hK8
    · have hk0 : k9 = 0 := by omega
      have ha : a1 0 = w8 := by rw [hv9 hk0, ← hy8 hk0, qa_i_toInt hw8]
      refine qa_aload_n (pc' := 610) ⟨rfl, rfl⟩ rfl ?_
      refine qa_iconst (pc' := 611) ⟨rfl, rfl⟩ ?_
      refine qa_laload (pc' := 612) ⟨rfl, rfl⟩ ho8 (by omega) ?_
      refine qa_iload (pc' := 614) ⟨rfl, rfl⟩ rfl ?_
      refine qa_i2l (pc' := 615) ⟨rfl, rfl⟩ hw8 ?_
      rw [ha]
      refine qa_lcmp (pc' := 616) ⟨rfl, rfl⟩ (by omega) (by omega) ?_
      refine qa_if_eq (pc' := 619) (tgt := 621) ⟨rfl, rfl⟩ rfl (qa_sg_in _ _) (fun hc3 => ?_) (fun hc3 => ?_)
      · refine qa_goto (pc' := 624) (tgt := 3722) ⟨rfl, rfl⟩ rfl ?_
        refine qa_sub (ks' := [0, 1, 2, 3, 4, 5]) (L' := [(0, _), (1, _), (2, _), (3, _), (4, _), (5, _)]) rfl ?_
        exact kk _ hK8
      · exact absurd (qa_sg_eq.mpr rfl) hc3
  · exact absurd rfl hc1
theorem w_5 (hz : qa_Sb E) (hlo : E.1 ≤ c) (hbE : b < E.1) (hg : ∀ j : Int, qa_in (g j)) (hi : 0 ≤ i ∧ i + 4 ≤ L) (hL : L ≤ 2048) (hB9 : B ≤ 800000000) (hJ : qK E Z b L g c B σ) (kk : ∀ τ : qa_S, qK E Z b L g c (B + 13000) τ → qa_W E qm_L_law Q9 kc ks 3722 [(0, .ref b), (1, .ref c), (2, .ref (c + 277)), (3, .ref (c + 288)), (4, .ref (c + 289)), (5, .int (qa_i i))] [] τ) : qa_W E qm_L_law Q9 (kc + 64) (ks + 8000) 624 [(0, .ref b), (1, .ref c), (2, .ref (c + 277)), (3, .ref (c + 288)), (4, .ref (c + 289)), (5, .int (qa_i i))] [] σ := by
  obtain ⟨hZ9, hb, ⟨a0, ho⟩, ⟨b0, hd⟩, hI⟩ := hJ
  obtain ⟨⟨n, hc⟩, ⟨f0, hM0⟩, hsz⟩ := qI_o hI
  refine qa_aload_n (pc' := 625) ⟨rfl, rfl⟩ rfl ?_
  refine qa_callV rfl qf_C_partCount ql_0_230 (j_partCount (E := E) hZ9 hz hlo hI hB9) hc rfl rfl rfl (qa_lt9 rfl) (qa_le9 rfl) (by omega) (by omega) (fun o9 τ9 hq9 => ?_)
  obtain ⟨k9, x9, rfl, hk9, hs9, hf9, hm9⟩ := hq9
  obtain rfl := jk0 hk9
  rw [jo0]
  refine qa_nx (pc' := 628) (kc' := kc + 64 - 0) (ks' := ks + 8000 - 0) (st' := [_]) rfl rfl rfl rfl ?_
  have hM9 := (hf9 (c + 277) (by omega)).trans hM0
  refine qa_aload_n (pc' := 629) ⟨rfl, rfl⟩ rfl ?_
  refine qa_callV rfl qf_M_partCount ql_0_233 (hm9 τ9 rfl (fun _ _ _ => rfl)) hM9 rfl rfl rfl (qa_lt9 rfl) (qa_le9 rfl) (Nat.zero_le _) (Nat.zero_le _) (fun o8 τ8 hq8 => ?_)
  obtain ⟨y8, f8, rfl, hy8, hM8, hk8, he8, hf8, hI8⟩ := hq8
  refine qa_nx (pc' := 632) (kc' := kc + 64 - 0) (ks' := ks + 8000 - 0) (st' := [_, _]) rfl rfl rfl rfl ?_
  have hK8 : qK E Z b L g c (B + 13000) τ8 := ⟨hZ9.to (fun q hq => (hf8 q (by omega)).trans (hf9 q (by omega))), (hf8 b (by omega)).trans ((hf9 b (by omega)).trans hb), ⟨a0, (hf8 _ (by omega)).trans ((hf9 _ (by omega)).trans ho)⟩, ⟨b0, (hf8 _ (by omega)).trans ((hf9 _ (by omega)).trans hd)⟩, hI8⟩
  obtain rfl := hy8 rfl
  obtain ⟨v9, hv9, rfl⟩ : ∃ v9 : Int, qa_in v9 ∧ y8 = qa_i v9 := ⟨y8.toInt, qa_i_in y8, (qa_i_of y8).symm⟩
  refine qa_icmp_eq (pc' := 635) (tgt := 3722) ⟨rfl, rfl⟩ rfl hv9 hv9 (fun hc1 => ?_) (fun hc1 => ?_)
  · exact (kk _ hK8).less (by omega) (by omega)
  · exact absurd rfl hc1
theorem w_6 (hz : qa_Sb E) (hlo : E.1 ≤ c) (hbE : b < E.1) (hg : ∀ j : Int, qa_in (g j)) (hi : 0 ≤ i ∧ i + 4 ≤ L) (hL : L ≤ 2048) (hB9 : B ≤ 800000000) (hJ : qK E Z b L g c B σ) (kk : ∀ τ : qa_S, qK E Z b L g c (B + 13000) τ → qa_W E qm_L_law Q9 kc ks 3722 [(0, .ref b), (1, .ref c), (2, .ref (c + 277)), (3, .ref (c + 288)), (4, .ref (c + 289)), (5, .int (qa_i i))] [] τ) : qa_W E qm_L_law Q9 (kc + 64) (ks + 8000) 637 [(0, .ref b), (1, .ref c), (2, .ref (c + 277)), (3, .ref (c + 288)), (4, .ref (c + 289)), (5, .int (qa_i i))] [] σ := by
  obtain ⟨hZ9, hb, ⟨a0, ho⟩, ⟨b0, hd⟩, hI⟩ := hJ
  obtain ⟨⟨n, hc⟩, ⟨f0, hM0⟩, hsz⟩ := qI_o hI
  have hT := l_noteCount (E := E) hlo hsz hc ho (j_noteCount (E := E) (p := g (i + 1)) hZ9 hz hlo hI hB9 (hg _))
  refine qa_aload_n (pc' := 638) ⟨rfl, rfl⟩ rfl ?_
  refine qa_aload_n (pc' := 639) ⟨rfl, rfl⟩ rfl ?_
  refine qa_iload (pc' := 641) ⟨rfl, rfl⟩ rfl ?_
  refine qa_iconst (pc' := 642) ⟨rfl, rfl⟩ ?_
  refine qa_iadd (pc' := 643) ⟨rfl, rfl⟩ rfl ?_
  refine qa_iaload (pc' := 644) ⟨rfl, rfl⟩ hb (by omega) ?_
  refine qa_aload_n (pc' := 645) ⟨rfl, rfl⟩ rfl ?_
  refine qa_callSX rfl qf_L_noteCount rfl (qa_wj 4 54 (by decide +kernel) (by decide +kernel)) hT rfl rfl (qa_lt9 rfl) (qa_le9 rfl) (by omega) (by omega) (fun o9 τ9 hq9 => ?_)
  obtain ⟨k9, x9, rfl, hk9, hs9, hf9, ⟨a1, ho9, hv9⟩, hm9⟩ := hq9
  refine qa_nx (pc' := 648) (kc' := kc) (ks' := ks) (st' := [_]) rfl (by omega) (by omega) rfl ?_
  have hb9 := (hf9 b (by omega)).trans hb
  have hM9 := (hf9 (c + 277) (by omega)).trans hM0
  refine qa_istore (L' := [(0, _), (1, _), (2, _), (3, _), (4, _), (5, _), (6, _)]) (pc' := 650) ⟨rfl, rfl⟩ rfl rfl ?_
  refine qa_aload_n (pc' := 651) ⟨rfl, rfl⟩ rfl ?_
  refine qa_aload_n (pc' := 652) ⟨rfl, rfl⟩ rfl ?_
  refine qa_iload (pc' := 654) ⟨rfl, rfl⟩ rfl ?_
  refine qa_iconst (pc' := 655) ⟨rfl, rfl⟩ ?_
  refine qa_iadd (pc' := 656) ⟨rfl, rfl⟩ rfl ?_
  refine qa_iaload (pc' := 657) ⟨rfl, rfl⟩ hb9 (by omega) ?_
  refine qa_callV rfl qf_M_noteCount ql_0_236 (hm9 τ9 rfl (fun _ _ _ => rfl)) hM9 rfl rfl rfl (qa_lt9 rfl) (qa_le9 rfl) (Nat.zero_le _) (Nat.zero_le _) (fun o8 τ8 hq8 => ?_)
  obtain ⟨y8, f8, rfl, hy8, hM8, hk8, he8, hf8, hI8⟩ := hq8
  refine qa_nx (pc' := 660) (kc' := kc) (ks' := ks) (st' := [_]) rfl rfl rfl rfl ?_
  have hK8 : qK E Z b L g c (B + 13000) τ8 := ⟨hZ9.to (fun q hq => (hf8 q (by omega)).trans (hf9 q (by omega))), (hf8 b (by omega)).trans hb9, ⟨a1, (hf8 _ (by omega)).trans ho9⟩, ⟨b0, (hf8 _ (by omega)).trans ((hf9 _ (by omega)).trans hd)⟩, hI8⟩
  have ho8 := (hf8 (c + 288) (by omega)).trans ho9
  obtain ⟨w8, hw8, rfl⟩ : ∃ w : Int, qa_in w ∧ y8 = qa_i w := ⟨y8.toInt, qa_i_in y8, (qa_i_of y8).symm⟩
  refine qa_istore (L' := [(0, _), (1, _), (2, _), (3, _), (4, _), (5, _), (6, _), (7, _)]) (pc' := 662) ⟨rfl, rfl⟩ rfl rfl ?_
  refine qa_aload_n (pc' := 663) ⟨rfl, rfl⟩ rfl ?_
  refine qa_callV rfl qf_M_thrown ql_0_212 (c_M_thrown (E := E) hM8) hM8 rfl rfl rfl (qa_lt9 rfl) (qa_le9 rfl) (Nat.zero_le _) (Nat.zero_le _) (fun o7 τ7 hq7 => ?_)
  obtain ⟨rfl, hq7⟩ := hq7
  replace hq7 := hq7.symm; subst hq7
  rw [hk8]
  refine qa_nx (pc' := 666) (kc' := kc) (ks' := ks) (st' := [_]) rfl rfl rfl rfl ?_
  refine qa_iload (pc' := 668) ⟨rfl, rfl⟩ rfl ?_
  refine qa_icmp_eq (pc' := 671) (tgt := 673) ⟨rfl, rfl⟩ rfl (by omega) (by omega) (fun hc1 => ?_) (fun hc1 => ?_)
  · refine qa_iload (pc' := 675) ⟨rfl, rfl⟩ rfl ?_
    refine qa_if_ne (pc' := 678) (tgt := 690) ⟨rfl, rfl⟩ rfl (by omega) (fun hc2 => ?_) (fun hc2 => ?_)
    · refine qa_goto (pc' := 693) (tgt := 3722) ⟨rfl, rfl⟩ rfl ?_
      refine qa_sub (ks' := [0, 1, 2, 3, 4, 5]) (L' := [(0, _), (1, _), (2, _), (3, _), (4, _), (5, _)]) rfl ?_
      exact kk _ hK8
    · have hk0 : k9 = 0 := by omega
      have ha : a1 0 = w8 := by rw [hv9 hk0, ← hy8 hk0, qa_i_toInt hw8]
      refine qa_aload_n (pc' := 679) ⟨rfl, rfl⟩ rfl ?_
      refine qa_iconst (pc' := 680) ⟨rfl, rfl⟩ ?_
      refine qa_laload (pc' := 681) ⟨rfl, rfl⟩ ho8 (by omega) ?_
      refine qa_iload (pc' := 683) ⟨rfl, rfl⟩ rfl ?_
      refine qa_i2l (pc' := 684) ⟨rfl, rfl⟩ hw8 ?_
      rw [ha]
      refine qa_lcmp (pc' := 685) ⟨rfl, rfl⟩ (by omega) (by omega) ?_
      refine qa_if_eq (pc' := 688) (tgt := 690) ⟨rfl, rfl⟩ rfl (qa_sg_in _ _) (fun hc3 => ?_) (fun hc3 => ?_)
      · refine qa_goto (pc' := 693) (tgt := 3722) ⟨rfl, rfl⟩ rfl ?_
        refine qa_sub (ks' := [0, 1, 2, 3, 4, 5]) (L' := [(0, _), (1, _), (2, _), (3, _), (4, _), (5, _)]) rfl ?_
        exact kk _ hK8
      · exact absurd (qa_sg_eq.mpr rfl) hc3
  · exact absurd rfl hc1
theorem w_7 (hz : qa_Sb E) (hlo : E.1 ≤ c) (hbE : b < E.1) (hg : ∀ j : Int, qa_in (g j)) (hi : 0 ≤ i ∧ i + 4 ≤ L) (hL : L ≤ 2048) (hB9 : B ≤ 800000000) (hJ : qK E Z b L g c B σ) (kk : ∀ τ : qa_S, qK E Z b L g c (B + 13000) τ → qa_W E qm_L_law Q9 kc ks 3722 [(0, .ref b), (1, .ref c), (2, .ref (c + 277)), (3, .ref (c + 288)), (4, .ref (c + 289)), (5, .int (qa_i i))] [] τ) : qa_W E qm_L_law Q9 (kc + 64) (ks + 8000) 693 [(0, .ref b), (1, .ref c), (2, .ref (c + 277)), (3, .ref (c + 288)), (4, .ref (c + 289)), (5, .int (qa_i i))] [] σ := by
  obtain ⟨hZ9, hb, ⟨a0, ho⟩, ⟨b0, hd⟩, hI⟩ := hJ
  obtain ⟨⟨n, hc⟩, ⟨f0, hM0⟩, hsz⟩ := qI_o hI
  have hT := l_isRest (E := E) hlo hsz hc ho (j_isRest (E := E) (p := g (i + 1)) (j := g (i + 2)) hZ9 hz hlo hI hB9 (hg _) (hg _))
  refine qa_aload_n (pc' := 694) ⟨rfl, rfl⟩ rfl ?_
  refine qa_aload_n (pc' := 695) ⟨rfl, rfl⟩ rfl ?_
  refine qa_iload (pc' := 697) ⟨rfl, rfl⟩ rfl ?_
  refine qa_iconst (pc' := 698) ⟨rfl, rfl⟩ ?_
  refine qa_iadd (pc' := 699) ⟨rfl, rfl⟩ rfl ?_
  refine qa_iaload (pc' := 700) ⟨rfl, rfl⟩ hb (by omega) ?_
  refine qa_aload_n (pc' := 701) ⟨rfl, rfl⟩ rfl ?_
  refine qa_iload (pc' := 703) ⟨rfl, rfl⟩ rfl ?_
  refine qa_iconst (pc' := 704) ⟨rfl, rfl⟩ ?_
  refine qa_iadd (pc' := 705) ⟨rfl, rfl⟩ rfl ?_
  refine qa_iaload (pc' := 706) ⟨rfl, rfl⟩ hb (by omega) ?_
  refine qa_aload_n (pc' := 707) ⟨rfl, rfl⟩ rfl ?_
  refine qa_callSX rfl qf_L_isRest rfl (qa_wj 4 70 (by decide +kernel) (by decide +kernel)) hT rfl rfl (qa_lt9 rfl) (qa_le9 rfl) (by omega) (by omega) (fun o9 τ9 hq9 => ?_)
  obtain ⟨k9, x9, rfl, hk9, hs9, hf9, ⟨a1, ho9, hv9⟩, hm9⟩ := hq9
  refine qa_nx (pc' := 710) (kc' := kc) (ks' := ks) (st' := [_]) rfl (by omega) (by omega) rfl ?_
  have hb9 := (hf9 b (by omega)).trans hb
  have hM9 := (hf9 (c + 277) (by omega)).trans hM0
  refine qa_istore (L' := [(0, _), (1, _), (2, _), (3, _), (4, _), (5, _), (6, _)]) (pc' := 712) ⟨rfl, rfl⟩ rfl rfl ?_
  refine qa_aload_n (pc' := 713) ⟨rfl, rfl⟩ rfl ?_
  refine qa_aload_n (pc' := 714) ⟨rfl, rfl⟩ rfl ?_
  refine qa_iload (pc' := 716) ⟨rfl, rfl⟩ rfl ?_
  refine qa_iconst (pc' := 717) ⟨rfl, rfl⟩ ?_
  refine qa_iadd (pc' := 718) ⟨rfl, rfl⟩ rfl ?_
  refine qa_iaload (pc' := 719) ⟨rfl, rfl⟩ hb9 (by omega) ?_
  refine qa_aload_n (pc' := 720) ⟨rfl, rfl⟩ rfl ?_
  refine qa_iload (pc' := 722) ⟨rfl, rfl⟩ rfl ?_
  refine qa_iconst (pc' := 723) ⟨rfl, rfl⟩ ?_
  refine qa_iadd (pc' := 724) ⟨rfl, rfl⟩ rfl ?_
  refine qa_iaload (pc' := 725) ⟨rfl, rfl⟩ hb9 (by omega) ?_
  refine qa_callV rfl qf_M_isRest ql_0_239 (hm9 τ9 rfl (fun _ _ _ => rfl)) hM9 rfl rfl rfl (qa_lt9 rfl) (qa_le9 rfl) (Nat.zero_le _) (Nat.zero_le _) (fun o8 τ8 hq8 => ?_)
  obtain ⟨y8, f8, rfl, hy8, hM8, hk8, he8, hf8, hI8⟩ := hq8
  refine qa_nx (pc' := 728) (kc' := kc) (ks' := ks) (st' := [_]) rfl rfl rfl rfl ?_
  have hK8 : qK E Z b L g c (B + 13000) τ8 := ⟨hZ9.to (fun q hq => (hf8 q (by omega)).trans (hf9 q (by omega))), (hf8 b (by omega)).trans hb9, ⟨a1, (hf8 _ (by omega)).trans ho9⟩, ⟨b0, (hf8 _ (by omega)).trans ((hf9 _ (by omega)).trans hd)⟩, hI8⟩
  have ho8 := (hf8 (c + 288) (by omega)).trans ho9
  obtain ⟨w8, hw8, rfl⟩ : ∃ w : Int, qa_in w ∧ y8 = qa_i w := ⟨y8.toInt, qa_i_in y8, (qa_i_of y8).symm⟩
  refine qa_istore (L' := [(0, _), (1, _), (2, _), (3, _), (4, _), (5, _), (6, _), (7, _)]) (pc' := 730) ⟨rfl, rfl⟩ rfl rfl ?_
  refine qa_aload_n (pc' := 731) ⟨rfl, rfl⟩ rfl ?_
  refine qa_callV rfl qf_M_thrown ql_0_212 (c_M_thrown (E := E) hM8) hM8 rfl rfl rfl (qa_lt9 rfl) (qa_le9 rfl) (Nat.zero_le _) (Nat.zero_le _) (fun o7 τ7 hq7 => ?_)
  obtain ⟨rfl, hq7⟩ := hq7
  replace hq7 := hq7.symm; subst hq7
  rw [hk8]
  refine qa_nx (pc' := 734) (kc' := kc) (ks' := ks) (st' := [_]) rfl rfl rfl rfl ?_
  refine qa_iload (pc' := 736) ⟨rfl, rfl⟩ rfl ?_
  refine qa_icmp_eq (pc' := 739) (tgt := 741) ⟨rfl, rfl⟩ rfl (by omega) (by omega) (fun hc1 => ?_) (fun hc1 => ?_)
  · refine qa_iload (pc' := 743) ⟨rfl, rfl⟩ rfl ?_
    refine qa_if_ne (pc' := 746) (tgt := 765) ⟨rfl, rfl⟩ rfl (by omega) (fun hc2 => ?_) (fun hc2 => ?_)
    · refine qa_goto (pc' := 768) (tgt := 3722) ⟨rfl, rfl⟩ rfl ?_
      refine qa_sub (ks' := [0, 1, 2, 3, 4, 5]) (L' := [(0, _), (1, _), (2, _), (3, _), (4, _), (5, _)]) rfl ?_
      exact kk _ hK8
    · have hk0 : k9 = 0 := by omega
      have ha : a1 0 = if w8 = 0 then 0 else 1 := by rw [hv9 hk0, ← hy8 hk0]; unfold jb; rw [qa_i_toInt hw8]
      refine qa_aload_n (pc' := 747) ⟨rfl, rfl⟩ rfl ?_
      refine qa_iconst (pc' := 748) ⟨rfl, rfl⟩ ?_
      refine qa_laload (pc' := 749) ⟨rfl, rfl⟩ ho8 (by omega) ?_
      refine qa_iload (pc' := 751) ⟨rfl, rfl⟩ rfl ?_
      refine qa_if_eq (pc' := 754) (tgt := 758) ⟨rfl, rfl⟩ rfl hw8 (fun hc4 => ?_) (fun hc4 => ?_)
      · refine qa_lconst (z := 0) (pc' := 759) ⟨rfl, rfl⟩ rfl ?_
        rw [ha, if_pos hc4]
        refine qa_lcmp (pc' := 760) ⟨rfl, rfl⟩ (by omega) (by omega) ?_
        refine qa_if_eq (pc' := 763) (tgt := 765) ⟨rfl, rfl⟩ rfl (qa_sg_in _ _) (fun hc3 => ?_) (fun hc3 => ?_)
        · refine qa_goto (pc' := 768) (tgt := 3722) ⟨rfl, rfl⟩ rfl ?_
          refine qa_sub (ks' := [0, 1, 2, 3, 4, 5]) (L' := [(0, _), (1, _), (2, _), (3, _), (4, _), (5, _)]) rfl ?_
          exact kk _ hK8
        · exact absurd (qa_sg_eq.mpr rfl) hc3
      · refine qa_lconst (z := 1) (pc' := 755) ⟨rfl, rfl⟩ rfl ?_
        refine qa_goto (pc' := 758) (tgt := 759) ⟨rfl, rfl⟩ rfl ?_
        rw [ha, if_neg hc4]
        refine qa_lcmp (pc' := 760) ⟨rfl, rfl⟩ (by omega) (by omega) ?_
        refine qa_if_eq (pc' := 763) (tgt := 765) ⟨rfl, rfl⟩ rfl (qa_sg_in _ _) (fun hc3 => ?_) (fun hc3 => ?_)
        · refine qa_goto (pc' := 768) (tgt := 3722) ⟨rfl, rfl⟩ rfl ?_
          refine qa_sub (ks' := [0, 1, 2, 3, 4, 5]) (L' := [(0, _), (1, _), (2, _), (3, _), (4, _), (5, _)]) rfl ?_
          exact kk _ hK8
        · exact absurd (qa_sg_eq.mpr rfl) hc3
  · exact absurd rfl hc1
theorem w_8 (hz : qa_Sb E) (hlo : E.1 ≤ c) (hbE : b < E.1) (hg : ∀ j : Int, qa_in (g j)) (hi : 0 ≤ i ∧ i + 4 ≤ L) (hL : L ≤ 2048) (hB9 : B ≤ 800000000) (hJ : qK E Z b L g c B σ) (kk : ∀ τ : qa_S, qK E Z b L g c (B + 13000) τ → qa_W E qm_L_law Q9 kc ks 3722 [(0, .ref b), (1, .ref c), (2, .ref (c + 277)), (3, .ref (c + 288)), (4, .ref (c + 289)), (5, .int (qa_i i))] [] τ) : qa_W E qm_L_law Q9 (kc + 64) (ks + 8000) 768 [(0, .ref b), (1, .ref c), (2, .ref (c + 277)), (3, .ref (c + 288)), (4, .ref (c + 289)), (5, .int (qa_i i))] [] σ := by
  obtain ⟨hZ9, hb, ⟨a0, ho⟩, ⟨b0, hd⟩, hI⟩ := hJ
  obtain ⟨⟨n, hc⟩, ⟨f0, hM0⟩, hsz⟩ := qI_o hI
  have hT := l_pitchOf (E := E) hlo hsz hc ho (j_pitchOf (E := E) (p := g (i + 1)) (j := g (i + 2)) hZ9 hz hlo hI hB9 (hg _) (hg _))
  refine qa_aload_n (pc' := 769) ⟨rfl, rfl⟩ rfl ?_
  refine qa_aload_n (pc' := 770) ⟨rfl, rfl⟩ rfl ?_
  refine qa_iload (pc' := 772) ⟨rfl, rfl⟩ rfl ?_
  refine qa_iconst (pc' := 773) ⟨rfl, rfl⟩ ?_
  refine qa_iadd (pc' := 774) ⟨rfl, rfl⟩ rfl ?_
  refine qa_iaload (pc' := 775) ⟨rfl, rfl⟩ hb (by omega) ?_
  refine qa_aload_n (pc' := 776) ⟨rfl, rfl⟩ rfl ?_
  refine qa_iload (pc' := 778) ⟨rfl, rfl⟩ rfl ?_
  refine qa_iconst (pc' := 779) ⟨rfl, rfl⟩ ?_
  refine qa_iadd (pc' := 780) ⟨rfl, rfl⟩ rfl ?_
  refine qa_iaload (pc' := 781) ⟨rfl, rfl⟩ hb (by omega) ?_
  refine qa_aload_n (pc' := 782) ⟨rfl, rfl⟩ rfl ?_
  refine qa_callSX rfl qf_L_pitchOf rfl (qa_wj 4 82 (by decide +kernel) (by decide +kernel)) hT rfl rfl (qa_lt9 rfl) (qa_le9 rfl) (by omega) (by omega) (fun o9 τ9 hq9 => ?_)
  obtain ⟨k9, x9, rfl, hk9, hs9, hf9, ⟨a1, ho9, hv9⟩, hm9⟩ := hq9
  refine qa_nx (pc' := 785) (kc' := kc) (ks' := ks) (st' := [_]) rfl (by omega) (by omega) rfl ?_
  have hb9 := (hf9 b (by omega)).trans hb
  have hM9 := (hf9 (c + 277) (by omega)).trans hM0
  refine qa_istore (L' := [(0, _), (1, _), (2, _), (3, _), (4, _), (5, _), (6, _)]) (pc' := 787) ⟨rfl, rfl⟩ rfl rfl ?_
  refine qa_aload_n (pc' := 788) ⟨rfl, rfl⟩ rfl ?_
  refine qa_aload_n (pc' := 789) ⟨rfl, rfl⟩ rfl ?_
  refine qa_iload (pc' := 791) ⟨rfl, rfl⟩ rfl ?_
  refine qa_iconst (pc' := 792) ⟨rfl, rfl⟩ ?_
  refine qa_iadd (pc' := 793) ⟨rfl, rfl⟩ rfl ?_
  refine qa_iaload (pc' := 794) ⟨rfl, rfl⟩ hb9 (by omega) ?_
  refine qa_aload_n (pc' := 795) ⟨rfl, rfl⟩ rfl ?_
  refine qa_iload (pc' := 797) ⟨rfl, rfl⟩ rfl ?_
  refine qa_iconst (pc' := 798) ⟨rfl, rfl⟩ ?_
  refine qa_iadd (pc' := 799) ⟨rfl, rfl⟩ rfl ?_
  refine qa_iaload (pc' := 800) ⟨rfl, rfl⟩ hb9 (by omega) ?_
  refine qa_callV rfl qf_M_pitchOf ql_0_242 (hm9 τ9 rfl (fun _ _ _ => rfl)) hM9 rfl rfl rfl (qa_lt9 rfl) (qa_le9 rfl) (Nat.zero_le _) (Nat.zero_le _) (fun o8 τ8 hq8 => ?_)
  obtain ⟨y8, f8, rfl, hy8, hM8, hk8, he8, hf8, hI8⟩ := hq8
  refine qa_nx (pc' := 803) (kc' := kc) (ks' := ks) (st' := [_]) rfl rfl rfl rfl ?_
  have hK8 : qK E Z b L g c (B + 13000) τ8 := ⟨hZ9.to (fun q hq => (hf8 q (by omega)).trans (hf9 q (by omega))), (hf8 b (by omega)).trans hb9, ⟨a1, (hf8 _ (by omega)).trans ho9⟩, ⟨b0, (hf8 _ (by omega)).trans ((hf9 _ (by omega)).trans hd)⟩, hI8⟩
  have ho8 := (hf8 (c + 288) (by omega)).trans ho9
  obtain ⟨w8, hw8, rfl⟩ : ∃ w : Int, qa_in w ∧ y8 = qa_i w := ⟨y8.toInt, qa_i_in y8, (qa_i_of y8).symm⟩
  refine qa_istore (L' := [(0, _), (1, _), (2, _), (3, _), (4, _), (5, _), (6, _), (7, _)]) (pc' := 805) ⟨rfl, rfl⟩ rfl rfl ?_
  refine qa_aload_n (pc' := 806) ⟨rfl, rfl⟩ rfl ?_
  refine qa_callV rfl qf_M_thrown ql_0_212 (c_M_thrown (E := E) hM8) hM8 rfl rfl rfl (qa_lt9 rfl) (qa_le9 rfl) (Nat.zero_le _) (Nat.zero_le _) (fun o7 τ7 hq7 => ?_)
  obtain ⟨rfl, hq7⟩ := hq7
  replace hq7 := hq7.symm; subst hq7
  rw [hk8]
  refine qa_nx (pc' := 809) (kc' := kc) (ks' := ks) (st' := [_]) rfl rfl rfl rfl ?_
  refine qa_iload (pc' := 811) ⟨rfl, rfl⟩ rfl ?_
  refine qa_icmp_eq (pc' := 814) (tgt := 816) ⟨rfl, rfl⟩ rfl (by omega) (by omega) (fun hc1 => ?_) (fun hc1 => ?_)
  · refine qa_iload (pc' := 818) ⟨rfl, rfl⟩ rfl ?_
    refine qa_if_ne (pc' := 821) (tgt := 833) ⟨rfl, rfl⟩ rfl (by omega) (fun hc2 => ?_) (fun hc2 => ?_)
    · refine qa_goto (pc' := 836) (tgt := 3722) ⟨rfl, rfl⟩ rfl ?_
      refine qa_sub (ks' := [0, 1, 2, 3, 4, 5]) (L' := [(0, _), (1, _), (2, _), (3, _), (4, _), (5, _)]) rfl ?_
      exact kk _ hK8
    · have hk0 : k9 = 0 := by omega
      have ha : a1 0 = w8 := by rw [hv9 hk0, ← hy8 hk0, qa_i_toInt hw8]
      refine qa_aload_n (pc' := 822) ⟨rfl, rfl⟩ rfl ?_
      refine qa_iconst (pc' := 823) ⟨rfl, rfl⟩ ?_
      refine qa_laload (pc' := 824) ⟨rfl, rfl⟩ ho8 (by omega) ?_
      refine qa_iload (pc' := 826) ⟨rfl, rfl⟩ rfl ?_
      refine qa_i2l (pc' := 827) ⟨rfl, rfl⟩ hw8 ?_
      rw [ha]
      refine qa_lcmp (pc' := 828) ⟨rfl, rfl⟩ (by omega) (by omega) ?_
      refine qa_if_eq (pc' := 831) (tgt := 833) ⟨rfl, rfl⟩ rfl (qa_sg_in _ _) (fun hc3 => ?_) (fun hc3 => ?_)
      · refine qa_goto (pc' := 836) (tgt := 3722) ⟨rfl, rfl⟩ rfl ?_
        refine qa_sub (ks' := [0, 1, 2, 3, 4, 5]) (L' := [(0, _), (1, _), (2, _), (3, _), (4, _), (5, _)]) rfl ?_
        exact kk _ hK8
      · exact absurd (qa_sg_eq.mpr rfl) hc3
  · exact absurd rfl hc1
theorem w_9 (hz : qa_Sb E) (hlo : E.1 ≤ c) (hbE : b < E.1) (hg : ∀ j : Int, qa_in (g j)) (hi : 0 ≤ i ∧ i + 4 ≤ L) (hL : L ≤ 2048) (hB9 : B ≤ 800000000) (hJ : qK E Z b L g c B σ) (kk : ∀ τ : qa_S, qK E Z b L g c (B + 13000) τ → qa_W E qm_L_law Q9 kc ks 3722 [(0, .ref b), (1, .ref c), (2, .ref (c + 277)), (3, .ref (c + 288)), (4, .ref (c + 289)), (5, .int (qa_i i))] [] τ) : qa_W E qm_L_law Q9 (kc + 64) (ks + 8000) 836 [(0, .ref b), (1, .ref c), (2, .ref (c + 277)), (3, .ref (c + 288)), (4, .ref (c + 289)), (5, .int (qa_i i))] [] σ := by
  obtain ⟨hZ9, hb, ⟨a0, ho⟩, ⟨b0, hd⟩, hI⟩ := hJ
  obtain ⟨⟨n, hc⟩, ⟨f0, hM0⟩, hsz⟩ := qI_o hI
  have hT := l_lengthOf (E := E) hlo hsz hc ho (j_lengthOf (E := E) (p := g (i + 1)) (j := g (i + 2)) hZ9 hz hlo hI hB9 (hg _) (hg _))
  refine qa_aload_n (pc' := 837) ⟨rfl, rfl⟩ rfl ?_
  refine qa_aload_n (pc' := 838) ⟨rfl, rfl⟩ rfl ?_
  refine qa_iload (pc' := 840) ⟨rfl, rfl⟩ rfl ?_
  refine qa_iconst (pc' := 841) ⟨rfl, rfl⟩ ?_
  refine qa_iadd (pc' := 842) ⟨rfl, rfl⟩ rfl ?_
  refine qa_iaload (pc' := 843) ⟨rfl, rfl⟩ hb (by omega) ?_
  refine qa_aload_n (pc' := 844) ⟨rfl, rfl⟩ rfl ?_
  refine qa_iload (pc' := 846) ⟨rfl, rfl⟩ rfl ?_
  refine qa_iconst (pc' := 847) ⟨rfl, rfl⟩ ?_
  refine qa_iadd (pc' := 848) ⟨rfl, rfl⟩ rfl ?_
  refine qa_iaload (pc' := 849) ⟨rfl, rfl⟩ hb (by omega) ?_
  refine qa_aload_n (pc' := 850) ⟨rfl, rfl⟩ rfl ?_
  refine qa_callSX rfl qf_L_lengthOf rfl (qa_wj 4 106 (by decide +kernel) (by decide +kernel)) hT rfl rfl (qa_lt9 rfl) (qa_le9 rfl) (by omega) (by omega) (fun o9 τ9 hq9 => ?_)
  obtain ⟨k9, x9, rfl, hk9, hs9, hf9, ⟨a1, ho9, hv9⟩, hm9⟩ := hq9
  refine qa_nx (pc' := 853) (kc' := kc) (ks' := ks) (st' := [_]) rfl (by omega) (by omega) rfl ?_
  have hb9 := (hf9 b (by omega)).trans hb
  have hM9 := (hf9 (c + 277) (by omega)).trans hM0
  refine qa_istore (L' := [(0, _), (1, _), (2, _), (3, _), (4, _), (5, _), (6, _)]) (pc' := 855) ⟨rfl, rfl⟩ rfl rfl ?_
  refine qa_aload_n (pc' := 856) ⟨rfl, rfl⟩ rfl ?_
  refine qa_aload_n (pc' := 857) ⟨rfl, rfl⟩ rfl ?_
  refine qa_iload (pc' := 859) ⟨rfl, rfl⟩ rfl ?_
  refine qa_iconst (pc' := 860) ⟨rfl, rfl⟩ ?_
  refine qa_iadd (pc' := 861) ⟨rfl, rfl⟩ rfl ?_
  refine qa_iaload (pc' := 862) ⟨rfl, rfl⟩ hb9 (by omega) ?_
  refine qa_aload_n (pc' := 863) ⟨rfl, rfl⟩ rfl ?_
  refine qa_iload (pc' := 865) ⟨rfl, rfl⟩ rfl ?_
  refine qa_iconst (pc' := 866) ⟨rfl, rfl⟩ ?_
  refine qa_iadd (pc' := 867) ⟨rfl, rfl⟩ rfl ?_
  refine qa_iaload (pc' := 868) ⟨rfl, rfl⟩ hb9 (by omega) ?_
  refine qa_callV rfl qf_M_lengthOf ql_0_245 (hm9 τ9 rfl (fun _ _ _ => rfl)) hM9 rfl rfl rfl (qa_lt9 rfl) (qa_le9 rfl) (Nat.zero_le _) (Nat.zero_le _) (fun o8 τ8 hq8 => ?_)
  obtain ⟨y8, f8, rfl, hy8, hM8, hk8, he8, hf8, hI8⟩ := hq8
  refine qa_nx (pc' := 871) (kc' := kc) (ks' := ks) (st' := [_]) rfl rfl rfl rfl ?_
  have hK8 : qK E Z b L g c (B + 13000) τ8 := ⟨hZ9.to (fun q hq => (hf8 q (by omega)).trans (hf9 q (by omega))), (hf8 b (by omega)).trans hb9, ⟨a1, (hf8 _ (by omega)).trans ho9⟩, ⟨b0, (hf8 _ (by omega)).trans ((hf9 _ (by omega)).trans hd)⟩, hI8⟩
  have ho8 := (hf8 (c + 288) (by omega)).trans ho9
  obtain ⟨w8, hw8, rfl⟩ : ∃ w : Int, qa_in w ∧ y8 = qa_i w := ⟨y8.toInt, qa_i_in y8, (qa_i_of y8).symm⟩
  refine qa_istore (L' := [(0, _), (1, _), (2, _), (3, _), (4, _), (5, _), (6, _), (7, _)]) (pc' := 873) ⟨rfl, rfl⟩ rfl rfl ?_
  refine qa_aload_n (pc' := 874) ⟨rfl, rfl⟩ rfl ?_
  refine qa_callV rfl qf_M_thrown ql_0_212 (c_M_thrown (E := E) hM8) hM8 rfl rfl rfl (qa_lt9 rfl) (qa_le9 rfl) (Nat.zero_le _) (Nat.zero_le _) (fun o7 τ7 hq7 => ?_)
  obtain ⟨rfl, hq7⟩ := hq7
  replace hq7 := hq7.symm; subst hq7
  rw [hk8]
  refine qa_nx (pc' := 877) (kc' := kc) (ks' := ks) (st' := [_]) rfl rfl rfl rfl ?_
  refine qa_iload (pc' := 879) ⟨rfl, rfl⟩ rfl ?_
  refine qa_icmp_eq (pc' := 882) (tgt := 884) ⟨rfl, rfl⟩ rfl (by omega) (by omega) (fun hc1 => ?_) (fun hc1 => ?_)
  · refine qa_iload (pc' := 886) ⟨rfl, rfl⟩ rfl ?_
    refine qa_if_ne (pc' := 889) (tgt := 901) ⟨rfl, rfl⟩ rfl (by omega) (fun hc2 => ?_) (fun hc2 => ?_)
    · refine qa_goto (pc' := 904) (tgt := 3722) ⟨rfl, rfl⟩ rfl ?_
      refine qa_sub (ks' := [0, 1, 2, 3, 4, 5]) (L' := [(0, _), (1, _), (2, _), (3, _), (4, _), (5, _)]) rfl ?_
      exact kk _ hK8
    · have hk0 : k9 = 0 := by omega
      have ha : a1 0 = w8 := by rw [hv9 hk0, ← hy8 hk0, qa_i_toInt hw8]
      refine qa_aload_n (pc' := 890) ⟨rfl, rfl⟩ rfl ?_
      refine qa_iconst (pc' := 891) ⟨rfl, rfl⟩ ?_
      refine qa_laload (pc' := 892) ⟨rfl, rfl⟩ ho8 (by omega) ?_
      refine qa_iload (pc' := 894) ⟨rfl, rfl⟩ rfl ?_
      refine qa_i2l (pc' := 895) ⟨rfl, rfl⟩ hw8 ?_
      rw [ha]
      refine qa_lcmp (pc' := 896) ⟨rfl, rfl⟩ (by omega) (by omega) ?_
      refine qa_if_eq (pc' := 899) (tgt := 901) ⟨rfl, rfl⟩ rfl (qa_sg_in _ _) (fun hc3 => ?_) (fun hc3 => ?_)
      · refine qa_goto (pc' := 904) (tgt := 3722) ⟨rfl, rfl⟩ rfl ?_
        refine qa_sub (ks' := [0, 1, 2, 3, 4, 5]) (L' := [(0, _), (1, _), (2, _), (3, _), (4, _), (5, _)]) rfl ?_
        exact kk _ hK8
      · exact absurd (qa_sg_eq.mpr rfl) hc3
  · exact absurd rfl hc1
theorem w_10 (hz : qa_Sb E) (hlo : E.1 ≤ c) (hbE : b < E.1) (hg : ∀ j : Int, qa_in (g j)) (hi : 0 ≤ i ∧ i + 4 ≤ L) (hL : L ≤ 2048) (hB9 : B ≤ 800000000) (hJ : qK E Z b L g c B σ) (kk : ∀ τ : qa_S, qK E Z b L g c (B + 13000) τ → qa_W E qm_L_law Q9 kc ks 3722 [(0, .ref b), (1, .ref c), (2, .ref (c + 277)), (3, .ref (c + 288)), (4, .ref (c + 289)), (5, .int (qa_i i))] [] τ) : qa_W E qm_L_law Q9 (kc + 64) (ks + 8000) 904 [(0, .ref b), (1, .ref c), (2, .ref (c + 277)), (3, .ref (c + 288)), (4, .ref (c + 289)), (5, .int (qa_i i))] [] σ := by
  obtain ⟨hZ9, hb, ⟨a0, ho⟩, ⟨b0, hd⟩, hI⟩ := hJ
  obtain ⟨⟨n, hc⟩, ⟨f0, hM0⟩, hsz⟩ := qI_o hI
  have hT := l_partLength (E := E) hlo hsz hc ho (j_partLength (E := E) (p := g (i + 1)) hZ9 hz hlo hI hB9 (hg _))
  refine qa_aload_n (pc' := 905) ⟨rfl, rfl⟩ rfl ?_
  refine qa_aload_n (pc' := 906) ⟨rfl, rfl⟩ rfl ?_
  refine qa_iload (pc' := 908) ⟨rfl, rfl⟩ rfl ?_
  refine qa_iconst (pc' := 909) ⟨rfl, rfl⟩ ?_
  refine qa_iadd (pc' := 910) ⟨rfl, rfl⟩ rfl ?_
  refine qa_iaload (pc' := 911) ⟨rfl, rfl⟩ hb (by omega) ?_
  refine qa_aload_n (pc' := 912) ⟨rfl, rfl⟩ rfl ?_
  refine qa_callSX rfl qf_L_partLength rfl (qa_wj 4 113 (by decide +kernel) (by decide +kernel)) hT rfl rfl (qa_lt9 rfl) (qa_le9 rfl) (by omega) (by omega) (fun o9 τ9 hq9 => ?_)
  obtain ⟨k9, x9, rfl, hk9, hs9, hf9, ⟨a1, ho9, hv9⟩, hm9⟩ := hq9
  refine qa_nx (pc' := 915) (kc' := kc) (ks' := ks) (st' := [_]) rfl (by omega) (by omega) rfl ?_
  have hb9 := (hf9 b (by omega)).trans hb
  have hM9 := (hf9 (c + 277) (by omega)).trans hM0
  refine qa_istore (L' := [(0, _), (1, _), (2, _), (3, _), (4, _), (5, _), (6, _)]) (pc' := 917) ⟨rfl, rfl⟩ rfl rfl ?_
  refine qa_aload_n (pc' := 918) ⟨rfl, rfl⟩ rfl ?_
  refine qa_aload_n (pc' := 919) ⟨rfl, rfl⟩ rfl ?_
  refine qa_iload (pc' := 921) ⟨rfl, rfl⟩ rfl ?_
  refine qa_iconst (pc' := 922) ⟨rfl, rfl⟩ ?_
  refine qa_iadd (pc' := 923) ⟨rfl, rfl⟩ rfl ?_
  refine qa_iaload (pc' := 924) ⟨rfl, rfl⟩ hb9 (by omega) ?_
  refine qa_callV rfl qf_M_partLength ql_0_248 (hm9 τ9 rfl (fun _ _ _ => rfl)) hM9 rfl rfl rfl (qa_lt9 rfl) (qa_le9 rfl) (Nat.zero_le _) (Nat.zero_le _) (fun o8 τ8 hq8 => ?_)
  obtain ⟨y8, f8, rfl, hy8, hM8, hk8, he8, hf8, hI8⟩ := hq8
  refine qa_nx (pc' := 927) (kc' := kc) (ks' := ks) (st' := [_]) rfl rfl rfl rfl ?_
  have hK8 : qK E Z b L g c (B + 13000) τ8 := ⟨hZ9.to (fun q hq => (hf8 q (by omega)).trans (hf9 q (by omega))), (hf8 b (by omega)).trans hb9, ⟨a1, (hf8 _ (by omega)).trans ho9⟩, ⟨b0, (hf8 _ (by omega)).trans ((hf9 _ (by omega)).trans hd)⟩, hI8⟩
  have ho8 := (hf8 (c + 288) (by omega)).trans ho9
  obtain ⟨w8, hw8, rfl⟩ : ∃ w : Int, qa_in w ∧ y8 = qa_i w := ⟨y8.toInt, qa_i_in y8, (qa_i_of y8).symm⟩
  refine qa_istore (L' := [(0, _), (1, _), (2, _), (3, _), (4, _), (5, _), (6, _), (7, _)]) (pc' := 929) ⟨rfl, rfl⟩ rfl rfl ?_
  refine qa_aload_n (pc' := 930) ⟨rfl, rfl⟩ rfl ?_
  refine qa_callV rfl qf_M_thrown ql_0_212 (c_M_thrown (E := E) hM8) hM8 rfl rfl rfl (qa_lt9 rfl) (qa_le9 rfl) (Nat.zero_le _) (Nat.zero_le _) (fun o7 τ7 hq7 => ?_)
  obtain ⟨rfl, hq7⟩ := hq7
  replace hq7 := hq7.symm; subst hq7
  rw [hk8]
  refine qa_nx (pc' := 933) (kc' := kc) (ks' := ks) (st' := [_]) rfl rfl rfl rfl ?_
  refine qa_iload (pc' := 935) ⟨rfl, rfl⟩ rfl ?_
  refine qa_icmp_eq (pc' := 938) (tgt := 940) ⟨rfl, rfl⟩ rfl (by omega) (by omega) (fun hc1 => ?_) (fun hc1 => ?_)
  · refine qa_iload (pc' := 942) ⟨rfl, rfl⟩ rfl ?_
    refine qa_if_ne (pc' := 945) (tgt := 957) ⟨rfl, rfl⟩ rfl (by omega) (fun hc2 => ?_) (fun hc2 => ?_)
    · refine qa_goto (pc' := 960) (tgt := 3722) ⟨rfl, rfl⟩ rfl ?_
      refine qa_sub (ks' := [0, 1, 2, 3, 4, 5]) (L' := [(0, _), (1, _), (2, _), (3, _), (4, _), (5, _)]) rfl ?_
      exact kk _ hK8
    · have hk0 : k9 = 0 := by omega
      have ha : a1 0 = w8 := by rw [hv9 hk0, ← hy8 hk0, qa_i_toInt hw8]
      refine qa_aload_n (pc' := 946) ⟨rfl, rfl⟩ rfl ?_
      refine qa_iconst (pc' := 947) ⟨rfl, rfl⟩ ?_
      refine qa_laload (pc' := 948) ⟨rfl, rfl⟩ ho8 (by omega) ?_
      refine qa_iload (pc' := 950) ⟨rfl, rfl⟩ rfl ?_
      refine qa_i2l (pc' := 951) ⟨rfl, rfl⟩ hw8 ?_
      rw [ha]
      refine qa_lcmp (pc' := 952) ⟨rfl, rfl⟩ (by omega) (by omega) ?_
      refine qa_if_eq (pc' := 955) (tgt := 957) ⟨rfl, rfl⟩ rfl (qa_sg_in _ _) (fun hc3 => ?_) (fun hc3 => ?_)
      · refine qa_goto (pc' := 960) (tgt := 3722) ⟨rfl, rfl⟩ rfl ?_
        refine qa_sub (ks' := [0, 1, 2, 3, 4, 5]) (L' := [(0, _), (1, _), (2, _), (3, _), (4, _), (5, _)]) rfl ?_
        exact kk _ hK8
      · exact absurd (qa_sg_eq.mpr rfl) hc3
  · exact absurd rfl hc1
theorem w_11 (hz : qa_Sb E) (hlo : E.1 ≤ c) (hbE : b < E.1) (hg : ∀ j : Int, qa_in (g j)) (hi : 0 ≤ i ∧ i + 4 ≤ L) (hL : L ≤ 2048) (hB9 : B ≤ 800000000) (hJ : qK E Z b L g c B σ) (kk : ∀ τ : qa_S, qK E Z b L g c (B + 13000) τ → qa_W E qm_L_law Q9 kc ks 3722 [(0, .ref b), (1, .ref c), (2, .ref (c + 277)), (3, .ref (c + 288)), (4, .ref (c + 289)), (5, .int (qa_i i))] [] τ) : qa_W E qm_L_law Q9 (kc + 64) (ks + 8000) 960 [(0, .ref b), (1, .ref c), (2, .ref (c + 277)), (3, .ref (c + 288)), (4, .ref (c + 289)), (5, .int (qa_i i))] [] σ := by
  obtain ⟨hZ9, hb, ⟨a0, ho⟩, ⟨b0, hd⟩, hI⟩ := hJ
  obtain ⟨⟨n, hc⟩, ⟨f0, hM0⟩, hsz⟩ := qI_o hI
  have hT := l_noteAt (E := E) hlo hsz hc ho (j_noteAt (E := E) (p := g (i + 1)) (x := g (i + 2)) hZ9 hz hlo hI hB9 (hg _) (hg _))
  refine qa_aload_n (pc' := 961) ⟨rfl, rfl⟩ rfl ?_
  refine qa_aload_n (pc' := 962) ⟨rfl, rfl⟩ rfl ?_
  refine qa_iload (pc' := 964) ⟨rfl, rfl⟩ rfl ?_
  refine qa_iconst (pc' := 965) ⟨rfl, rfl⟩ ?_
  refine qa_iadd (pc' := 966) ⟨rfl, rfl⟩ rfl ?_
  refine qa_iaload (pc' := 967) ⟨rfl, rfl⟩ hb (by omega) ?_
  refine qa_aload_n (pc' := 968) ⟨rfl, rfl⟩ rfl ?_
  refine qa_iload (pc' := 970) ⟨rfl, rfl⟩ rfl ?_
  refine qa_iconst (pc' := 971) ⟨rfl, rfl⟩ ?_
  refine qa_iadd (pc' := 972) ⟨rfl, rfl⟩ rfl ?_
  refine qa_iaload (pc' := 973) ⟨rfl, rfl⟩ hb (by omega) ?_
  refine qa_aload_n (pc' := 974) ⟨rfl, rfl⟩ rfl ?_
  refine qa_callSX rfl qf_L_noteAt rfl (qa_wj 4 120 (by decide +kernel) (by decide +kernel)) hT rfl rfl (qa_lt9 rfl) (qa_le9 rfl) (by omega) (by omega) (fun o9 τ9 hq9 => ?_)
  obtain ⟨k9, x9, rfl, hk9, hs9, hf9, ⟨a1, ho9, hv9⟩, hm9⟩ := hq9
  refine qa_nx (pc' := 977) (kc' := kc) (ks' := ks) (st' := [_]) rfl (by omega) (by omega) rfl ?_
  have hb9 := (hf9 b (by omega)).trans hb
  have hM9 := (hf9 (c + 277) (by omega)).trans hM0
  refine qa_istore (L' := [(0, _), (1, _), (2, _), (3, _), (4, _), (5, _), (6, _)]) (pc' := 979) ⟨rfl, rfl⟩ rfl rfl ?_
  refine qa_aload_n (pc' := 980) ⟨rfl, rfl⟩ rfl ?_
  refine qa_aload_n (pc' := 981) ⟨rfl, rfl⟩ rfl ?_
  refine qa_iload (pc' := 983) ⟨rfl, rfl⟩ rfl ?_
  refine qa_iconst (pc' := 984) ⟨rfl, rfl⟩ ?_
  refine qa_iadd (pc' := 985) ⟨rfl, rfl⟩ rfl ?_
  refine qa_iaload (pc' := 986) ⟨rfl, rfl⟩ hb9 (by omega) ?_
  refine qa_aload_n (pc' := 987) ⟨rfl, rfl⟩ rfl ?_
  refine qa_iload (pc' := 989) ⟨rfl, rfl⟩ rfl ?_
  refine qa_iconst (pc' := 990) ⟨rfl, rfl⟩ ?_
  refine qa_iadd (pc' := 991) ⟨rfl, rfl⟩ rfl ?_
  refine qa_iaload (pc' := 992) ⟨rfl, rfl⟩ hb9 (by omega) ?_
  refine qa_callV rfl qf_M_noteAt ql_0_251 (hm9 τ9 rfl (fun _ _ _ => rfl)) hM9 rfl rfl rfl (qa_lt9 rfl) (qa_le9 rfl) (Nat.zero_le _) (Nat.zero_le _) (fun o8 τ8 hq8 => ?_)
  obtain ⟨y8, f8, rfl, hy8, hM8, hk8, he8, hf8, hI8⟩ := hq8
  refine qa_nx (pc' := 995) (kc' := kc) (ks' := ks) (st' := [_]) rfl rfl rfl rfl ?_
  have hK8 : qK E Z b L g c (B + 13000) τ8 := ⟨hZ9.to (fun q hq => (hf8 q (by omega)).trans (hf9 q (by omega))), (hf8 b (by omega)).trans hb9, ⟨a1, (hf8 _ (by omega)).trans ho9⟩, ⟨b0, (hf8 _ (by omega)).trans ((hf9 _ (by omega)).trans hd)⟩, hI8⟩
  have ho8 := (hf8 (c + 288) (by omega)).trans ho9
  obtain ⟨w8, hw8, rfl⟩ : ∃ w : Int, qa_in w ∧ y8 = qa_i w := ⟨y8.toInt, qa_i_in y8, (qa_i_of y8).symm⟩
  refine qa_istore (L' := [(0, _), (1, _), (2, _), (3, _), (4, _), (5, _), (6, _), (7, _)]) (pc' := 997) ⟨rfl, rfl⟩ rfl rfl ?_
  refine qa_aload_n (pc' := 998) ⟨rfl, rfl⟩ rfl ?_
  refine qa_callV rfl qf_M_thrown ql_0_212 (c_M_thrown (E := E) hM8) hM8 rfl rfl rfl (qa_lt9 rfl) (qa_le9 rfl) (Nat.zero_le _) (Nat.zero_le _) (fun o7 τ7 hq7 => ?_)
  obtain ⟨rfl, hq7⟩ := hq7
  replace hq7 := hq7.symm; subst hq7
  rw [hk8]
  refine qa_nx (pc' := 1001) (kc' := kc) (ks' := ks) (st' := [_]) rfl rfl rfl rfl ?_
  refine qa_iload (pc' := 1003) ⟨rfl, rfl⟩ rfl ?_
  refine qa_icmp_eq (pc' := 1006) (tgt := 1008) ⟨rfl, rfl⟩ rfl (by omega) (by omega) (fun hc1 => ?_) (fun hc1 => ?_)
  · refine qa_iload (pc' := 1010) ⟨rfl, rfl⟩ rfl ?_
    refine qa_if_ne (pc' := 1013) (tgt := 1025) ⟨rfl, rfl⟩ rfl (by omega) (fun hc2 => ?_) (fun hc2 => ?_)
    · refine qa_goto (pc' := 1028) (tgt := 3722) ⟨rfl, rfl⟩ rfl ?_
      refine qa_sub (ks' := [0, 1, 2, 3, 4, 5]) (L' := [(0, _), (1, _), (2, _), (3, _), (4, _), (5, _)]) rfl ?_
      exact kk _ hK8
    · have hk0 : k9 = 0 := by omega
      have ha : a1 0 = w8 := by rw [hv9 hk0, ← hy8 hk0, qa_i_toInt hw8]
      refine qa_aload_n (pc' := 1014) ⟨rfl, rfl⟩ rfl ?_
      refine qa_iconst (pc' := 1015) ⟨rfl, rfl⟩ ?_
      refine qa_laload (pc' := 1016) ⟨rfl, rfl⟩ ho8 (by omega) ?_
      refine qa_iload (pc' := 1018) ⟨rfl, rfl⟩ rfl ?_
      refine qa_i2l (pc' := 1019) ⟨rfl, rfl⟩ hw8 ?_
      rw [ha]
      refine qa_lcmp (pc' := 1020) ⟨rfl, rfl⟩ (by omega) (by omega) ?_
      refine qa_if_eq (pc' := 1023) (tgt := 1025) ⟨rfl, rfl⟩ rfl (qa_sg_in _ _) (fun hc3 => ?_) (fun hc3 => ?_)
      · refine qa_goto (pc' := 1028) (tgt := 3722) ⟨rfl, rfl⟩ rfl ?_
        refine qa_sub (ks' := [0, 1, 2, 3, 4, 5]) (L' := [(0, _), (1, _), (2, _), (3, _), (4, _), (5, _)]) rfl ?_
        exact kk _ hK8
      · exact absurd (qa_sg_eq.mpr rfl) hc3
  · exact absurd rfl hc1
theorem w_12 (hz : qa_Sb E) (hlo : E.1 ≤ c) (hbE : b < E.1) (hg : ∀ j : Int, qa_in (g j)) (hi : 0 ≤ i ∧ i + 4 ≤ L) (hL : L ≤ 2048) (hB9 : B ≤ 800000000) (hJ : qK E Z b L g c B σ) (kk : ∀ τ : qa_S, qK E Z b L g c (B + 13000) τ → qa_W E qm_L_law Q9 kc ks 3722 [(0, .ref b), (1, .ref c), (2, .ref (c + 277)), (3, .ref (c + 288)), (4, .ref (c + 289)), (5, .int (qa_i i))] [] τ) : qa_W E qm_L_law Q9 (kc + 64) (ks + 8000) 1028 [(0, .ref b), (1, .ref c), (2, .ref (c + 277)), (3, .ref (c + 288)), (4, .ref (c + 289)), (5, .int (qa_i i))] [] σ := by
  obtain ⟨hZ9, hb, ⟨a0, ho⟩, ⟨b0, hd⟩, hI⟩ := hJ
  obtain ⟨⟨n, hc⟩, ⟨f0, hM0⟩, hsz⟩ := qI_o hI
  have hT := l_soundingAt (E := E) hlo hsz hc ho (j_soundingAt (E := E) (x := g (i + 1)) hZ9 hz hlo hI hB9 (hg _))
  refine qa_aload_n (pc' := 1029) ⟨rfl, rfl⟩ rfl ?_
  refine qa_aload_n (pc' := 1030) ⟨rfl, rfl⟩ rfl ?_
  refine qa_iload (pc' := 1032) ⟨rfl, rfl⟩ rfl ?_
  refine qa_iconst (pc' := 1033) ⟨rfl, rfl⟩ ?_
  refine qa_iadd (pc' := 1034) ⟨rfl, rfl⟩ rfl ?_
  refine qa_iaload (pc' := 1035) ⟨rfl, rfl⟩ hb (by omega) ?_
  refine qa_aload_n (pc' := 1036) ⟨rfl, rfl⟩ rfl ?_
  refine qa_callSX rfl qf_L_soundingAt rfl (qa_wj 4 137 (by decide +kernel) (by decide +kernel)) hT rfl rfl (qa_lt9 rfl) (qa_le9 rfl) (by omega) (by omega) (fun o9 τ9 hq9 => ?_)
  obtain ⟨k9, x9, rfl, hk9, hs9, hf9, ⟨a1, ho9, hv9⟩, hm9⟩ := hq9
  refine qa_nx (pc' := 1039) (kc' := kc) (ks' := ks) (st' := [_]) rfl (by omega) (by omega) rfl ?_
  have hb9 := (hf9 b (by omega)).trans hb
  have hM9 := (hf9 (c + 277) (by omega)).trans hM0
  refine qa_istore (L' := [(0, _), (1, _), (2, _), (3, _), (4, _), (5, _), (6, _)]) (pc' := 1041) ⟨rfl, rfl⟩ rfl rfl ?_
  refine qa_aload_n (pc' := 1042) ⟨rfl, rfl⟩ rfl ?_
  refine qa_aload_n (pc' := 1043) ⟨rfl, rfl⟩ rfl ?_
  refine qa_iload (pc' := 1045) ⟨rfl, rfl⟩ rfl ?_
  refine qa_iconst (pc' := 1046) ⟨rfl, rfl⟩ ?_
  refine qa_iadd (pc' := 1047) ⟨rfl, rfl⟩ rfl ?_
  refine qa_iaload (pc' := 1048) ⟨rfl, rfl⟩ hb9 (by omega) ?_
  refine qa_callV rfl qf_M_soundingAt ql_0_254 (hm9 τ9 rfl (fun _ _ _ => rfl)) hM9 rfl rfl rfl (qa_lt9 rfl) (qa_le9 rfl) (Nat.zero_le _) (Nat.zero_le _) (fun o8 τ8 hq8 => ?_)
  obtain ⟨y8, f8, rfl, hy8, hM8, hk8, he8, hf8, hI8⟩ := hq8
  refine qa_nx (pc' := 1051) (kc' := kc) (ks' := ks) (st' := [_]) rfl rfl rfl rfl ?_
  have hK8 : qK E Z b L g c (B + 13000) τ8 := ⟨hZ9.to (fun q hq => (hf8 q (by omega)).trans (hf9 q (by omega))), (hf8 b (by omega)).trans hb9, ⟨a1, (hf8 _ (by omega)).trans ho9⟩, ⟨b0, (hf8 _ (by omega)).trans ((hf9 _ (by omega)).trans hd)⟩, hI8⟩
  have ho8 := (hf8 (c + 288) (by omega)).trans ho9
  obtain ⟨w8, hw8, rfl⟩ : ∃ w : Int, qa_in w ∧ y8 = qa_i w := ⟨y8.toInt, qa_i_in y8, (qa_i_of y8).symm⟩
  refine qa_istore (L' := [(0, _), (1, _), (2, _), (3, _), (4, _), (5, _), (6, _), (7, _)]) (pc' := 1053) ⟨rfl, rfl⟩ rfl rfl ?_
  refine qa_aload_n (pc' := 1054) ⟨rfl, rfl⟩ rfl ?_
  refine qa_callV rfl qf_M_thrown ql_0_212 (c_M_thrown (E := E) hM8) hM8 rfl rfl rfl (qa_lt9 rfl) (qa_le9 rfl) (Nat.zero_le _) (Nat.zero_le _) (fun o7 τ7 hq7 => ?_)
  obtain ⟨rfl, hq7⟩ := hq7
  replace hq7 := hq7.symm; subst hq7
  rw [hk8]
  refine qa_nx (pc' := 1057) (kc' := kc) (ks' := ks) (st' := [_]) rfl rfl rfl rfl ?_
  refine qa_iload (pc' := 1059) ⟨rfl, rfl⟩ rfl ?_
  refine qa_icmp_eq (pc' := 1062) (tgt := 1064) ⟨rfl, rfl⟩ rfl (by omega) (by omega) (fun hc1 => ?_) (fun hc1 => ?_)
  · refine qa_iload (pc' := 1066) ⟨rfl, rfl⟩ rfl ?_
    refine qa_if_ne (pc' := 1069) (tgt := 1081) ⟨rfl, rfl⟩ rfl (by omega) (fun hc2 => ?_) (fun hc2 => ?_)
    · refine qa_goto (pc' := 1084) (tgt := 3722) ⟨rfl, rfl⟩ rfl ?_
      refine qa_sub (ks' := [0, 1, 2, 3, 4, 5]) (L' := [(0, _), (1, _), (2, _), (3, _), (4, _), (5, _)]) rfl ?_
      exact kk _ hK8
    · have hk0 : k9 = 0 := by omega
      have ha : a1 0 = w8 := by rw [hv9 hk0, ← hy8 hk0, qa_i_toInt hw8]
      refine qa_aload_n (pc' := 1070) ⟨rfl, rfl⟩ rfl ?_
      refine qa_iconst (pc' := 1071) ⟨rfl, rfl⟩ ?_
      refine qa_laload (pc' := 1072) ⟨rfl, rfl⟩ ho8 (by omega) ?_
      refine qa_iload (pc' := 1074) ⟨rfl, rfl⟩ rfl ?_
      refine qa_i2l (pc' := 1075) ⟨rfl, rfl⟩ hw8 ?_
      rw [ha]
      refine qa_lcmp (pc' := 1076) ⟨rfl, rfl⟩ (by omega) (by omega) ?_
      refine qa_if_eq (pc' := 1079) (tgt := 1081) ⟨rfl, rfl⟩ rfl (qa_sg_in _ _) (fun hc3 => ?_) (fun hc3 => ?_)
      · refine qa_goto (pc' := 1084) (tgt := 3722) ⟨rfl, rfl⟩ rfl ?_
        refine qa_sub (ks' := [0, 1, 2, 3, 4, 5]) (L' := [(0, _), (1, _), (2, _), (3, _), (4, _), (5, _)]) rfl ?_
        exact kk _ hK8
      · exact absurd (qa_sg_eq.mpr rfl) hc3
  · exact absurd rfl hc1
theorem w_13 (hz : qa_Sb E) (hlo : E.1 ≤ c) (hbE : b < E.1) (hg : ∀ j : Int, qa_in (g j)) (hi : 0 ≤ i ∧ i + 4 ≤ L) (hL : L ≤ 2048) (hB9 : B ≤ 800000000) (hJ : qK E Z b L g c B σ) (kk : ∀ τ : qa_S, qK E Z b L g c (B + 13000) τ → qa_W E qm_L_law Q9 kc ks 3722 [(0, .ref b), (1, .ref c), (2, .ref (c + 277)), (3, .ref (c + 288)), (4, .ref (c + 289)), (5, .int (qa_i i))] [] τ) : qa_W E qm_L_law Q9 (kc + 64) (ks + 8000) 1084 [(0, .ref b), (1, .ref c), (2, .ref (c + 277)), (3, .ref (c + 288)), (4, .ref (c + 289)), (5, .int (qa_i i))] [] σ := by
  obtain ⟨hZ9, hb, ⟨a0, ho⟩, ⟨b0, hd⟩, hI⟩ := hJ
  obtain ⟨⟨n, hc⟩, ⟨f0, hM0⟩, hsz⟩ := qI_o hI
  have hT := l_chordAt (E := E) hlo hsz hc ho (j_chordAt (E := E) (x := g (i + 1)) hZ9 hz hlo hI hB9 (hg _))
  refine qa_aload_n (pc' := 1085) ⟨rfl, rfl⟩ rfl ?_
  refine qa_aload_n (pc' := 1086) ⟨rfl, rfl⟩ rfl ?_
  refine qa_iload (pc' := 1088) ⟨rfl, rfl⟩ rfl ?_
  refine qa_iconst (pc' := 1089) ⟨rfl, rfl⟩ ?_
  refine qa_iadd (pc' := 1090) ⟨rfl, rfl⟩ rfl ?_
  refine qa_iaload (pc' := 1091) ⟨rfl, rfl⟩ hb (by omega) ?_
  refine qa_aload_n (pc' := 1092) ⟨rfl, rfl⟩ rfl ?_
  refine qa_callSX rfl qf_L_chordAt rfl (qa_wj 4 148 (by decide +kernel) (by decide +kernel)) hT rfl rfl (qa_lt9 rfl) (qa_le9 rfl) (by omega) (by omega) (fun o9 τ9 hq9 => ?_)
  obtain ⟨k9, x9, rfl, hk9, hs9, hf9, ⟨a1, ho9, hv9⟩, hm9⟩ := hq9
  refine qa_nx (pc' := 1095) (kc' := kc) (ks' := ks) (st' := [_]) rfl (by omega) (by omega) rfl ?_
  have hb9 := (hf9 b (by omega)).trans hb
  have hM9 := (hf9 (c + 277) (by omega)).trans hM0
  refine qa_istore (L' := [(0, _), (1, _), (2, _), (3, _), (4, _), (5, _), (6, _)]) (pc' := 1097) ⟨rfl, rfl⟩ rfl rfl ?_
  refine qa_aload_n (pc' := 1098) ⟨rfl, rfl⟩ rfl ?_
  refine qa_aload_n (pc' := 1099) ⟨rfl, rfl⟩ rfl ?_
  refine qa_iload (pc' := 1101) ⟨rfl, rfl⟩ rfl ?_
  refine qa_iconst (pc' := 1102) ⟨rfl, rfl⟩ ?_
  refine qa_iadd (pc' := 1103) ⟨rfl, rfl⟩ rfl ?_
  refine qa_iaload (pc' := 1104) ⟨rfl, rfl⟩ hb9 (by omega) ?_
  refine qa_callV rfl qf_M_chordAt ql_0_257 (hm9 τ9 rfl (fun _ _ _ => rfl)) hM9 rfl rfl rfl (qa_lt9 rfl) (qa_le9 rfl) (Nat.zero_le _) (Nat.zero_le _) (fun o8 τ8 hq8 => ?_)
  obtain ⟨y8, f8, rfl, hy8, hM8, hk8, he8, hf8, hI8⟩ := hq8
  refine qa_nx (pc' := 1107) (kc' := kc) (ks' := ks) (st' := [_]) rfl rfl rfl rfl ?_
  have hK8 : qK E Z b L g c (B + 13000) τ8 := ⟨hZ9.to (fun q hq => (hf8 q (by omega)).trans (hf9 q (by omega))), (hf8 b (by omega)).trans hb9, ⟨a1, (hf8 _ (by omega)).trans ho9⟩, ⟨b0, (hf8 _ (by omega)).trans ((hf9 _ (by omega)).trans hd)⟩, hI8⟩
  have ho8 := (hf8 (c + 288) (by omega)).trans ho9
  obtain ⟨w8, hw8, rfl⟩ : ∃ w : Int, qa_ln w ∧ y8 = qa_l w := ⟨y8.toInt, qa_l_in y8, (qa_l_of y8).symm⟩
  refine qa_lstore (L' := [(0, _), (1, _), (2, _), (3, _), (4, _), (5, _), (6, _), (7, _)]) (pc' := 1109) ⟨rfl, rfl⟩ rfl rfl ?_
  refine qa_aload_n (pc' := 1110) ⟨rfl, rfl⟩ rfl ?_
  refine qa_callV rfl qf_M_thrown ql_0_212 (c_M_thrown (E := E) hM8) hM8 rfl rfl rfl (qa_lt9 rfl) (qa_le9 rfl) (Nat.zero_le _) (Nat.zero_le _) (fun o7 τ7 hq7 => ?_)
  obtain ⟨rfl, hq7⟩ := hq7
  replace hq7 := hq7.symm; subst hq7
  rw [hk8]
  refine qa_nx (pc' := 1113) (kc' := kc) (ks' := ks) (st' := [_]) rfl rfl rfl rfl ?_
  refine qa_iload (pc' := 1115) ⟨rfl, rfl⟩ rfl ?_
  refine qa_icmp_eq (pc' := 1118) (tgt := 1120) ⟨rfl, rfl⟩ rfl (by omega) (by omega) (fun hc1 => ?_) (fun hc1 => ?_)
  · refine qa_iload (pc' := 1122) ⟨rfl, rfl⟩ rfl ?_
    refine qa_if_ne (pc' := 1125) (tgt := 1136) ⟨rfl, rfl⟩ rfl (by omega) (fun hc2 => ?_) (fun hc2 => ?_)
    · refine qa_goto (pc' := 1139) (tgt := 3722) ⟨rfl, rfl⟩ rfl ?_
      refine qa_sub (ks' := [0, 1, 2, 3, 4, 5]) (L' := [(0, _), (1, _), (2, _), (3, _), (4, _), (5, _)]) rfl ?_
      exact kk _ hK8
    · have hk0 : k9 = 0 := by omega
      have ha : a1 0 = w8 := by rw [hv9 hk0, ← hy8 hk0, qa_l_toInt hw8]
      refine qa_aload_n (pc' := 1126) ⟨rfl, rfl⟩ rfl ?_
      refine qa_iconst (pc' := 1127) ⟨rfl, rfl⟩ ?_
      refine qa_laload (pc' := 1128) ⟨rfl, rfl⟩ ho8 (by omega) ?_
      refine qa_lload (pc' := 1130) ⟨rfl, rfl⟩ rfl ?_
      rw [ha]
      refine qa_lcmp (pc' := 1131) ⟨rfl, rfl⟩ hw8 hw8 ?_
      refine qa_if_eq (pc' := 1134) (tgt := 1136) ⟨rfl, rfl⟩ rfl (qa_sg_in _ _) (fun hc3 => ?_) (fun hc3 => ?_)
      · refine qa_goto (pc' := 1139) (tgt := 3722) ⟨rfl, rfl⟩ rfl ?_
        refine qa_sub (ks' := [0, 1, 2, 3, 4, 5]) (L' := [(0, _), (1, _), (2, _), (3, _), (4, _), (5, _)]) rfl ?_
        exact kk _ hK8
      · exact absurd (qa_sg_eq.mpr rfl) hc3
  · exact absurd rfl hc1
theorem w_14 (hz : qa_Sb E) (hlo : E.1 ≤ c) (hbE : b < E.1) (hg : ∀ j : Int, qa_in (g j)) (hi : 0 ≤ i ∧ i + 4 ≤ L) (hL : L ≤ 2048) (hB9 : B ≤ 800000000) (hJ : qK E Z b L g c B σ) (kk : ∀ τ : qa_S, qK E Z b L g c (B + 13000) τ → qa_W E qm_L_law Q9 kc ks 3722 [(0, .ref b), (1, .ref c), (2, .ref (c + 277)), (3, .ref (c + 288)), (4, .ref (c + 289)), (5, .int (qa_i i))] [] τ) : qa_W E qm_L_law Q9 (kc + 64) (ks + 8000) 1139 [(0, .ref b), (1, .ref c), (2, .ref (c + 277)), (3, .ref (c + 288)), (4, .ref (c + 289)), (5, .int (qa_i i))] [] σ := by
  obtain ⟨hZ9, hb, ⟨a0, ho⟩, ⟨b0, hd⟩, hI⟩ := hJ
  obtain ⟨⟨n, hc⟩, ⟨f0, hM0⟩, hsz⟩ := qI_o hI
  have hT := l_togetherAfter (E := E) hlo hsz hc ho (j_togetherAfter (E := E) hZ9 hz hlo hI hB9)
  refine qa_aload_n (pc' := 1140) ⟨rfl, rfl⟩ rfl ?_
  refine qa_aload_n (pc' := 1141) ⟨rfl, rfl⟩ rfl ?_
  refine qa_callSX rfl qf_L_togetherAfter rfl (qa_wj 4 159 (by decide +kernel) (by decide +kernel)) hT rfl rfl (qa_lt9 rfl) (qa_le9 rfl) (by omega) (by omega) (fun o9 τ9 hq9 => ?_)
  obtain ⟨k9, x9, rfl, hk9, hs9, hf9, ⟨a1, ho9, hv9⟩, hm9⟩ := hq9
  refine qa_nx (pc' := 1144) (kc' := kc) (ks' := ks) (st' := [_]) rfl (by omega) (by omega) rfl ?_
  have hb9 := (hf9 b (by omega)).trans hb
  have hM9 := (hf9 (c + 277) (by omega)).trans hM0
  refine qa_istore (L' := [(0, _), (1, _), (2, _), (3, _), (4, _), (5, _), (6, _)]) (pc' := 1146) ⟨rfl, rfl⟩ rfl rfl ?_
  refine qa_aload_n (pc' := 1147) ⟨rfl, rfl⟩ rfl ?_
  refine qa_callV rfl qf_M_togetherAfter ql_0_260 (hm9 τ9 rfl (fun _ _ _ => rfl)) hM9 rfl rfl rfl (qa_lt9 rfl) (qa_le9 rfl) (Nat.zero_le _) (Nat.zero_le _) (fun o8 τ8 hq8 => ?_)
  obtain ⟨y8, f8, rfl, hy8, hM8, hk8, he8, hf8, hI8⟩ := hq8
  refine qa_nx (pc' := 1150) (kc' := kc) (ks' := ks) (st' := [_]) rfl rfl rfl rfl ?_
  have hK8 : qK E Z b L g c (B + 13000) τ8 := ⟨hZ9.to (fun q hq => (hf8 q (by omega)).trans (hf9 q (by omega))), (hf8 b (by omega)).trans hb9, ⟨a1, (hf8 _ (by omega)).trans ho9⟩, ⟨b0, (hf8 _ (by omega)).trans ((hf9 _ (by omega)).trans hd)⟩, hI8⟩
  have ho8 := (hf8 (c + 288) (by omega)).trans ho9
  obtain ⟨w8, hw8, rfl⟩ : ∃ w : Int, qa_in w ∧ y8 = qa_i w := ⟨y8.toInt, qa_i_in y8, (qa_i_of y8).symm⟩
  refine qa_istore (L' := [(0, _), (1, _), (2, _), (3, _), (4, _), (5, _), (6, _), (7, _)]) (pc' := 1152) ⟨rfl, rfl⟩ rfl rfl ?_
  refine qa_aload_n (pc' := 1153) ⟨rfl, rfl⟩ rfl ?_
  refine qa_callV rfl qf_M_thrown ql_0_212 (c_M_thrown (E := E) hM8) hM8 rfl rfl rfl (qa_lt9 rfl) (qa_le9 rfl) (Nat.zero_le _) (Nat.zero_le _) (fun o7 τ7 hq7 => ?_)
  obtain ⟨rfl, hq7⟩ := hq7
  replace hq7 := hq7.symm; subst hq7
  rw [hk8]
  refine qa_nx (pc' := 1156) (kc' := kc) (ks' := ks) (st' := [_]) rfl rfl rfl rfl ?_
  refine qa_iload (pc' := 1158) ⟨rfl, rfl⟩ rfl ?_
  refine qa_icmp_eq (pc' := 1161) (tgt := 1163) ⟨rfl, rfl⟩ rfl (by omega) (by omega) (fun hc1 => ?_) (fun hc1 => ?_)
  · refine qa_iload (pc' := 1165) ⟨rfl, rfl⟩ rfl ?_
    refine qa_if_ne (pc' := 1168) (tgt := 1180) ⟨rfl, rfl⟩ rfl (by omega) (fun hc2 => ?_) (fun hc2 => ?_)
    · refine qa_goto (pc' := 1183) (tgt := 3722) ⟨rfl, rfl⟩ rfl ?_
      refine qa_sub (ks' := [0, 1, 2, 3, 4, 5]) (L' := [(0, _), (1, _), (2, _), (3, _), (4, _), (5, _)]) rfl ?_
      exact kk _ hK8
    · have hk0 : k9 = 0 := by omega
      have ha : a1 0 = w8 := by rw [hv9 hk0, ← hy8 hk0, qa_i_toInt hw8]
      refine qa_aload_n (pc' := 1169) ⟨rfl, rfl⟩ rfl ?_
      refine qa_iconst (pc' := 1170) ⟨rfl, rfl⟩ ?_
      refine qa_laload (pc' := 1171) ⟨rfl, rfl⟩ ho8 (by omega) ?_
      refine qa_iload (pc' := 1173) ⟨rfl, rfl⟩ rfl ?_
      refine qa_i2l (pc' := 1174) ⟨rfl, rfl⟩ hw8 ?_
      rw [ha]
      refine qa_lcmp (pc' := 1175) ⟨rfl, rfl⟩ (by omega) (by omega) ?_
      refine qa_if_eq (pc' := 1178) (tgt := 1180) ⟨rfl, rfl⟩ rfl (qa_sg_in _ _) (fun hc3 => ?_) (fun hc3 => ?_)
      · refine qa_goto (pc' := 1183) (tgt := 3722) ⟨rfl, rfl⟩ rfl ?_
        refine qa_sub (ks' := [0, 1, 2, 3, 4, 5]) (L' := [(0, _), (1, _), (2, _), (3, _), (4, _), (5, _)]) rfl ?_
        exact kk _ hK8
      · exact absurd (qa_sg_eq.mpr rfl) hc3
  · exact absurd rfl hc1
theorem w_15 (hz : qa_Sb E) (hlo : E.1 ≤ c) (hbE : b < E.1) (hg : ∀ j : Int, qa_in (g j)) (hi : 0 ≤ i ∧ i + 4 ≤ L) (hL : L ≤ 2048) (hB9 : B ≤ 800000000) (hJ : qK E Z b L g c B σ) (kk : ∀ τ : qa_S, qK E Z b L g c (B + 13000) τ → qa_W E qm_L_law Q9 kc ks 3722 [(0, .ref b), (1, .ref c), (2, .ref (c + 277)), (3, .ref (c + 288)), (4, .ref (c + 289)), (5, .int (qa_i i))] [] τ) : qa_W E qm_L_law Q9 (kc + 64) (ks + 8000) 1183 [(0, .ref b), (1, .ref c), (2, .ref (c + 277)), (3, .ref (c + 288)), (4, .ref (c + 289)), (5, .int (qa_i i))] [] σ := by
  obtain ⟨hZ9, hb, ⟨a0, ho⟩, ⟨b0, hd⟩, hI⟩ := hJ
  obtain ⟨⟨n, hc⟩, ⟨f0, hM0⟩, hsz⟩ := qI_o hI
  have hT := l_togetherAfterBySteps (E := E) hlo hsz hc ho (j_togetherAfterBySteps (E := E) hZ9 hz hlo hI hB9)
  refine qa_aload_n (pc' := 1184) ⟨rfl, rfl⟩ rfl ?_
  refine qa_aload_n (pc' := 1185) ⟨rfl, rfl⟩ rfl ?_
  refine qa_callSX rfl qf_L_togetherAfterBySteps rfl (qa_wj 4 166 (by decide +kernel) (by decide +kernel)) hT rfl rfl (qa_lt9 rfl) (qa_le9 rfl) (by omega) (by omega) (fun o9 τ9 hq9 => ?_)
  obtain ⟨k9, x9, rfl, hk9, hs9, hf9, ⟨a1, ho9, hv9⟩, hm9⟩ := hq9
  refine qa_nx (pc' := 1188) (kc' := kc) (ks' := ks) (st' := [_]) rfl (by omega) (by omega) rfl ?_
  have hb9 := (hf9 b (by omega)).trans hb
  have hM9 := (hf9 (c + 277) (by omega)).trans hM0
  refine qa_istore (L' := [(0, _), (1, _), (2, _), (3, _), (4, _), (5, _), (6, _)]) (pc' := 1190) ⟨rfl, rfl⟩ rfl rfl ?_
  refine qa_aload_n (pc' := 1191) ⟨rfl, rfl⟩ rfl ?_
  refine qa_callV rfl qf_M_togetherAfterBySteps ql_0_263 (hm9 τ9 rfl (fun _ _ _ => rfl)) hM9 rfl rfl rfl (qa_lt9 rfl) (qa_le9 rfl) (Nat.zero_le _) (Nat.zero_le _) (fun o8 τ8 hq8 => ?_)
  obtain ⟨y8, f8, rfl, hy8, hM8, hk8, he8, hf8, hI8⟩ := hq8
  refine qa_nx (pc' := 1194) (kc' := kc) (ks' := ks) (st' := [_]) rfl rfl rfl rfl ?_
  have hK8 : qK E Z b L g c (B + 13000) τ8 := ⟨hZ9.to (fun q hq => (hf8 q (by omega)).trans (hf9 q (by omega))), (hf8 b (by omega)).trans hb9, ⟨a1, (hf8 _ (by omega)).trans ho9⟩, ⟨b0, (hf8 _ (by omega)).trans ((hf9 _ (by omega)).trans hd)⟩, hI8⟩
  have ho8 := (hf8 (c + 288) (by omega)).trans ho9
  obtain ⟨w8, hw8, rfl⟩ : ∃ w : Int, qa_in w ∧ y8 = qa_i w := ⟨y8.toInt, qa_i_in y8, (qa_i_of y8).symm⟩
  refine qa_istore (L' := [(0, _), (1, _), (2, _), (3, _), (4, _), (5, _), (6, _), (7, _)]) (pc' := 1196) ⟨rfl, rfl⟩ rfl rfl ?_
  refine qa_aload_n (pc' := 1197) ⟨rfl, rfl⟩ rfl ?_
  refine qa_callV rfl qf_M_thrown ql_0_212 (c_M_thrown (E := E) hM8) hM8 rfl rfl rfl (qa_lt9 rfl) (qa_le9 rfl) (Nat.zero_le _) (Nat.zero_le _) (fun o7 τ7 hq7 => ?_)
  obtain ⟨rfl, hq7⟩ := hq7
  replace hq7 := hq7.symm; subst hq7
  rw [hk8]
  refine qa_nx (pc' := 1200) (kc' := kc) (ks' := ks) (st' := [_]) rfl rfl rfl rfl ?_
  refine qa_iload (pc' := 1202) ⟨rfl, rfl⟩ rfl ?_
  refine qa_icmp_eq (pc' := 1205) (tgt := 1207) ⟨rfl, rfl⟩ rfl (by omega) (by omega) (fun hc1 => ?_) (fun hc1 => ?_)
  · refine qa_iload (pc' := 1209) ⟨rfl, rfl⟩ rfl ?_
    refine qa_if_ne (pc' := 1212) (tgt := 1224) ⟨rfl, rfl⟩ rfl (by omega) (fun hc2 => ?_) (fun hc2 => ?_)
    · refine qa_goto (pc' := 1227) (tgt := 3722) ⟨rfl, rfl⟩ rfl ?_
      refine qa_sub (ks' := [0, 1, 2, 3, 4, 5]) (L' := [(0, _), (1, _), (2, _), (3, _), (4, _), (5, _)]) rfl ?_
      exact kk _ hK8
    · have hk0 : k9 = 0 := by omega
      have ha : a1 0 = w8 := by rw [hv9 hk0, ← hy8 hk0, qa_i_toInt hw8]
      refine qa_aload_n (pc' := 1213) ⟨rfl, rfl⟩ rfl ?_
      refine qa_iconst (pc' := 1214) ⟨rfl, rfl⟩ ?_
      refine qa_laload (pc' := 1215) ⟨rfl, rfl⟩ ho8 (by omega) ?_
      refine qa_iload (pc' := 1217) ⟨rfl, rfl⟩ rfl ?_
      refine qa_i2l (pc' := 1218) ⟨rfl, rfl⟩ hw8 ?_
      rw [ha]
      refine qa_lcmp (pc' := 1219) ⟨rfl, rfl⟩ (by omega) (by omega) ?_
      refine qa_if_eq (pc' := 1222) (tgt := 1224) ⟨rfl, rfl⟩ rfl (qa_sg_in _ _) (fun hc3 => ?_) (fun hc3 => ?_)
      · refine qa_goto (pc' := 1227) (tgt := 3722) ⟨rfl, rfl⟩ rfl ?_
        refine qa_sub (ks' := [0, 1, 2, 3, 4, 5]) (L' := [(0, _), (1, _), (2, _), (3, _), (4, _), (5, _)]) rfl ?_
        exact kk _ hK8
      · exact absurd (qa_sg_eq.mpr rfl) hc3
  · exact absurd rfl hc1
end WC
