/-! the law's loop and its beginning -/
theorem qa_an63 (x : Int32) : ∃ z : Int, (0 ≤ z ∧ z ≤ 63) ∧ x &&& qa_i 63 = qa_i z := by
  refine ⟨(x &&& qa_i 63).toInt, ?_, (qa_i_of _).symm⟩
  have h1 : (x &&& qa_i 63).toBitVec.toNat = x.toBitVec.toNat &&& 63 := by
    show (x.toBitVec &&& (qa_i 63).toBitVec).toNat = _
    rw [BitVec.toNat_and]
    rfl
  have h2 : (x &&& qa_i 63).toBitVec.toNat ≤ 63 := by rw [h1]; exact Nat.and_le_right
  have h3 : (x &&& qa_i 63).toInt = ((x &&& qa_i 63).toBitVec.toNat : Int) := BitVec.toInt_eq_toNat_of_lt (by omega)
  omega
section WL
theorem qI.up {c : Nat} {Z : Nat → Nat} {B : Int} {σ : qa_S} (h : qI c Z B σ) : qI c Z (B + 13000) σ := by
  obtain ⟨vi, vo, m, msn, mh, sp, ct, t, u, cs, n, f, sv, ps, ip, li, I⟩ := h
  exact ⟨vi, vo, m, msn, mh, sp, ct, t, u, cs, n, f, sv, ps, ip, li, I.1.up (by omega), I.2⟩
variable {E : qa_V} {Z : Nat → Nat} {b L c : Nat} {g : Int → Int} {Q9 : qa_O → qa_S → Prop}
set_option maxHeartbeats 4000000 in
theorem law_loop (hz : qa_Sb E) (hlo : E.1 ≤ c) (hbE : b < E.1) (hg : ∀ j : Int, qa_in (g j)) (hL : L ≤ 2048) (hQ : ∀ τ : qa_S, Q9 (.inl (some (.int (qa_i 1)))) τ) : ∀ (r j : Nat) (σ : qa_S), j + r = 512 → qK E Z b L g c (13000 * (j : Int)) σ → qa_W E qm_L_law Q9 (64 * r) (8000 * r) 28 [(0, .ref b), (1, .ref c), (2, .ref (c + 277)), (3, .ref (c + 288)), (4, .ref (c + 289)), (5, .int (qa_i (4 * (j : Int))))] [] σ := by
  intro r
  induction r with
  | zero =>
    intro j σ hj hJ
    have hb := hJ.2.1
    refine qa_iload (pc' := 30) ⟨rfl, rfl⟩ rfl ?_
    refine qa_aload_n (pc' := 31) ⟨rfl, rfl⟩ rfl ?_
    refine qa_alen (pc' := 32) ⟨rfl, rfl⟩ hb ?_
    refine qa_iconst (pc' := 33) ⟨rfl, rfl⟩ ?_
    refine qa_isub (pc' := 34) ⟨rfl, rfl⟩ rfl ?_
    refine qa_icmp_gt (pc' := 37) (tgt := 3728) ⟨rfl, rfl⟩ rfl (by omega) (by omega) (fun hc1 => ?_) (fun hc1 => ?_)
    · refine qa_iconst (pc' := 3729) ⟨rfl, rfl⟩ ?_
      refine qa_ireturn rfl rfl rfl (hQ _)
    · exact absurd hc1 (by omega)
  | succ r ih =>
    intro j σ hj hJ
    have hb := hJ.2.1
    rw [Nat.mul_succ, Nat.mul_succ]
    refine qa_iload (pc' := 30) ⟨rfl, rfl⟩ rfl ?_
    refine qa_aload_n (pc' := 31) ⟨rfl, rfl⟩ rfl ?_
    refine qa_alen (pc' := 32) ⟨rfl, rfl⟩ hb ?_
    refine qa_iconst (pc' := 33) ⟨rfl, rfl⟩ ?_
    refine qa_isub (pc' := 34) ⟨rfl, rfl⟩ rfl ?_
    refine qa_icmp_gt (pc' := 37) (tgt := 3728) ⟨rfl, rfl⟩ rfl (by omega) (by omega) (fun hc1 => ?_) (fun hc1 => ?_)
    · refine qa_iconst (pc' := 3729) ⟨rfl, rfl⟩ ?_
      refine qa_ireturn rfl rfl rfl (hQ _)
    · have hkk : ∀ τ : qa_S, qK E Z b L g c (13000 * (j : Int) + 13000) τ → qa_W E qm_L_law Q9 (64 * r) (8000 * r) 3722 [(0, .ref b), (1, .ref c), (2, .ref (c + 277)), (3, .ref (c + 288)), (4, .ref (c + 289)), (5, .int (qa_i (4 * (j : Int))))] [] τ := by
        intro τ hτ
        refine qa_iinc (L' := [(0, _), (1, _), (2, _), (3, _), (4, _), (5, _)]) (z := 4 * ((j + 1 : Nat) : Int)) (pc' := 3725) ⟨rfl, rfl⟩ rfl (by omega) rfl rfl ?_
        refine qa_goto (pc' := 3728) (tgt := 28) ⟨rfl, rfl⟩ rfl ?_
        exact ih (j + 1) τ (by omega) (by rw [show 13000 * ((j + 1 : Nat) : Int) = 13000 * (j : Int) + 13000 by omega]; exact hτ)
      obtain ⟨z9, hz9, ez9⟩ := qa_an63 (qa_i (g (4 * (j : Int))))
      refine qa_aload_n (pc' := 38) ⟨rfl, rfl⟩ rfl ?_
      refine qa_iload (pc' := 40) ⟨rfl, rfl⟩ rfl ?_
      refine qa_iaload (pc' := 41) ⟨rfl, rfl⟩ hb (by omega) ?_
      refine qa_bipush (z := 63) (pc' := 43) ⟨rfl, rfl⟩ rfl ?_
      refine qa_iandX (z := z9) (pc' := 44) ⟨rfl, rfl⟩ ez9 ?_
      clear ez9
      have hz0 : 0 ≤ z9 := hz9.1
      rcases (by omega : z9 = 0 ∨ 1 ≤ z9) with rfl | hz1
      · exact qa_tabIn (tgt := 308) rfl (by decide) (by decide) (by decide) rfl rfl (w_0 (i := 4 * (j : Int)) hz hlo hbE hg (by omega) hL (by omega) hJ hkk)
      rcases (by omega : z9 = 1 ∨ 2 ≤ z9) with rfl | hz2
      · exact qa_tabIn (tgt := 352) rfl (by decide) (by decide) (by decide) rfl rfl (w_1 (i := 4 * (j : Int)) hz hlo hbE hg (by omega) hL (by omega) hJ hkk)
      rcases (by omega : z9 = 2 ∨ 3 ≤ z9) with rfl | hz3
      · exact qa_tabIn (tgt := 432) rfl (by decide) (by decide) (by decide) rfl rfl (w_2 (i := 4 * (j : Int)) hz hlo hbE hg (by omega) hL (by omega) hJ hkk)
      rcases (by omega : z9 = 3 ∨ 4 ≤ z9) with rfl | hz4
      · exact qa_tabIn (tgt := 500) rfl (by decide) (by decide) (by decide) rfl rfl (w_3 (i := 4 * (j : Int)) hz hlo hbE hg (by omega) hL (by omega) hJ hkk)
      rcases (by omega : z9 = 4 ∨ 5 ≤ z9) with rfl | hz5
      · exact qa_tabIn (tgt := 556) rfl (by decide) (by decide) (by decide) rfl rfl (w_4 (i := 4 * (j : Int)) hz hlo hbE hg (by omega) hL (by omega) hJ hkk)
      rcases (by omega : z9 = 5 ∨ 6 ≤ z9) with rfl | hz6
      · exact qa_tabIn (tgt := 624) rfl (by decide) (by decide) (by decide) rfl rfl (w_5 (i := 4 * (j : Int)) hz hlo hbE hg (by omega) hL (by omega) hJ hkk)
      rcases (by omega : z9 = 6 ∨ 7 ≤ z9) with rfl | hz7
      · exact qa_tabIn (tgt := 637) rfl (by decide) (by decide) (by decide) rfl rfl (w_6 (i := 4 * (j : Int)) hz hlo hbE hg (by omega) hL (by omega) hJ hkk)
      rcases (by omega : z9 = 7 ∨ 8 ≤ z9) with rfl | hz8
      · exact qa_tabIn (tgt := 693) rfl (by decide) (by decide) (by decide) rfl rfl (w_7 (i := 4 * (j : Int)) hz hlo hbE hg (by omega) hL (by omega) hJ hkk)
      rcases (by omega : z9 = 8 ∨ 9 ≤ z9) with rfl | hz9
      · exact qa_tabIn (tgt := 768) rfl (by decide) (by decide) (by decide) rfl rfl (w_8 (i := 4 * (j : Int)) hz hlo hbE hg (by omega) hL (by omega) hJ hkk)
      rcases (by omega : z9 = 9 ∨ 10 ≤ z9) with rfl | hz10
      · exact qa_tabIn (tgt := 836) rfl (by decide) (by decide) (by decide) rfl rfl (w_9 (i := 4 * (j : Int)) hz hlo hbE hg (by omega) hL (by omega) hJ hkk)
      rcases (by omega : z9 = 10 ∨ 11 ≤ z9) with rfl | hz11
      · exact qa_tabIn (tgt := 904) rfl (by decide) (by decide) (by decide) rfl rfl (w_10 (i := 4 * (j : Int)) hz hlo hbE hg (by omega) hL (by omega) hJ hkk)
      rcases (by omega : z9 = 11 ∨ 12 ≤ z9) with rfl | hz12
      · exact qa_tabIn (tgt := 960) rfl (by decide) (by decide) (by decide) rfl rfl (w_11 (i := 4 * (j : Int)) hz hlo hbE hg (by omega) hL (by omega) hJ hkk)
      rcases (by omega : z9 = 12 ∨ 13 ≤ z9) with rfl | hz13
      · exact qa_tabIn (tgt := 1028) rfl (by decide) (by decide) (by decide) rfl rfl (w_12 (i := 4 * (j : Int)) hz hlo hbE hg (by omega) hL (by omega) hJ hkk)
      rcases (by omega : z9 = 13 ∨ 14 ≤ z9) with rfl | hz14
      · exact qa_tabIn (tgt := 1084) rfl (by decide) (by decide) (by decide) rfl rfl (w_13 (i := 4 * (j : Int)) hz hlo hbE hg (by omega) hL (by omega) hJ hkk)
      rcases (by omega : z9 = 14 ∨ 15 ≤ z9) with rfl | hz15
      · exact qa_tabIn (tgt := 1139) rfl (by decide) (by decide) (by decide) rfl rfl (w_14 (i := 4 * (j : Int)) hz hlo hbE hg (by omega) hL (by omega) hJ hkk)
      rcases (by omega : z9 = 15 ∨ 16 ≤ z9) with rfl | hz16
      · exact qa_tabIn (tgt := 1183) rfl (by decide) (by decide) (by decide) rfl rfl (w_15 (i := 4 * (j : Int)) hz hlo hbE hg (by omega) hL (by omega) hJ hkk)
      rcases (by omega : z9 = 16 ∨ 17 ≤ z9) with rfl | hz17
      · exact qa_tabIn (tgt := 1227) rfl (by decide) (by decide) (by decide) rfl rfl (w_16 (i := 4 * (j : Int)) hz hlo hbE hg (by omega) hL (by omega) hJ hkk)
      rcases (by omega : z9 = 17 ∨ 18 ≤ z9) with rfl | hz18
      · exact qa_tabIn (tgt := 1283) rfl (by decide) (by decide) (by decide) rfl rfl (w_17 (i := 4 * (j : Int)) hz hlo hbE hg (by omega) hL (by omega) hJ hkk)
      rcases (by omega : z9 = 18 ∨ 19 ≤ z9) with rfl | hz19
      · exact qa_tabIn (tgt := 1339) rfl (by decide) (by decide) (by decide) rfl rfl (w_18 (i := 4 * (j : Int)) hz hlo hbE hg (by omega) hL (by omega) hJ hkk)
      rcases (by omega : z9 = 19 ∨ 20 ≤ z9) with rfl | hz20
      · exact qa_tabIn (tgt := 1407) rfl (by decide) (by decide) (by decide) rfl rfl (w_19 (i := 4 * (j : Int)) hz hlo hbE hg (by omega) hL (by omega) hJ hkk)
      rcases (by omega : z9 = 20 ∨ 21 ≤ z9) with rfl | hz21
      · exact qa_tabIn (tgt := 1475) rfl (by decide) (by decide) (by decide) rfl rfl (w_20 (i := 4 * (j : Int)) hz hlo hbE hg (by omega) hL (by omega) hJ hkk)
      rcases (by omega : z9 = 21 ∨ 22 ≤ z9) with rfl | hz22
      · exact qa_tabIn (tgt := 1555) rfl (by decide) (by decide) (by decide) rfl rfl (w_21 (i := 4 * (j : Int)) hz hlo hbE hg (by omega) hL (by omega) hJ hkk)
      rcases (by omega : z9 = 22 ∨ 23 ≤ z9) with rfl | hz23
      · exact qa_tabIn (tgt := 1611) rfl (by decide) (by decide) (by decide) rfl rfl (w_22 (i := 4 * (j : Int)) hz hlo hbE hg (by omega) hL (by omega) hJ hkk)
      rcases (by omega : z9 = 23 ∨ 24 ≤ z9) with rfl | hz24
      · exact qa_tabIn (tgt := 1667) rfl (by decide) (by decide) (by decide) rfl rfl (w_23 (i := 4 * (j : Int)) hz hlo hbE hg (by omega) hL (by omega) hJ hkk)
      rcases (by omega : z9 = 24 ∨ 25 ≤ z9) with rfl | hz25
      · exact qa_tabIn (tgt := 1735) rfl (by decide) (by decide) (by decide) rfl rfl (w_24 (i := 4 * (j : Int)) hz hlo hbE hg (by omega) hL (by omega) hJ hkk)
      rcases (by omega : z9 = 25 ∨ 26 ≤ z9) with rfl | hz26
      · exact qa_tabIn (tgt := 1803) rfl (by decide) (by decide) (by decide) rfl rfl (w_25 (i := 4 * (j : Int)) hz hlo hbE hg (by omega) hL (by omega) hJ hkk)
      rcases (by omega : z9 = 26 ∨ 27 ≤ z9) with rfl | hz27
      · exact qa_tabIn (tgt := 1871) rfl (by decide) (by decide) (by decide) rfl rfl (w_26 (i := 4 * (j : Int)) hz hlo hbE hg (by omega) hL (by omega) hJ hkk)
      rcases (by omega : z9 = 27 ∨ 28 ≤ z9) with rfl | hz28
      · exact qa_tabIn (tgt := 1939) rfl (by decide) (by decide) (by decide) rfl rfl (w_27 (i := 4 * (j : Int)) hz hlo hbE hg (by omega) hL (by omega) hJ hkk)
      rcases (by omega : z9 = 28 ∨ 29 ≤ z9) with rfl | hz29
      · exact qa_tabIn (tgt := 2007) rfl (by decide) (by decide) (by decide) rfl rfl (w_28 (i := 4 * (j : Int)) hz hlo hbE hg (by omega) hL (by omega) hJ hkk)
      rcases (by omega : z9 = 29 ∨ 30 ≤ z9) with rfl | hz30
      · exact qa_tabIn (tgt := 2063) rfl (by decide) (by decide) (by decide) rfl rfl (w_29 (i := 4 * (j : Int)) hz hlo hbE hg (by omega) hL (by omega) hJ hkk)
      rcases (by omega : z9 = 30 ∨ 31 ≤ z9) with rfl | hz31
      · exact qa_tabIn (tgt := 2131) rfl (by decide) (by decide) (by decide) rfl rfl (w_30 (i := 4 * (j : Int)) hz hlo hbE hg (by omega) hL (by omega) hJ hkk)
      rcases (by omega : z9 = 31 ∨ 32 ≤ z9) with rfl | hz32
      · exact qa_tabIn (tgt := 2187) rfl (by decide) (by decide) (by decide) rfl rfl (w_31 (i := 4 * (j : Int)) hz hlo hbE hg (by omega) hL (by omega) hJ hkk)
      rcases (by omega : z9 = 32 ∨ 33 ≤ z9) with rfl | hz33
      · exact qa_tabIn (tgt := 2243) rfl (by decide) (by decide) (by decide) rfl rfl (w_32 (i := 4 * (j : Int)) hz hlo hbE hg (by omega) hL (by omega) hJ hkk)
      rcases (by omega : z9 = 33 ∨ 34 ≤ z9) with rfl | hz34
      · exact qa_tabIn (tgt := 2299) rfl (by decide) (by decide) (by decide) rfl rfl (w_33 (i := 4 * (j : Int)) hz hlo hbE hg (by omega) hL (by omega) hJ hkk)
      rcases (by omega : z9 = 34 ∨ 35 ≤ z9) with rfl | hz35
      · exact qa_tabIn (tgt := 2355) rfl (by decide) (by decide) (by decide) rfl rfl (w_34 (i := 4 * (j : Int)) hz hlo hbE hg (by omega) hL (by omega) hJ hkk)
      rcases (by omega : z9 = 35 ∨ 36 ≤ z9) with rfl | hz36
      · exact qa_tabIn (tgt := 2411) rfl (by decide) (by decide) (by decide) rfl rfl (w_35 (i := 4 * (j : Int)) hz hlo hbE hg (by omega) hL (by omega) hJ hkk)
      rcases (by omega : z9 = 36 ∨ 37 ≤ z9) with rfl | hz37
      · exact qa_tabIn (tgt := 2467) rfl (by decide) (by decide) (by decide) rfl rfl (w_36 (i := 4 * (j : Int)) hz hlo hbE hg (by omega) hL (by omega) hJ hkk)
      rcases (by omega : z9 = 37 ∨ 38 ≤ z9) with rfl | hz38
      · exact qa_tabIn (tgt := 2480) rfl (by decide) (by decide) (by decide) rfl rfl (w_37 (i := 4 * (j : Int)) hz hlo hbE hg (by omega) hL (by omega) hJ hkk)
      rcases (by omega : z9 = 38 ∨ 39 ≤ z9) with rfl | hz39
      · exact qa_tabIn (tgt := 2536) rfl (by decide) (by decide) (by decide) rfl rfl (w_38 (i := 4 * (j : Int)) hz hlo hbE hg (by omega) hL (by omega) hJ hkk)
      rcases (by omega : z9 = 39 ∨ 40 ≤ z9) with rfl | hz40
      · exact qa_tabIn (tgt := 2604) rfl (by decide) (by decide) (by decide) rfl rfl (w_39 (i := 4 * (j : Int)) hz hlo hbE hg (by omega) hL (by omega) hJ hkk)
      rcases (by omega : z9 = 40 ∨ 41 ≤ z9) with rfl | hz41
      · exact qa_tabIn (tgt := 2660) rfl (by decide) (by decide) (by decide) rfl rfl (w_40 (i := 4 * (j : Int)) hz hlo hbE hg (by omega) hL (by omega) hJ hkk)
      rcases (by omega : z9 = 41 ∨ 42 ≤ z9) with rfl | hz42
      · exact qa_tabIn (tgt := 2715) rfl (by decide) (by decide) (by decide) rfl rfl (w_41 (i := 4 * (j : Int)) hz hlo hbE hg (by omega) hL (by omega) hJ hkk)
      rcases (by omega : z9 = 42 ∨ 43 ≤ z9) with rfl | hz43
      · exact qa_tabIn (tgt := 2770) rfl (by decide) (by decide) (by decide) rfl rfl (w_42 (i := 4 * (j : Int)) hz hlo hbE hg (by omega) hL (by omega) hJ hkk)
      rcases (by omega : z9 = 43 ∨ 44 ≤ z9) with rfl | hz44
      · exact qa_tabIn (tgt := 2826) rfl (by decide) (by decide) (by decide) rfl rfl (w_43 (i := 4 * (j : Int)) hz hlo hbE hg (by omega) hL (by omega) hJ hkk)
      rcases (by omega : z9 = 44 ∨ 45 ≤ z9) with rfl | hz45
      · exact qa_tabIn (tgt := 2839) rfl (by decide) (by decide) (by decide) rfl rfl (w_44 (i := 4 * (j : Int)) hz hlo hbE hg (by omega) hL (by omega) hJ hkk)
      rcases (by omega : z9 = 45 ∨ 46 ≤ z9) with rfl | hz46
      · exact qa_tabIn (tgt := 2895) rfl (by decide) (by decide) (by decide) rfl rfl (w_45 (i := 4 * (j : Int)) hz hlo hbE hg (by omega) hL (by omega) hJ hkk)
      rcases (by omega : z9 = 46 ∨ 47 ≤ z9) with rfl | hz47
      · exact qa_tabIn (tgt := 2951) rfl (by decide) (by decide) (by decide) rfl rfl (w_46 (i := 4 * (j : Int)) hz hlo hbE hg (by omega) hL (by omega) hJ hkk)
      rcases (by omega : z9 = 47 ∨ 48 ≤ z9) with rfl | hz48
      · exact qa_tabIn (tgt := 3007) rfl (by decide) (by decide) (by decide) rfl rfl (w_47 (i := 4 * (j : Int)) hz hlo hbE hg (by omega) hL (by omega) hJ hkk)
      rcases (by omega : z9 = 48 ∨ 49 ≤ z9) with rfl | hz49
      · exact qa_tabIn (tgt := 3084) rfl (by decide) (by decide) (by decide) rfl rfl (w_48 (i := 4 * (j : Int)) hz hlo hbE hg (by omega) hL (by omega) hJ hkk)
      rcases (by omega : z9 = 49 ∨ 50 ≤ z9) with rfl | hz50
      · exact qa_tabIn (tgt := 3162) rfl (by decide) (by decide) (by decide) rfl rfl (w_49 (i := 4 * (j : Int)) hz hlo hbE hg (by omega) hL (by omega) hJ hkk)
      rcases (by omega : z9 = 50 ∨ 51 ≤ z9) with rfl | hz51
      · exact qa_tabIn (tgt := 3218) rfl (by decide) (by decide) (by decide) rfl rfl (w_50 (i := 4 * (j : Int)) hz hlo hbE hg (by omega) hL (by omega) hJ hkk)
      rcases (by omega : z9 = 51 ∨ 52 ≤ z9) with rfl | hz52
      · exact qa_tabIn (tgt := 3231) rfl (by decide) (by decide) (by decide) rfl rfl (w_51 (i := 4 * (j : Int)) hz hlo hbE hg (by omega) hL (by omega) hJ hkk)
      rcases (by omega : z9 = 52 ∨ 53 ≤ z9) with rfl | hz53
      · exact qa_tabIn (tgt := 3287) rfl (by decide) (by decide) (by decide) rfl rfl (w_52 (i := 4 * (j : Int)) hz hlo hbE hg (by omega) hL (by omega) hJ hkk)
      rcases (by omega : z9 = 53 ∨ 54 ≤ z9) with rfl | hz54
      · exact qa_tabIn (tgt := 3343) rfl (by decide) (by decide) (by decide) rfl rfl (w_53 (i := 4 * (j : Int)) hz hlo hbE hg (by omega) hL (by omega) hJ hkk)
      rcases (by omega : z9 = 54 ∨ 55 ≤ z9) with rfl | hz55
      · exact qa_tabIn (tgt := 3401) rfl (by decide) (by decide) (by decide) rfl rfl (w_54 (i := 4 * (j : Int)) hz hlo hbE hg (by omega) hL (by omega) hJ hkk)
      rcases (by omega : z9 = 55 ∨ 56 ≤ z9) with rfl | hz56
      · exact qa_tabIn (tgt := 3445) rfl (by decide) (by decide) (by decide) rfl rfl (w_55 (i := 4 * (j : Int)) hz hlo hbE hg (by omega) hL (by omega) hJ hkk)
      rcases (by omega : z9 = 56 ∨ 57 ≤ z9) with rfl | hz57
      · exact qa_tabIn (tgt := 3489) rfl (by decide) (by decide) (by decide) rfl rfl (w_56 (i := 4 * (j : Int)) hz hlo hbE hg (by omega) hL (by omega) hJ hkk)
      rcases (by omega : z9 = 57 ∨ 58 ≤ z9) with rfl | hz58
      · exact qa_tabIn (tgt := 3533) rfl (by decide) (by decide) (by decide) rfl rfl (w_57 (i := 4 * (j : Int)) hz hlo hbE hg (by omega) hL (by omega) hJ hkk)
      rcases (by omega : z9 = 58 ∨ 59 ≤ z9) with rfl | hz59
      · exact qa_tabIn (tgt := 3577) rfl (by decide) (by decide) (by decide) rfl rfl (w_58 (i := 4 * (j : Int)) hz hlo hbE hg (by omega) hL (by omega) hJ hkk)
      rcases (by omega : z9 = 59 ∨ 60 ≤ z9) with rfl | hz60
      · exact qa_tabIn (tgt := 3621) rfl (by decide) (by decide) (by decide) rfl rfl (w_59 (i := 4 * (j : Int)) hz hlo hbE hg (by omega) hL (by omega) hJ hkk)
      rcases (by omega : z9 = 60 ∨ 61 ≤ z9) with rfl | hz61
      · exact qa_tabIn (tgt := 3665) rfl (by decide) (by decide) (by decide) rfl rfl (w_60 (i := 4 * (j : Int)) hz hlo hbE hg (by omega) hL (by omega) hJ hkk)
      rcases (by omega : z9 = 61 ∨ 62 ≤ z9) with rfl | hz62
      · exact qa_tabIn (tgt := 3678) rfl (by decide) (by decide) (by decide) rfl rfl (w_61 (i := 4 * (j : Int)) hz hlo hbE hg (by omega) hL (by omega) hJ hkk)
      exact qa_tabOut (tgt := 3722) rfl (by omega) (by omega) rfl (qa_W.less (Nat.le_add_right _ _) (Nat.le_add_right _ _) (hkk _ ⟨hJ.1, hJ.2.1, hJ.2.2.1, hJ.2.2.2.1, hJ.2.2.2.2.up⟩))
end WL
set_option maxHeartbeats 8000000 in
theorem law_W {E : qa_V} {Z : Nat → Nat} {b L : Nat} {g : Int → Int} {σ : qa_S} {Q9 : qa_O → qa_S → Prop} (hZ : qa_St E Z σ.1) (hz : qa_Sb E) (hb : σ.1 b = some (qa_ia L g)) (hbE : b < E.1) (hE : E.1 = σ.2) (hg : ∀ j : Int, qa_in (g j)) (hL : L ≤ 2048) (hQ : ∀ τ : qa_S, Q9 (.inl (some (.int (qa_i 1)))) τ) : qa_W E qm_L_law Q9 603072 7166058 0 [(0, .ref b)] [] σ := by
  obtain ⟨c, hc9⟩ : ∃ c : Nat, c = σ.2 := ⟨_, rfl⟩
  have e0 : σ.2 = c := hc9.symm
  have hlo : E.1 ≤ c := by omega
  have fr : ∀ q, q < c → σ.1 q = σ.1 q := fun _ _ => rfl
  refine qa_new (pc' := 3) (ci := 0) (n := 11) (fs := [.null, .null, .null, .null, .null, .null, .int (qa_i 0), .int (qa_i 0), .int (qa_i 0), .int (qa_i 0), .int (qa_i 0)]) ⟨rfl, rfl⟩ qw_0 (fun r hr => by cases hr; exact ⟨rfl, rfl, rfl, by decide +kernel⟩) qn_0_8 qini_0 ?_
  refine qa_gn (fun τ1 e1 w1 f1 => ?_)
  replace w1 : _ = some (Sum.inl (0, [.null, .null, .null, .null, .null, .null, .int (qa_i 0), .int (qa_i 0), .int (qa_i 0), .int (qa_i 0), .int (qa_i 0)]) : qa_E) := w1
  rw [e0] at e1 w1 f1 ⊢
  replace fr := fun q hq => (f1 q (by have := hq; omega)).trans (fr q hq)
  replace e0 := e1
  refine qa_dup (pc' := 4) ⟨rfl, rfl⟩ rfl ?_
  refine qa_callI rfl qf_C_init ql_0_202 (c_C_init (E := E) (Z := Z) hz hlo e0 w1) rfl rfl (qa_lt9 rfl) (qa_le9 rfl) (qa_le9 rfl) (qa_le9 rfl) (fun o9 τ9 hq9 => ?_)
  obtain ⟨rfl, e9, f9, hC⟩ := hq9
  refine qa_nx (pc' := 7) (kc' := 602795) (ks' := 7163813) (st' := [_]) rfl rfl rfl rfl ?_
  replace fr := fun q hq => (f9 q (by have := hq; omega)).trans (fr q hq)
  replace e0 := e9
  refine qa_astore_n (L' := [(0, _), (1, _)]) (pc' := 8) ⟨rfl, rfl⟩ rfl rfl ?_
  refine qa_new (pc' := 11) (ci := 9) (n := 27) (fs := [.null, .null, .null, .int (qa_i 0), .null, .int (qa_i 0), .int (qa_i 0), .int (qa_i 0), .int (qa_i 0), .int (qa_i 0), .int (qa_i 0), .int (qa_i 0), .int (qa_i 0), .null, .int (qa_i 0), .null, .int (qa_i 0), .int (qa_i 0), .null, .int (qa_i 0), .null, .null, .null, .int (qa_i 0), .int (qa_i 0), .int (qa_i 0), .int (qa_i 0)]) ⟨rfl, rfl⟩ qw_9 (fun r hr => by cases hr; exact ⟨rfl, rfl, rfl, by decide +kernel⟩) qn_0_203 qini_9 ?_
  refine qa_gn (fun τ2 e2 w2 f2 => ?_)
  replace w2 : _ = some (Sum.inl (9, [.null, .null, .null, .int (qa_i 0), .null, .int (qa_i 0), .int (qa_i 0), .int (qa_i 0), .int (qa_i 0), .int (qa_i 0), .int (qa_i 0), .int (qa_i 0), .int (qa_i 0), .null, .int (qa_i 0), .null, .int (qa_i 0), .int (qa_i 0), .null, .int (qa_i 0), .null, .null, .null, .int (qa_i 0), .int (qa_i 0), .int (qa_i 0), .int (qa_i 0)]) : qa_E) := w2
  rw [e0] at e2 w2 f2 ⊢
  replace fr := fun q hq => (f2 q (by have := hq; omega)).trans (fr q hq)
  replace e0 := e2
  replace hC := hC.fr (fun q hq => f2 q (by omega))
  refine qa_dup (pc' := 12) ⟨rfl, rfl⟩ rfl ?_
  refine qa_callI rfl qf_M_init ql_0_205 (c_M_init (E := E) (μ := c + 277) (by omega) e0 w2) rfl rfl (qa_lt9 rfl) (qa_le9 rfl) (qa_le9 rfl) (qa_le9 rfl) (fun o9 τ9 hq9 => ?_)
  obtain ⟨rfl, e9, f9, hR⟩ := hq9
  refine qa_nx (pc' := 15) (kc' := 602784) (ks' := 7161569) (st' := [_]) rfl rfl rfl rfl ?_
  replace fr := fun q hq => (f9 q (by have := hq; omega)).trans (fr q hq)
  replace e0 := e9
  replace hC := hC.fr (fun q hq => f9 q (by omega))
  refine qa_astore_n (L' := [(0, _), (1, _), (2, _)]) (pc' := 16) ⟨rfl, rfl⟩ rfl rfl ?_
  refine qa_iconst (pc' := 17) ⟨rfl, rfl⟩ ?_
  refine qa_newarr (pc' := 19) (t := 1) (N := 1) (y := (1, .inr (.inl (fun q => qa_l ((fun _ : Int => 0) q))))) ⟨rfl, rfl⟩ rfl rfl qa_ac_long rfl (by omega) (fun _ _ => rfl) (qa_le9 rfl) (fun _ _ => Iff.rfl) ?_
  refine qa_gn (fun τ3 e3 w3 f3 => ?_)
  replace w3 : _ = some (qa_la 1 (fun _ => 0)) := w3
  rw [e0] at e3 w3 f3 ⊢
  replace fr := fun q hq => (f3 q (by have := hq; omega)).trans (fr q hq)
  replace e0 := e3
  have ho := w3
  replace hC := hC.fr (fun q hq => f3 q (by omega))
  replace hR := hR.fr (fun q q0 q1 => f3 q (by omega))
  refine qa_astore_n (L' := [(0, _), (1, _), (2, _), (3, _)]) (pc' := 20) ⟨rfl, rfl⟩ rfl rfl ?_
  refine qa_iconst (pc' := 21) ⟨rfl, rfl⟩ ?_
  refine qa_newarr (pc' := 23) (t := 4) (N := 1) (y := (1, .inr (.inr (.inr (.inl (fun q => ((fun _ : Int => (0 : UInt64)) q))))))) ⟨rfl, rfl⟩ rfl rfl qa_ac_double rfl (by omega) (fun _ _ => rfl) (qa_le9 rfl) (fun _ _ => Iff.rfl) ?_
  refine qa_gn (fun τ4 e4 w4 f4 => ?_)
  replace w4 : _ = some (qa_da 1 (fun _ => 0)) := w4
  rw [e0] at e4 w4 f4 ⊢
  replace ho := (f4 _ (by omega)).trans ho
  replace fr := fun q hq => (f4 q (by have := hq; omega)).trans (fr q hq)
  replace e0 := e4
  have hd := w4
  replace hC := hC.fr (fun q hq => f4 q (by omega))
  replace hR := hR.fr (fun q q0 q1 => f4 q (by omega))
  refine qa_astore (L' := [(0, _), (1, _), (2, _), (3, _), (4, _)]) (pc' := 25) ⟨rfl, rfl⟩ rfl rfl ?_
  refine qa_iconst (pc' := 26) ⟨rfl, rfl⟩ ?_
  refine qa_istore (L' := [(0, _), (1, _), (2, _), (3, _), (4, _), (5, _)]) (pc' := 28) ⟨rfl, rfl⟩ rfl rfl ?_
  have hZ9 : qa_St E Z τ4.1 := hZ.to (fun q hq => fr q (by omega))
  have hK : qK E Z b L g c (13000 * ((0 : Nat) : Int)) τ4 := ⟨hZ9, (fr b (by omega)).trans hb, ⟨_, ho⟩, ⟨_, hd⟩, c + 272, c + 276, sm_0, sm_0, fun _ => sm_0, 0, 0, [], [], [], _, _, _, _, _, _, hC.up (by decide), hR, ⟨by omega, by omega, by omega, Or.inl rfl, Or.inl rfl⟩, ⟨rfl, fun h => absurd rfl h⟩, ⟨rfl, fun j q j0 j1 q0 q1 => absurd j1 (by omega)⟩, rfl, Or.inl ⟨rfl, rfl, rfl⟩, ⟨rfl, fun j hj => absurd hj (Nat.not_lt_zero _)⟩, rfl, Nat.zero_le _, fun j hj => absurd hj (Nat.not_lt_zero _)⟩
  exact qa_W.less (kc' := 64 * 512) (ks' := 8000 * 512) (Nat.le_of_ble_eq_true rfl) (Nat.le_of_ble_eq_true rfl) (law_loop hz hlo hbE hg hL hQ 512 0 τ4 rfl hK)
