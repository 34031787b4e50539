/-! execute of the class -/
theorem sc_nm_n {t : List Int} {md : Nat} {fac o : Int} (h : (sc_nm t md fac o).1 ≠ 0) : (sc_nm t md fac o).2.2.length = 1 := by
  by_cases e : (sc_dg t md o 0).2 = o
  · exact absurd (show (sc_nm t md fac o).1 = 0 by unfold sc_nm; rw [if_pos e]) h
  · unfold sc_nm; rw [if_neg e]; rfl
theorem sc_sg_n {t : List Int} {x o : Int} (h : (sc_sg t x o).1 ≠ 0) : (sc_sg t x o).2.2.length = if x = 68 ∨ x = 78 ∨ x = 83 then 1 else 0 := by
  unfold sc_sg at h ⊢
  by_cases h1 : x = 68
  · rw [if_pos h1] at h ⊢; rw [if_pos (Or.inl h1)]; exact sc_nm_n h
  rw [if_neg h1] at h ⊢
  by_cases h2 : x = 78
  · rw [if_pos h2] at h ⊢; rw [if_pos (Or.inr (Or.inl h2))]; exact sc_nm_n h
  rw [if_neg h2] at h ⊢
  by_cases h3 : x = 83
  · rw [if_pos h3] at h ⊢
    rw [if_pos (show x = 68 ∨ x = 78 ∨ x = 83 from Or.inr (Or.inr h3))]
    by_cases h4 : o < t.length ∧ sc_at t o = 45
    · rw [if_pos h4] at h ⊢; exact sc_nm_n h
    · rw [if_neg h4] at h ⊢; exact sc_nm_n h
  rw [if_neg h3] at h ⊢
  rw [if_neg (show ¬ (x = 68 ∨ x = 78 ∨ x = 83) by omega)]
  split <;> rfl
theorem sc_fm_n {t : List Int} {F : Int → Int} {o : Int} : ∀ k : Nat, (sc_fm t F k (1, o, [])).1 ≠ 0 → (sc_fm t F k (1, o, [])).2.2.length = sc_ct F k
  | 0, _ => rfl
  | k + 1, h => by
    have es : sc_fm t F (k + 1) (1, o, []) = sc_st t (F k) (sc_fm t F k (1, o, [])) := rfl
    have ec : sc_ct F (k + 1) = sc_ct F k + if F k = 68 ∨ F k = 78 ∨ F k = 83 then 1 else 0 := rfl
    rw [es] at h ⊢
    rw [ec]
    by_cases h0 : (sc_fm t F k (1, o, [])).1 = 0
    · exact absurd (by unfold sc_st; rw [if_pos h0]; exact h0) h
    · have ih := sc_fm_n (t := t) (F := F) (o := o) k h0
      unfold sc_st at h ⊢
      rw [if_neg h0] at h ⊢
      show (_ ++ _ : List Int).length = _
      rw [List.length_append, ih, sc_sg_n h]
def sc_well (x : Nat × List Int) : Prop := x.1 < 11 ∧ sc_full x
theorem sc_tr_n {t : List Int} {o : Int} : ∀ (f k : Nat) (far : Int), k + f = 11 → (sc_tr t o f k far).1 ≠ 0 → sc_well (sc_tr t o f k far).2.2
  | 0, k, far, _, h => absurd rfl h
  | f + 1, k, far, hk, h => by
    have es : sc_tr t o (f + 1) k far = if (sc_k t o k).1 = 0 then sc_tr t o f (k + 1) (if (sc_k t o k).2.1 ≤ far then far else (sc_k t o k).2.1) else (1, (sc_k t o k).2.1, k, (sc_k t o k).2.2) := rfl
    rw [es] at h ⊢
    by_cases h0 : (sc_k t o k).1 = 0
    · rw [if_pos h0] at h ⊢
      exact sc_tr_n f (k + 1) _ (by omega) h
    · rw [if_neg h0]
      exact ⟨by show k < 11; omega, sc_fm_n _ h0⟩
theorem sc_all_n {t : List Int} : ∀ (f : Nat) (o : Int) (cs : sc_C), (∀ x ∈ cs, sc_well x) → ∀ x ∈ (sc_all t f o cs).2, sc_well x
  | 0, o, cs, h => h
  | f + 1, o, cs, h => by
    have es : sc_all t (f + 1) o cs = if (sc_tr t o 11 0 o).1 = 0 then ((sc_tr t o 11 0 o).2.1, cs) else if (sc_tr t o 11 0 o).2.1 = t.length then (-1, cs ++ [(sc_tr t o 11 0 o).2.2])
      else if (sc_tr t o 11 0 o).2.1 < t.length ∧ sc_at t (sc_tr t o 11 0 o).2.1 = 59 then sc_all t f ((sc_tr t o 11 0 o).2.1 + 1) (cs ++ [(sc_tr t o 11 0 o).2.2]) else ((sc_tr t o 11 0 o).2.1, cs ++ [(sc_tr t o 11 0 o).2.2]) := rfl
    rw [es]
    by_cases h0 : (sc_tr t o 11 0 o).1 = 0
    · rw [if_pos h0]; exact h
    rw [if_neg h0]
    have hx : ∀ x ∈ cs ++ [(sc_tr t o 11 0 o).2.2], sc_well x := by
      intro x hx
      rcases List.mem_append.mp hx with h1 | h1
      · exact h x h1
      · rw [List.mem_singleton.mp h1]; exact sc_tr_n 11 0 o rfl h0
    by_cases h1 : (sc_tr t o 11 0 o).2.1 = t.length
    · rw [if_pos h1]; exact hx
    rw [if_neg h1]
    split
    · exact sc_all_n f _ _ hx
    · exact hx
theorem sc_all_e {t : List Int} : ∀ (f : Nat) (o : Int) (cs : sc_C), (0 ≤ o ∧ o ≤ t.length) → -1 ≤ (sc_all t f o cs).1 ∧ (sc_all t f o cs).1 ≤ t.length
  | 0, o, cs, h => ⟨by show -1 ≤ o; omega, by show o ≤ _; omega⟩
  | f + 1, o, cs, h => by
    have es : sc_all t (f + 1) o cs = if (sc_tr t o 11 0 o).1 = 0 then ((sc_tr t o 11 0 o).2.1, cs) else if (sc_tr t o 11 0 o).2.1 = t.length then (-1, cs ++ [(sc_tr t o 11 0 o).2.2])
      else if (sc_tr t o 11 0 o).2.1 < t.length ∧ sc_at t (sc_tr t o 11 0 o).2.1 = 59 then sc_all t f ((sc_tr t o 11 0 o).2.1 + 1) (cs ++ [(sc_tr t o 11 0 o).2.2]) else ((sc_tr t o 11 0 o).2.1, cs ++ [(sc_tr t o 11 0 o).2.2]) := rfl
    obtain ⟨-, b1, b2, -⟩ := sc_tr_b h 11 0 o rfl ⟨Int.le_refl _, h.2⟩
    rw [es]
    split
    · exact ⟨by show -1 ≤ (sc_tr t o 11 0 o).2.1; omega, b2⟩
    · split
      · exact ⟨Int.le_refl _, by show (-1 : Int) ≤ _; omega⟩
      · split
        · exact sc_all_e f _ _ (by omega)
        · exact ⟨by show -1 ≤ (sc_tr t o 11 0 o).2.1; omega, b2⟩
/-- all commands over the data: (1, which one, what it answered) where one fails, and the data -/
def so_ex (m : Int → Int) : sc_C → Int → Int × Int × Int × (Int → Int)
  | [], _ => (0, 0, 0, m)
  | x :: xs, i => if (so_cmd m x).1 < 0 then (1, i, (so_cmd m x).1, m) else so_ex (so_cmd m x).2.2 xs (i + 1)
theorem so_ex_s (m : Int → Int) (x : Nat × List Int) (xs : sc_C) (i : Int) : so_ex m (x :: xs) i = if (so_cmd m x).1 < 0 then (1, i, (so_cmd m x).1, m) else so_ex (so_cmd m x).2.2 xs (i + 1) := rfl
def sN_cmd (n : Nat → Int) (i a : Int) : Nat → Int := fun j => if j = 1 then 9 else if j = 2 then i else if j = 3 then -a else n j
theorem c_C_refuseCommand {E : qa_V} {σ : qa_S} {c : Nat} {n : Nat → Int} {i a : Int} (hlo : E.1 ≤ c) (hlt : c < σ.2) (hc : σ.1 c = some (qa_CoF c n)) (ha : -11 ≤ a ∧ a < 0) : qa_T E qm_C_refuseCommand 1 6 [.ref c, .int (qa_i i), .int (qa_i a)] σ (fun o9 τ => σ.2 ≤ τ.2 ∧ ((a < -9 ∧ o9 = .inr 5 ∧ τ.1 = σ.1) ∨ (-9 ≤ a ∧ o9 = .inr 2 ∧ τ.1 c = some (qa_CoF c (sN_cmd n i a)) ∧ ∀ q, q ≠ c → τ.1 q = σ.1 q))) := by
  refine qa_enterQ (by decide) rfl qm_C_refuseCommand_ok rfl rfl (fun Q9 hQ => ?_)
  refine qa_iload_n (pc' := 1) ⟨rfl, rfl⟩ rfl ?_
  refine qa_bipush (z := (-10)) (pc' := 3) ⟨rfl, rfl⟩ rfl ?_
  refine qa_icmp_eq (pc' := 6) (tgt := 12) ⟨rfl, rfl⟩ rfl (by omega) (by omega) (fun hc1 => ?_) (fun hc1 => ?_)
  · refine qa_throwW rfl rfl rfl rfl rfl rfl qt_1_306_396_310 (qa_le9 rfl) (fun n9 hn9 => hQ _ _ ⟨hn9, Or.inl ⟨by omega, rfl, rfl⟩⟩)
  · refine qa_iload_n (pc' := 7) ⟨rfl, rfl⟩ rfl ?_
    refine qa_bipush (z := (-11)) (pc' := 9) ⟨rfl, rfl⟩ rfl ?_
    refine qa_icmp_ne (pc' := 12) (tgt := 23) ⟨rfl, rfl⟩ rfl (by omega) (by omega) (fun hc2 => ?_) (fun hc2 => ?_)
    · have e0 : σ.2 = σ.2 := rfl
      have fr : ∀ q, q ≠ c → σ.1 q = σ.1 q := fun _ _ => rfl
      refine qa_aload_n (pc' := 24) ⟨rfl, rfl⟩ rfl ?_
      refine qa_bipush (z := 9) (pc' := 26) ⟨rfl, rfl⟩ rfl ?_
      refine qa_putf (fs' := [_, _, _, _, _, _, _, _, _, _, _]) (pc' := 29) ⟨rfl, rfl⟩ qg_1_350 qw_0 (by assumption) (by omega) rfl (fun r hr => by cases hr; exact ⟨rfl, Or.inl rfl⟩) rfl rfl ?_
      refine qa_gz (fun τ1 e1 w1 f1 => ?_)
      replace fr := fun q hq => (f1 q (by have := hq; omega)).trans (fr q hq)
      replace e0 := e1.trans e0
      refine qa_aload_n (pc' := 30) ⟨rfl, rfl⟩ rfl ?_
      refine qa_iload_n (pc' := 31) ⟨rfl, rfl⟩ rfl ?_
      refine qa_putf (fs' := [_, _, _, _, _, _, _, _, _, _, _]) (pc' := 34) ⟨rfl, rfl⟩ qg_1_353 qw_0 (by assumption) (by omega) rfl (fun r hr => by cases hr; exact ⟨rfl, Or.inl rfl⟩) rfl rfl ?_
      refine qa_gz (fun τ2 e2 w2 f2 => ?_)
      replace fr := fun q hq => (f2 q (by have := hq; omega)).trans (fr q hq)
      replace e0 := e2.trans e0
      refine qa_aload_n (pc' := 35) ⟨rfl, rfl⟩ rfl ?_
      refine qa_iload_n (pc' := 36) ⟨rfl, rfl⟩ rfl ?_
      refine qa_ineg (z := -a) (pc' := 37) ⟨rfl, rfl⟩ rfl ?_
      refine qa_putf (fs' := [_, _, _, _, _, _, _, _, _, _, _]) (pc' := 40) ⟨rfl, rfl⟩ qg_1_358 qw_0 (by assumption) (by omega) rfl (fun r hr => by cases hr; exact ⟨rfl, Or.inl rfl⟩) rfl rfl ?_
      refine qa_gz (fun τ3 e3 w3 f3 => ?_)
      replace fr := fun q hq => (f3 q (by have := hq; omega)).trans (fr q hq)
      replace e0 := e3.trans e0
      refine qa_throwW rfl rfl rfl rfl rfl rfl qt_1_391_398_395 (qa_le9 rfl) (fun n9 hn9 => hQ _ _ ⟨by show σ.2 ≤ n9; omega, Or.inr ⟨by omega, rfl, w3, fr⟩⟩)
    · refine qa_throwW rfl rfl rfl rfl rfl rfl qt_1_306_396_310 (qa_le9 rfl) (fun n9 hn9 => hQ _ _ ⟨hn9, Or.inl ⟨by omega, rfl, rfl⟩⟩)
theorem c_C_execute {E : qa_V} {σ : qa_S} {c vi vo : Nat} {Z : Nat → Nat} {B : Int} {m msn : Int → Int} {mh : Int → Int → Int} {sp ct : Int} {t u : List Int} {cs : sc_C} {n : Nat → Int} (hZ : qa_St E Z σ.1) (hz : qa_Sb E) (hlo : E.1 ≤ c) (hC : sR_C σ.1 c vi vo Z B m msn mh sp ct t u cs n) (hsz : c + 277 ≤ σ.2 ∧ vi < σ.2 ∧ vo < σ.2) (hB9 : B ≤ 900000000) : qa_T E qm_C_execute 2 156 [.ref c] σ (fun o9 τ => sC_F σ τ c vi vo ∧ (((sc_all t 13 0 []).1 ≠ -1 ∧ o9 = .inr 1 ∧ sR_C τ.1 c vi vo Z (B + 13000) m msn mh sp ct [] u ((sc_all t 13 0 []).2) (sN_put n 4 (sc_all t 13 0 []).1)) ∨ ((sc_all t 13 0 []).1 = -1 ∧ (so_ex m (sc_all t 13 0 []).2 0).1 = 0 ∧ o9 = .inl (some (.int (qa_i ((sc_all t 13 0 []).2.length : Int)))) ∧ sR_C τ.1 c vi vo Z (B + 13000) ((so_ex m (sc_all t 13 0 []).2 0).2.2.2) msn (sH_up mh sp m) ((sp + 1) % 9) ((if ct < 8 then ct + 1 else 8)) [] u ((sc_all t 13 0 []).2) n) ∨ ((sc_all t 13 0 []).1 = -1 ∧ (so_ex m (sc_all t 13 0 []).2 0).1 = 1 ∧ (so_ex m (sc_all t 13 0 []).2 0).2.2.1 < -9 ∧ o9 = .inr 5 ∧ sR_C τ.1 c vi vo Z (B + 13000) m msn (sH_up mh sp m) sp ct [] u ((sc_all t 13 0 []).2) n) ∨ ((sc_all t 13 0 []).1 = -1 ∧ (so_ex m (sc_all t 13 0 []).2 0).1 = 1 ∧ (-9 ≤ (so_ex m (sc_all t 13 0 []).2 0).2.2.1 ∧ (so_ex m (sc_all t 13 0 []).2 0).2.2.1 < 0) ∧ o9 = .inr 2 ∧ sR_C τ.1 c vi vo Z (B + 13000) m msn (sH_up mh sp m) sp ct [] u ((sc_all t 13 0 []).2) (sN_cmd n (so_ex m (sc_all t 13 0 []).2 0).2.1 (so_ex m (sc_all t 13 0 []).2 0).2.2.1)))) := by
  refine qa_enterQ (by decide) rfl qm_C_execute_ok rfl rfl (fun Q9 hQ => ?_)
  have hC9 := hC
  obtain ⟨⟨hc, hn0, hn1, hn4⟩, ⟨⟨rf, hS⟩, hk⟩, ⟨⟨rf2, hSn⟩, hkn⟩, hH, hX, hR, hBb, hv1, hv2, hv3⟩ := hC
  have hR9 := hR
  obtain ⟨o8, a8, fa, ar, hr, hB, ⟨hv9, hv93⟩, hac, ha, hl, hcl, hb9, hcs⟩ := hR9
  have eb := sc_all_e (t := t) 13 0 [] (by omega)
  have ew := sc_all_n (t := t) 13 0 [] (fun x h => absurd h List.not_mem_nil)
  obtain ⟨ce, hce⟩ : ∃ x, x = sc_all t 13 0 [] := ⟨_, rfl⟩
  refine qa_aload_n (pc' := 1) ⟨rfl, rfl⟩ rfl ?_
  refine qa_getf (pc' := 4) ⟨rfl, rfl⟩ qg_1_36 (by assumption) rfl ?_
  refine qa_callV rfl qf_R_readCommands ql_1_315 (c_R_readCommands (E := E) hZ hz (by omega) hR) hr rfl rfl rfl (qa_lt9 rfl) (qa_le9 rfl) (qa_le9 rfl) (qa_le9 rfl) (fun o9 τ9 hq9 => ?_)
  obtain ⟨rfl, e1, f1, w1⟩ := hq9
  refine qa_nx (pc' := 7) (st' := [_]) rfl rfl rfl rfl ?_
  rw [← hce] at hQ eb ew w1 ⊢
  have hCa := hC9.setR (vi' := vi) (fun q hq => f1 q (by omega) (by omega) (by omega)) w1 ⟨by omega, hv3⟩
  have hc1 := (f1 c (by omega) (by omega) (by omega)).trans hc
  obtain ⟨o7, a7, fa7, ar7, hr7, hB7, hv7, hac7, ha7, hl7, hcl7, hb7, hcs7⟩ := w1
  refine qa_istore_n (L' := [(0, _), (1, _)]) (pc' := 8) ⟨rfl, rfl⟩ rfl rfl ?_
  refine qa_aload_n (pc' := 9) ⟨rfl, rfl⟩ rfl ?_
  refine qa_getf (pc' := 12) ⟨rfl, rfl⟩ qg_1_36 hc1 rfl ?_
  refine qa_callV rfl qf_R_clear ql_1_318 (c_R_clear (E := E) hz (by omega) (by omega) (by omega) hr7 hB7) hr7 rfl rfl rfl (qa_lt9 rfl) (qa_le9 rfl) (qa_le9 rfl) (qa_le9 rfl) (fun o9 τ9 hq9 => ?_)
  obtain ⟨rfl, e2, f2, w2⟩ := hq9
  refine qa_nx (pc' := 15) (st' := []) rfl rfl rfl rfl ?_
  have hR2 : sR_R τ9.1 (c + 270) vi [] ce.2 Z := ⟨o7, a7, fa7, ar7, (f2 _ (by omega) (by omega)).trans hr7, w2, hv7, (f2 _ (by omega) (by omega)).trans hac7, (f2 _ (by omega) (by omega)).trans ha7, Nat.zero_le _, hcl7, hb7, hcs7⟩
  have hCb := (hCa.setR (vi' := vi) (fun q hq => f2 q (by omega) (by omega)) hR2 ⟨by omega, hv3⟩).up (B' := B + 13000) (by omega)
  have hF : sC_F σ τ9 c vi vo := ⟨by omega, fun q q0 q1 q2 q3 => (f2 q (by omega) (by omega)).trans (f1 q (by omega) (by omega) (by omega))⟩
  clear hC9 hH hX hR hBb hn0 hn4 hv1 hv2 hCa f1 f2 w2 hr7 hB7 hr hB hac ha hac7 ha7 hcs7 hcs hSn hkn hS hb9 hb7
  obtain ⟨⟨hc, hn0, hn1, hn4⟩, ⟨⟨rf1, hS⟩, hk1⟩, -, hH, hX, hR, hBb, hv1, hv2, -⟩ := id hCb
  refine qa_iload_n (pc' := 16) ⟨rfl, rfl⟩ rfl ?_
  refine qa_iconst (pc' := 17) ⟨rfl, rfl⟩ ?_
  refine qa_icmp_eq (pc' := 20) (tgt := 36) ⟨rfl, rfl⟩ rfl (by omega) (by omega) (fun hc2 => ?_) (fun hc2 => ?_)
  · have hH1 := hH.1
    have hs := hS.1
    refine qa_aload_n (pc' := 37) ⟨rfl, rfl⟩ rfl ?_
    refine qa_getf (pc' := 40) ⟨rfl, rfl⟩ qg_1_22 (by assumption) rfl ?_
    refine qa_aload_n (pc' := 41) ⟨rfl, rfl⟩ rfl ?_
    refine qa_getf (pc' := 44) ⟨rfl, rfl⟩ qg_1_10 (by assumption) rfl ?_
    refine qa_callV rfl qf_H_prepare ql_1_326 (c_H_prepare (E := E) (by omega) hH (by omega) (by omega) hS hk1) hH1 rfl rfl rfl (qa_lt9 rfl) (qa_le9 rfl) (qa_le9 rfl) (qa_le9 rfl) (fun o9 τ9 hq9 => ?_)
    obtain ⟨rfl, e3, f3, w3⟩ := hq9
    refine qa_nx (pc' := 47) (st' := []) rfl rfl rfl rfl ?_
    replace hCb := hCb.setH (fun q hq => f3 q (by omega)) w3
    replace hF : sC_F σ τ9 c vi vo := ⟨by have := hF.1; omega, fun q q0 q1 q2 q3 => (f3 q (by omega)).trans (hF.2 q q0 q1 q2 q3)⟩
    clear hc hn0 hn1 hn4 hS hk1 hH hX hR hBb hv1 hv2 hH1 hs f3 w3 e3
    refine qa_iconst (pc' := 48) ⟨rfl, rfl⟩ ?_
    refine qa_istore_n (L' := [(0, _), (1, _), (2, _)]) (pc' := 49) ⟨rfl, rfl⟩ rfl rfl ?_
    have T1 : ∀ (f9 : Nat) (τ : qa_S) (i : Nat) (mi : Int → Int), ((i : Int) + f9 = ce.2.length ∧ so_ex m ce.2 0 = so_ex mi (ce.2.drop i) i ∧ sm_ok mi (B + 960 * i) ∧ sC_F σ τ c vi vo ∧ sR_C τ.1 c vi vo Z (B + 13000) mi msn (sH_up mh sp m) sp ct [] u ce.2 n) → qa_W E qm_C_execute Q9 1 6 49 [(0, .ref c), (1, .int (qa_i ce.1)), (2, .int (qa_i i))] [] τ := by
      clear hCb hF
      intro f9
      induction f9 with
      | zero =>
        intro τ i mi ⟨hif, hex, hki, hF, hCb⟩
        obtain ⟨⟨hc, hn0, hn1, hn4⟩, ⟨⟨rf1, hS⟩, hk1⟩, -, hH, hX, hR, hBb, hv1, hv2, -⟩ := id hCb
        obtain ⟨o7, a7, fa7, ar7, hr7, -⟩ := id hR
        refine qa_iload_n (pc' := 50) ⟨rfl, rfl⟩ rfl ?_
        refine qa_aload_n (pc' := 51) ⟨rfl, rfl⟩ rfl ?_
        refine qa_getf (pc' := 54) ⟨rfl, rfl⟩ qg_1_36 (by assumption) rfl ?_
        refine qa_getf (pc' := 57) ⟨rfl, rfl⟩ qg_1_330 hr7 rfl ?_
        refine qa_icmp_ge (pc' := 60) (tgt := 100) ⟨rfl, rfl⟩ rfl (by omega) (by omega) (fun hc3 => ?_) (fun hc3 => ?_)
        · have hx9 : so_ex m ce.2 0 = (0, 0, 0, mi) := by rw [hex, List.drop_eq_nil_of_le (by omega)]; rfl
          have hH1 := hH.1
          refine qa_aload_n (pc' := 101) ⟨rfl, rfl⟩ rfl ?_
          refine qa_getf (pc' := 104) ⟨rfl, rfl⟩ qg_1_22 (by assumption) rfl ?_
          refine qa_callV rfl qf_H_commit ql_1_344 (c_H_commit (E := E) (by omega) hH) hH1 rfl rfl rfl (qa_lt9 rfl) (qa_le9 rfl) (qa_le9 rfl) (qa_le9 rfl) (fun o9 τ9 hq9 => ?_)
          obtain ⟨rfl, e3, f3, w3⟩ := hq9
          refine qa_nx (pc' := 107) (st' := []) rfl rfl rfl rfl ?_
          have hCc := hCb.setH (fun q hq => f3 q (by omega)) w3
          have hcc := (f3 c (by omega)).trans hc
          have hrc := (f3 (c + 270) (by omega)).trans hr7
          refine qa_aload_n (pc' := 108) ⟨rfl, rfl⟩ rfl ?_
          refine qa_getf (pc' := 111) ⟨rfl, rfl⟩ qg_1_36 hcc rfl ?_
          refine qa_getf (pc' := 114) ⟨rfl, rfl⟩ qg_1_330 hrc rfl ?_
          refine qa_ireturn rfl rfl rfl (hQ _ _ ⟨⟨by have := hF.1; omega, fun q q0 q1 q2 q3 => (f3 q (by omega)).trans (hF.2 q q0 q1 q2 q3)⟩, Or.inr (Or.inl ⟨hc2, by rw [hx9], rfl, by rw [hx9]; exact hCc⟩)⟩)
        · exact absurd hc3 (by omega)
      | succ f9 iT1 =>
        intro τ i mi ⟨hif, hex, hki, hF, hCb⟩
        obtain ⟨⟨hc, hn0, hn1, hn4⟩, ⟨⟨rf1, hS⟩, hk1⟩, -, hH, hX, hR, hBb, hv1, hv2, -⟩ := id hCb
        obtain ⟨o7, a7, fa7, ar7, hr7, -⟩ := id hR
        refine qa_iload_n (pc' := 50) ⟨rfl, rfl⟩ rfl ?_
        refine qa_aload_n (pc' := 51) ⟨rfl, rfl⟩ rfl ?_
        refine qa_getf (pc' := 54) ⟨rfl, rfl⟩ qg_1_36 (by assumption) rfl ?_
        refine qa_getf (pc' := 57) ⟨rfl, rfl⟩ qg_1_330 hr7 rfl ?_
        refine qa_icmp_ge (pc' := 60) (tgt := 100) ⟨rfl, rfl⟩ rfl (by omega) (by omega) (fun hc3 => ?_) (fun hc3 => ?_)
        · exact absurd hc3 (by omega)
        · obtain ⟨x, hx⟩ : ∃ x, x = ce.2[i] := ⟨_, rfl⟩
          have hix : ce.2[i]? = some x := by rw [hx]; exact List.getElem?_eq_getElem (by omega)
          have hwx := ew x (hx ▸ List.getElem_mem (by omega))
          have hex1 : so_ex m ce.2 0 = so_ex mi (x :: ce.2.drop (i + 1)) i := by rw [hex, hx, List.drop_eq_getElem_cons (by omega)]
          rw [so_ex_s] at hex1
          have hrk := so_do_ok (k := x.1) (x := x.2.getD 0 0) (y := x.2.getD 1 0) (z := x.2.getD 2 0) hki hwx.1
          have eC : so_do mi x.1 (x.2.getD 0 0) (x.2.getD 1 0) (x.2.getD 2 0) = so_cmd mi x := rfl
          rw [eC] at hrk
          have hZ1 := hZ.to (fun q hq => hF.2 q (by omega) (by omega) (by omega) (by omega))
          refine qa_aload_n (pc' := 61) ⟨rfl, rfl⟩ rfl ?_
          refine qa_getf (pc' := 64) ⟨rfl, rfl⟩ qg_1_36 hc rfl ?_
          refine qa_aload_n (pc' := 65) ⟨rfl, rfl⟩ rfl ?_
          refine qa_getf (pc' := 68) ⟨rfl, rfl⟩ qg_1_10 (by assumption) rfl ?_
          refine qa_iload_n (pc' := 69) ⟨rfl, rfl⟩ rfl ?_
          refine qa_callV rfl qf_R_performOn ql_1_333 (c_R_performOn (E := E) hZ1 (by omega) hR hS hki (by omega) hix hwx.2) hr7 rfl rfl rfl (qa_lt9 rfl) (qa_le9 rfl) (qa_le9 rfl) (qa_le9 rfl) (fun o9 τ9 hq9 => ?_)
          obtain ⟨rfl, e2, f2, rf3, w2, w2d⟩ := hq9
          refine qa_nx (pc' := 72) (st' := [_]) rfl rfl rfl rfl ?_
          have hCc := hCb.setM (fun q hq => f2 q (by omega)) ⟨rf3, w2⟩ (hrk.1.up (by omega))
          have hFc : sC_F σ τ9 c vi vo := ⟨by have := hF.1; omega, fun q q0 q1 q2 q3 => (f2 q (by omega)).trans (hF.2 q q0 q1 q2 q3)⟩
          clear hCb hF hS hR hBb hX hr7 hH hZ1
          obtain ⟨hr0, hr1, hr2⟩ := hrk
          generalize so_cmd mi x = r at *
          refine qa_istore_n (L' := [(0, _), (1, _), (2, _), (3, _)]) (pc' := 73) ⟨rfl, rfl⟩ rfl rfl ?_
          refine qa_iload_n (pc' := 74) ⟨rfl, rfl⟩ rfl ?_
          refine qa_if_ge (pc' := 77) (tgt := 94) ⟨rfl, rfl⟩ rfl (by omega) (fun hc4 => ?_) (fun hc4 => ?_)
          · rw [if_neg (by omega)] at hex1
            refine qa_iinc (L' := [(0, _), (1, _), (2, _), (3, _)]) (z := ((i + 1 : Nat) : Int)) (pc' := 97) ⟨rfl, rfl⟩ rfl (by omega) rfl rfl ?_
            refine qa_goto (pc' := 100) (tgt := 49) ⟨rfl, rfl⟩ rfl ?_
            refine qa_sub (ks' := [0, 1, 2]) (L' := [(0, _), (1, _), (2, _)]) rfl ?_
            exact iT1 _ (i + 1) _ ⟨by omega, hex1, by rw [show B + 960 * ((i + 1 : Nat) : Int) = B + 960 * i + 960 by omega]; exact hr0, hFc, hCc⟩
          · rw [if_pos (by omega)] at hex1
            obtain ⟨⟨hcc, hn0, hn1, hn4⟩, ⟨⟨rf4, hS4⟩, hk4⟩, -, hH4, -⟩ := id hCc
            have hHc := hH4.1
            have hs4 := hS4.1
            refine qa_aload_n (pc' := 78) ⟨rfl, rfl⟩ rfl ?_
            refine qa_getf (pc' := 81) ⟨rfl, rfl⟩ qg_1_22 hcc rfl ?_
            refine qa_aload_n (pc' := 82) ⟨rfl, rfl⟩ rfl ?_
            refine qa_getf (pc' := 85) ⟨rfl, rfl⟩ qg_1_10 hcc rfl ?_
            refine qa_callV rfl qf_H_rollBack ql_1_337 (c_H_rollBack (E := E) (by omega) hH4 (by omega) (by omega) hS4 hk4) hHc rfl rfl rfl (qa_lt9 rfl) (qa_le9 rfl) (qa_le9 rfl) (qa_le9 rfl) (fun o9 τ9 hq9 => ?_)
            obtain ⟨rfl, e5, f5, w5⟩ := hq9
            refine qa_nx (pc' := 88) (st' := []) rfl rfl rfl rfl ?_
            rw [show sH_up mh sp m sp = m from if_pos rfl] at w5
            have hCd := hCc.setM (fun q hq => f5 q (by omega)) ⟨rf4, w5⟩ (hk.up (by omega))
            have hcd := hCd.1.1
            have hsz9 := hFc.1
            refine qa_aload_n (pc' := 89) ⟨rfl, rfl⟩ rfl ?_
            refine qa_iload_n (pc' := 90) ⟨rfl, rfl⟩ rfl ?_
            refine qa_iload_n (pc' := 91) ⟨rfl, rfl⟩ rfl ?_
            refine qa_callV rfl qf_C_refuseCommand ql_1_340 (c_C_refuseCommand (E := E) (by omega) (by omega) hcd (by omega)) hcd rfl rfl rfl (qa_lt9 rfl) (qa_le9 rfl) (qa_le9 rfl) (qa_le9 rfl) (fun o9 τ9 hq9 => ?_)
            obtain ⟨g1, ⟨ga, rfl, gh⟩ | ⟨ga, rfl, gh, gf⟩⟩ := hq9
            · refine qa_Zout rfl (hQ _ _ ⟨⟨by omega, fun q q0 q1 q2 q3 => (congrFun gh q).trans ((f5 q (by omega)).trans (hFc.2 q q0 q1 q2 q3))⟩, Or.inr (Or.inr (Or.inl ⟨hc2, by rw [hex1], by rw [hex1]; exact ga, rfl, gh ▸ hCd⟩))⟩)
            · refine qa_Zout rfl (hQ _ _ ⟨⟨by omega, fun q q0 q1 q2 q3 => (gf q (by omega)).trans ((f5 q (by omega)).trans (hFc.2 q q0 q1 q2 q3))⟩, Or.inr (Or.inr (Or.inr ⟨hc2, by rw [hex1], by rw [hex1]; exact ⟨ga, by show r.1 < 0; omega⟩, rfl, by rw [hex1]; exact hCd.setN (n' := sN_cmd n i r.1) (by omega) gf gh ⟨hn0, by show (0 : Int) ≤ 9 ∧ (9 : Int) ≤ 9; omega, hn4⟩⟩))⟩)
    exact qa_less (by decide) (by decide) (T1 ce.2.length _ 0 m ⟨by omega, rfl, by rw [show B + 960 * ((0 : Nat) : Int) = B by omega]; exact hk, hF, hCb⟩)
  · have e0 : τ9.2 = τ9.2 := rfl
    refine qa_aload_n (pc' := 21) ⟨rfl, rfl⟩ rfl ?_
    refine qa_iload_n (pc' := 22) ⟨rfl, rfl⟩ rfl ?_
    refine qa_putf (fs' := [_, _, _, _, _, _, _, _, _, _, _]) (pc' := 25) ⟨rfl, rfl⟩ qg_1_47 qw_0 (by assumption) (by omega) rfl (fun r hr => by cases hr; exact ⟨rfl, Or.inl rfl⟩) rfl rfl ?_
    refine qa_gz (fun τ1 e1 w1 f1 => ?_)
    replace e0 := e1.trans e0
    refine qa_throwW rfl rfl rfl rfl rfl rfl qt_1_321_323_325 (qa_le9 rfl) (fun n9 hn9 => hQ _ _ ⟨⟨Nat.le_trans hF.1 (by show τ9.2 ≤ n9; omega), fun q q0 q1 q2 q3 => (f1 q (by omega)).trans (hF.2 q q0 q1 q2 q3)⟩, Or.inl ⟨hc2, rfl, hCb.setN (n' := sN_put n 4 ce.1) (by omega) f1 w1 ⟨hn0, hn1, by show -1 ≤ ce.1 ∧ ce.1 ≤ 60; omega⟩⟩⟩)
