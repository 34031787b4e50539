theorem c_S_changeBar {E : qa_V} {σ : qa_S} {a : Nat} {m : Int → Int} {rf B : Int} {t : Int}  (hlo : E.1 ≤ a) (hS : sR_S σ.1 a m rf) (hk : sm_ok m B) (ht : qa_in t) : qa_T E qm_S_changeBar 0 0 [.ref a, .int (qa_i t)] σ (qa_Ch a σ rf (so_bar m t)) := by
  refine qa_enterQ (by decide) rfl qm_S_changeBar_ok rfl rfl (fun Q9 hQ => ?_)
  have hS9 := hS
  have hk9 := hk
  obtain ⟨hs, hpa, hcq, htq, hpp⟩ := hS9
  obtain ⟨k0, k1, k2, k3, k4, k5, k6, k7, k8⟩ := hk9
  refine qa_iload_n (pc' := 1) ⟨rfl, rfl⟩ rfl ?_
  refine qa_iconst (pc' := 2) ⟨rfl, rfl⟩ ?_
  refine qa_bipush (z := 48) (pc' := 4) ⟨rfl, rfl⟩ rfl ?_
  refine qa_callS rfl qf_C_isWithin rfl ql_2_52 (c_C_isWithin (by omega) (by omega) (by omega)) rfl rfl (qa_lt9 rfl) (qa_le9 rfl) (qa_le9 rfl) (qa_le9 rfl) (fun o9 τ9 hq9 => ?_)
  obtain ⟨rfl, hq9⟩ := hq9
  replace hq9 := hq9.symm; subst hq9
  refine qa_nx (pc' := 7) (st' := [_]) rfl rfl rfl rfl ?_
  by_cases hw : 1 ≤ t ∧ t ≤ 48
  · rw [if_pos hw]
    refine qa_if_ne (pc' := 10) (tgt := 13) ⟨rfl, rfl⟩ rfl (by omega) (fun hhw9 => ?_) (fun hhw9 => ?_)
    · have e0 : σ.2 = σ.2 := rfl
      refine qa_aload_n (pc' := 14) ⟨rfl, rfl⟩ rfl ?_
      refine qa_getf (pc' := 17) ⟨rfl, rfl⟩ qg_2_31 (by assumption) rfl ?_
      refine qa_istore_n (L' := [(0, _), (1, _), (2, _)]) (pc' := 18) ⟨rfl, rfl⟩ rfl rfl ?_
      refine qa_aload_n (pc' := 19) ⟨rfl, rfl⟩ rfl ?_
      refine qa_iload_n (pc' := 20) ⟨rfl, rfl⟩ rfl ?_
      refine qa_putf (fs' := [_, _, _, _, _, _, _]) (pc' := 23) ⟨rfl, rfl⟩ qg_2_31 qw_1 (by assumption) (by omega) rfl (fun r hr => by cases hr; exact ⟨rfl, Or.inl rfl⟩) rfl rfl ?_
      refine qa_gz (fun τ1 e1 w1 f1 => ?_)
      replace e0 := e1.trans e0
      refine qa_iload_n (pc' := 24) ⟨rfl, rfl⟩ rfl ?_
      refine qa_ireturn rfl rfl rfl (hQ _ _ (qa_Ch.done (by unfold so_bar; repeat (first | rw [if_pos (by omega)] | rw [if_neg (by omega)])) (by omega) e0 (fun q hq => f1 q (by omega)) (hS.setA hk f1 (fun k hk9 => qa_up_ne (by omega)) (rf' := rf) (by rw [qa_up_ne (by omega : (0 : Int) ≠ 1), qa_up_eq, qa_up_ne (by omega : (3 : Int) ≠ 1)]; exact w1))))
    · exact absurd hhw9 (by omega)
  · rw [if_neg hw]
    refine qa_if_ne (pc' := 10) (tgt := 13) ⟨rfl, rfl⟩ rfl (by omega) (fun hhw9 => ?_) (fun hhw9 => ?_)
    · exact absurd hhw9 (by omega)
    · refine qa_bipush (z := (-11)) (pc' := 12) ⟨rfl, rfl⟩ rfl ?_
      refine qa_ireturn rfl rfl rfl (hQ _ _ (qa_Ch.bad (by unfold so_bar; repeat (first | rw [if_pos (by omega)] | rw [if_neg (by omega)])) (by omega) hS))
theorem c_S_includeNote {E : qa_V} {σ : qa_S} {a : Nat} {m : Int → Int} {rf B : Int} {p x y : Int}  (hlo : E.1 ≤ a) (hS : sR_S σ.1 a m rf) (hk : sm_ok m B) (hp : qa_in p) (hx : -1 ≤ x ∧ x ≤ 35) (hy : qa_in y) : qa_T E qm_S_includeNote 0 0 [.ref a, .int (qa_i p), .int (qa_i x), .int (qa_i y)] σ (qa_Ch a σ rf (so_note m p x y)) := by
  refine qa_enterQ (by decide) rfl qm_S_includeNote_ok rfl rfl (fun Q9 hQ => ?_)
  have hS9 := hS
  have hk9 := hk
  obtain ⟨hs, hpa, hcq, htq, hpp⟩ := hS9
  obtain ⟨k0, k1, k2, k3, k4, k5, k6, k7, k8⟩ := hk9
  refine qa_aload_n (pc' := 1) ⟨rfl, rfl⟩ rfl ?_
  refine qa_iload_n (pc' := 2) ⟨rfl, rfl⟩ rfl ?_
  refine qa_callV rfl qf_S_has ql_2_110 (c_S_has hS hk (by omega)) hs rfl rfl rfl (qa_lt9 rfl) (qa_le9 rfl) (qa_le9 rfl) (qa_le9 rfl) (fun o9 τ9 hq9 => ?_)
  obtain ⟨rfl, hq9⟩ := hq9
  replace hq9 := hq9.symm; subst hq9
  refine qa_nx (pc' := 5) (st' := [_]) rfl rfl rfl rfl ?_
  by_cases hw : 0 ≤ p ∧ p < m 0
  · rw [if_pos hw]
    refine qa_if_ne (pc' := 8) (tgt := 11) ⟨rfl, rfl⟩ rfl (by omega) (fun hhw9 => ?_) (fun hhw9 => ?_)
    · refine qa_iload_n (pc' := 12) ⟨rfl, rfl⟩ rfl ?_
      refine qa_iconst (pc' := 13) ⟨rfl, rfl⟩ ?_
      refine qa_bipush (z := 12) (pc' := 15) ⟨rfl, rfl⟩ rfl ?_
      refine qa_callS rfl qf_C_isWithin rfl ql_2_52 (c_C_isWithin (by omega) (by omega) (by omega)) rfl rfl (qa_lt9 rfl) (qa_le9 rfl) (qa_le9 rfl) (qa_le9 rfl) (fun o9 τ9 hq9 => ?_)
      obtain ⟨rfl, hq9⟩ := hq9
      replace hq9 := hq9.symm; subst hq9
      refine qa_nx (pc' := 18) (st' := [_]) rfl rfl rfl rfl ?_
      by_cases hy9 : 1 ≤ y ∧ y ≤ 12
      · rw [if_pos hy9]
        refine qa_if_ne (pc' := 21) (tgt := 24) ⟨rfl, rfl⟩ rfl (by omega) (fun hhy99 => ?_) (fun hhy99 => ?_)
        · have kk := k4 p (by omega) (by omega)
          have kw := sm_wh_b kk
          have kn := kk.1
          have kp : a + 8 ≤ sm_pa a p ∧ sm_pa a p ≤ a + 20 := by unfold sm_pa; omega
          obtain ⟨p9, l9, u9, d9, q1, q2, q3, q4, q5, q6⟩ := hpp p (by omega) (by omega)
          refine qa_aload_n (pc' := 25) ⟨rfl, rfl⟩ rfl ?_
          refine qa_getf (pc' := 28) ⟨rfl, rfl⟩ qg_2_11 (by assumption) rfl ?_
          refine qa_iload_n (pc' := 29) ⟨rfl, rfl⟩ rfl ?_
          refine qa_aaload (pc' := 30) ⟨rfl, rfl⟩ (by assumption) rfl rfl (by omega) (sm_q5_at (by omega)) ?_
          refine qa_astore (L' := [(0, _), (1, _), (2, _), (3, _), (4, _)]) (pc' := 32) ⟨rfl, rfl⟩ rfl rfl ?_
          refine qa_aload (pc' := 34) ⟨rfl, rfl⟩ rfl ?_
          refine qa_getf (pc' := 37) ⟨rfl, rfl⟩ qg_2_114 (by assumption) rfl ?_
          refine qa_bipush (z := 10) (pc' := 39) ⟨rfl, rfl⟩ rfl ?_
          refine qa_icmp_lt (pc' := 42) (tgt := 53) ⟨rfl, rfl⟩ rfl (by omega) (by omega) (fun hf => ?_) (fun hf => ?_)
          · refine qa_aload (pc' := 55) ⟨rfl, rfl⟩ rfl ?_
            refine qa_iload_n (pc' := 56) ⟨rfl, rfl⟩ rfl ?_
            refine qa_iload_n (pc' := 57) ⟨rfl, rfl⟩ rfl ?_
            refine qa_callV rfl qf_P_append ql_2_120 (c_P_append (by omega) q1 q2 q3 (by omega)) q1 rfl rfl rfl (qa_lt9 rfl) (qa_le9 rfl) (qa_le9 rfl) (qa_le9 rfl) (fun o9 τ9 hq9 => ?_)
            obtain ⟨rfl, e1, w1, w2, w3, f1⟩ := hq9
            refine qa_nx (pc' := 60) (st' := []) rfl rfl rfl rfl ?_
            refine qa_aload (pc' := 62) ⟨rfl, rfl⟩ rfl ?_
            refine qa_getf (pc' := 65) ⟨rfl, rfl⟩ qg_2_114 (by assumption) rfl ?_
            refine qa_ireturn rfl rfl rfl (hQ _ _ (qa_Ch.done (by unfold so_note; repeat (first | rw [if_pos (by omega)] | rw [if_neg (by omega)])) (by omega) e1 (fun q hq => f1 q (by omega)) (hS.setP hk (by omega) f1 (fun k hk9 => ?_) ?_)))
            · rw [qa_up_ne (by omega), qa_up_ne (by omega), qa_up_ne (by omega)]
            · have en : sm_n (qa_up (qa_up (qa_up m (10 + 26 * p + 2 * sm_n m p) x) (11 + 26 * p + 2 * sm_n m p) y) (4 + 26 * p) (sm_n m p + 1)) p = sm_n m p + 1 := qa_up_eq _ _ _
              have el : ∀ j : Int, 0 ≤ j → j < sm_n m p → sm_lf (qa_up (qa_up (qa_up m (10 + 26 * p + 2 * sm_n m p) x) (11 + 26 * p + 2 * sm_n m p) y) (4 + 26 * p) (sm_n m p + 1)) p j = sm_lf m p j ∧ sm_pf (qa_up (qa_up (qa_up m (10 + 26 * p + 2 * sm_n m p) x) (11 + 26 * p + 2 * sm_n m p) y) (4 + 26 * p) (sm_n m p + 1)) p j = sm_pf m p j := fun j j0 j1 => by
                unfold sm_lf sm_pf
                refine ⟨?_, ?_⟩ <;> rw [qa_up_ne (by omega), qa_up_ne (by omega), qa_up_ne (by omega)]
              have e2 : sm_lf (qa_up (qa_up (qa_up m (10 + 26 * p + 2 * sm_n m p) x) (11 + 26 * p + 2 * sm_n m p) y) (4 + 26 * p) (sm_n m p + 1)) p (sm_n m p) = y ∧ sm_pf (qa_up (qa_up (qa_up m (10 + 26 * p + 2 * sm_n m p) x) (11 + 26 * p + 2 * sm_n m p) y) (4 + 26 * p) (sm_n m p + 1)) p (sm_n m p) = x := by
                unfold sm_lf sm_pf
                refine ⟨?_, ?_⟩
                · rw [qa_up_ne (by omega), qa_up_eq]
                · rw [qa_up_ne (by omega), qa_up_ne (by omega), qa_up_eq]
              have ew : sm_wh (qa_up (qa_up (qa_up m (10 + 26 * p + 2 * sm_n m p) x) (11 + 26 * p + 2 * sm_n m p) y) (4 + 26 * p) (sm_n m p + 1)) p = sm_wh m p + y := by
                unfold sm_wh
                rw [en, show (sm_n m p + 1).toNat = (sm_n m p).toNat + 1 by omega]
                show sp_su _ (sm_n m p).toNat + sm_lf _ p (((sm_n m p).toNat : Nat) : Int) = _
                rw [sp_su_ext (fun j j0 j1 => (el j j0 j1).1) _ (by omega), Int.toNat_of_nonneg kn.1, e2.1]
              refine ⟨_, _, u9, d9, ?_, w2, w3, ?_, ?_, fun j j0 j1 => ?_⟩
              · rw [en, ew, qa_up_ne (by omega : 8 + 26 * p ≠ 4 + 26 * p), qa_up_ne (by omega : 8 + 26 * p ≠ _), qa_up_ne (by omega : 8 + 26 * p ≠ _), qa_up_ne (by omega : 9 + 26 * p ≠ 4 + 26 * p), qa_up_ne (by omega : 9 + 26 * p ≠ _), qa_up_ne (by omega : 9 + 26 * p ≠ _)]; exact w1
              · rw [qa_up_ne (by omega : (0 : Int) ≠ _), qa_up_ne (by omega : (0 : Int) ≠ _), qa_up_ne (by omega : (0 : Int) ≠ _), qa_up_ne (by omega : 5 + 26 * p ≠ _), qa_up_ne (by omega : 5 + 26 * p ≠ _), qa_up_ne (by omega : 5 + 26 * p ≠ _), qa_up_ne (by omega : 6 + 26 * p ≠ _), qa_up_ne (by omega : 6 + 26 * p ≠ _), qa_up_ne (by omega : 6 + 26 * p ≠ _)]; exact q4
              · rw [qa_up_ne (by omega : (0 : Int) ≠ _), qa_up_ne (by omega : (0 : Int) ≠ _), qa_up_ne (by omega : (0 : Int) ≠ _)]; exact q5
              · rw [en] at j1
                by_cases hj : j = sm_n m p
                · rw [hj, qa_up_eq, qa_up_eq, e2.1, e2.2]; exact ⟨rfl, rfl⟩
                · rw [qa_up_ne hj, qa_up_ne hj, (el j j0 (by omega)).1, (el j j0 (by omega)).2]; exact q6 j j0 (by omega)
          · refine qa_aload_n (pc' := 43) ⟨rfl, rfl⟩ rfl ?_
            refine qa_iconst (pc' := 44) ⟨rfl, rfl⟩ ?_
            refine qa_aload (pc' := 46) ⟨rfl, rfl⟩ rfl ?_
            refine qa_getf (pc' := 49) ⟨rfl, rfl⟩ qg_2_117 (by assumption) rfl ?_
            refine qa_callV rfl qf_S_refused ql_2_107 (c_S_refused hlo hs) hs rfl rfl rfl (qa_lt9 rfl) (qa_le9 rfl) (qa_le9 rfl) (qa_le9 rfl) (fun o9 τ9 hq9 => ?_)
            obtain ⟨rfl, e1, w1, f1⟩ := hq9
            refine qa_nx (pc' := 52) (st' := [_]) rfl rfl rfl rfl ?_
            refine qa_ireturn rfl rfl rfl (hQ _ _ (qa_Ch.ref (by unfold so_note; repeat (first | rw [if_pos (by omega)] | rw [if_neg (by omega)])) hS hk e1 w1 f1))
        · exact absurd hhy99 (by omega)
      · rw [if_neg hy9]
        refine qa_if_ne (pc' := 21) (tgt := 24) ⟨rfl, rfl⟩ rfl (by omega) (fun hhy99 => ?_) (fun hhy99 => ?_)
        · exact absurd hhy99 (by omega)
        · refine qa_bipush (z := (-11)) (pc' := 23) ⟨rfl, rfl⟩ rfl ?_
          refine qa_ireturn rfl rfl rfl (hQ _ _ (qa_Ch.bad (by unfold so_note; repeat (first | rw [if_pos (by omega)] | rw [if_neg (by omega)])) (by omega) hS))
    · exact absurd hhw9 (by omega)
  · rw [if_neg hw]
    refine qa_if_ne (pc' := 8) (tgt := 11) ⟨rfl, rfl⟩ rfl (by omega) (fun hhw9 => ?_) (fun hhw9 => ?_)
    · exact absurd hhw9 (by omega)
    · refine qa_bipush (z := (-10)) (pc' := 10) ⟨rfl, rfl⟩ rfl ?_
      refine qa_ireturn rfl rfl rfl (hQ _ _ (qa_Ch.bad (by unfold so_note; repeat (first | rw [if_pos (by omega)] | rw [if_neg (by omega)])) (by omega) hS))
theorem c_S_includePitch {E : qa_V} {σ : qa_S} {a : Nat} {m : Int → Int} {rf B : Int} {p x y : Int}  (hlo : E.1 ≤ a) (hS : sR_S σ.1 a m rf) (hk : sm_ok m B) (hp : qa_in p) (hx : qa_in x) (hy : qa_in y) : qa_T E qm_S_includePitch 0 0 [.ref a, .int (qa_i p), .int (qa_i x), .int (qa_i y)] σ (qa_Ch a σ rf (so_pitch m p x y)) := by
  refine qa_enterQ (by decide) rfl qm_S_includePitch_ok rfl rfl (fun Q9 hQ => ?_)
  have hS9 := hS
  have hk9 := hk
  obtain ⟨hs, hpa, hcq, htq, hpp⟩ := hS9
  obtain ⟨k0, k1, k2, k3, k4, k5, k6, k7, k8⟩ := hk9
  refine qa_aload_n (pc' := 1) ⟨rfl, rfl⟩ rfl ?_
  refine qa_iload_n (pc' := 2) ⟨rfl, rfl⟩ rfl ?_
  refine qa_callV rfl qf_S_has ql_2_110 (c_S_has hS hk (by omega)) hs rfl rfl rfl (qa_lt9 rfl) (qa_le9 rfl) (qa_le9 rfl) (qa_le9 rfl) (fun o9 τ9 hq9 => ?_)
  obtain ⟨rfl, hq9⟩ := hq9
  replace hq9 := hq9.symm; subst hq9
  refine qa_nx (pc' := 5) (st' := [_]) rfl rfl rfl rfl ?_
  by_cases hw : 0 ≤ p ∧ p < m 0
  · rw [if_pos hw]
    refine qa_if_ne (pc' := 8) (tgt := 11) ⟨rfl, rfl⟩ rfl (by omega) (fun hhw9 => ?_) (fun hhw9 => ?_)
    · refine qa_iload_n (pc' := 12) ⟨rfl, rfl⟩ rfl ?_
      refine qa_iconst (pc' := 13) ⟨rfl, rfl⟩ ?_
      refine qa_bipush (z := 35) (pc' := 15) ⟨rfl, rfl⟩ rfl ?_
      refine qa_callS rfl qf_C_isWithin rfl ql_2_52 (c_C_isWithin (by omega) (by omega) (by omega)) rfl rfl (qa_lt9 rfl) (qa_le9 rfl) (qa_le9 rfl) (qa_le9 rfl) (fun o9 τ9 hq9 => ?_)
      obtain ⟨rfl, hq9⟩ := hq9
      replace hq9 := hq9.symm; subst hq9
      refine qa_nx (pc' := 18) (st' := [_]) rfl rfl rfl rfl ?_
      by_cases hx9 : 0 ≤ x ∧ x ≤ 35
      · rw [if_pos hx9]
        refine qa_if_ne (pc' := 21) (tgt := 24) ⟨rfl, rfl⟩ rfl (by omega) (fun hhx99 => ?_) (fun hhx99 => ?_)
        · refine qa_aload_n (pc' := 25) ⟨rfl, rfl⟩ rfl ?_
          refine qa_iload_n (pc' := 26) ⟨rfl, rfl⟩ rfl ?_
          refine qa_iload_n (pc' := 27) ⟨rfl, rfl⟩ rfl ?_
          refine qa_iload_n (pc' := 28) ⟨rfl, rfl⟩ rfl ?_
          refine qa_callV rfl qf_S_includeNote ql_2_75 (c_S_includeNote hlo hS hk hp (by omega) hy) hs rfl rfl rfl (qa_lt9 rfl) (qa_le9 rfl) (qa_le9 rfl) (qa_le9 rfl) (fun o9 τ9 hq9 => ?_)
          obtain ⟨rfl, e1, f1, r1⟩ := hq9
          refine qa_nx (pc' := 31) (st' := [_]) rfl rfl rfl rfl ?_
          refine qa_ireturn rfl rfl rfl (hQ _ _ ?_)
          have e : so_pitch m p x y = so_note m p x y := by unfold so_pitch; repeat (first | rw [if_pos (by omega)] | rw [if_neg (by omega)])
          rw [e]; exact ⟨rfl, e1, f1, r1⟩
        · exact absurd hhx99 (by omega)
      · rw [if_neg hx9]
        refine qa_if_ne (pc' := 21) (tgt := 24) ⟨rfl, rfl⟩ rfl (by omega) (fun hhx99 => ?_) (fun hhx99 => ?_)
        · exact absurd hhx99 (by omega)
        · refine qa_bipush (z := (-11)) (pc' := 23) ⟨rfl, rfl⟩ rfl ?_
          refine qa_ireturn rfl rfl rfl (hQ _ _ (qa_Ch.bad (by unfold so_pitch; repeat (first | rw [if_pos (by omega)] | rw [if_neg (by omega)])) (by omega) hS))
    · exact absurd hhw9 (by omega)
  · rw [if_neg hw]
    refine qa_if_ne (pc' := 8) (tgt := 11) ⟨rfl, rfl⟩ rfl (by omega) (fun hhw9 => ?_) (fun hhw9 => ?_)
    · exact absurd hhw9 (by omega)
    · refine qa_bipush (z := (-10)) (pc' := 10) ⟨rfl, rfl⟩ rfl ?_
      refine qa_ireturn rfl rfl rfl (hQ _ _ (qa_Ch.bad (by unfold so_pitch; repeat (first | rw [if_pos (by omega)] | rw [if_neg (by omega)])) (by omega) hS))
theorem c_S_dropNote {E : qa_V} {σ : qa_S} {a : Nat} {m : Int → Int} {rf B : Int} {p : Int}  (hlo : E.1 ≤ a) (hS : sR_S σ.1 a m rf) (hk : sm_ok m B) (hp : qa_in p) : qa_T E qm_S_dropNote 0 0 [.ref a, .int (qa_i p)] σ (qa_Ch a σ rf (so_last m p)) := by
  refine qa_enterQ (by decide) rfl qm_S_dropNote_ok rfl rfl (fun Q9 hQ => ?_)
  have hS9 := hS
  have hk9 := hk
  obtain ⟨hs, hpa, hcq, htq, hpp⟩ := hS9
  obtain ⟨k0, k1, k2, k3, k4, k5, k6, k7, k8⟩ := hk9
  refine qa_aload_n (pc' := 1) ⟨rfl, rfl⟩ rfl ?_
  refine qa_iload_n (pc' := 2) ⟨rfl, rfl⟩ rfl ?_
  refine qa_callV rfl qf_S_has ql_2_110 (c_S_has hS hk (by omega)) hs rfl rfl rfl (qa_lt9 rfl) (qa_le9 rfl) (qa_le9 rfl) (qa_le9 rfl) (fun o9 τ9 hq9 => ?_)
  obtain ⟨rfl, hq9⟩ := hq9
  replace hq9 := hq9.symm; subst hq9
  refine qa_nx (pc' := 5) (st' := [_]) rfl rfl rfl rfl ?_
  by_cases hw : 0 ≤ p ∧ p < m 0
  · rw [if_pos hw]
    refine qa_if_ne (pc' := 8) (tgt := 11) ⟨rfl, rfl⟩ rfl (by omega) (fun hhw9 => ?_) (fun hhw9 => ?_)
    · have kk := k4 p (by omega) (by omega)
      have kw := sm_wh_b kk
      have kn := kk.1
      have kp : a + 8 ≤ sm_pa a p ∧ sm_pa a p ≤ a + 20 := by unfold sm_pa; omega
      obtain ⟨p9, l9, u9, d9, q1, q2, q3, q4, q5, q6⟩ := hpp p (by omega) (by omega)
      refine qa_aload_n (pc' := 12) ⟨rfl, rfl⟩ rfl ?_
      refine qa_getf (pc' := 15) ⟨rfl, rfl⟩ qg_2_11 (by assumption) rfl ?_
      refine qa_iload_n (pc' := 16) ⟨rfl, rfl⟩ rfl ?_
      refine qa_aaload (pc' := 17) ⟨rfl, rfl⟩ (by assumption) rfl rfl (by omega) (sm_q5_at (by omega)) ?_
      refine qa_astore_n (L' := [(0, _), (1, _), (2, _)]) (pc' := 18) ⟨rfl, rfl⟩ rfl rfl ?_
      refine qa_aload_n (pc' := 19) ⟨rfl, rfl⟩ rfl ?_
      refine qa_getf (pc' := 22) ⟨rfl, rfl⟩ qg_2_114 (by assumption) rfl ?_
      refine qa_if_ne (pc' := 25) (tgt := 32) ⟨rfl, rfl⟩ rfl (by omega) (fun hf => ?_) (fun hf => ?_)
      · have e6 := q6 (sm_n m p - 1) (by omega) (by omega)
        refine qa_aload_n (pc' := 33) ⟨rfl, rfl⟩ rfl ?_
        refine qa_callV rfl qf_P_dropLast ql_2_124 (c_P_dropLast (by omega) q1 q2 q3 (by omega)) q1 rfl rfl rfl (qa_lt9 rfl) (qa_le9 rfl) (qa_le9 rfl) (qa_le9 rfl) (fun o9 τ9 hq9 => ?_)
        obtain ⟨rfl, e1, w1, f1, w2, w3⟩ := hq9
        refine qa_nx (pc' := 36) (st' := []) rfl rfl rfl rfl ?_
        have en : sm_n (sm_last m p) p = sm_n m p - 1 := qa_up_eq _ _ _
        have el : ∀ j : Int, 0 ≤ j → j < sm_n m p - 1 → sm_lf (sm_last m p) p j = sm_lf m p j ∧ sm_pf (sm_last m p) p j = sm_pf m p j := fun j j0 j1 => by
          unfold sm_lf sm_pf sm_last
          refine ⟨?_, ?_⟩ <;> rw [qa_up_ne (by omega), qa_up_ne (by omega), qa_up_ne (by omega)]
        have ew : sm_wh (sm_last m p) p = sm_wh m p - l9 (sm_n m p - 1) := by
          have h9 : sm_wh m p = sp_su (sm_lf m p) (sm_n m p - 1).toNat + sm_lf m p (((sm_n m p - 1).toNat : Nat) : Int) := by
            unfold sm_wh
            rw [show (sm_n m p).toNat = (sm_n m p - 1).toNat + 1 by omega]; rfl
          rw [h9, e6.2, Int.toNat_of_nonneg (by omega : 0 ≤ sm_n m p - 1)]
          unfold sm_wh
          rw [en, sp_su_ext (fun j j0 j1 => (el j j0 j1).1) _ (by omega)]
          omega
        have hl6 := kk.2.2 (sm_n m p - 1) (by omega) (by omega)
        have hw0 : 0 ≤ sm_wh (sm_last m p) p := by
          have h9 := sp_su_b (l := sm_lf m p) kk.2.2 (sm_n m p - 1).toNat (by omega)
          unfold sm_wh
          rw [en, sp_su_ext (fun j j0 j1 => (el j j0 j1).1) _ (by omega)]
          omega
        rw [← ew] at w1
        refine qa_aload_n (pc' := 37) ⟨rfl, rfl⟩ rfl ?_
        refine qa_getf (pc' := 40) ⟨rfl, rfl⟩ qg_2_117 (by assumption) rfl ?_
        refine qa_ireturn rfl rfl rfl (hQ _ _ (qa_Ch.done (det := 0) (m' := sm_last m p) (by unfold so_last; repeat (first | rw [if_pos (by omega)] | rw [if_neg (by omega)])) hw0 e1 (fun q hq => f1 q (by omega)) (hS.setP hk (by omega) f1 (fun k hk9 => ?_) ?_)))
        · unfold sm_last; rw [qa_up_ne (by omega), qa_up_ne (by omega), qa_up_ne (by omega)]
        · refine ⟨p9, l9, u9, d9, ?_, w2, w3, ?_, ?_, fun j j0 j1 => ?_⟩
          · rw [en]; unfold sm_last at w1 ⊢; rw [qa_up_ne (by omega : 8 + 26 * p ≠ 4 + 26 * p), qa_up_ne (by omega : 8 + 26 * p ≠ _), qa_up_ne (by omega : 8 + 26 * p ≠ _), qa_up_ne (by omega : 9 + 26 * p ≠ 4 + 26 * p), qa_up_ne (by omega : 9 + 26 * p ≠ _), qa_up_ne (by omega : 9 + 26 * p ≠ _)]; exact w1
          · unfold sm_last; rw [qa_up_ne (by omega : (0 : Int) ≠ _), qa_up_ne (by omega : (0 : Int) ≠ _), qa_up_ne (by omega : (0 : Int) ≠ _), qa_up_ne (by omega : 5 + 26 * p ≠ _), qa_up_ne (by omega : 5 + 26 * p ≠ _), qa_up_ne (by omega : 5 + 26 * p ≠ _), qa_up_ne (by omega : 6 + 26 * p ≠ _), qa_up_ne (by omega : 6 + 26 * p ≠ _), qa_up_ne (by omega : 6 + 26 * p ≠ _)]; exact q4
          · unfold sm_last; rw [qa_up_ne (by omega : (0 : Int) ≠ _), qa_up_ne (by omega : (0 : Int) ≠ _), qa_up_ne (by omega : (0 : Int) ≠ _)]; exact q5
          · rw [en] at j1; rw [(el j j0 j1).1, (el j j0 j1).2]; exact q6 j j0 (by omega)
      · refine qa_aload_n (pc' := 26) ⟨rfl, rfl⟩ rfl ?_
        refine qa_iconst (pc' := 27) ⟨rfl, rfl⟩ ?_
        refine qa_iload_n (pc' := 28) ⟨rfl, rfl⟩ rfl ?_
        refine qa_callV rfl qf_S_refused ql_2_107 (c_S_refused hlo hs) hs rfl rfl rfl (qa_lt9 rfl) (qa_le9 rfl) (qa_le9 rfl) (qa_le9 rfl) (fun o9 τ9 hq9 => ?_)
        obtain ⟨rfl, e1, w1, f1⟩ := hq9
        refine qa_nx (pc' := 31) (st' := [_]) rfl rfl rfl rfl ?_
        refine qa_ireturn rfl rfl rfl (hQ _ _ (qa_Ch.ref (by unfold so_last; repeat (first | rw [if_pos (by omega)] | rw [if_neg (by omega)])) hS hk e1 w1 f1))
    · exact absurd hhw9 (by omega)
  · rw [if_neg hw]
    refine qa_if_ne (pc' := 8) (tgt := 11) ⟨rfl, rfl⟩ rfl (by omega) (fun hhw9 => ?_) (fun hhw9 => ?_)
    · exact absurd hhw9 (by omega)
    · refine qa_bipush (z := (-10)) (pc' := 10) ⟨rfl, rfl⟩ rfl ?_
      refine qa_ireturn rfl rfl rfl (hQ _ _ (qa_Ch.bad (by unfold so_last; repeat (first | rw [if_pos (by omega)] | rw [if_neg (by omega)])) (by omega) hS))
theorem sp_fo_b (p : Int → Int) (b : Int) : ∀ (f : Nat) (i : Int), sp_fo p b f i = -1 ∨ (i ≤ sp_fo p b f i ∧ sp_fo p b f i < i + f)
  | 0, _ => Or.inl rfl
  | f + 1, i => by
    have h := sp_fo_b p b f (i + 1)
    unfold sp_fo
    split
    · right; omega
    · rcases h with h | h
      · left; exact h
      · right; omega
theorem sp_fo_no {p : Int → Int} {b : Int} : ∀ (f : Nat) (i : Int), 0 ≤ i → sp_fo p b f i = -1 → ∀ j : Int, i ≤ j → j < i + f → p j = -1 ∨ (0 ≤ p j + b ∧ p j + b ≤ 35)
  | 0, i, _, _, j, h1, h2 => absurd h2 (by omega)
  | f + 1, i, h0, h, j, h1, h2 => by
    unfold sp_fo at h
    by_cases hc : p i ≠ -1 ∧ ¬ (0 ≤ p i + b ∧ p i + b ≤ 35)
    · rw [if_pos hc] at h; omega
    · rw [if_neg hc] at h
      by_cases hj : j = i
      · rw [hj]; omega
      · exact sp_fo_no f (i + 1) (by omega) h j (by omega) (by omega)
theorem sm_mv_o {m : Int → Int} {p b q : Int} (h : ¬ (10 + 26 * p ≤ q ∧ q < 10 + 26 * p + 2 * sm_n m p ∧ q % 2 = 0)) : sm_mv m p b q = m q := if_neg fun z => h ⟨z.1, z.2.1, z.2.2.1⟩
theorem sm_mv_p {m p1 : Int → Int} {p b j : Int} (h : p1 j = sm_pf m p j) (j0 : 0 ≤ j) (j1 : j < sm_n m p) : sm_pf (sm_mv m p b) p j = sp_sh p1 b (sm_n m p) j := by
  unfold sp_sh sm_mv
  show (if _ then _ else _) = _
  rw [h]
  by_cases hc : sm_pf m p j = -1
  · rw [if_neg (fun z => z.2.2.2 hc), if_neg (fun z => z.2.2 hc)]; rfl
  · rw [if_pos ⟨by omega, by omega, by omega, hc⟩, if_pos ⟨j0, j1, hc⟩]; rfl
theorem sp_sh_eq {p p1 : Int → Int} {b n j : Int} (h : p1 j = p j) (j0 : 0 ≤ j) (j1 : j < n) : sp_sh p1 b n j = if p j = -1 then -1 else p j + b := by
  unfold sp_sh
  rw [h]
  by_cases hc : p j = -1
  · rw [if_neg (fun z => z.2.2 hc), if_pos hc, hc]
  · rw [if_pos ⟨j0, j1, hc⟩, if_neg hc]
theorem sp_sh_b {p p1 : Int → Int} {b n j : Int} (hn : 0 ≤ n ∧ n ≤ 10) (hf : sp_fo p b n.toNat 0 = -1) (h : p1 j = p j) (hp : -1 ≤ p j ∧ p j ≤ 35) (j0 : 0 ≤ j) (j1 : j < n) : -1 ≤ sp_sh p1 b n j ∧ sp_sh p1 b n j ≤ 35 := by
  rw [sp_sh_eq h j0 j1]
  have := sp_fo_no n.toNat 0 (Int.le_refl _) hf j j0 (by omega)
  split <;> omega
theorem sp_ct_sh {p p' : Int → Int} {b n : Int} (hp : sp_P n p) (hf : sp_fo p b n.toNat 0 = -1) (h : ∀ j : Int, 0 ≤ j → j < n → p' j = if p j = -1 then -1 else p j + b) : ∀ k : Nat, (k : Int) ≤ n → sp_ct p' k = sp_ct p k
  | 0, _ => rfl
  | k + 1, hk => by
    have h1 := sp_fo_no n.toNat 0 (Int.le_refl _) hf k (by omega) (by omega)
    unfold sp_ct
    rw [sp_ct_sh hp hf h k (by omega), h k (by omega) (by omega)]
    by_cases hc : p k = -1
    · rw [if_pos hc, if_pos rfl, if_pos hc]
    · rw [if_neg hc, if_neg (by omega), if_neg hc]
theorem c_S_shift {E : qa_V} {σ : qa_S} {a : Nat} {m : Int → Int} {rf B : Int} {p b : Int}  (hlo : E.1 ≤ a) (hS : sR_S σ.1 a m rf) (hk : sm_ok m B) (hp : qa_in p) (hb : qa_in b) : qa_T E qm_S_shift 0 0 [.ref a, .int (qa_i p), .int (qa_i b)] σ (qa_Ch a σ rf (so_move m p b)) := by
  refine qa_enterQ (by decide) rfl qm_S_shift_ok rfl rfl (fun Q9 hQ => ?_)
  have hS9 := hS
  have hk9 := hk
  obtain ⟨hs, hpa, hcq, htq, hpp⟩ := hS9
  obtain ⟨k0, k1, k2, k3, k4, k5, k6, k7, k8⟩ := hk9
  refine qa_aload_n (pc' := 1) ⟨rfl, rfl⟩ rfl ?_
  refine qa_iload_n (pc' := 2) ⟨rfl, rfl⟩ rfl ?_
  refine qa_callV rfl qf_S_has ql_2_110 (c_S_has hS hk (by omega)) hs rfl rfl rfl (qa_lt9 rfl) (qa_le9 rfl) (qa_le9 rfl) (qa_le9 rfl) (fun o9 τ9 hq9 => ?_)
  obtain ⟨rfl, hq9⟩ := hq9
  replace hq9 := hq9.symm; subst hq9
  refine qa_nx (pc' := 5) (st' := [_]) rfl rfl rfl rfl ?_
  by_cases hw : 0 ≤ p ∧ p < m 0
  · rw [if_pos hw]
    refine qa_if_ne (pc' := 8) (tgt := 11) ⟨rfl, rfl⟩ rfl (by omega) (fun hhw9 => ?_) (fun hhw9 => ?_)
    · refine qa_iload_n (pc' := 12) ⟨rfl, rfl⟩ rfl ?_
      refine qa_bipush (z := (-35)) (pc' := 14) ⟨rfl, rfl⟩ rfl ?_
      refine qa_bipush (z := 35) (pc' := 16) ⟨rfl, rfl⟩ rfl ?_
      refine qa_callS rfl qf_C_isWithin rfl ql_2_52 (c_C_isWithin (by omega) (by omega) (by omega)) rfl rfl (qa_lt9 rfl) (qa_le9 rfl) (qa_le9 rfl) (qa_le9 rfl) (fun o9 τ9 hq9 => ?_)
      obtain ⟨rfl, hq9⟩ := hq9
      replace hq9 := hq9.symm; subst hq9
      refine qa_nx (pc' := 19) (st' := [_]) rfl rfl rfl rfl ?_
      by_cases hb9 : -35 ≤ b ∧ b ≤ 35
      · rw [if_pos hb9]
        refine qa_if_ne (pc' := 22) (tgt := 25) ⟨rfl, rfl⟩ rfl (by omega) (fun hhb99 => ?_) (fun hhb99 => ?_)
        · have kk := k4 p (by omega) (by omega)
          have kw := sm_wh_b kk
          have kn := kk.1
          have kp : a + 8 ≤ sm_pa a p ∧ sm_pa a p ≤ a + 20 := by unfold sm_pa; omega
          obtain ⟨p9, l9, u9, d9, q1, q2, q3, q4, q5, q6⟩ := hpp p (by omega) (by omega)
          refine qa_aload_n (pc' := 26) ⟨rfl, rfl⟩ rfl ?_
          refine qa_getf (pc' := 29) ⟨rfl, rfl⟩ qg_2_11 (by assumption) rfl ?_
          refine qa_iload_n (pc' := 30) ⟨rfl, rfl⟩ rfl ?_
          refine qa_aaload (pc' := 31) ⟨rfl, rfl⟩ (by assumption) rfl rfl (by omega) (sm_q5_at (by omega)) ?_
          refine qa_astore_n (L' := [(0, _), (1, _), (2, _), (3, _)]) (pc' := 32) ⟨rfl, rfl⟩ rfl rfl ?_
          refine qa_aload_n (pc' := 33) ⟨rfl, rfl⟩ rfl ?_
          refine qa_iload_n (pc' := 34) ⟨rfl, rfl⟩ rfl ?_
          refine qa_callV rfl qf_P_firstOutside ql_2_127 (d_P_firstOutside (hpp p (by omega) (by omega)) kk (by omega)) q1 rfl rfl rfl (qa_lt9 rfl) (qa_le9 rfl) (qa_le9 rfl) (qa_le9 rfl) (fun o9 τ9 hq9 => ?_)
          obtain ⟨rfl, hq9⟩ := hq9
          replace hq9 := hq9.symm; subst hq9
          refine qa_nx (pc' := 37) (st' := [_]) rfl rfl rfl rfl ?_
          have hfo := sp_fo_b (sm_pf m p) b (sm_n m p).toNat 0
          refine qa_istore (L' := [(0, _), (1, _), (2, _), (3, _), (4, _)]) (pc' := 39) ⟨rfl, rfl⟩ rfl rfl ?_
          refine qa_iload (pc' := 41) ⟨rfl, rfl⟩ rfl ?_
          refine qa_iconst (pc' := 42) ⟨rfl, rfl⟩ ?_
          refine qa_icmp_eq (pc' := 45) (tgt := 53) ⟨rfl, rfl⟩ rfl (by omega) (by omega) (fun hf => ?_) (fun hf => ?_)
          · refine qa_aload_n (pc' := 54) ⟨rfl, rfl⟩ rfl ?_
            refine qa_iload_n (pc' := 55) ⟨rfl, rfl⟩ rfl ?_
            refine qa_callV rfl qf_P_shiftPitches ql_2_130 (c_P_shiftPitches (by omega) q1 q2 (by omega) (fun j j0 j1 => by rw [(q6 j j0 j1).1]; exact kk.2.1 j j0 j1) (by omega)) q1 rfl rfl rfl (qa_lt9 rfl) (qa_le9 rfl) (qa_le9 rfl) (qa_le9 rfl) (fun o9 τ9 hq9 => ?_)
            obtain ⟨rfl, e1, ⟨p1, w2, hp1⟩, f1⟩ := hq9
            refine qa_nx (pc' := 58) (st' := []) rfl rfl rfl rfl ?_
            have q1 := (f1 _ (by omega)).trans q1
            have q3 := (f1 _ (by omega)).trans q3
            have en : sm_n (sm_mv m p b) p = sm_n m p := sm_mv_o (by omega)
            have el : ∀ j : Int, 0 ≤ j → j < sm_n m p → sm_lf (sm_mv m p b) p j = sm_lf m p j ∧ sm_pf (sm_mv m p b) p j = p1 j := fun j j0 j1 => ⟨sm_mv_o (by omega), by rw [hp1 j j0 j1]; exact sm_mv_p (q6 j j0 j1).1 j0 j1⟩
            have ew : sm_wh (sm_mv m p b) p = sm_wh m p := sm_wh_ext kn.1 en (fun j j0 j1 => (el j j0 j1).1)
            have H9 : sR_S τ9.1 a (sm_mv m p b) rf := hS.setP hk (by omega) (fun q hq => f1 q (by omega)) (fun k hk9 => sm_mv_o (by omega)) ⟨p1, l9, u9, d9, by rw [en, ew, sm_mv_o (by omega : ¬ (10 + 26 * p ≤ 8 + 26 * p ∧ 8 + 26 * p < 10 + 26 * p + 2 * sm_n m p ∧ (8 + 26 * p) % 2 = 0)), sm_mv_o (by omega : ¬ (10 + 26 * p ≤ 9 + 26 * p ∧ 9 + 26 * p < 10 + 26 * p + 2 * sm_n m p ∧ (9 + 26 * p) % 2 = 0))]; exact q1, w2, q3, by rw [sm_mv_o (by omega), sm_mv_o (by omega), sm_mv_o (by omega)]; exact q4, by rw [sm_mv_o (by omega)]; exact q5, fun j j0 j1 => by rw [en] at j1; exact ⟨(el j j0 j1).2.symm, by rw [(el j j0 j1).1]; exact (q6 j j0 j1).2⟩⟩
            have hct := sp_ct_b (sm_pf m p) (sm_n m p).toNat
            refine qa_iload_n (pc' := 59) ⟨rfl, rfl⟩ rfl ?_
            refine qa_if_ne (pc' := 62) (tgt := 66) ⟨rfl, rfl⟩ rfl (by omega) (fun hb0 => ?_) (fun hb0 => ?_)
            · have k9 : sm_okp (sm_mv m p b) p := ⟨by rw [en]; exact kn, fun j j0 j1 => by rw [en] at j1; rw [(el j j0 j1).2, hp1 j j0 j1]; exact sp_sh_b (by omega) hf (q6 j j0 j1).1 (kk.2.1 j j0 j1) j0 j1, fun j j0 j1 => by rw [en] at j1; rw [(el j j0 j1).1]; exact kk.2.2 j j0 j1⟩
              have hct9 : sp_ct (sm_pf (sm_mv m p b) p) (sm_n (sm_mv m p b) p).toNat = sp_ct (sm_pf m p) (sm_n m p).toNat := by
                rw [en]
                exact sp_ct_sh (fun j j0 j1 => (kk.2.1 j j0 j1)) hf (fun j j0 j1 => by rw [(el j j0 j1).2, hp1 j j0 j1]; exact sp_sh_eq (q6 j j0 j1).1 j0 j1) _ (by omega)
              refine qa_aload_n (pc' := 67) ⟨rfl, rfl⟩ rfl ?_
              refine qa_callV rfl qf_P_pitchTotal ql_2_134 (d_P_pitchTotal (H9.2.2.2.2 p (by omega) (by omega)) k9) q1 rfl rfl rfl (qa_lt9 rfl) (qa_le9 rfl) (qa_le9 rfl) (qa_le9 rfl) (fun o9 τ9 hq9 => ?_)
              obtain ⟨rfl, hq9⟩ := hq9
              replace hq9 := hq9.symm; subst hq9
              refine qa_nx (pc' := 70) (st' := [_]) rfl rfl rfl rfl ?_
              rw [hct9]
              refine qa_ireturn rfl rfl rfl (hQ _ _ (qa_Ch.done (by unfold so_move; rw [if_neg (by omega), if_neg (by omega), if_neg (by omega), if_neg hb0]) (by omega) e1 (fun q hq => f1 q (by omega)) H9))
            · refine qa_iconst (pc' := 63) ⟨rfl, rfl⟩ ?_
              refine qa_goto (pc' := 66) (tgt := 70) ⟨rfl, rfl⟩ rfl ?_
              refine qa_ireturn rfl rfl rfl (hQ _ _ (qa_Ch.done (by unfold so_move; rw [if_neg (by omega), if_neg (by omega), if_neg (by omega), if_pos hb0]) (by omega) e1 (fun q hq => f1 q (by omega)) H9))
          · refine qa_aload_n (pc' := 46) ⟨rfl, rfl⟩ rfl ?_
            refine qa_iconst (pc' := 47) ⟨rfl, rfl⟩ ?_
            refine qa_iload (pc' := 49) ⟨rfl, rfl⟩ rfl ?_
            refine qa_callV rfl qf_S_refused ql_2_107 (c_S_refused hlo hs) hs rfl rfl rfl (qa_lt9 rfl) (qa_le9 rfl) (qa_le9 rfl) (qa_le9 rfl) (fun o9 τ9 hq9 => ?_)
            obtain ⟨rfl, e1, w1, f1⟩ := hq9
            refine qa_nx (pc' := 52) (st' := [_]) rfl rfl rfl rfl ?_
            refine qa_ireturn rfl rfl rfl (hQ _ _ (qa_Ch.ref (by unfold so_move; rw [if_neg (by omega), if_neg (by omega), if_pos hf]) hS hk e1 w1 f1))
        · exact absurd hhb99 (by omega)
      · rw [if_neg hb9]
        refine qa_if_ne (pc' := 22) (tgt := 25) ⟨rfl, rfl⟩ rfl (by omega) (fun hhb99 => ?_) (fun hhb99 => ?_)
        · exact absurd hhb99 (by omega)
        · refine qa_bipush (z := (-11)) (pc' := 24) ⟨rfl, rfl⟩ rfl ?_
          refine qa_ireturn rfl rfl rfl (hQ _ _ (qa_Ch.bad (by unfold so_move; repeat (first | rw [if_pos (by omega)] | rw [if_neg (by omega)])) (by omega) hS))
    · exact absurd hhw9 (by omega)
  · rw [if_neg hw]
    refine qa_if_ne (pc' := 8) (tgt := 11) ⟨rfl, rfl⟩ rfl (by omega) (fun hhw9 => ?_) (fun hhw9 => ?_)
    · exact absurd hhw9 (by omega)
    · refine qa_bipush (z := (-10)) (pc' := 10) ⟨rfl, rfl⟩ rfl ?_
      refine qa_ireturn rfl rfl rfl (hQ _ _ (qa_Ch.bad (by unfold so_move; repeat (first | rw [if_pos (by omega)] | rw [if_neg (by omega)])) (by omega) hS))
