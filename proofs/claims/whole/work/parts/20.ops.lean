theorem sm_cu_up {m : Int → Int} {p v : Int} (hp : 0 ≤ p) : ∀ n : Nat, sm_cu (qa_up m (7 + 26 * p) v) n = sm_cu m n + if p < n then (if v = -1 then 0 else 1) - (if m (7 + 26 * p) = -1 then 0 else 1) else 0
  | 0 => by rw [if_neg (by omega)]; rfl
  | n + 1 => by
    unfold sm_cu
    rw [sm_cu_up hp n]
    by_cases h : p = n
    · rw [← h, qa_up_eq]
      (repeat' split) <;> omega
    · rw [qa_up_ne (by omega)]
      (repeat' split) <;> omega
theorem sm_cu_b (m : Int → Int) : ∀ n : Nat, 0 ≤ sm_cu m n ∧ sm_cu m n ≤ n
  | 0 => ⟨Int.le_refl _, Int.le_refl _⟩
  | n + 1 => by
    have := sm_cu_b m n
    unfold sm_cu
    split <;> omega
theorem sm_src_b {m : Int → Int} {B : Int} (hk : sm_ok m B) {src : Int → Int} (h : ∀ j : Int, 0 ≤ j → j < 5 → src j = sm_src m j) : sp_S5 src := by
  intro j j0 j1
  rw [h j j0 j1]
  unfold sm_src
  have := hk.1
  split
  · have := hk.2.2.2.2.2.1 j j0 (by omega); omega
  · omega
theorem sp_en_ext {f g : Int → Int} {b : Int} : ∀ k : Nat, (∀ j : Int, 0 ≤ j → j ≤ k → f j = g j) → sp_en f b k = sp_en g b k
  | 0, _ => rfl
  | k + 1, h => by
    unfold sp_en
    rw [h _ (by omega) (Int.le_refl _), sp_en_ext k (fun j j0 j1 => h j j0 (by omega))]
theorem c_S_tune {E : qa_V} {σ : qa_S} {a : Nat} {m : Int → Int} {rf B : Int} {p x y : Int}  (hlo : E.1 ≤ a) (hS : sR_S σ.1 a m rf) (hk : sm_ok m B) (hp : qa_in p) (hx : qa_in x) (hy : qa_in y) : qa_T E qm_S_tune 0 0 [.ref a, .int (qa_i p), .int (qa_i x), .int (qa_i y)] σ (qa_Ch a σ rf (so_tune m p x y)) := by
  refine qa_enterQ (by decide) rfl qm_S_tune_ok rfl rfl (fun Q9 hQ => ?_)
  have hS9 := hS
  have hk9 := hk
  obtain ⟨hs, hpa, hcq, htq, hpp⟩ := hS9
  obtain ⟨k0, k1, k2, k3, k4, k5, k6, k7, k8⟩ := hk9
  refine qa_aload_n (pc' := 1) ⟨rfl, rfl⟩ rfl ?_
  refine qa_iload_n (pc' := 2) ⟨rfl, rfl⟩ rfl ?_
  refine qa_callV rfl qf_S_has ql_2_110 (c_S_has hS hk (by omega)) hs rfl rfl rfl (qa_lt9 rfl) (qa_le9 rfl) (qa_le9 rfl) (qa_le9 rfl) (fun o9 τ9 hq9 => ?_)
  obtain ⟨rfl, hq9⟩ := hq9
  replace hq9 := hq9.symm; subst hq9
  refine qa_nx (pc' := 5) (st' := [_]) rfl rfl rfl rfl ?_
  by_cases hw : 0 ≤ p ∧ p < m 0
  · rw [if_pos hw]
    refine qa_if_ne (pc' := 8) (tgt := 11) ⟨rfl, rfl⟩ rfl (by omega) (fun hhw9 => ?_) (fun hhw9 => ?_)
    · refine qa_iload_n (pc' := 12) ⟨rfl, rfl⟩ rfl ?_
      refine qa_iconst (pc' := 13) ⟨rfl, rfl⟩ ?_
      refine qa_bipush (z := 99) (pc' := 15) ⟨rfl, rfl⟩ rfl ?_
      refine qa_callS rfl qf_C_isWithin rfl ql_2_52 (c_C_isWithin (by omega) (by omega) (by omega)) rfl rfl (qa_lt9 rfl) (qa_le9 rfl) (qa_le9 rfl) (qa_le9 rfl) (fun o9 τ9 hq9 => ?_)
      obtain ⟨rfl, hq9⟩ := hq9
      replace hq9 := hq9.symm; subst hq9
      refine qa_nx (pc' := 18) (st' := [_]) rfl rfl rfl rfl ?_
      by_cases hx9 : 1 ≤ x ∧ x ≤ 99
      · rw [if_pos hx9]
        refine qa_if_eq (pc' := 21) (tgt := 31) ⟨rfl, rfl⟩ rfl (by omega) (fun hhx99 => ?_) (fun hhx99 => ?_)
        · exact absurd hhx99 (by omega)
        · refine qa_iload_n (pc' := 22) ⟨rfl, rfl⟩ rfl ?_
          refine qa_iconst (pc' := 23) ⟨rfl, rfl⟩ ?_
          refine qa_bipush (z := 99) (pc' := 25) ⟨rfl, rfl⟩ rfl ?_
          refine qa_callS rfl qf_C_isWithin rfl ql_2_52 (c_C_isWithin (by omega) (by omega) (by omega)) rfl rfl (qa_lt9 rfl) (qa_le9 rfl) (qa_le9 rfl) (qa_le9 rfl) (fun o9 τ9 hq9 => ?_)
          obtain ⟨rfl, hq9⟩ := hq9
          replace hq9 := hq9.symm; subst hq9
          refine qa_nx (pc' := 28) (st' := [_]) rfl rfl rfl rfl ?_
          by_cases hy9 : 1 ≤ y ∧ y ≤ 99
          · rw [if_pos hy9]
            refine qa_if_ne (pc' := 31) (tgt := 34) ⟨rfl, rfl⟩ rfl (by omega) (fun hhy99 => ?_) (fun hhy99 => ?_)
            · have kk := k4 p (by omega) (by omega)
              have kw := sm_wh_b kk
              have kn := kk.1
              have kp : a + 8 ≤ sm_pa a p ∧ sm_pa a p ≤ a + 20 := by unfold sm_pa; omega
              obtain ⟨p9, l9, u9, d9, q1, q2, q3, q4, q5, q6⟩ := hpp p (by omega) (by omega)
              have e0 : σ.2 = σ.2 := rfl
              refine qa_aload_n (pc' := 35) ⟨rfl, rfl⟩ rfl ?_
              refine qa_getf (pc' := 38) ⟨rfl, rfl⟩ qg_2_11 (by assumption) rfl ?_
              refine qa_iload_n (pc' := 39) ⟨rfl, rfl⟩ rfl ?_
              refine qa_aaload (pc' := 40) ⟨rfl, rfl⟩ (by assumption) rfl rfl (by omega) (sm_q5_at (by omega)) ?_
              refine qa_iload_n (pc' := 41) ⟨rfl, rfl⟩ rfl ?_
              refine qa_iload_n (pc' := 42) ⟨rfl, rfl⟩ rfl ?_
              refine qa_callS rfl qf_F_reduced rfl ql_2_137 (c_F_reduced (by omega) (by omega)) rfl rfl (qa_lt9 rfl) (qa_le9 rfl) (qa_le9 rfl) (qa_le9 rfl) (fun o9 τ9 hq9 => ?_)
              obtain ⟨rfl, hq9⟩ := hq9
              replace hq9 := hq9.symm; subst hq9
              refine qa_nx (pc' := 45) (st' := [_, _]) rfl rfl rfl rfl ?_
              refine qa_putf (fs' := [_, _, _, _, _, _, _, _]) (pc' := 48) ⟨rfl, rfl⟩ qg_2_142 qw_2 (by assumption) (by omega) rfl (fun r hr => by cases hr; exact ⟨rfl, Or.inl rfl⟩) rfl rfl ?_
              refine qa_gz (fun τ1 e1 w1 f1 => ?_)
              replace q2 := (f1 _ (by omega)).trans q2
              replace q3 := (f1 _ (by omega)).trans q3
              replace hpa := (f1 _ (by omega)).trans hpa
              replace hs := (f1 _ (by omega)).trans hs
              replace e0 := e1.trans e0
              refine qa_aload_n (pc' := 49) ⟨rfl, rfl⟩ rfl ?_
              refine qa_getf (pc' := 52) ⟨rfl, rfl⟩ qg_2_11 (by assumption) rfl ?_
              refine qa_iload_n (pc' := 53) ⟨rfl, rfl⟩ rfl ?_
              refine qa_aaload (pc' := 54) ⟨rfl, rfl⟩ (by assumption) rfl rfl (by omega) (sm_q5_at (by omega)) ?_
              refine qa_iload_n (pc' := 55) ⟨rfl, rfl⟩ rfl ?_
              refine qa_iload_n (pc' := 56) ⟨rfl, rfl⟩ rfl ?_
              refine qa_callS rfl qf_F_reduced rfl ql_2_137 (c_F_reduced (by omega) (by omega)) rfl rfl (qa_lt9 rfl) (qa_le9 rfl) (qa_le9 rfl) (qa_le9 rfl) (fun o9 τ9 hq9 => ?_)
              obtain ⟨rfl, hq9⟩ := hq9
              replace hq9 := hq9.symm; subst hq9
              refine qa_nx (pc' := 59) (st' := [_, _]) rfl rfl rfl rfl ?_
              refine qa_putf (fs' := [_, _, _, _, _, _, _, _]) (pc' := 62) ⟨rfl, rfl⟩ qg_2_145 qw_2 (by assumption) (by omega) rfl (fun r hr => by cases hr; exact ⟨rfl, Or.inl rfl⟩) rfl rfl ?_
              refine qa_gz (fun τ2 e2 w2 f2 => ?_)
              replace q2 := (f2 _ (by omega)).trans q2
              replace q3 := (f2 _ (by omega)).trans q3
              replace hpa := (f2 _ (by omega)).trans hpa
              replace hs := (f2 _ (by omega)).trans hs
              replace e0 := e2.trans e0
              refine qa_iload_n (pc' := 63) ⟨rfl, rfl⟩ rfl ?_
              refine qa_iload_n (pc' := 64) ⟨rfl, rfl⟩ rfl ?_
              refine qa_callS rfl qf_F_greatestDivisor rfl ql_2_148 (c_F_greatestDivisor (by omega) (by omega)) rfl rfl (qa_lt9 rfl) (qa_le9 rfl) (qa_le9 rfl) (qa_le9 rfl) (fun o9 τ9 hq9 => ?_)
              obtain ⟨rfl, hq9⟩ := hq9
              replace hq9 := hq9.symm; subst hq9
              refine qa_nx (pc' := 67) (st' := [_]) rfl rfl rfl rfl ?_
              have g1 : sp_gd 64 x y = Int.gcd x y := sp_gd_all (by omega) (by omega) (by omega)
              have g2 : sp_gd 64 y x = Int.gcd x y := by rw [sp_gd_all (by omega) (by omega) (by omega), Int.gcd_comm]
              rw [g1, g2] at w2
              rw [g1]
              refine qa_ireturn rfl rfl rfl (hQ _ _ (qa_Ch.done (ans := ((Int.gcd x y : Nat) : Int)) (det := 0) (by unfold so_tune; rw [if_neg (by omega), if_neg (by omega)]) (by omega) e0 (fun q hq => (f2 q (by omega)).trans (f1 q (by omega))) (hS.setP (i := p) (m' := qa_up (qa_up m (5 + 26 * p) (x / Int.gcd x y)) (6 + 26 * p) (y / Int.gcd x y)) hk (by omega) (fun q hq => (f2 q (by omega)).trans (f1 q (by omega))) (fun k hk9 => by rw [qa_up_ne (by omega), qa_up_ne (by omega)]) ?_)))
              have en : sm_n (qa_up (qa_up m (5 + 26 * p) (x / Int.gcd x y)) (6 + 26 * p) (y / Int.gcd x y)) p = sm_n m p := by unfold sm_n; rw [qa_up_ne (by omega), qa_up_ne (by omega)]
              have el : ∀ j : Int, 0 ≤ j → j < sm_n m p → sm_lf (qa_up (qa_up m (5 + 26 * p) (x / Int.gcd x y)) (6 + 26 * p) (y / Int.gcd x y)) p j = sm_lf m p j ∧ sm_pf (qa_up (qa_up m (5 + 26 * p) (x / Int.gcd x y)) (6 + 26 * p) (y / Int.gcd x y)) p j = sm_pf m p j := fun j j0 j1 => by
                unfold sm_lf sm_pf
                refine ⟨?_, ?_⟩ <;> rw [qa_up_ne (by omega), qa_up_ne (by omega)]
              have ew := sm_wh_ext kn.1 en (fun j j0 j1 => (el j j0 j1).1)
              refine ⟨p9, l9, _, _, ?_, q2, q3, fun _ => ⟨rfl, rfl⟩, fun h => ?_, fun j j0 j1 => ?_⟩
              · rw [en, ew, qa_up_ne (by omega : 8 + 26 * p ≠ 6 + 26 * p), qa_up_ne (by omega : 8 + 26 * p ≠ 5 + 26 * p), qa_up_ne (by omega : 9 + 26 * p ≠ 6 + 26 * p), qa_up_ne (by omega : 9 + 26 * p ≠ 5 + 26 * p), qa_up_ne (by omega : 5 + 26 * p ≠ 6 + 26 * p), qa_up_eq, qa_up_eq]; exact w2
              · rw [qa_up_ne (by omega : (0 : Int) ≠ _), qa_up_ne (by omega : (0 : Int) ≠ _)] at h; exact absurd h (by omega)
              · rw [en] at j1; rw [(el j j0 j1).1, (el j j0 j1).2]; exact q6 j j0 j1
            · exact absurd hhy99 (by omega)
          · rw [if_neg hy9]
            refine qa_if_ne (pc' := 31) (tgt := 34) ⟨rfl, rfl⟩ rfl (by omega) (fun hhy99 => ?_) (fun hhy99 => ?_)
            · exact absurd hhy99 (by omega)
            · refine qa_bipush (z := (-11)) (pc' := 33) ⟨rfl, rfl⟩ rfl ?_
              refine qa_ireturn rfl rfl rfl (hQ _ _ (qa_Ch.bad (by unfold so_tune; repeat (first | rw [if_pos (by omega)] | rw [if_neg (by omega)])) (by omega) hS))
      · rw [if_neg hx9]
        refine qa_if_eq (pc' := 21) (tgt := 31) ⟨rfl, rfl⟩ rfl (by omega) (fun hhx99 => ?_) (fun hhx99 => ?_)
        · refine qa_bipush (z := (-11)) (pc' := 33) ⟨rfl, rfl⟩ rfl ?_
          refine qa_ireturn rfl rfl rfl (hQ _ _ (qa_Ch.bad (by unfold so_tune; repeat (first | rw [if_pos (by omega)] | rw [if_neg (by omega)])) (by omega) hS))
        · exact absurd hhx99 (by omega)
    · exact absurd hhw9 (by omega)
  · rw [if_neg hw]
    refine qa_if_ne (pc' := 8) (tgt := 11) ⟨rfl, rfl⟩ rfl (by omega) (fun hhw9 => ?_) (fun hhw9 => ?_)
    · exact absurd hhw9 (by omega)
    · refine qa_bipush (z := (-10)) (pc' := 10) ⟨rfl, rfl⟩ rfl ?_
      refine qa_ireturn rfl rfl rfl (hQ _ _ (qa_Ch.bad (by unfold so_tune; repeat (first | rw [if_pos (by omega)] | rw [if_neg (by omega)])) (by omega) hS))
theorem c_S_takeCue {E : qa_V} {σ : qa_S} {a : Nat} {m : Int → Int} {rf B : Int} {p o : Int}  (hlo : E.1 ≤ a) (hS : sR_S σ.1 a m rf) (hk : sm_ok m B) (hp : qa_in p) (ho9 : qa_in o) : qa_T E qm_S_takeCue 0 0 [.ref a, .int (qa_i p), .int (qa_i o)] σ (qa_Ch a σ rf (so_cue m p o)) := by
  refine qa_enterQ (by decide) rfl qm_S_takeCue_ok rfl rfl (fun Q9 hQ => ?_)
  have hS9 := hS
  have hk9 := hk
  obtain ⟨hs, hpa, hcq, htq, hpp⟩ := hS9
  obtain ⟨k0, k1, k2, k3, k4, k5, k6, k7, k8⟩ := hk9
  refine qa_aload_n (pc' := 1) ⟨rfl, rfl⟩ rfl ?_
  refine qa_iload_n (pc' := 2) ⟨rfl, rfl⟩ rfl ?_
  refine qa_callV rfl qf_S_has ql_2_110 (c_S_has hS hk (by omega)) hs rfl rfl rfl (qa_lt9 rfl) (qa_le9 rfl) (qa_le9 rfl) (qa_le9 rfl) (fun o9 τ9 hq9 => ?_)
  obtain ⟨rfl, hq9⟩ := hq9
  replace hq9 := hq9.symm; subst hq9
  refine qa_nx (pc' := 5) (st' := [_]) rfl rfl rfl rfl ?_
  by_cases hw : 0 ≤ p ∧ p < m 0
  · rw [if_pos hw]
    refine qa_if_eq (pc' := 8) (tgt := 16) ⟨rfl, rfl⟩ rfl (by omega) (fun hhw9 => ?_) (fun hhw9 => ?_)
    · exact absurd hhw9 (by omega)
    · refine qa_aload_n (pc' := 9) ⟨rfl, rfl⟩ rfl ?_
      refine qa_iload_n (pc' := 10) ⟨rfl, rfl⟩ rfl ?_
      refine qa_callV rfl qf_S_has ql_2_110 (c_S_has hS hk (by omega)) hs rfl rfl rfl (qa_lt9 rfl) (qa_le9 rfl) (qa_le9 rfl) (qa_le9 rfl) (fun o9 τ9 hq9 => ?_)
      obtain ⟨rfl, hq9⟩ := hq9
      replace hq9 := hq9.symm; subst hq9
      refine qa_nx (pc' := 13) (st' := [_]) rfl rfl rfl rfl ?_
      by_cases ho : 0 ≤ o ∧ o < m 0
      · rw [if_pos ho]
        refine qa_if_ne (pc' := 16) (tgt := 19) ⟨rfl, rfl⟩ rfl (by omega) (fun hho9 => ?_) (fun hho9 => ?_)
        · refine qa_iload_n (pc' := 20) ⟨rfl, rfl⟩ rfl ?_
          refine qa_iload_n (pc' := 21) ⟨rfl, rfl⟩ rfl ?_
          refine qa_icmp_ne (pc' := 24) (tgt := 27) ⟨rfl, rfl⟩ rfl (by omega) (by omega) (fun hc7 => ?_) (fun hc7 => ?_)
          · obtain ⟨src, mw, c1, c2, c3, c4⟩ := hcq
            have hs9 := sm_src_b hk c4
            have cp := c4 p (by omega) (by omega)
            have cp2 : src p = m (7 + 26 * p) := by rw [cp]; unfold sm_src; rw [if_pos (by omega)]
            have haf : sp_af src p = m (7 + 26 * p) := by unfold sp_af; rw [if_pos (by omega)]; exact cp2
            have k5p := k5 p (by omega) (by omega)
            have hcb := sm_cu_b m (m 0).toNat
            refine qa_aload_n (pc' := 28) ⟨rfl, rfl⟩ rfl ?_
            refine qa_getf (pc' := 31) ⟨rfl, rfl⟩ qg_2_20 (by assumption) rfl ?_
            refine qa_iload_n (pc' := 32) ⟨rfl, rfl⟩ rfl ?_
            refine qa_callV rfl qf_Q_after ql_2_151 (c_Q_after c1 c2 (by omega)) c1 rfl rfl rfl (qa_lt9 rfl) (qa_le9 rfl) (qa_le9 rfl) (qa_le9 rfl) (fun o9 τ9 hq9 => ?_)
            obtain ⟨rfl, hq9⟩ := hq9
            replace hq9 := hq9.symm; subst hq9
            refine qa_nx (pc' := 35) (st' := [_]) rfl rfl rfl rfl ?_
            rw [haf]
            refine qa_iload_n (pc' := 36) ⟨rfl, rfl⟩ rfl ?_
            refine qa_icmp_ne (pc' := 39) (tgt := 52) ⟨rfl, rfl⟩ rfl (by omega) (by omega) (fun hc8 => ?_) (fun hc8 => ?_)
            · refine qa_aload_n (pc' := 53) ⟨rfl, rfl⟩ rfl ?_
              refine qa_getf (pc' := 56) ⟨rfl, rfl⟩ qg_2_20 (by assumption) rfl ?_
              refine qa_iload_n (pc' := 57) ⟨rfl, rfl⟩ rfl ?_
              refine qa_iload_n (pc' := 58) ⟨rfl, rfl⟩ rfl ?_
              refine qa_callV rfl qf_Q_put ql_2_157 (c_Q_put (by omega) c1 c2 hs9 (by omega) (by omega)) c1 rfl rfl rfl (qa_lt9 rfl) (qa_le9 rfl) (qa_le9 rfl) (qa_le9 rfl) (fun o9 τ9 hq9 => ?_)
              obtain ⟨rfl, e1, w1, w2, f1⟩ := hq9
              refine qa_nx (pc' := 61) (st' := []) rfl rfl rfl rfl ?_
              have c3 := (f1 _ (by omega)).trans c3
              have ecu : sm_cu (qa_up m (7 + 26 * p) (o)) (m 0).toNat = sm_cu m (m 0).toNat - (if src p = -1 then 0 else 1) + (if (o : Int) = -1 then 0 else 1) := by rw [sm_cu_up (by omega), if_pos (by omega), cp2]; omega
              rw [← ecu] at w1
              have hcb9 := sm_cu_b (qa_up m (7 + 26 * p) (o)) (m 0).toNat
              have hs := (f1 _ (by omega)).trans hs
              refine qa_aload_n (pc' := 62) ⟨rfl, rfl⟩ rfl ?_
              refine qa_getf (pc' := 65) ⟨rfl, rfl⟩ qg_2_20 (by assumption) rfl ?_
              refine qa_getf (pc' := 68) ⟨rfl, rfl⟩ qg_2_154 (by assumption) rfl ?_
              refine qa_ireturn rfl rfl rfl (hQ _ _ (qa_Ch.done (by unfold so_cue; repeat (first | rw [if_pos (by omega)] | rw [if_neg (by omega)])) (by omega) e1 (fun q hq => f1 q (by omega)) (hS.setQ (m' := qa_up m (7 + 26 * p) (o)) hk (fun q hq => f1 q (by omega)) (fun k hk9 => qa_up_ne (by omega)) ⟨_, mw, by rw [qa_up_ne (by omega : (0 : Int) ≠ _)]; exact w1, w2, c3, fun j j0 j1 => ?_⟩)))
              by_cases hj : j = p
              · rw [hj, qa_up_eq]; unfold sm_src; rw [qa_up_ne (by omega : (0 : Int) ≠ _), if_pos (by omega), qa_up_eq]
              · rw [qa_up_ne hj, c4 j j0 j1]; unfold sm_src; rw [qa_up_ne (by omega : (0 : Int) ≠ _), qa_up_ne (by omega)]
            · refine qa_aload_n (pc' := 40) ⟨rfl, rfl⟩ rfl ?_
              refine qa_iconst (pc' := 41) ⟨rfl, rfl⟩ ?_
              refine qa_aload_n (pc' := 42) ⟨rfl, rfl⟩ rfl ?_
              refine qa_getf (pc' := 45) ⟨rfl, rfl⟩ qg_2_20 (by assumption) rfl ?_
              refine qa_getf (pc' := 48) ⟨rfl, rfl⟩ qg_2_154 (by assumption) rfl ?_
              refine qa_callV rfl qf_S_refused ql_2_107 (c_S_refused hlo hs) hs rfl rfl rfl (qa_lt9 rfl) (qa_le9 rfl) (qa_le9 rfl) (qa_le9 rfl) (fun o9 τ9 hq9 => ?_)
              obtain ⟨rfl, e1, w1, f1⟩ := hq9
              refine qa_nx (pc' := 51) (st' := [_]) rfl rfl rfl rfl ?_
              refine qa_ireturn rfl rfl rfl (hQ _ _ (qa_Ch.ref (by unfold so_cue; repeat (first | rw [if_pos (by omega)] | rw [if_neg (by omega)])) hS hk e1 w1 f1))
          · refine qa_bipush (z := (-11)) (pc' := 26) ⟨rfl, rfl⟩ rfl ?_
            refine qa_ireturn rfl rfl rfl (hQ _ _ (qa_Ch.bad (by unfold so_cue; repeat (first | rw [if_pos (by omega)] | rw [if_neg (by omega)])) (by omega) hS))
        · exact absurd hho9 (by omega)
      · rw [if_neg ho]
        refine qa_if_ne (pc' := 16) (tgt := 19) ⟨rfl, rfl⟩ rfl (by omega) (fun hho9 => ?_) (fun hho9 => ?_)
        · exact absurd hho9 (by omega)
        · refine qa_bipush (z := (-10)) (pc' := 18) ⟨rfl, rfl⟩ rfl ?_
          refine qa_ireturn rfl rfl rfl (hQ _ _ (qa_Ch.bad (by unfold so_cue; repeat (first | rw [if_pos (by omega)] | rw [if_neg (by omega)])) (by omega) hS))
  · rw [if_neg hw]
    refine qa_if_eq (pc' := 8) (tgt := 16) ⟨rfl, rfl⟩ rfl (by omega) (fun hhw9 => ?_) (fun hhw9 => ?_)
    · refine qa_bipush (z := (-10)) (pc' := 18) ⟨rfl, rfl⟩ rfl ?_
      refine qa_ireturn rfl rfl rfl (hQ _ _ (qa_Ch.bad (by unfold so_cue; repeat (first | rw [if_pos (by omega)] | rw [if_neg (by omega)])) (by omega) hS))
    · exact absurd hhw9 (by omega)
theorem c_S_dropCue {E : qa_V} {σ : qa_S} {a : Nat} {m : Int → Int} {rf B : Int} {p : Int}  (hlo : E.1 ≤ a) (hS : sR_S σ.1 a m rf) (hk : sm_ok m B) (hp : qa_in p) : qa_T E qm_S_dropCue 0 0 [.ref a, .int (qa_i p)] σ (qa_Ch a σ rf (so_alone m p)) := by
  refine qa_enterQ (by decide) rfl qm_S_dropCue_ok rfl rfl (fun Q9 hQ => ?_)
  have hS9 := hS
  have hk9 := hk
  obtain ⟨hs, hpa, hcq, htq, hpp⟩ := hS9
  obtain ⟨k0, k1, k2, k3, k4, k5, k6, k7, k8⟩ := hk9
  refine qa_aload_n (pc' := 1) ⟨rfl, rfl⟩ rfl ?_
  refine qa_iload_n (pc' := 2) ⟨rfl, rfl⟩ rfl ?_
  refine qa_callV rfl qf_S_has ql_2_110 (c_S_has hS hk (by omega)) hs rfl rfl rfl (qa_lt9 rfl) (qa_le9 rfl) (qa_le9 rfl) (qa_le9 rfl) (fun o9 τ9 hq9 => ?_)
  obtain ⟨rfl, hq9⟩ := hq9
  replace hq9 := hq9.symm; subst hq9
  refine qa_nx (pc' := 5) (st' := [_]) rfl rfl rfl rfl ?_
  by_cases hw : 0 ≤ p ∧ p < m 0
  · rw [if_pos hw]
    refine qa_if_ne (pc' := 8) (tgt := 11) ⟨rfl, rfl⟩ rfl (by omega) (fun hhw9 => ?_) (fun hhw9 => ?_)
    · obtain ⟨src, mw, c1, c2, c3, c4⟩ := hcq
      have hs9 := sm_src_b hk c4
      have cp := c4 p (by omega) (by omega)
      have cp2 : src p = m (7 + 26 * p) := by rw [cp]; unfold sm_src; rw [if_pos (by omega)]
      have haf : sp_af src p = m (7 + 26 * p) := by unfold sp_af; rw [if_pos (by omega)]; exact cp2
      have k5p := k5 p (by omega) (by omega)
      have hcb := sm_cu_b m (m 0).toNat
      refine qa_aload_n (pc' := 12) ⟨rfl, rfl⟩ rfl ?_
      refine qa_getf (pc' := 15) ⟨rfl, rfl⟩ qg_2_20 (by assumption) rfl ?_
      refine qa_iload_n (pc' := 16) ⟨rfl, rfl⟩ rfl ?_
      refine qa_callV rfl qf_Q_after ql_2_151 (c_Q_after c1 c2 (by omega)) c1 rfl rfl rfl (qa_lt9 rfl) (qa_le9 rfl) (qa_le9 rfl) (qa_le9 rfl) (fun o9 τ9 hq9 => ?_)
      obtain ⟨rfl, hq9⟩ := hq9
      replace hq9 := hq9.symm; subst hq9
      refine qa_nx (pc' := 19) (st' := [_]) rfl rfl rfl rfl ?_
      rw [haf]
      refine qa_iconst (pc' := 20) ⟨rfl, rfl⟩ ?_
      refine qa_icmp_ne (pc' := 23) (tgt := 37) ⟨rfl, rfl⟩ rfl (by omega) (by omega) (fun hc8 => ?_) (fun hc8 => ?_)
      · refine qa_aload_n (pc' := 38) ⟨rfl, rfl⟩ rfl ?_
        refine qa_getf (pc' := 41) ⟨rfl, rfl⟩ qg_2_20 (by assumption) rfl ?_
        refine qa_iload_n (pc' := 42) ⟨rfl, rfl⟩ rfl ?_
        refine qa_iconst (pc' := 43) ⟨rfl, rfl⟩ ?_
        refine qa_callV rfl qf_Q_put ql_2_157 (c_Q_put (by omega) c1 c2 hs9 (by omega) (by omega)) c1 rfl rfl rfl (qa_lt9 rfl) (qa_le9 rfl) (qa_le9 rfl) (qa_le9 rfl) (fun o9 τ9 hq9 => ?_)
        obtain ⟨rfl, e1, w1, w2, f1⟩ := hq9
        refine qa_nx (pc' := 46) (st' := []) rfl rfl rfl rfl ?_
        have c3 := (f1 _ (by omega)).trans c3
        have ecu : sm_cu (qa_up m (7 + 26 * p) (-1)) (m 0).toNat = sm_cu m (m 0).toNat - (if src p = -1 then 0 else 1) + (if (-1 : Int) = -1 then 0 else 1) := by rw [sm_cu_up (by omega), if_pos (by omega), cp2]; omega
        rw [← ecu] at w1
        have hcb9 := sm_cu_b (qa_up m (7 + 26 * p) (-1)) (m 0).toNat
        have hs := (f1 _ (by omega)).trans hs
        refine qa_aload_n (pc' := 47) ⟨rfl, rfl⟩ rfl ?_
        refine qa_getf (pc' := 50) ⟨rfl, rfl⟩ qg_2_20 (by assumption) rfl ?_
        refine qa_getf (pc' := 53) ⟨rfl, rfl⟩ qg_2_154 (by assumption) rfl ?_
        refine qa_ireturn rfl rfl rfl (hQ _ _ (qa_Ch.done (by unfold so_alone; repeat (first | rw [if_pos (by omega)] | rw [if_neg (by omega)])) (by omega) e1 (fun q hq => f1 q (by omega)) (hS.setQ (m' := qa_up m (7 + 26 * p) (-1)) hk (fun q hq => f1 q (by omega)) (fun k hk9 => qa_up_ne (by omega)) ⟨_, mw, by rw [qa_up_ne (by omega : (0 : Int) ≠ _)]; exact w1, w2, c3, fun j j0 j1 => ?_⟩)))
        by_cases hj : j = p
        · rw [hj, qa_up_eq]; unfold sm_src; rw [qa_up_ne (by omega : (0 : Int) ≠ _), if_pos (by omega), qa_up_eq]
        · rw [qa_up_ne hj, c4 j j0 j1]; unfold sm_src; rw [qa_up_ne (by omega : (0 : Int) ≠ _), qa_up_ne (by omega)]
      · refine qa_aload_n (pc' := 24) ⟨rfl, rfl⟩ rfl ?_
        refine qa_bipush (z := 6) (pc' := 26) ⟨rfl, rfl⟩ rfl ?_
        refine qa_aload_n (pc' := 27) ⟨rfl, rfl⟩ rfl ?_
        refine qa_getf (pc' := 30) ⟨rfl, rfl⟩ qg_2_20 (by assumption) rfl ?_
        refine qa_getf (pc' := 33) ⟨rfl, rfl⟩ qg_2_154 (by assumption) rfl ?_
        refine qa_callV rfl qf_S_refused ql_2_107 (c_S_refused hlo hs) hs rfl rfl rfl (qa_lt9 rfl) (qa_le9 rfl) (qa_le9 rfl) (qa_le9 rfl) (fun o9 τ9 hq9 => ?_)
        obtain ⟨rfl, e1, w1, f1⟩ := hq9
        refine qa_nx (pc' := 36) (st' := [_]) rfl rfl rfl rfl ?_
        refine qa_ireturn rfl rfl rfl (hQ _ _ (qa_Ch.ref (by unfold so_alone; repeat (first | rw [if_pos (by omega)] | rw [if_neg (by omega)])) hS hk e1 w1 f1))
    · exact absurd hhw9 (by omega)
  · rw [if_neg hw]
    refine qa_if_ne (pc' := 8) (tgt := 11) ⟨rfl, rfl⟩ rfl (by omega) (fun hhw9 => ?_) (fun hhw9 => ?_)
    · exact absurd hhw9 (by omega)
    · refine qa_bipush (z := (-10)) (pc' := 10) ⟨rfl, rfl⟩ rfl ?_
      refine qa_ireturn rfl rfl rfl (hQ _ _ (qa_Ch.bad (by unfold so_alone; repeat (first | rw [if_pos (by omega)] | rw [if_neg (by omega)])) (by omega) hS))
theorem c_S_changeTempo {E : qa_V} {σ : qa_S} {a : Nat} {m : Int → Int} {rf B : Int} {b v : Int}  (hlo : E.1 ≤ a) (hS : sR_S σ.1 a m rf) (hk : sm_ok m B) (hb : qa_in b) (hv : qa_in v) : qa_T E qm_S_changeTempo 0 0 [.ref a, .int (qa_i b), .int (qa_i v)] σ (qa_Ch a σ rf (so_tempo m b v)) := by
  refine qa_enterQ (by decide) rfl qm_S_changeTempo_ok rfl rfl (fun Q9 hQ => ?_)
  have hS9 := hS
  have hk9 := hk
  obtain ⟨hs, hpa, hcq, htq, hpp⟩ := hS9
  obtain ⟨k0, k1, k2, k3, k4, k5, k6, k7, k8⟩ := hk9
  refine qa_iload_n (pc' := 1) ⟨rfl, rfl⟩ rfl ?_
  refine qa_iconst (pc' := 2) ⟨rfl, rfl⟩ ?_
  refine qa_sipush (z := 999) (pc' := 5) ⟨rfl, rfl⟩ rfl ?_
  refine qa_callS rfl qf_C_isWithin rfl ql_2_52 (c_C_isWithin (by omega) (by omega) (by omega)) rfl rfl (qa_lt9 rfl) (qa_le9 rfl) (qa_le9 rfl) (qa_le9 rfl) (fun o9 τ9 hq9 => ?_)
  obtain ⟨rfl, hq9⟩ := hq9
  replace hq9 := hq9.symm; subst hq9
  refine qa_nx (pc' := 8) (st' := [_]) rfl rfl rfl rfl ?_
  by_cases hb9 : 0 ≤ b ∧ b ≤ 999
  · rw [if_pos hb9]
    refine qa_if_eq (pc' := 11) (tgt := 23) ⟨rfl, rfl⟩ rfl (by omega) (fun hhb99 => ?_) (fun hhb99 => ?_)
    · exact absurd hhb99 (by omega)
    · refine qa_iload_n (pc' := 12) ⟨rfl, rfl⟩ rfl ?_
      refine qa_bipush (z := 30) (pc' := 14) ⟨rfl, rfl⟩ rfl ?_
      refine qa_sipush (z := 240) (pc' := 17) ⟨rfl, rfl⟩ rfl ?_
      refine qa_callS rfl qf_C_isWithin rfl ql_2_52 (c_C_isWithin (by omega) (by omega) (by omega)) rfl rfl (qa_lt9 rfl) (qa_le9 rfl) (qa_le9 rfl) (qa_le9 rfl) (fun o9 τ9 hq9 => ?_)
      obtain ⟨rfl, hq9⟩ := hq9
      replace hq9 := hq9.symm; subst hq9
      refine qa_nx (pc' := 20) (st' := [_]) rfl rfl rfl rfl ?_
      by_cases hv9 : 30 ≤ v ∧ v ≤ 240
      · rw [if_pos hv9]
        refine qa_if_ne (pc' := 23) (tgt := 26) ⟨rfl, rfl⟩ rfl (by omega) (fun hhv99 => ?_) (fun hhv99 => ?_)
        · obtain ⟨bars, vals, t1, t2, t3, t4⟩ := htq
          have tb : ∀ j : Int, 0 ≤ j → j < m 2 → 0 ≤ bars j ∧ bars j ≤ 999 := fun j j0 j1 => by rw [(t4 j j0 j1).1]; exact k7.2.1 j j0 j1
          have hen : sp_en bars b (m 2 - 1).toNat = sm_e m b := sp_en_ext _ (fun j j0 j1 => (t4 j j0 (by omega)).1)
          have heb := sp_en_b (sm_bf m) b (m 2 - 1).toNat
          have heb2 : 0 ≤ sm_e m b ∧ sm_e m b < m 2 := by unfold sm_e; omega
          have hbe : bars (sm_e m b) = sm_bf m (sm_e m b) := (t4 _ heb2.1 heb2.2).1
          refine qa_aload_n (pc' := 27) ⟨rfl, rfl⟩ rfl ?_
          refine qa_getf (pc' := 30) ⟨rfl, rfl⟩ qg_2_27 (by assumption) rfl ?_
          refine qa_iload_n (pc' := 31) ⟨rfl, rfl⟩ rfl ?_
          refine qa_callV rfl qf_T_hasRoomFor ql_2_160 (c_T_hasRoomFor t1 t2 k2 tb (by omega)) t1 rfl rfl rfl (qa_lt9 rfl) (qa_le9 rfl) (qa_le9 rfl) (qa_le9 rfl) (fun o9 τ9 hq9 => ?_)
          obtain ⟨rfl, hq9⟩ := hq9
          replace hq9 := hq9.symm; subst hq9
          refine qa_nx (pc' := 34) (st' := [_]) rfl rfl rfl rfl ?_
          rw [hen, hbe]
          by_cases hr : m 2 < 6 ∨ sm_bf m (sm_e m b) = b
          · rw [if_pos hr]
            refine qa_if_ne (pc' := 37) (tgt := 51) ⟨rfl, rfl⟩ rfl (by omega) (fun hr9 => ?_) (fun hr9 => ?_)
            · by_cases hA : sm_bf m (sm_e m b) = b
              · refine qa_aload_n (pc' := 52) ⟨rfl, rfl⟩ rfl ?_
                refine qa_getf (pc' := 55) ⟨rfl, rfl⟩ qg_2_27 (by assumption) rfl ?_
                refine qa_iload_n (pc' := 56) ⟨rfl, rfl⟩ rfl ?_
                refine qa_iload_n (pc' := 57) ⟨rfl, rfl⟩ rfl ?_
                refine qa_callV rfl qf_T_put ql_2_166 (c_T_putA (by omega) t1 t2 t3 k2 tb (by omega) (by rw [hen, hbe]; exact hA)) t1 rfl rfl rfl (qa_lt9 rfl) (qa_le9 rfl) (qa_le9 rfl) (qa_le9 rfl) (fun o9 τ9 hq9 => ?_)
                obtain ⟨rfl, e1, w1, w2, w3, f1⟩ := hq9
                refine qa_nx (pc' := 60) (st' := []) rfl rfl rfl rfl ?_
                rw [hen] at w3
                have hs := (f1 _ (by omega)).trans hs
                refine qa_aload_n (pc' := 61) ⟨rfl, rfl⟩ rfl ?_
                refine qa_getf (pc' := 64) ⟨rfl, rfl⟩ qg_2_27 (by assumption) rfl ?_
                refine qa_getf (pc' := 67) ⟨rfl, rfl⟩ qg_2_167 (by assumption) rfl ?_
                refine qa_ireturn rfl rfl rfl (hQ _ _ (qa_Ch.done (by unfold so_tempo; rw [if_neg (by omega), if_pos hA]) (by omega) e1 (fun q hq => f1 q (by omega)) (hS.setT (m' := qa_up m (135 + 2 * sm_e m b) v) hk (fun q hq => f1 q (by omega)) (fun k k0 k1 => qa_up_ne (by omega)) ⟨bars, _, by rw [qa_up_ne (by omega : (2 : Int) ≠ _)]; exact w1, w2, w3, fun j j0 j1 => ?_⟩)))
                rw [qa_up_ne (by omega : (2 : Int) ≠ _)] at j1
                refine ⟨by rw [qa_up_ne (by omega)]; exact (t4 j j0 j1).1, ?_⟩
                by_cases hj : j = sm_e m b
                · rw [hj, qa_up_eq, qa_up_eq]
                · rw [qa_up_ne hj, qa_up_ne (by omega)]; exact (t4 j j0 j1).2
              · refine qa_aload_n (pc' := 52) ⟨rfl, rfl⟩ rfl ?_
                refine qa_getf (pc' := 55) ⟨rfl, rfl⟩ qg_2_27 (by assumption) rfl ?_
                refine qa_iload_n (pc' := 56) ⟨rfl, rfl⟩ rfl ?_
                refine qa_iload_n (pc' := 57) ⟨rfl, rfl⟩ rfl ?_
                have hn5 : m 2 < 6 := by omega
                refine qa_callV rfl qf_T_put ql_2_166 (c_T_putB (by omega) t1 t2 t3 k2 hn5 tb (by omega) (by rw [hen, hbe]; exact hA)) t1 rfl rfl rfl (qa_lt9 rfl) (qa_le9 rfl) (qa_le9 rfl) (qa_le9 rfl) (fun o9 τ9 hq9 => ?_)
                obtain ⟨rfl, e1, w1, ⟨b2, w2, hb2⟩, ⟨v2, w3, hv2⟩, f1⟩ := hq9
                refine qa_nx (pc' := 60) (st' := []) rfl rfl rfl rfl ?_
                rw [hen] at hb2 hv2
                have hs := (f1 _ (by omega)).trans hs
                refine qa_aload_n (pc' := 61) ⟨rfl, rfl⟩ rfl ?_
                refine qa_getf (pc' := 64) ⟨rfl, rfl⟩ qg_2_27 (by assumption) rfl ?_
                refine qa_getf (pc' := 67) ⟨rfl, rfl⟩ qg_2_167 (by assumption) rfl ?_
                refine qa_ireturn rfl rfl rfl (hQ _ _ (qa_Ch.done (by unfold so_tempo; rw [if_neg (by omega), if_neg hA, if_neg (by omega)]) (by omega) e1 (fun q hq => f1 q (by omega)) (hS.setT (m' := sm_ins m (sm_e m b + 1) b v) hk (fun q hq => f1 q (by omega)) (fun k k0 k1 => ?_) ⟨b2, v2, ?_, w2, w3, fun j j0 j1 => ?_⟩)))
                · unfold sm_ins; rw [if_neg k1, if_neg (by omega), if_neg (by omega), if_neg (by omega)]
                · rw [show sm_ins m (sm_e m b + 1) b v 2 = m 2 + 1 from if_pos rfl]; exact w1
                · rw [show sm_ins m (sm_e m b + 1) b v 2 = m 2 + 1 from if_pos rfl] at j1
                  rw [hb2 j j0 (by omega), hv2 j j0 (by omega)]
                  unfold sp_is sm_ins
                  by_cases h1 : j < sm_e m b + 1
                  · rw [if_pos h1, if_pos h1, if_neg (by omega), if_neg (by omega), if_neg (by omega), if_neg (by omega), if_neg (by omega), if_neg (by omega), if_neg (by omega), if_neg (by omega)]; exact t4 j j0 (by omega)
                  · by_cases h2 : j = sm_e m b + 1
                    · rw [if_neg h1, if_neg h1, if_pos h2, if_pos h2, if_neg (by omega), if_neg (by omega), if_pos (by omega), if_neg (by omega), if_neg (by omega), if_neg (by omega), if_pos (by omega)]; exact ⟨rfl, rfl⟩
                    · rw [if_neg h1, if_neg h1, if_neg h2, if_neg h2, if_neg (by omega), if_pos (by omega), if_neg (by omega), if_pos (by omega), (t4 (j - 1) (by omega) (by omega)).1, (t4 (j - 1) (by omega) (by omega)).2, show 134 + 2 * (j - 1) = 134 + 2 * j - 2 by omega, show 135 + 2 * (j - 1) = 135 + 2 * j - 2 by omega]; exact ⟨rfl, rfl⟩
            · exact absurd hr9 (by omega)
          · rw [if_neg hr]
            refine qa_if_ne (pc' := 37) (tgt := 51) ⟨rfl, rfl⟩ rfl (by omega) (fun hr9 => ?_) (fun hr9 => ?_)
            · exact absurd hr9 (by omega)
            · refine qa_aload_n (pc' := 38) ⟨rfl, rfl⟩ rfl ?_
              refine qa_bipush (z := 7) (pc' := 40) ⟨rfl, rfl⟩ rfl ?_
              refine qa_aload_n (pc' := 41) ⟨rfl, rfl⟩ rfl ?_
              refine qa_getf (pc' := 44) ⟨rfl, rfl⟩ qg_2_27 (by assumption) rfl ?_
              refine qa_callV rfl qf_T_greatestBar ql_2_163 (c_T_greatestBar t1 t2 k2) t1 rfl rfl rfl (qa_lt9 rfl) (qa_le9 rfl) (qa_le9 rfl) (qa_le9 rfl) (fun o9 τ9 hq9 => ?_)
              obtain ⟨rfl, hq9⟩ := hq9
              replace hq9 := hq9.symm; subst hq9
              refine qa_nx (pc' := 47) (st' := [_, _, _]) rfl rfl rfl rfl ?_
              rw [show bars (m 2 - 1) = sm_bf m 5 by rw [show m 2 - 1 = 5 by omega]; exact (t4 5 (by omega) (by omega)).1]
              refine qa_callV rfl qf_S_refused ql_2_107 (c_S_refused hlo hs) hs rfl rfl rfl (qa_lt9 rfl) (qa_le9 rfl) (qa_le9 rfl) (qa_le9 rfl) (fun o9 τ9 hq9 => ?_)
              obtain ⟨rfl, e1, w1, f1⟩ := hq9
              refine qa_nx (pc' := 50) (st' := [_]) rfl rfl rfl rfl ?_
              refine qa_ireturn rfl rfl rfl (hQ _ _ (qa_Ch.ref (by unfold so_tempo; repeat (first | rw [if_pos (by omega)] | rw [if_neg (by omega)])) hS hk e1 w1 f1))
        · exact absurd hhv99 (by omega)
      · rw [if_neg hv9]
        refine qa_if_ne (pc' := 23) (tgt := 26) ⟨rfl, rfl⟩ rfl (by omega) (fun hhv99 => ?_) (fun hhv99 => ?_)
        · exact absurd hhv99 (by omega)
        · refine qa_bipush (z := (-11)) (pc' := 25) ⟨rfl, rfl⟩ rfl ?_
          refine qa_ireturn rfl rfl rfl (hQ _ _ (qa_Ch.bad (by unfold so_tempo; repeat (first | rw [if_pos (by omega)] | rw [if_neg (by omega)])) (by omega) hS))
  · rw [if_neg hb9]
    refine qa_if_eq (pc' := 11) (tgt := 23) ⟨rfl, rfl⟩ rfl (by omega) (fun hhb99 => ?_) (fun hhb99 => ?_)
    · refine qa_bipush (z := (-11)) (pc' := 25) ⟨rfl, rfl⟩ rfl ?_
      refine qa_ireturn rfl rfl rfl (hQ _ _ (qa_Ch.bad (by unfold so_tempo; repeat (first | rw [if_pos (by omega)] | rw [if_neg (by omega)])) (by omega) hS))
    · exact absurd hhb99 (by omega)
theorem c_S_includePart {E : qa_V} {σ : qa_S} {a : Nat} {m : Int → Int} {rf B : Int}  (hlo : E.1 ≤ a) (hS : sR_S σ.1 a m rf) (hk : sm_ok m B) : qa_T E qm_S_includePart 0 0 [.ref a] σ (qa_Ch a σ rf (so_part m)) := by
  refine qa_enterQ (by decide) rfl qm_S_includePart_ok rfl rfl (fun Q9 hQ => ?_)
  have hS9 := hS
  have hk9 := hk
  obtain ⟨hs, hpa, hcq, htq, hpp⟩ := hS9
  obtain ⟨k0, k1, k2, k3, k4, k5, k6, k7, k8⟩ := hk9
  refine qa_aload_n (pc' := 1) ⟨rfl, rfl⟩ rfl ?_
  refine qa_getf (pc' := 4) ⟨rfl, rfl⟩ qg_2_46 (by assumption) rfl ?_
  refine qa_iconst (pc' := 5) ⟨rfl, rfl⟩ ?_
  refine qa_icmp_lt (pc' := 8) (tgt := 15) ⟨rfl, rfl⟩ rfl (by omega) (by omega) (fun hc1 => ?_) (fun hc1 => ?_)
  · have e0 : σ.2 = σ.2 := rfl
    refine qa_aload_n (pc' := 16) ⟨rfl, rfl⟩ rfl ?_
    refine qa_dup (pc' := 17) ⟨rfl, rfl⟩ rfl ?_
    refine qa_getf (pc' := 20) ⟨rfl, rfl⟩ qg_2_46 (by assumption) rfl ?_
    refine qa_iconst (pc' := 21) ⟨rfl, rfl⟩ ?_
    refine qa_iadd (pc' := 22) ⟨rfl, rfl⟩ rfl ?_
    refine qa_putf (fs' := [_, _, _, _, _, _, _]) (pc' := 25) ⟨rfl, rfl⟩ qg_2_46 qw_1 (by assumption) (by omega) rfl (fun r hr => by cases hr; exact ⟨rfl, Or.inl rfl⟩) rfl rfl ?_
    refine qa_gz (fun τ1 e1 w1 f1 => ?_)
    replace e0 := e1.trans e0
    refine qa_aload_n (pc' := 26) ⟨rfl, rfl⟩ rfl ?_
    refine qa_getf (pc' := 29) ⟨rfl, rfl⟩ qg_2_46 (by assumption) rfl ?_
    refine qa_iconst (pc' := 30) ⟨rfl, rfl⟩ ?_
    refine qa_isub (z := m 0) (pc' := 31) ⟨rfl, rfl⟩ (by omega) ?_
    obtain ⟨m9, hm9⟩ : ∃ m9, m9 = qa_up (qa_up (qa_up (qa_up m (5 + 26 * m 0) 1) (6 + 26 * m 0) 1) (7 + 26 * m 0) (-1)) 0 (m 0 + 1) := ⟨_, rfl⟩
    have mo : ∀ k : Int, k ≠ 0 → k ≠ 5 + 26 * m 0 → k ≠ 6 + 26 * m 0 → k ≠ 7 + 26 * m 0 → m9 k = m k := fun k a1 a2 a3 a4 => by rw [hm9, qa_up_ne a1, qa_up_ne a4, qa_up_ne a3, qa_up_ne a2]
    have mz : m9 0 = m 0 + 1 := by rw [hm9, qa_up_eq]
    have m5 : m9 (5 + 26 * m 0) = 1 := by rw [hm9, qa_up_ne (by omega), qa_up_ne (by omega), qa_up_ne (by omega), qa_up_eq]
    have m6 : m9 (6 + 26 * m 0) = 1 := by rw [hm9, qa_up_ne (by omega), qa_up_ne (by omega), qa_up_eq]
    have m7 : m9 (7 + 26 * m 0) = -1 := by rw [hm9, qa_up_ne (by omega), qa_up_eq]
    obtain ⟨src, mw, c1, c2, c3, c4⟩ := hcq
    refine qa_ireturn rfl rfl rfl (hQ _ _ (qa_Ch.done (by unfold so_part; rw [if_neg (by omega), hm9]) k0.1 e0 (fun q hq => f1 q (by omega)) (rf' := rf) ⟨?_, (f1 _ (by omega)).trans hpa, ⟨src, mw, ?_, (f1 _ (by omega)).trans c2, (f1 _ (by omega)).trans c3, fun j j0 j1 => ?_⟩, htq.to k2 (fun q a1 a2 => f1 q (by omega)) (mo 2 (by omega) (by omega) (by omega) (by omega)) (fun k a1 a2 => mo k (by omega) (by omega) (by omega) (by omega)), fun j j0 j1 => ?_⟩))
    · rw [mz, mo 1 (by omega) (by omega) (by omega) (by omega), mo 3 (by omega) (by omega) (by omega) (by omega)]; exact w1
    · have e9 : sm_cu m9 (m9 0).toNat = sm_cu m (m 0).toNat := by
        rw [mz, show (m 0 + 1).toNat = (m 0).toNat + 1 by omega]
        show sm_cu m9 (m 0).toNat + (if m9 (7 + 26 * (((m 0).toNat : Nat) : Int)) = -1 then 0 else 1) = _
        rw [Int.toNat_of_nonneg k0.1, m7, if_pos rfl, sm_cu_ext _ (fun k a1 a2 => mo _ (by omega) (by omega) (by omega) (by omega))]; omega
      rw [e9]; exact (f1 _ (by omega)).trans c1
    · rw [c4 j j0 j1]; unfold sm_src; rw [mz]
      by_cases hj : j = m 0
      · rw [hj, m7, if_neg (by omega), if_pos (by omega)]
      · rw [mo (7 + 26 * j) (by omega) (by omega) (by omega) (by omega)]
        by_cases h2 : j < m 0
        · rw [if_pos h2, if_pos (by omega)]
        · rw [if_neg h2, if_neg (by omega)]
    · have ej : sm_pa a j = a + 8 + 3 * j.toNat := rfl
      by_cases hj : j = m 0
      · obtain ⟨p9, l9, u9, d9, q1, q2, q3, q4, q5, q6⟩ := hpp j j0 j1
        have k6j := k6 j (by omega) j1
        have en : sm_n m9 j = sm_n m j := mo _ (by omega) (by omega) (by omega) (by omega)
        have ew : sm_wh m9 j = sm_wh m j := sm_wh_ext (by omega) en (fun x x0 x1 => absurd x1 (by omega))
        refine ⟨p9, l9, u9, d9, ?_, (f1 _ (by omega)).trans q2, (f1 _ (by omega)).trans q3, fun _ => ?_, fun h => absurd h (by omega), fun x x0 x1 => absurd x1 (by omega)⟩
        · rw [en, ew, mo (8 + 26 * j) (by omega) (by omega) (by omega) (by omega), mo (9 + 26 * j) (by omega) (by omega) (by omega) (by omega)]; exact (f1 _ (by omega)).trans q1
        · rw [hj, m5, m6]; exact q5 (by omega)
      · exact (hpp j j0 j1).to (fun q a1 a2 => f1 q (by omega)) (fun k a1 a2 => mo k (by omega) (by omega) (by omega) (by omega)) (k4 j j0 j1).1 (Or.inl (by rw [mz]; omega))
  · refine qa_aload_n (pc' := 9) ⟨rfl, rfl⟩ rfl ?_
    refine qa_iconst (pc' := 10) ⟨rfl, rfl⟩ ?_
    refine qa_iconst (pc' := 11) ⟨rfl, rfl⟩ ?_
    refine qa_callV rfl qf_S_refused ql_2_107 (c_S_refused hlo hs) hs rfl rfl rfl (qa_lt9 rfl) (qa_le9 rfl) (qa_le9 rfl) (qa_le9 rfl) (fun o9 τ9 hq9 => ?_)
    obtain ⟨rfl, e1, w1, f1⟩ := hq9
    refine qa_nx (pc' := 14) (st' := [_]) rfl rfl rfl rfl ?_
    refine qa_ireturn rfl rfl rfl (hQ _ _ (qa_Ch.ref (by unfold so_part; repeat (first | rw [if_pos (by omega)] | rw [if_neg (by omega)])) hS hk e1 w1 f1))
