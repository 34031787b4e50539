theorem sp_ct_s (p : Int → Int) (k : Nat) : sp_ct p (k + 1) = sp_ct p k + if p k = -1 then 0 else 1 := rfl
def sm_mk (m : Int → Int) (p b : Int) (k : Nat) : Int → Int := fun q => if 10 + 26 * p ≤ q ∧ q < 10 + 26 * p + 2 * k ∧ q % 2 = 0 ∧ m q ≠ -1 then m q + b else m q
theorem sm_mk_0 (m : Int → Int) (p b : Int) : sm_mk m p b 0 = m := by
  funext q
  unfold sm_mk
  exact if_neg (by omega)
theorem sm_mk_at {m : Int → Int} {p b : Int} {k : Nat} {q : Int} (h : q < 10 + 26 * p ∨ 10 + 26 * p + 2 * k ≤ q) : sm_mk m p b k q = m q := if_neg (by omega)
theorem sm_mk_no {m : Int → Int} {p b : Int} {k : Nat} (h : m (10 + 26 * p + 2 * k) = -1) : sm_mk m p b (k + 1) = sm_mk m p b k := by
  funext q
  unfold sm_mk
  by_cases hq : q = 10 + 26 * p + 2 * k
  · rw [hq, if_neg (by rw [h]; omega), if_neg (by omega)]
  · by_cases hc : 10 + 26 * p ≤ q ∧ q < 10 + 26 * p + 2 * k ∧ q % 2 = 0 ∧ m q ≠ -1
    · rw [if_pos hc, if_pos ⟨hc.1, by omega, hc.2.2⟩]
    · rw [if_neg hc, if_neg (fun z => hc ⟨z.1, by omega, z.2.2⟩)]
theorem sm_mk_yes {m : Int → Int} {p b : Int} {k : Nat} (h : m (10 + 26 * p + 2 * k) ≠ -1) : qa_up (sm_mk m p b k) (10 + 26 * p + 2 * k) (m (10 + 26 * p + 2 * k) + b) = sm_mk m p b (k + 1) := by
  funext q
  unfold qa_up sm_mk
  by_cases hq : q = 10 + 26 * p + 2 * k
  · rw [if_pos hq, hq, if_pos ⟨by omega, by omega, by omega, h⟩]
  · rw [if_neg hq]
    by_cases hc : 10 + 26 * p ≤ q ∧ q < 10 + 26 * p + 2 * k ∧ q % 2 = 0 ∧ m q ≠ -1
    · rw [if_pos hc, if_pos ⟨hc.1, by omega, hc.2.2⟩]
    · rw [if_neg hc, if_neg (fun z => hc ⟨z.1, by omega, z.2.2⟩)]
theorem sm_mk_n {m : Int → Int} {p b : Int} {k : Nat} (h : (k : Int) = sm_n m p) : sm_mk m p b k = sm_mv m p b := by
  funext q
  unfold sm_mk sm_mv
  rw [h]
theorem c_M_moveIt {E : qa_V} {σ : qa_S} {μ : Nat} {f : Nat → Int} {m : Int → Int} {B : Int} {p b : Int} (hlo : E.1 ≤ μ) (hM : σ.1 μ = some (qa_MoF μ f)) (hm : σ.1 (μ + 1) = some (qa_ia 146 m)) (hk : sm_ok m B) (hp : qa_in p) (hb : qa_in b) : qa_T E qm_M_moveIt 0 0 [.ref μ, .int (qa_i p), .int (qa_i b)] σ (qa_Mt σ μ f 4 (so_move m p b)) := by
  refine qa_enterQ (by decide) rfl qm_M_moveIt_ok rfl rfl (fun Q9 hQ => ?_)
  obtain ⟨k0, k1, k2, k3, k4, k5, k6, k7, k8⟩ := id hk
  have e0 : σ.2 = σ.2 := rfl
  have fr : ∀ q, (q ≠ μ ∧ q ≠ μ + 1) → σ.1 q = σ.1 q := fun _ _ => rfl
  refine qa_aload_n (pc' := 1) ⟨rfl, rfl⟩ rfl ?_
  refine qa_iload_n (pc' := 2) ⟨rfl, rfl⟩ rfl ?_
  refine qa_callV rfl qf_M_isPart ql_10_111 (c_M_isPart (E := E) hM hm hk (by omega)) hM rfl rfl rfl (qa_lt9 rfl) (qa_le9 rfl) (qa_le9 rfl) (qa_le9 rfl) (fun o9 τ9 hq9 => ?_)
  obtain ⟨rfl, hq9⟩ := hq9
  replace hq9 := hq9.symm; subst hq9
  refine qa_nx (pc' := 5) (st' := [_]) rfl rfl rfl rfl ?_
  by_cases hp9 : 0 ≤ p ∧ p < m 0
  · rw [if_pos hp9]
    refine qa_if_ne (pc' := 8) (tgt := 14) ⟨rfl, rfl⟩ rfl (by omega) (fun hp99 => ?_) (fun hp99 => ?_)
    · have kk := k4 p (by omega) (by omega)
      have kn := kk.1
      refine qa_iload_n (pc' := 15) ⟨rfl, rfl⟩ rfl ?_
      refine qa_i2l (pc' := 16) ⟨rfl, rfl⟩ (by omega) ?_
      refine qa_ldc2 (z := (-35)) (pc' := 19) ⟨rfl, rfl⟩ qk_10_127 ?_
      refine qa_ldc2 (z := 35) (pc' := 22) ⟨rfl, rfl⟩ qk_10_117 ?_
      refine qa_callS rfl qf_M_in rfl ql_10_70 (c_M_in (E := E) (by omega) (by omega) (by omega)) rfl rfl (qa_lt9 rfl) (qa_le9 rfl) (qa_le9 rfl) (qa_le9 rfl) (fun o9 τ9 hq9 => ?_)
      obtain ⟨rfl, hq9⟩ := hq9
      replace hq9 := hq9.symm; subst hq9
      refine qa_nx (pc' := 25) (st' := [_]) rfl rfl rfl rfl ?_
      by_cases hi9 : -35 ≤ b ∧ b ≤ 35
      · rw [if_pos hi9]
        refine qa_if_ne (pc' := 28) (tgt := 34) ⟨rfl, rfl⟩ rfl (by omega) (fun hi99 => ?_) (fun hi99 => ?_)
        · refine qa_iconst (pc' := 35) ⟨rfl, rfl⟩ ?_
          refine qa_istore_n (L' := [(0, _), (1, _), (2, _), (3, _)]) (pc' := 36) ⟨rfl, rfl⟩ rfl rfl ?_
          have lp : ∀ (f9 : Nat) (k : Nat), ((k : Int) + f9 = sm_n m p ∧ sp_fo (sm_pf m p) b f9 k = sp_fo (sm_pf m p) b (sm_n m p).toNat 0) → qa_W E qm_M_moveIt Q9 0 0 36 [(0, .ref μ), (1, .int (qa_i p)), (2, .int (qa_i b)), (3, .int (qa_i k))] [] σ := by
            intro f9
            induction f9 with
            | zero =>
              intro k ⟨hkf, hr⟩
              have hfo : sp_fo (sm_pf m p) b (sm_n m p).toNat 0 = -1 := hr.symm
              refine qa_iload_n (pc' := 37) ⟨rfl, rfl⟩ rfl ?_
              refine qa_aload_n (pc' := 38) ⟨rfl, rfl⟩ rfl ?_
              refine qa_iload_n (pc' := 39) ⟨rfl, rfl⟩ rfl ?_
              refine qa_callV rfl qf_M_notes ql_10_77 (c_M_notes (E := E) hM hm ⟨by omega, by omega⟩) hM rfl rfl rfl (qa_lt9 rfl) (qa_le9 rfl) (qa_le9 rfl) (qa_le9 rfl) (fun o9 τ9 hq9 => ?_)
              obtain ⟨rfl, hq9⟩ := hq9
              replace hq9 := hq9.symm; subst hq9
              refine qa_nx (pc' := 42) (st' := [_, _]) rfl rfl rfl rfl ?_
              refine qa_icmp_ge (pc' := 45) (tgt := 88) ⟨rfl, rfl⟩ rfl (by omega) (by omega) (fun hc1 => ?_) (fun hc1 => ?_)
              · refine qa_iconst (pc' := 89) ⟨rfl, rfl⟩ ?_
                refine qa_istore_n (L' := [(0, _), (1, _), (2, _), (3, _)]) (pc' := 90) ⟨rfl, rfl⟩ rfl rfl ?_
                refine qa_iconst (pc' := 91) ⟨rfl, rfl⟩ ?_
                refine qa_istore (L' := [(0, _), (1, _), (2, _), (3, _), (4, _)]) (pc' := 93) ⟨rfl, rfl⟩ rfl rfl ?_
                have lq : ∀ (f2 : Nat) (τ : qa_S) (k : Nat) (r : Int), (k : Int) + f2 = sm_n m p ∧ r = (if b = 0 then 0 else sp_ct (sm_pf m p) k) ∧ τ.2 = σ.2 ∧ τ.1 μ = some (qa_MoF μ f) ∧ τ.1 (μ + 1) = some (qa_ia 146 (sm_mk m p b k)) ∧ (∀ q, (q ≠ μ ∧ q ≠ μ + 1) → τ.1 q = σ.1 q) → qa_W E qm_M_moveIt Q9 0 0 93 [(0, .ref μ), (1, .int (qa_i p)), (2, .int (qa_i b)), (3, .int (qa_i r)), (4, .int (qa_i k))] [] τ := by
                  clear hM hm
                  intro f2
                  induction f2 with
                  | zero =>
                    intro τ k r ⟨hkf, hr, e0, hM, hm, fr⟩
                    have nn : sm_n (sm_mk m p b k) p = sm_n m p := sm_mk_at (by omega)
                    have np : sm_pf (sm_mk m p b k) p k = sm_pf m p k := sm_mk_at (by omega)
                    refine qa_iload (pc' := 95) ⟨rfl, rfl⟩ rfl ?_
                    refine qa_aload_n (pc' := 96) ⟨rfl, rfl⟩ rfl ?_
                    refine qa_iload_n (pc' := 97) ⟨rfl, rfl⟩ rfl ?_
                    refine qa_callV rfl qf_M_notes ql_10_77 (c_M_notes (E := E) hM hm ⟨by omega, by omega⟩) hM rfl rfl rfl (qa_lt9 rfl) (qa_le9 rfl) (qa_le9 rfl) (qa_le9 rfl) (fun o9 τ9 hq9 => ?_)
                    obtain ⟨rfl, hq9⟩ := hq9
                    replace hq9 := hq9.symm; subst hq9
                    refine qa_nx (pc' := 100) (st' := [_, _]) rfl rfl rfl rfl ?_
                    rw [nn]
                    refine qa_icmp_ge (pc' := 103) (tgt := 153) ⟨rfl, rfl⟩ rfl (by omega) (by omega) (fun hc2 => ?_) (fun hc2 => ?_)
                    · rw [sm_mk_n (by omega)] at hm
                      have cb := sp_ct_b (sm_pf m p) k
                      have hr0 : 0 ≤ r := by rw [hr]; split <;> omega
                      refine qa_iload_n (pc' := 154) ⟨rfl, rfl⟩ rfl ?_
                      refine qa_ireturn rfl rfl rfl (hQ _ _ (qa_Mt.good (d := 0) (by unfold so_move; rw [if_neg (by omega), if_neg (by omega), if_neg (by rw [hfo]; omega), hr, show (sm_n m p).toNat = k by omega]) hr0 e0 hM hm (sm_eqv.rf _) fr))
                    · exact absurd hc2 (by omega)
                  | succ f2 ih2 =>
                    intro τ k r ⟨hkf, hr, e0, hM, hm, fr⟩
                    have nn : sm_n (sm_mk m p b k) p = sm_n m p := sm_mk_at (by omega)
                    have np : sm_pf (sm_mk m p b k) p k = sm_pf m p k := sm_mk_at (by omega)
                    refine qa_iload (pc' := 95) ⟨rfl, rfl⟩ rfl ?_
                    refine qa_aload_n (pc' := 96) ⟨rfl, rfl⟩ rfl ?_
                    refine qa_iload_n (pc' := 97) ⟨rfl, rfl⟩ rfl ?_
                    refine qa_callV rfl qf_M_notes ql_10_77 (c_M_notes (E := E) hM hm ⟨by omega, by omega⟩) hM rfl rfl rfl (qa_lt9 rfl) (qa_le9 rfl) (qa_le9 rfl) (qa_le9 rfl) (fun o9 τ9 hq9 => ?_)
                    obtain ⟨rfl, hq9⟩ := hq9
                    replace hq9 := hq9.symm; subst hq9
                    refine qa_nx (pc' := 100) (st' := [_, _]) rfl rfl rfl rfl ?_
                    rw [nn]
                    refine qa_icmp_ge (pc' := 103) (tgt := 153) ⟨rfl, rfl⟩ rfl (by omega) (by omega) (fun hc2 => ?_) (fun hc2 => ?_)
                    · exact absurd hc2 (by omega)
                    · have pb := kk.2.1 k (by omega) (by omega)
                      refine qa_aload_n (pc' := 104) ⟨rfl, rfl⟩ rfl ?_
                      refine qa_iload_n (pc' := 105) ⟨rfl, rfl⟩ rfl ?_
                      refine qa_iload (pc' := 107) ⟨rfl, rfl⟩ rfl ?_
                      refine qa_callV rfl qf_M_pitch ql_10_90 (c_M_pitch (E := E) hM hm ⟨by omega, by omega⟩ (by omega)) hM rfl rfl rfl (qa_lt9 rfl) (qa_le9 rfl) (qa_le9 rfl) (qa_le9 rfl) (fun o9 τ9 hq9 => ?_)
                      obtain ⟨rfl, hq9⟩ := hq9
                      replace hq9 := hq9.symm; subst hq9
                      refine qa_nx (pc' := 110) (st' := [_]) rfl rfl rfl rfl ?_
                      rw [np]
                      refine qa_iconst (pc' := 111) ⟨rfl, rfl⟩ ?_
                      refine qa_icmp_eq (pc' := 114) (tgt := 147) ⟨rfl, rfl⟩ rfl (by omega) (by omega) (fun hc3 => ?_) (fun hc3 => ?_)
                      · refine qa_iinc (L' := [(0, _), (1, _), (2, _), (3, _), (4, _)]) (z := ((k + 1 : Nat) : Int)) (pc' := 150) ⟨rfl, rfl⟩ rfl (by omega) rfl rfl ?_
                        refine qa_goto (pc' := 153) (tgt := 93) ⟨rfl, rfl⟩ rfl ?_
                        exact ih2 τ (k + 1) r ⟨by omega, by rw [hr, sp_ct_s, if_pos hc3]; simp, e0, hM, by rw [sm_mk_no hc3]; exact hm, fr⟩
                      · have hc4 : m (10 + 26 * p + 2 * (k : Int)) ≠ -1 := hc3
                        refine qa_aload_n (pc' := 115) ⟨rfl, rfl⟩ rfl ?_
                        refine qa_getf (pc' := 118) ⟨rfl, rfl⟩ qg_10_9 (by assumption) rfl ?_
                        refine qa_iload_n (pc' := 119) ⟨rfl, rfl⟩ rfl ?_
                        refine qa_callS rfl qf_M_partAt rfl ql_10_74 (c_M_partAt (E := E)) rfl rfl (qa_lt9 rfl) (qa_le9 rfl) (qa_le9 rfl) (qa_le9 rfl) (fun o9 τ9 hq9 => ?_)
                        obtain ⟨rfl, hq9⟩ := hq9
                        replace hq9 := hq9.symm; subst hq9
                        refine qa_nx (pc' := 122) (st' := [_, _]) rfl rfl rfl rfl ?_
                        refine qa_bipush (z := 6) (pc' := 124) ⟨rfl, rfl⟩ rfl ?_
                        refine qa_iadd (pc' := 125) ⟨rfl, rfl⟩ rfl ?_
                        refine qa_iconst (pc' := 126) ⟨rfl, rfl⟩ ?_
                        refine qa_iload (pc' := 128) ⟨rfl, rfl⟩ rfl ?_
                        refine qa_imul (pc' := 129) ⟨rfl, rfl⟩ rfl ?_
                        refine qa_iadd (z := 10 + 26 * p + 2 * (k : Int)) (pc' := 130) ⟨rfl, rfl⟩ (by omega) ?_
                        refine qa_dup2 (pc' := 131) ⟨rfl, rfl⟩ rfl rfl ?_
                        refine qa_iaload (pc' := 132) ⟨rfl, rfl⟩ (by assumption) (by omega) ?_
                        refine qa_iload_n (pc' := 133) ⟨rfl, rfl⟩ rfl ?_
                        refine qa_iadd (z := m (10 + 26 * p + 2 * (k : Int)) + b) (pc' := 134) ⟨rfl, rfl⟩ (by rw [sm_mk_at (by omega)]) ?_
                        refine qa_iastore (pc' := 135) ⟨rfl, rfl⟩ hm (by omega) (by omega) ?_
                        refine qa_gz (fun τ61 e61 w61 f61 => ?_)
                        replace hM := (f61 _ (by omega)).trans hM
                        replace fr := fun q hq => (f61 q (by have := hq; omega)).trans (fr q hq)
                        replace e0 := e61.trans e0
                        have hm := w61
                        rw [sm_mk_yes hc4] at hm
                        refine qa_iload_n (pc' := 136) ⟨rfl, rfl⟩ rfl ?_
                        refine qa_iload_n (pc' := 137) ⟨rfl, rfl⟩ rfl ?_
                        refine qa_if_ne (pc' := 140) (tgt := 144) ⟨rfl, rfl⟩ rfl (by omega) (fun hc5 => ?_) (fun hc5 => ?_)
                        · refine qa_iconst (pc' := 145) ⟨rfl, rfl⟩ ?_
                          refine qa_iadd (pc' := 146) ⟨rfl, rfl⟩ rfl ?_
                          refine qa_istore_n (L' := [(0, _), (1, _), (2, _), (3, _), (4, _)]) (pc' := 147) ⟨rfl, rfl⟩ rfl rfl ?_
                          refine qa_iinc (L' := [(0, _), (1, _), (2, _), (3, _), (4, _)]) (z := ((k + 1 : Nat) : Int)) (pc' := 150) ⟨rfl, rfl⟩ rfl (by omega) rfl rfl ?_
                          refine qa_goto (pc' := 153) (tgt := 93) ⟨rfl, rfl⟩ rfl ?_
                          exact ih2 _ (k + 1) _ ⟨by omega, by rw [hr, if_neg hc5, if_neg hc5, sp_ct_s, if_neg hc3], e0, hM, hm, fr⟩
                        · refine qa_iconst (pc' := 141) ⟨rfl, rfl⟩ ?_
                          refine qa_goto (pc' := 144) (tgt := 145) ⟨rfl, rfl⟩ rfl ?_
                          refine qa_iadd (pc' := 146) ⟨rfl, rfl⟩ rfl ?_
                          refine qa_istore_n (L' := [(0, _), (1, _), (2, _), (3, _), (4, _)]) (pc' := 147) ⟨rfl, rfl⟩ rfl rfl ?_
                          refine qa_iinc (L' := [(0, _), (1, _), (2, _), (3, _), (4, _)]) (z := ((k + 1 : Nat) : Int)) (pc' := 150) ⟨rfl, rfl⟩ rfl (by omega) rfl rfl ?_
                          refine qa_goto (pc' := 153) (tgt := 93) ⟨rfl, rfl⟩ rfl ?_
                          exact ih2 _ (k + 1) _ ⟨by omega, by rw [hr, if_pos hc5, if_pos hc5]; rfl, e0, hM, hm, fr⟩
                exact lq (sm_n m p).toNat _ 0 0 ⟨by omega, by simp [sp_ct], e0, hM, by rw [sm_mk_0]; exact hm, fr⟩
              · exact absurd hc1 (by omega)
            | succ f9 ih =>
              intro k ⟨hkf, hr⟩
              have pb := kk.2.1 k (by omega) (by omega)
              rw [sp_fo_s] at hr
              refine qa_iload_n (pc' := 37) ⟨rfl, rfl⟩ rfl ?_
              refine qa_aload_n (pc' := 38) ⟨rfl, rfl⟩ rfl ?_
              refine qa_iload_n (pc' := 39) ⟨rfl, rfl⟩ rfl ?_
              refine qa_callV rfl qf_M_notes ql_10_77 (c_M_notes (E := E) hM hm ⟨by omega, by omega⟩) hM rfl rfl rfl (qa_lt9 rfl) (qa_le9 rfl) (qa_le9 rfl) (qa_le9 rfl) (fun o9 τ9 hq9 => ?_)
              obtain ⟨rfl, hq9⟩ := hq9
              replace hq9 := hq9.symm; subst hq9
              refine qa_nx (pc' := 42) (st' := [_, _]) rfl rfl rfl rfl ?_
              refine qa_icmp_ge (pc' := 45) (tgt := 88) ⟨rfl, rfl⟩ rfl (by omega) (by omega) (fun hc1 => ?_) (fun hc1 => ?_)
              · exact absurd hc1 (by omega)
              · refine qa_aload_n (pc' := 46) ⟨rfl, rfl⟩ rfl ?_
                refine qa_iload_n (pc' := 47) ⟨rfl, rfl⟩ rfl ?_
                refine qa_iload_n (pc' := 48) ⟨rfl, rfl⟩ rfl ?_
                refine qa_callV rfl qf_M_pitch ql_10_90 (c_M_pitch (E := E) hM hm ⟨by omega, by omega⟩ (by omega)) hM rfl rfl rfl (qa_lt9 rfl) (qa_le9 rfl) (qa_le9 rfl) (qa_le9 rfl) (fun o9 τ9 hq9 => ?_)
                obtain ⟨rfl, hq9⟩ := hq9
                replace hq9 := hq9.symm; subst hq9
                refine qa_nx (pc' := 51) (st' := [_]) rfl rfl rfl rfl ?_
                refine qa_iconst (pc' := 52) ⟨rfl, rfl⟩ ?_
                refine qa_icmp_eq (pc' := 55) (tgt := 82) ⟨rfl, rfl⟩ rfl (by omega) (by omega) (fun hc2 => ?_) (fun hc2 => ?_)
                · refine qa_iinc (L' := [(0, _), (1, _), (2, _), (3, _)]) (z := ((k + 1 : Nat) : Int)) (pc' := 85) ⟨rfl, rfl⟩ rfl (by omega) rfl rfl ?_
                  refine qa_goto (pc' := 88) (tgt := 36) ⟨rfl, rfl⟩ rfl ?_
                  rw [if_neg (fun h => h.1 hc2)] at hr
                  exact ih (k + 1) ⟨by omega, hr⟩
                · refine qa_aload_n (pc' := 56) ⟨rfl, rfl⟩ rfl ?_
                  refine qa_iload_n (pc' := 57) ⟨rfl, rfl⟩ rfl ?_
                  refine qa_iload_n (pc' := 58) ⟨rfl, rfl⟩ rfl ?_
                  refine qa_callV rfl qf_M_pitch ql_10_90 (c_M_pitch (E := E) hM hm ⟨by omega, by omega⟩ (by omega)) hM rfl rfl rfl (qa_lt9 rfl) (qa_le9 rfl) (qa_le9 rfl) (qa_le9 rfl) (fun o9 τ9 hq9 => ?_)
                  obtain ⟨rfl, hq9⟩ := hq9
                  replace hq9 := hq9.symm; subst hq9
                  refine qa_nx (pc' := 61) (st' := [_]) rfl rfl rfl rfl ?_
                  refine qa_iload_n (pc' := 62) ⟨rfl, rfl⟩ rfl ?_
                  refine qa_iadd (pc' := 63) ⟨rfl, rfl⟩ rfl ?_
                  refine qa_i2l (pc' := 64) ⟨rfl, rfl⟩ (by omega) ?_
                  refine qa_lconst (z := 0) (pc' := 65) ⟨rfl, rfl⟩ rfl ?_
                  refine qa_ldc2 (z := 35) (pc' := 68) ⟨rfl, rfl⟩ qk_10_117 ?_
                  refine qa_callS rfl qf_M_in rfl ql_10_70 (c_M_in (E := E) (by omega) (by omega) (by omega)) rfl rfl (qa_lt9 rfl) (qa_le9 rfl) (qa_le9 rfl) (qa_le9 rfl) (fun o9 τ9 hq9 => ?_)
                  obtain ⟨rfl, hq9⟩ := hq9
                  replace hq9 := hq9.symm; subst hq9
                  refine qa_nx (pc' := 71) (st' := [_]) rfl rfl rfl rfl ?_
                  by_cases hz9 : 0 ≤ (sm_pf m p k + b) ∧ (sm_pf m p k + b) ≤ 35
                  · rw [if_pos hz9]
                    refine qa_if_ne (pc' := 74) (tgt := 82) ⟨rfl, rfl⟩ rfl (by omega) (fun hz99 => ?_) (fun hz99 => ?_)
                    · refine qa_iinc (L' := [(0, _), (1, _), (2, _), (3, _)]) (z := ((k + 1 : Nat) : Int)) (pc' := 85) ⟨rfl, rfl⟩ rfl (by omega) rfl rfl ?_
                      refine qa_goto (pc' := 88) (tgt := 36) ⟨rfl, rfl⟩ rfl ?_
                      rw [if_neg (fun h => h.2 hz9)] at hr
                      exact ih (k + 1) ⟨by omega, hr⟩
                    · exact absurd hz99 (by omega)
                  · rw [if_neg hz9]
                    refine qa_if_ne (pc' := 74) (tgt := 82) ⟨rfl, rfl⟩ rfl (by omega) (fun hz99 => ?_) (fun hz99 => ?_)
                    · exact absurd hz99 (by omega)
                    · rw [if_pos ⟨hc2, hz9⟩] at hr
                      refine qa_aload_n (pc' := 75) ⟨rfl, rfl⟩ rfl ?_
                      refine qa_iconst (pc' := 76) ⟨rfl, rfl⟩ ?_
                      refine qa_iconst (pc' := 77) ⟨rfl, rfl⟩ ?_
                      refine qa_iload_n (pc' := 78) ⟨rfl, rfl⟩ rfl ?_
                      refine qa_callV rfl qf_M_rejects ql_10_97 (c_M_rejects (E := E) (p := 3) (y := 4) (x := (k : Int)) hlo hM) hM rfl rfl rfl (qa_lt9 rfl) (qa_le9 rfl) (qa_le9 rfl) (qa_le9 rfl) (fun o9 τ9 hq9 => ?_)
                      obtain ⟨rfl, e9, hM, f9⟩ := hq9
                      refine qa_nx (pc' := 81) (st' := [_]) rfl rfl rfl rfl ?_
                      refine qa_ireturn rfl rfl rfl (hQ _ _ (qa_Mt.rej (by unfold so_move; rw [if_neg (by omega), if_neg (by omega), if_pos (by rw [← hr]; omega), ← hr]) (by omega) (by first | rfl | (unfold so_pl; rfl)) (e9.trans e0) hM ((f9 _ (by omega)).trans hm) (fun q hq => (f9 q hq.1).trans (fr q hq))))
          exact lp (sm_n m p).toNat 0 ⟨by omega, rfl⟩
        · exact absurd hi99 (by omega)
      · rw [if_neg hi9]
        refine qa_if_ne (pc' := 28) (tgt := 34) ⟨rfl, rfl⟩ rfl (by omega) (fun hi99 => ?_) (fun hi99 => ?_)
        · exact absurd hi99 (by omega)
        · refine qa_aload_n (pc' := 29) ⟨rfl, rfl⟩ rfl ?_
          refine qa_iconst (pc' := 30) ⟨rfl, rfl⟩ ?_
          refine qa_callV rfl qf_M_throwing ql_10_60 (c_M_throwing (E := E) (v := 2) hlo hM) hM rfl rfl rfl (qa_lt9 rfl) (qa_le9 rfl) (qa_le9 rfl) (qa_le9 rfl) (fun o9 τ9 hq9 => ?_)
          obtain ⟨rfl, e9, hM, f9⟩ := hq9
          refine qa_nx (pc' := 33) (st' := [_]) rfl rfl rfl rfl ?_
          refine qa_ireturn rfl rfl rfl (hQ _ _ (qa_Mt.bad (a := -11) (d := 0) (by unfold so_move; repeat (first | rw [if_pos (by omega)] | rw [if_neg (by omega)])) (by omega) (by first | rfl | (unfold so_pl; rfl)) (e9.trans e0) hM ((f9 _ (by omega)).trans hm) (fun q hq => (f9 q hq.1).trans (fr q hq))))
    · exact absurd hp99 (by omega)
  · rw [if_neg hp9]
    refine qa_if_ne (pc' := 8) (tgt := 14) ⟨rfl, rfl⟩ rfl (by omega) (fun hp99 => ?_) (fun hp99 => ?_)
    · exact absurd hp99 (by omega)
    · refine qa_aload_n (pc' := 9) ⟨rfl, rfl⟩ rfl ?_
      refine qa_iconst (pc' := 10) ⟨rfl, rfl⟩ ?_
      refine qa_callV rfl qf_M_throwing ql_10_60 (c_M_throwing (E := E) (v := 1) hlo hM) hM rfl rfl rfl (qa_lt9 rfl) (qa_le9 rfl) (qa_le9 rfl) (qa_le9 rfl) (fun o9 τ9 hq9 => ?_)
      obtain ⟨rfl, e9, hM, f9⟩ := hq9
      refine qa_nx (pc' := 13) (st' := [_]) rfl rfl rfl rfl ?_
      refine qa_ireturn rfl rfl rfl (hQ _ _ (qa_Mt.bad (a := -10) (d := 0) (by unfold so_move; repeat (first | rw [if_pos (by omega)] | rw [if_neg (by omega)])) (by omega) (by first | rfl | (unfold so_pl; rfl)) (e9.trans e0) hM ((f9 _ (by omega)).trans hm) (fun q hq => (f9 q hq.1).trans (fr q hq))))
/-- entries k .. of the tempos moved on by one -/
def sm_sh (m : Int → Int) (k : Int) : Int → Int := fun q => if 134 + 2 * k + 2 ≤ q ∧ q < 134 + 2 * (m 2 + 1) then m (q - 2) else m q
theorem sm_sh_0 (m : Int → Int) : sm_sh m (m 2) = m := by
  funext q
  exact if_neg (by omega)
theorem sm_sh_lo {m : Int → Int} {k q : Int} (h : q < 134 + 2 * k + 2) : sm_sh m k q = m q := if_neg (by omega)
theorem sm_sh_s {m : Int → Int} {k : Int} (h : k ≤ m 2) : qa_up (qa_up (sm_sh m k) (134 + 2 * k) (m (134 + 2 * k - 2))) (135 + 2 * k) (m (134 + 2 * k - 1)) = sm_sh m (k - 1) := by
  funext q
  unfold qa_up sm_sh
  by_cases h1 : q = 135 + 2 * k
  · rw [if_pos h1, h1, if_pos (by omega)]
    congr 1
    omega
  · rw [if_neg h1]
    by_cases h2 : q = 134 + 2 * k
    · rw [if_pos h2, h2, if_pos (by omega)]
    · rw [if_neg h2]
      by_cases h3 : 134 + 2 * k + 2 ≤ q ∧ q < 134 + 2 * (m 2 + 1)
      · rw [if_pos h3, if_pos (by omega)]
      · rw [if_neg h3, if_neg (by omega)]
theorem sm_ins_eq {m : Int → Int} {k b v : Int} (hk : 1 ≤ k) : qa_up (qa_up (qa_up (sm_sh m k) 2 (m 2 + 1)) (134 + 2 * k) b) (135 + 2 * k) v = sm_ins m k b v := by
  funext q
  unfold qa_up sm_sh sm_ins
  by_cases h1 : q = 135 + 2 * k
  · rw [if_pos h1, if_neg (by omega), if_neg (by omega), if_neg (by omega), if_pos h1]
  · rw [if_neg h1]
    by_cases h2 : q = 134 + 2 * k
    · rw [if_pos h2, if_neg (by omega), if_neg (by omega), if_pos h2]
    · rw [if_neg h2]
      by_cases h3 : q = 2
      · rw [if_pos h3, if_pos h3]
      · rw [if_neg h3, if_neg h3]
        by_cases h4 : 134 + 2 * k + 2 ≤ q ∧ q < 134 + 2 * (m 2 + 1)
        · rw [if_pos h4, if_pos h4]
        · rw [if_neg h4, if_neg h4, if_neg h2, if_neg h1]
theorem sm_set_eq {m : Int → Int} {k b v : Int} (h : m (134 + 2 * k) = b) : qa_up (qa_up m (134 + 2 * k) b) (135 + 2 * k) v = qa_up m (135 + 2 * k) v := by
  funext q
  unfold qa_up
  by_cases h1 : q = 135 + 2 * k
  · rw [if_pos h1, if_pos h1]
  · rw [if_neg h1, if_neg h1]
    by_cases h2 : q = 134 + 2 * k
    · rw [if_pos h2, h2, h]
    · rw [if_neg h2]
theorem c_M_tempoIt {E : qa_V} {σ : qa_S} {μ : Nat} {f : Nat → Int} {m : Int → Int} {B : Int} {b v : Int} (hlo : E.1 ≤ μ) (hM : σ.1 μ = some (qa_MoF μ f)) (hm : σ.1 (μ + 1) = some (qa_ia 146 m)) (hk : sm_ok m B) (hb : qa_in b) (hv : qa_in v) : qa_T E qm_M_tempoIt 0 0 [.ref μ, .int (qa_i b), .int (qa_i v)] σ (qa_Mt σ μ f 9 (so_tempo m b v)) := by
  refine qa_enterQ (by decide) rfl qm_M_tempoIt_ok rfl rfl (fun Q9 hQ => ?_)
  obtain ⟨k0, k1, k2, k3, k4, k5, k6, k7, k8⟩ := id hk
  have e0 : σ.2 = σ.2 := rfl
  have fr : ∀ q, (q ≠ μ ∧ q ≠ μ + 1) → σ.1 q = σ.1 q := fun _ _ => rfl
  refine qa_iload_n (pc' := 1) ⟨rfl, rfl⟩ rfl ?_
  refine qa_i2l (pc' := 2) ⟨rfl, rfl⟩ (by omega) ?_
  refine qa_lconst (z := 0) (pc' := 3) ⟨rfl, rfl⟩ rfl ?_
  refine qa_ldc2 (z := 999) (pc' := 6) ⟨rfl, rfl⟩ qk_10_154 ?_
  refine qa_callS rfl qf_M_in rfl ql_10_70 (c_M_in (E := E) (by omega) (by omega) (by omega)) rfl rfl (qa_lt9 rfl) (qa_le9 rfl) (qa_le9 rfl) (qa_le9 rfl) (fun o9 τ9 hq9 => ?_)
  obtain ⟨rfl, hq9⟩ := hq9
  replace hq9 := hq9.symm; subst hq9
  refine qa_nx (pc' := 9) (st' := [_]) rfl rfl rfl rfl ?_
  by_cases hi9 : 0 ≤ b ∧ b ≤ 999
  · rw [if_pos hi9]
    refine qa_if_eq (pc' := 12) (tgt := 26) ⟨rfl, rfl⟩ rfl (by omega) (fun hi99 => ?_) (fun hi99 => ?_)
    · exact absurd hi99 (by omega)
    · refine qa_iload_n (pc' := 13) ⟨rfl, rfl⟩ rfl ?_
      refine qa_i2l (pc' := 14) ⟨rfl, rfl⟩ (by omega) ?_
      refine qa_ldc2 (z := 30) (pc' := 17) ⟨rfl, rfl⟩ qk_10_156 ?_
      refine qa_ldc2 (z := 240) (pc' := 20) ⟨rfl, rfl⟩ qk_10_158 ?_
      refine qa_callS rfl qf_M_in rfl ql_10_70 (c_M_in (E := E) (by omega) (by omega) (by omega)) rfl rfl (qa_lt9 rfl) (qa_le9 rfl) (qa_le9 rfl) (qa_le9 rfl) (fun o9 τ9 hq9 => ?_)
      obtain ⟨rfl, hq9⟩ := hq9
      replace hq9 := hq9.symm; subst hq9
      refine qa_nx (pc' := 23) (st' := [_]) rfl rfl rfl rfl ?_
      by_cases hj9 : 30 ≤ v ∧ v ≤ 240
      · rw [if_pos hj9]
        refine qa_if_ne (pc' := 26) (tgt := 32) ⟨rfl, rfl⟩ rfl (by omega) (fun hj99 => ?_) (fun hj99 => ?_)
        · have eb := sp_en_b (sm_bf m) b (m 2 - 1).toNat
          have el := sp_en_le (bars := sm_bf m) (b := b) (by show m 134 ≤ b; have h0 : m 134 = 0 := k7.1; omega) (m 2 - 1).toNat
          have eg := sp_en_gt (bars := sm_bf m) (b := b) (m 2 - 1).toNat
          obtain ⟨e, he⟩ : ∃ e, e = sm_e m b := ⟨_, rfl⟩
          rw [show sp_en (sm_bf m) b (m 2 - 1).toNat = e from he.symm] at eb el eg
          have inc : ∀ i j : Int, 0 ≤ i → i < j → j < m 2 → sm_bf m i < sm_bf m j := k7.2.2
          have T3 : ∀ (τ : qa_S) (a z N : Int) (A M1 : Int → Int) (_ : 0 ≤ a ∧ a ≤ 5) (_ : τ.2 = σ.2 ∧ τ.1 μ = some (qa_MoF μ f) ∧ τ.1 (μ + 1) = some (qa_ia 146 A) ∧ (∀ q, (q ≠ μ ∧ q ≠ μ + 1) → τ.1 q = σ.1 q)) (_ : qa_up (qa_up A (134 + 2 * a) b) (135 + 2 * a) v = M1) (_ : M1 2 = N) (_ : 0 ≤ N) (_ : so_tempo m b v = (N, 0, M1)), qa_W E qm_M_tempoIt Q9 0 0 224 [(0, .ref μ), (1, .int (qa_i b)), (2, .int (qa_i v)), (3, .int (qa_i a)), (4, .int (qa_i z))] [] τ := by
            intro τ a z N A M1 ha ⟨e0, hM, hm, fr⟩ hf h2 h0 hs
            refine qa_aload_n (pc' := 225) ⟨rfl, rfl⟩ rfl ?_
            refine qa_getf (pc' := 228) ⟨rfl, rfl⟩ qg_10_9 (by assumption) rfl ?_
            refine qa_sipush (z := 134) (pc' := 231) ⟨rfl, rfl⟩ rfl ?_
            refine qa_iconst (pc' := 232) ⟨rfl, rfl⟩ ?_
            refine qa_iload_n (pc' := 233) ⟨rfl, rfl⟩ rfl ?_
            refine qa_imul (pc' := 234) ⟨rfl, rfl⟩ rfl ?_
            refine qa_iadd (z := 134 + 2 * a) (pc' := 235) ⟨rfl, rfl⟩ (by omega) ?_
            refine qa_iload_n (pc' := 236) ⟨rfl, rfl⟩ rfl ?_
            refine qa_iastore (pc' := 237) ⟨rfl, rfl⟩ hm (by omega) (by omega) ?_
            refine qa_gz (fun τ61 e61 w61 f61 => ?_)
            replace hM := (f61 _ (by omega)).trans hM
            replace fr := fun q hq => (f61 q (by have := hq; omega)).trans (fr q hq)
            replace e0 := e61.trans e0
            have hm : τ61.1 (μ + 1) = some (qa_ia 146 (qa_up A (134 + 2 * a) b)) := w61
            refine qa_aload_n (pc' := 238) ⟨rfl, rfl⟩ rfl ?_
            refine qa_getf (pc' := 241) ⟨rfl, rfl⟩ qg_10_9 (by assumption) rfl ?_
            refine qa_sipush (z := 134) (pc' := 244) ⟨rfl, rfl⟩ rfl ?_
            refine qa_iconst (pc' := 245) ⟨rfl, rfl⟩ ?_
            refine qa_iload_n (pc' := 246) ⟨rfl, rfl⟩ rfl ?_
            refine qa_imul (pc' := 247) ⟨rfl, rfl⟩ rfl ?_
            refine qa_iadd (z := 134 + 2 * a) (pc' := 248) ⟨rfl, rfl⟩ (by omega) ?_
            refine qa_iconst (pc' := 249) ⟨rfl, rfl⟩ ?_
            refine qa_iadd (z := 135 + 2 * a) (pc' := 250) ⟨rfl, rfl⟩ (by omega) ?_
            refine qa_iload_n (pc' := 251) ⟨rfl, rfl⟩ rfl ?_
            refine qa_iastore (pc' := 252) ⟨rfl, rfl⟩ hm (by omega) (by omega) ?_
            refine qa_gz (fun τ62 e62 w62 f62 => ?_)
            replace hM := (f62 _ (by omega)).trans hM
            replace fr := fun q hq => (f62 q (by have := hq; omega)).trans (fr q hq)
            replace e0 := e62.trans e0
            have hm : τ62.1 (μ + 1) = some (qa_ia 146 (qa_up (qa_up A (134 + 2 * a) b) (135 + 2 * a) v)) := w62
            rw [hf] at hm
            refine qa_aload_n (pc' := 253) ⟨rfl, rfl⟩ rfl ?_
            refine qa_getf (pc' := 256) ⟨rfl, rfl⟩ qg_10_9 (by assumption) rfl ?_
            refine qa_iconst (pc' := 257) ⟨rfl, rfl⟩ ?_
            refine qa_iaload (pc' := 258) ⟨rfl, rfl⟩ (by assumption) (by omega) ?_
            rw [h2]
            refine qa_ireturn rfl rfl rfl (hQ _ _ (qa_Mt.good (d := 0) hs h0 e0 hM hm (sm_eqv.rf _) fr))
          have T1 : ∀ (a : Int) (_ : 0 ≤ a ∧ a ≤ m 2) (_ : ∀ j : Int, 0 ≤ j → j < a → sm_bf m j < b) (_ : a < m 2 → b ≤ sm_bf m a), qa_W E qm_M_tempoIt Q9 0 0 66 [(0, .ref μ), (1, .int (qa_i b)), (2, .int (qa_i v)), (3, .int (qa_i a))] [] σ := by
            intro a ha hlow hstop
            refine qa_iload_n (pc' := 67) ⟨rfl, rfl⟩ rfl ?_
            refine qa_aload_n (pc' := 68) ⟨rfl, rfl⟩ rfl ?_
            refine qa_getf (pc' := 71) ⟨rfl, rfl⟩ qg_10_9 (by assumption) rfl ?_
            refine qa_iconst (pc' := 72) ⟨rfl, rfl⟩ ?_
            refine qa_iaload (pc' := 73) ⟨rfl, rfl⟩ (by assumption) (by omega) ?_
            refine qa_icmp_ge (pc' := 76) (tgt := 96) ⟨rfl, rfl⟩ rfl (by omega) (by omega) (fun hc7 => ?_) (fun hc7 => ?_)
            · replace hstop : a < m 2 → b < sm_bf m a := fun h => absurd h (by omega)
              have hae : a = e + 1 := by
                have q1 : e < a := by
                  rcases Int.lt_or_le e a with h | h
                  · exact h
                  · exfalso
                    have hb1 := hstop (by omega)
                    rcases Int.lt_or_eq_of_le h with h2 | h2
                    · have := inc a e (by omega) h2 (by omega); omega
                    · subst h2; omega
                rcases Int.lt_or_le (e + 1) a with h | h
                · exfalso; have h1 := hlow (e + 1) (by omega) h; have h2 := eg (e + 1) (by omega) (by omega); omega
                · omega
              have hne : sm_bf m e ≠ b := by have h1 := hlow e (by omega) (by omega); omega
              refine qa_iconst (pc' := 97) ⟨rfl, rfl⟩ ?_
              refine qa_istore (L' := [(0, _), (1, _), (2, _), (3, _), (4, _)]) (pc' := 99) ⟨rfl, rfl⟩ rfl rfl ?_
              refine qa_iload (pc' := 101) ⟨rfl, rfl⟩ rfl ?_
              refine qa_if_ne (pc' := 104) (tgt := 131) ⟨rfl, rfl⟩ rfl (by omega) (fun hz1 => ?_) (fun hz1 => ?_)
              · exact absurd hz1 (by decide)
              · refine qa_aload_n (pc' := 105) ⟨rfl, rfl⟩ rfl ?_
                refine qa_getf (pc' := 108) ⟨rfl, rfl⟩ qg_10_9 (by assumption) rfl ?_
                refine qa_iconst (pc' := 109) ⟨rfl, rfl⟩ ?_
                refine qa_iaload (pc' := 110) ⟨rfl, rfl⟩ (by assumption) (by omega) ?_
                refine qa_bipush (z := 6) (pc' := 112) ⟨rfl, rfl⟩ rfl ?_
                refine qa_icmp_ne (pc' := 115) (tgt := 131) ⟨rfl, rfl⟩ rfl (by omega) (by omega) (fun hc6 => ?_) (fun hc6 => ?_)
                · have h6 : ¬ m 2 = 6 := by omega
                  refine qa_iload (pc' := 133) ⟨rfl, rfl⟩ rfl ?_
                  refine qa_if_ne (pc' := 136) (tgt := 224) ⟨rfl, rfl⟩ rfl (by omega) (fun hz2 => ?_) (fun hz2 => ?_)
                  · exact absurd hz2 (by decide)
                  · refine qa_aload_n (pc' := 137) ⟨rfl, rfl⟩ rfl ?_
                    refine qa_getf (pc' := 140) ⟨rfl, rfl⟩ qg_10_9 (by assumption) rfl ?_
                    refine qa_iconst (pc' := 141) ⟨rfl, rfl⟩ ?_
                    refine qa_iaload (pc' := 142) ⟨rfl, rfl⟩ (by assumption) (by omega) ?_
                    refine qa_istore (L' := [(0, _), (1, _), (2, _), (3, _), (4, _), (5, _)]) (pc' := 144) ⟨rfl, rfl⟩ rfl rfl ?_
                    have T2 : ∀ (f2 : Nat) (τ : qa_S) (i : Int), (i = a + f2 ∧ i ≤ m 2 ∧ τ.2 = σ.2 ∧ τ.1 μ = some (qa_MoF μ f) ∧ τ.1 (μ + 1) = some (qa_ia 146 (sm_sh m i)) ∧ (∀ q, (q ≠ μ ∧ q ≠ μ + 1) → τ.1 q = σ.1 q)) → qa_W E qm_M_tempoIt Q9 0 0 144 [(0, .ref μ), (1, .int (qa_i b)), (2, .int (qa_i v)), (3, .int (qa_i a)), (4, .int (qa_i 0)), (5, .int (qa_i i))] [] τ := by
                      clear hM hm e0 fr
                      intro f2
                      induction f2 with
                      | zero =>
                        intro τ i ⟨hif, him, e0, hM, hm, fr⟩
                        refine qa_iload (pc' := 146) ⟨rfl, rfl⟩ rfl ?_
                        refine qa_iload_n (pc' := 147) ⟨rfl, rfl⟩ rfl ?_
                        refine qa_icmp_le (pc' := 150) (tgt := 214) ⟨rfl, rfl⟩ rfl (by omega) (by omega) (fun hc5 => ?_) (fun hc5 => ?_)
                        · obtain rfl : i = a := by omega
                          refine qa_aload_n (pc' := 215) ⟨rfl, rfl⟩ rfl ?_
                          refine qa_getf (pc' := 218) ⟨rfl, rfl⟩ qg_10_9 (by assumption) rfl ?_
                          refine qa_iconst (pc' := 219) ⟨rfl, rfl⟩ ?_
                          refine qa_dup2 (pc' := 220) ⟨rfl, rfl⟩ rfl rfl ?_
                          refine qa_iaload (pc' := 221) ⟨rfl, rfl⟩ (by assumption) (by omega) ?_
                          refine qa_iconst (pc' := 222) ⟨rfl, rfl⟩ ?_
                          refine qa_iadd (z := m 2 + 1) (pc' := 223) ⟨rfl, rfl⟩ (by rw [sm_sh_lo (by omega)]) ?_
                          refine qa_iastore (pc' := 224) ⟨rfl, rfl⟩ hm (by omega) (by omega) ?_
                          refine qa_gz (fun τ61 e61 w61 f61 => ?_)
                          replace hM := (f61 _ (by omega)).trans hM
                          replace fr := fun q hq => (f61 q (by have := hq; omega)).trans (fr q hq)
                          replace e0 := e61.trans e0
                          have hm : τ61.1 (μ + 1) = some (qa_ia 146 (qa_up (sm_sh m i) 2 (m 2 + 1))) := w61
                          refine qa_sub (ks' := [0, 1, 2, 3, 4]) (L' := [(0, _), (1, _), (2, _), (3, _), (4, _)]) rfl ?_
                          exact T3 _ i 0 (m 2 + 1) _ (sm_ins m (e + 1) b v) (by omega) ⟨e0, hM, hm, fr⟩ (by rw [sm_ins_eq (by omega), hae]) (if_pos rfl) (by omega) (by unfold so_tempo; rw [if_neg (by omega), ← he, if_neg hne, if_neg h6])
                        · exact absurd hc5 (by omega)
                      | succ f2 iT2 =>
                        intro τ i ⟨hif, him, e0, hM, hm, fr⟩
                        refine qa_iload (pc' := 146) ⟨rfl, rfl⟩ rfl ?_
                        refine qa_iload_n (pc' := 147) ⟨rfl, rfl⟩ rfl ?_
                        refine qa_icmp_le (pc' := 150) (tgt := 214) ⟨rfl, rfl⟩ rfl (by omega) (by omega) (fun hc5 => ?_) (fun hc5 => ?_)
                        · exact absurd hc5 (by omega)
                        · refine qa_aload_n (pc' := 151) ⟨rfl, rfl⟩ rfl ?_
                          refine qa_getf (pc' := 154) ⟨rfl, rfl⟩ qg_10_9 (by assumption) rfl ?_
                          refine qa_sipush (z := 134) (pc' := 157) ⟨rfl, rfl⟩ rfl ?_
                          refine qa_iconst (pc' := 158) ⟨rfl, rfl⟩ ?_
                          refine qa_iload (pc' := 160) ⟨rfl, rfl⟩ rfl ?_
                          refine qa_imul (pc' := 161) ⟨rfl, rfl⟩ rfl ?_
                          refine qa_iadd (z := 134 + 2 * i) (pc' := 162) ⟨rfl, rfl⟩ (by omega) ?_
                          refine qa_aload_n (pc' := 163) ⟨rfl, rfl⟩ rfl ?_
                          refine qa_getf (pc' := 166) ⟨rfl, rfl⟩ qg_10_9 (by assumption) rfl ?_
                          refine qa_sipush (z := 134) (pc' := 169) ⟨rfl, rfl⟩ rfl ?_
                          refine qa_iconst (pc' := 170) ⟨rfl, rfl⟩ ?_
                          refine qa_iload (pc' := 172) ⟨rfl, rfl⟩ rfl ?_
                          refine qa_imul (pc' := 173) ⟨rfl, rfl⟩ rfl ?_
                          refine qa_iadd (z := 134 + 2 * i) (pc' := 174) ⟨rfl, rfl⟩ (by omega) ?_
                          refine qa_iconst (pc' := 175) ⟨rfl, rfl⟩ ?_
                          refine qa_isub (z := 134 + 2 * i - 2) (pc' := 176) ⟨rfl, rfl⟩ (by omega) ?_
                          refine qa_iaload (pc' := 177) ⟨rfl, rfl⟩ (by assumption) (by omega) ?_
                          refine qa_iastore (pc' := 178) ⟨rfl, rfl⟩ hm (by omega) (by omega) ?_
                          refine qa_gz (fun τ61 e61 w61 f61 => ?_)
                          replace hM := (f61 _ (by omega)).trans hM
                          replace fr := fun q hq => (f61 q (by have := hq; omega)).trans (fr q hq)
                          replace e0 := e61.trans e0
                          have hm : τ61.1 (μ + 1) = some (qa_ia 146 (qa_up (sm_sh m i) (134 + 2 * i) (sm_sh m i (134 + 2 * i - 2)))) := w61
                          rw [sm_sh_lo (q := 134 + 2 * i - 2) (by omega)] at hm
                          refine qa_aload_n (pc' := 179) ⟨rfl, rfl⟩ rfl ?_
                          refine qa_getf (pc' := 182) ⟨rfl, rfl⟩ qg_10_9 (by assumption) rfl ?_
                          refine qa_sipush (z := 134) (pc' := 185) ⟨rfl, rfl⟩ rfl ?_
                          refine qa_iconst (pc' := 186) ⟨rfl, rfl⟩ ?_
                          refine qa_iload (pc' := 188) ⟨rfl, rfl⟩ rfl ?_
                          refine qa_imul (pc' := 189) ⟨rfl, rfl⟩ rfl ?_
                          refine qa_iadd (z := 134 + 2 * i) (pc' := 190) ⟨rfl, rfl⟩ (by omega) ?_
                          refine qa_iconst (pc' := 191) ⟨rfl, rfl⟩ ?_
                          refine qa_iadd (z := 135 + 2 * i) (pc' := 192) ⟨rfl, rfl⟩ (by omega) ?_
                          refine qa_aload_n (pc' := 193) ⟨rfl, rfl⟩ rfl ?_
                          refine qa_getf (pc' := 196) ⟨rfl, rfl⟩ qg_10_9 (by assumption) rfl ?_
                          refine qa_sipush (z := 134) (pc' := 199) ⟨rfl, rfl⟩ rfl ?_
                          refine qa_iconst (pc' := 200) ⟨rfl, rfl⟩ ?_
                          refine qa_iload (pc' := 202) ⟨rfl, rfl⟩ rfl ?_
                          refine qa_imul (pc' := 203) ⟨rfl, rfl⟩ rfl ?_
                          refine qa_iadd (pc' := 204) ⟨rfl, rfl⟩ rfl ?_
                          refine qa_iconst (pc' := 205) ⟨rfl, rfl⟩ ?_
                          refine qa_isub (z := 134 + 2 * i - 1) (pc' := 206) ⟨rfl, rfl⟩ (by omega) ?_
                          refine qa_iaload (pc' := 207) ⟨rfl, rfl⟩ (by assumption) (by omega) ?_
                          refine qa_iastore (pc' := 208) ⟨rfl, rfl⟩ hm (by omega) (by omega) ?_
                          refine qa_gz (fun τ62 e62 w62 f62 => ?_)
                          replace hM := (f62 _ (by omega)).trans hM
                          replace fr := fun q hq => (f62 q (by have := hq; omega)).trans (fr q hq)
                          replace e0 := e62.trans e0
                          have hm := w62
                          rw [show qa_up (sm_sh m i) (134 + 2 * i) (m (134 + 2 * i - 2)) (134 + 2 * i - 1) = m (134 + 2 * i - 1) by rw [qa_up_ne (by omega), sm_sh_lo (by omega)], sm_sh_s him] at hm
                          refine qa_iinc (L' := [(0, _), (1, _), (2, _), (3, _), (4, _), (5, _)]) (z := i - 1) (pc' := 211) ⟨rfl, rfl⟩ rfl (by omega) rfl rfl ?_
                          refine qa_goto (pc' := 214) (tgt := 144) ⟨rfl, rfl⟩ rfl ?_
                          exact iT2 _ (i - 1) ⟨by omega, by omega, e0, hM, hm, fr⟩
                    exact T2 (m 2 - a).toNat _ (m 2) ⟨by omega, by omega, e0, hM, by rw [sm_sh_0]; exact hm, fr⟩
                · have m6 : m 2 = 6 := by omega
                  have m5 : sm_bf m 5 = m 144 := rfl
                  have b5 := k7.2.1 5 (by omega) (by omega)
                  refine qa_aload_n (pc' := 116) ⟨rfl, rfl⟩ rfl ?_
                  refine qa_iconst (pc' := 117) ⟨rfl, rfl⟩ ?_
                  refine qa_bipush (z := 7) (pc' := 119) ⟨rfl, rfl⟩ rfl ?_
                  refine qa_aload_n (pc' := 120) ⟨rfl, rfl⟩ rfl ?_
                  refine qa_getf (pc' := 123) ⟨rfl, rfl⟩ qg_10_9 (by assumption) rfl ?_
                  refine qa_sipush (z := 144) (pc' := 126) ⟨rfl, rfl⟩ rfl ?_
                  refine qa_iaload (pc' := 127) ⟨rfl, rfl⟩ (by assumption) (by omega) ?_
                  refine qa_callV rfl qf_M_rejects ql_10_97 (c_M_rejects (E := E) (p := 2) (y := 7) (x := (m 144)) hlo hM) hM rfl rfl rfl (qa_lt9 rfl) (qa_le9 rfl) (qa_le9 rfl) (qa_le9 rfl) (fun o9 τ9 hq9 => ?_)
                  obtain ⟨rfl, e9, hM, f9⟩ := hq9
                  refine qa_nx (pc' := 130) (st' := [_]) rfl rfl rfl rfl ?_
                  refine qa_ireturn rfl rfl rfl (hQ _ _ (qa_Mt.rej (by unfold so_tempo; rw [if_neg (by omega), ← he, if_neg hne, if_pos m6]; rfl) (by omega) (by first | rfl | (unfold so_pl; rfl)) (e9.trans e0) hM ((f9 _ (by omega)).trans hm) (fun q hq => (f9 q hq.1).trans (fr q hq))))
            · have ba : 0 ≤ m (134 + 2 * a) ∧ m (134 + 2 * a) ≤ 999 := k7.2.1 a (by omega) (by omega)
              refine qa_aload_n (pc' := 77) ⟨rfl, rfl⟩ rfl ?_
              refine qa_getf (pc' := 80) ⟨rfl, rfl⟩ qg_10_9 (by assumption) rfl ?_
              refine qa_sipush (z := 134) (pc' := 83) ⟨rfl, rfl⟩ rfl ?_
              refine qa_iconst (pc' := 84) ⟨rfl, rfl⟩ ?_
              refine qa_iload_n (pc' := 85) ⟨rfl, rfl⟩ rfl ?_
              refine qa_imul (pc' := 86) ⟨rfl, rfl⟩ rfl ?_
              refine qa_iadd (z := 134 + 2 * a) (pc' := 87) ⟨rfl, rfl⟩ (by omega) ?_
              refine qa_iaload (pc' := 88) ⟨rfl, rfl⟩ (by assumption) (by omega) ?_
              refine qa_iload_n (pc' := 89) ⟨rfl, rfl⟩ rfl ?_
              refine qa_icmp_ne (pc' := 92) (tgt := 96) ⟨rfl, rfl⟩ rfl (by omega) (by omega) (fun hc8 => ?_) (fun hc8 => ?_)
              · have hnb : ¬ sm_bf m a = b := hc8
                replace hstop : a < m 2 → b < sm_bf m a := fun h => by have := hstop h; omega
                have hae : a = e + 1 := by
                  have q1 : e < a := by
                    rcases Int.lt_or_le e a with h | h
                    · exact h
                    · exfalso
                      have hb1 := hstop (by omega)
                      rcases Int.lt_or_eq_of_le h with h2 | h2
                      · have := inc a e (by omega) h2 (by omega); omega
                      · subst h2; omega
                  rcases Int.lt_or_le (e + 1) a with h | h
                  · exfalso; have h1 := hlow (e + 1) (by omega) h; have h2 := eg (e + 1) (by omega) (by omega); omega
                  · omega
                have hne : sm_bf m e ≠ b := by have h1 := hlow e (by omega) (by omega); omega
                refine qa_iconst (pc' := 97) ⟨rfl, rfl⟩ ?_
                refine qa_istore (L' := [(0, _), (1, _), (2, _), (3, _), (4, _)]) (pc' := 99) ⟨rfl, rfl⟩ rfl rfl ?_
                refine qa_iload (pc' := 101) ⟨rfl, rfl⟩ rfl ?_
                refine qa_if_ne (pc' := 104) (tgt := 131) ⟨rfl, rfl⟩ rfl (by omega) (fun hz1 => ?_) (fun hz1 => ?_)
                · exact absurd hz1 (by decide)
                · refine qa_aload_n (pc' := 105) ⟨rfl, rfl⟩ rfl ?_
                  refine qa_getf (pc' := 108) ⟨rfl, rfl⟩ qg_10_9 (by assumption) rfl ?_
                  refine qa_iconst (pc' := 109) ⟨rfl, rfl⟩ ?_
                  refine qa_iaload (pc' := 110) ⟨rfl, rfl⟩ (by assumption) (by omega) ?_
                  refine qa_bipush (z := 6) (pc' := 112) ⟨rfl, rfl⟩ rfl ?_
                  refine qa_icmp_ne (pc' := 115) (tgt := 131) ⟨rfl, rfl⟩ rfl (by omega) (by omega) (fun hc6 => ?_) (fun hc6 => ?_)
                  · have h6 : ¬ m 2 = 6 := by omega
                    refine qa_iload (pc' := 133) ⟨rfl, rfl⟩ rfl ?_
                    refine qa_if_ne (pc' := 136) (tgt := 224) ⟨rfl, rfl⟩ rfl (by omega) (fun hz2 => ?_) (fun hz2 => ?_)
                    · exact absurd hz2 (by decide)
                    · refine qa_aload_n (pc' := 137) ⟨rfl, rfl⟩ rfl ?_
                      refine qa_getf (pc' := 140) ⟨rfl, rfl⟩ qg_10_9 (by assumption) rfl ?_
                      refine qa_iconst (pc' := 141) ⟨rfl, rfl⟩ ?_
                      refine qa_iaload (pc' := 142) ⟨rfl, rfl⟩ (by assumption) (by omega) ?_
                      refine qa_istore (L' := [(0, _), (1, _), (2, _), (3, _), (4, _), (5, _)]) (pc' := 144) ⟨rfl, rfl⟩ rfl rfl ?_
                      have T2 : ∀ (f2 : Nat) (τ : qa_S) (i : Int), (i = a + f2 ∧ i ≤ m 2 ∧ τ.2 = σ.2 ∧ τ.1 μ = some (qa_MoF μ f) ∧ τ.1 (μ + 1) = some (qa_ia 146 (sm_sh m i)) ∧ (∀ q, (q ≠ μ ∧ q ≠ μ + 1) → τ.1 q = σ.1 q)) → qa_W E qm_M_tempoIt Q9 0 0 144 [(0, .ref μ), (1, .int (qa_i b)), (2, .int (qa_i v)), (3, .int (qa_i a)), (4, .int (qa_i 0)), (5, .int (qa_i i))] [] τ := by
                        clear hM hm e0 fr
                        intro f2
                        induction f2 with
                        | zero =>
                          intro τ i ⟨hif, him, e0, hM, hm, fr⟩
                          refine qa_iload (pc' := 146) ⟨rfl, rfl⟩ rfl ?_
                          refine qa_iload_n (pc' := 147) ⟨rfl, rfl⟩ rfl ?_
                          refine qa_icmp_le (pc' := 150) (tgt := 214) ⟨rfl, rfl⟩ rfl (by omega) (by omega) (fun hc5 => ?_) (fun hc5 => ?_)
                          · obtain rfl : i = a := by omega
                            refine qa_aload_n (pc' := 215) ⟨rfl, rfl⟩ rfl ?_
                            refine qa_getf (pc' := 218) ⟨rfl, rfl⟩ qg_10_9 (by assumption) rfl ?_
                            refine qa_iconst (pc' := 219) ⟨rfl, rfl⟩ ?_
                            refine qa_dup2 (pc' := 220) ⟨rfl, rfl⟩ rfl rfl ?_
                            refine qa_iaload (pc' := 221) ⟨rfl, rfl⟩ (by assumption) (by omega) ?_
                            refine qa_iconst (pc' := 222) ⟨rfl, rfl⟩ ?_
                            refine qa_iadd (z := m 2 + 1) (pc' := 223) ⟨rfl, rfl⟩ (by rw [sm_sh_lo (by omega)]) ?_
                            refine qa_iastore (pc' := 224) ⟨rfl, rfl⟩ hm (by omega) (by omega) ?_
                            refine qa_gz (fun τ61 e61 w61 f61 => ?_)
                            replace hM := (f61 _ (by omega)).trans hM
                            replace fr := fun q hq => (f61 q (by have := hq; omega)).trans (fr q hq)
                            replace e0 := e61.trans e0
                            have hm : τ61.1 (μ + 1) = some (qa_ia 146 (qa_up (sm_sh m i) 2 (m 2 + 1))) := w61
                            refine qa_sub (ks' := [0, 1, 2, 3, 4]) (L' := [(0, _), (1, _), (2, _), (3, _), (4, _)]) rfl ?_
                            exact T3 _ i 0 (m 2 + 1) _ (sm_ins m (e + 1) b v) (by omega) ⟨e0, hM, hm, fr⟩ (by rw [sm_ins_eq (by omega), hae]) (if_pos rfl) (by omega) (by unfold so_tempo; rw [if_neg (by omega), ← he, if_neg hne, if_neg h6])
                          · exact absurd hc5 (by omega)
                        | succ f2 iT2 =>
                          intro τ i ⟨hif, him, e0, hM, hm, fr⟩
                          refine qa_iload (pc' := 146) ⟨rfl, rfl⟩ rfl ?_
                          refine qa_iload_n (pc' := 147) ⟨rfl, rfl⟩ rfl ?_
                          refine qa_icmp_le (pc' := 150) (tgt := 214) ⟨rfl, rfl⟩ rfl (by omega) (by omega) (fun hc5 => ?_) (fun hc5 => ?_)
                          · exact absurd hc5 (by omega)
                          · refine qa_aload_n (pc' := 151) ⟨rfl, rfl⟩ rfl ?_
                            refine qa_getf (pc' := 154) ⟨rfl, rfl⟩ qg_10_9 (by assumption) rfl ?_
                            refine qa_sipush (z := 134) (pc' := 157) ⟨rfl, rfl⟩ rfl ?_
                            refine qa_iconst (pc' := 158) ⟨rfl, rfl⟩ ?_
                            refine qa_iload (pc' := 160) ⟨rfl, rfl⟩ rfl ?_
                            refine qa_imul (pc' := 161) ⟨rfl, rfl⟩ rfl ?_
                            refine qa_iadd (z := 134 + 2 * i) (pc' := 162) ⟨rfl, rfl⟩ (by omega) ?_
                            refine qa_aload_n (pc' := 163) ⟨rfl, rfl⟩ rfl ?_
                            refine qa_getf (pc' := 166) ⟨rfl, rfl⟩ qg_10_9 (by assumption) rfl ?_
                            refine qa_sipush (z := 134) (pc' := 169) ⟨rfl, rfl⟩ rfl ?_
                            refine qa_iconst (pc' := 170) ⟨rfl, rfl⟩ ?_
                            refine qa_iload (pc' := 172) ⟨rfl, rfl⟩ rfl ?_
                            refine qa_imul (pc' := 173) ⟨rfl, rfl⟩ rfl ?_
                            refine qa_iadd (z := 134 + 2 * i) (pc' := 174) ⟨rfl, rfl⟩ (by omega) ?_
                            refine qa_iconst (pc' := 175) ⟨rfl, rfl⟩ ?_
                            refine qa_isub (z := 134 + 2 * i - 2) (pc' := 176) ⟨rfl, rfl⟩ (by omega) ?_
                            refine qa_iaload (pc' := 177) ⟨rfl, rfl⟩ (by assumption) (by omega) ?_
                            refine qa_iastore (pc' := 178) ⟨rfl, rfl⟩ hm (by omega) (by omega) ?_
                            refine qa_gz (fun τ61 e61 w61 f61 => ?_)
                            replace hM := (f61 _ (by omega)).trans hM
                            replace fr := fun q hq => (f61 q (by have := hq; omega)).trans (fr q hq)
                            replace e0 := e61.trans e0
                            have hm : τ61.1 (μ + 1) = some (qa_ia 146 (qa_up (sm_sh m i) (134 + 2 * i) (sm_sh m i (134 + 2 * i - 2)))) := w61
                            rw [sm_sh_lo (q := 134 + 2 * i - 2) (by omega)] at hm
                            refine qa_aload_n (pc' := 179) ⟨rfl, rfl⟩ rfl ?_
                            refine qa_getf (pc' := 182) ⟨rfl, rfl⟩ qg_10_9 (by assumption) rfl ?_
                            refine qa_sipush (z := 134) (pc' := 185) ⟨rfl, rfl⟩ rfl ?_
                            refine qa_iconst (pc' := 186) ⟨rfl, rfl⟩ ?_
                            refine qa_iload (pc' := 188) ⟨rfl, rfl⟩ rfl ?_
                            refine qa_imul (pc' := 189) ⟨rfl, rfl⟩ rfl ?_
                            refine qa_iadd (z := 134 + 2 * i) (pc' := 190) ⟨rfl, rfl⟩ (by omega) ?_
                            refine qa_iconst (pc' := 191) ⟨rfl, rfl⟩ ?_
                            refine qa_iadd (z := 135 + 2 * i) (pc' := 192) ⟨rfl, rfl⟩ (by omega) ?_
                            refine qa_aload_n (pc' := 193) ⟨rfl, rfl⟩ rfl ?_
                            refine qa_getf (pc' := 196) ⟨rfl, rfl⟩ qg_10_9 (by assumption) rfl ?_
                            refine qa_sipush (z := 134) (pc' := 199) ⟨rfl, rfl⟩ rfl ?_
                            refine qa_iconst (pc' := 200) ⟨rfl, rfl⟩ ?_
                            refine qa_iload (pc' := 202) ⟨rfl, rfl⟩ rfl ?_
                            refine qa_imul (pc' := 203) ⟨rfl, rfl⟩ rfl ?_
                            refine qa_iadd (pc' := 204) ⟨rfl, rfl⟩ rfl ?_
                            refine qa_iconst (pc' := 205) ⟨rfl, rfl⟩ ?_
                            refine qa_isub (z := 134 + 2 * i - 1) (pc' := 206) ⟨rfl, rfl⟩ (by omega) ?_
                            refine qa_iaload (pc' := 207) ⟨rfl, rfl⟩ (by assumption) (by omega) ?_
                            refine qa_iastore (pc' := 208) ⟨rfl, rfl⟩ hm (by omega) (by omega) ?_
                            refine qa_gz (fun τ62 e62 w62 f62 => ?_)
                            replace hM := (f62 _ (by omega)).trans hM
                            replace fr := fun q hq => (f62 q (by have := hq; omega)).trans (fr q hq)
                            replace e0 := e62.trans e0
                            have hm := w62
                            rw [show qa_up (sm_sh m i) (134 + 2 * i) (m (134 + 2 * i - 2)) (134 + 2 * i - 1) = m (134 + 2 * i - 1) by rw [qa_up_ne (by omega), sm_sh_lo (by omega)], sm_sh_s him] at hm
                            refine qa_iinc (L' := [(0, _), (1, _), (2, _), (3, _), (4, _), (5, _)]) (z := i - 1) (pc' := 211) ⟨rfl, rfl⟩ rfl (by omega) rfl rfl ?_
                            refine qa_goto (pc' := 214) (tgt := 144) ⟨rfl, rfl⟩ rfl ?_
                            exact iT2 _ (i - 1) ⟨by omega, by omega, e0, hM, hm, fr⟩
                      exact T2 (m 2 - a).toNat _ (m 2) ⟨by omega, by omega, e0, hM, by rw [sm_sh_0]; exact hm, fr⟩
                  · have m6 : m 2 = 6 := by omega
                    have m5 : sm_bf m 5 = m 144 := rfl
                    have b5 := k7.2.1 5 (by omega) (by omega)
                    refine qa_aload_n (pc' := 116) ⟨rfl, rfl⟩ rfl ?_
                    refine qa_iconst (pc' := 117) ⟨rfl, rfl⟩ ?_
                    refine qa_bipush (z := 7) (pc' := 119) ⟨rfl, rfl⟩ rfl ?_
                    refine qa_aload_n (pc' := 120) ⟨rfl, rfl⟩ rfl ?_
                    refine qa_getf (pc' := 123) ⟨rfl, rfl⟩ qg_10_9 (by assumption) rfl ?_
                    refine qa_sipush (z := 144) (pc' := 126) ⟨rfl, rfl⟩ rfl ?_
                    refine qa_iaload (pc' := 127) ⟨rfl, rfl⟩ (by assumption) (by omega) ?_
                    refine qa_callV rfl qf_M_rejects ql_10_97 (c_M_rejects (E := E) (p := 2) (y := 7) (x := (m 144)) hlo hM) hM rfl rfl rfl (qa_lt9 rfl) (qa_le9 rfl) (qa_le9 rfl) (qa_le9 rfl) (fun o9 τ9 hq9 => ?_)
                    obtain ⟨rfl, e9, hM, f9⟩ := hq9
                    refine qa_nx (pc' := 130) (st' := [_]) rfl rfl rfl rfl ?_
                    refine qa_ireturn rfl rfl rfl (hQ _ _ (qa_Mt.rej (by unfold so_tempo; rw [if_neg (by omega), ← he, if_neg hne, if_pos m6]; rfl) (by omega) (by first | rfl | (unfold so_pl; rfl)) (e9.trans e0) hM ((f9 _ (by omega)).trans hm) (fun q hq => (f9 q hq.1).trans (fr q hq))))
              · have hab : sm_bf m a = b := hc8
                have hae : a = e := by
                  rcases Int.lt_trichotomy a e with h | h | h
                  · have := inc a e (by omega) h (by omega); omega
                  · exact h
                  · have := eg a h (by omega); omega
                refine qa_iconst (pc' := 93) ⟨rfl, rfl⟩ ?_
                refine qa_goto (pc' := 96) (tgt := 97) ⟨rfl, rfl⟩ rfl ?_
                refine qa_istore (L' := [(0, _), (1, _), (2, _), (3, _), (4, _)]) (pc' := 99) ⟨rfl, rfl⟩ rfl rfl ?_
                refine qa_iload (pc' := 101) ⟨rfl, rfl⟩ rfl ?_
                refine qa_if_ne (pc' := 104) (tgt := 131) ⟨rfl, rfl⟩ rfl (by omega) (fun hz1 => ?_) (fun hz1 => ?_)
                · refine qa_iload (pc' := 133) ⟨rfl, rfl⟩ rfl ?_
                  refine qa_if_ne (pc' := 136) (tgt := 224) ⟨rfl, rfl⟩ rfl (by omega) (fun hz2 => ?_) (fun hz2 => ?_)
                  · exact T3 _ a 1 (m 2) m (qa_up m (135 + 2 * a) v) (by omega) ⟨e0, hM, hm, fr⟩ (sm_set_eq hab) (qa_up_ne (by omega)) (by omega) (by unfold so_tempo; rw [if_neg (by omega), ← he, ← hae, if_pos hab])
                  · exact absurd hz2 (by decide)
                · exact absurd hz1 (by decide)
          refine qa_iconst (pc' := 33) ⟨rfl, rfl⟩ ?_
          refine qa_istore_n (L' := [(0, _), (1, _), (2, _), (3, _)]) (pc' := 34) ⟨rfl, rfl⟩ rfl rfl ?_
          have lp : ∀ (f9 : Nat) (k : Nat), ((k : Int) + f9 = m 2 ∧ (∀ j : Int, 0 ≤ j → j < k → sm_bf m j < b)) → qa_W E qm_M_tempoIt Q9 0 0 34 [(0, .ref μ), (1, .int (qa_i b)), (2, .int (qa_i v)), (3, .int (qa_i k))] [] σ := by
            intro f9
            induction f9 with
            | zero =>
              intro k ⟨hkf, hl⟩
              refine qa_iload_n (pc' := 35) ⟨rfl, rfl⟩ rfl ?_
              refine qa_aload_n (pc' := 36) ⟨rfl, rfl⟩ rfl ?_
              refine qa_getf (pc' := 39) ⟨rfl, rfl⟩ qg_10_9 (by assumption) rfl ?_
              refine qa_iconst (pc' := 40) ⟨rfl, rfl⟩ ?_
              refine qa_iaload (pc' := 41) ⟨rfl, rfl⟩ (by assumption) (by omega) ?_
              refine qa_icmp_ge (pc' := 44) (tgt := 66) ⟨rfl, rfl⟩ rfl (by omega) (by omega) (fun hc1 => ?_) (fun hc1 => ?_)
              · exact T1 k (by omega) hl (fun h => absurd h (by omega))
              · exact absurd hc1 (by omega)
            | succ f9 ih =>
              intro k ⟨hkf, hl⟩
              have ba : 0 ≤ m (134 + 2 * (k : Int)) ∧ m (134 + 2 * (k : Int)) ≤ 999 := k7.2.1 k (by omega) (by omega)
              refine qa_iload_n (pc' := 35) ⟨rfl, rfl⟩ rfl ?_
              refine qa_aload_n (pc' := 36) ⟨rfl, rfl⟩ rfl ?_
              refine qa_getf (pc' := 39) ⟨rfl, rfl⟩ qg_10_9 (by assumption) rfl ?_
              refine qa_iconst (pc' := 40) ⟨rfl, rfl⟩ ?_
              refine qa_iaload (pc' := 41) ⟨rfl, rfl⟩ (by assumption) (by omega) ?_
              refine qa_icmp_ge (pc' := 44) (tgt := 66) ⟨rfl, rfl⟩ rfl (by omega) (by omega) (fun hc1 => ?_) (fun hc1 => ?_)
              · exact T1 k (by omega) hl (fun h => absurd h (by omega))
              · refine qa_aload_n (pc' := 45) ⟨rfl, rfl⟩ rfl ?_
                refine qa_getf (pc' := 48) ⟨rfl, rfl⟩ qg_10_9 (by assumption) rfl ?_
                refine qa_sipush (z := 134) (pc' := 51) ⟨rfl, rfl⟩ rfl ?_
                refine qa_iconst (pc' := 52) ⟨rfl, rfl⟩ ?_
                refine qa_iload_n (pc' := 53) ⟨rfl, rfl⟩ rfl ?_
                refine qa_imul (pc' := 54) ⟨rfl, rfl⟩ rfl ?_
                refine qa_iadd (z := 134 + 2 * (k : Int)) (pc' := 55) ⟨rfl, rfl⟩ (by omega) ?_
                refine qa_iaload (pc' := 56) ⟨rfl, rfl⟩ (by assumption) (by omega) ?_
                refine qa_iload_n (pc' := 57) ⟨rfl, rfl⟩ rfl ?_
                refine qa_icmp_ge (pc' := 60) (tgt := 66) ⟨rfl, rfl⟩ rfl (by omega) (by omega) (fun hc2 => ?_) (fun hc2 => ?_)
                · exact T1 k (by omega) hl (fun _ => hc2)
                · refine qa_iinc (L' := [(0, _), (1, _), (2, _), (3, _)]) (z := ((k + 1 : Nat) : Int)) (pc' := 63) ⟨rfl, rfl⟩ rfl (by omega) rfl rfl ?_
                  refine qa_goto (pc' := 66) (tgt := 34) ⟨rfl, rfl⟩ rfl ?_
                  exact ih (k + 1) ⟨by omega, fun j j0 j1 => by
                    rcases Int.lt_or_le j k with h | h
                    · exact hl j j0 h
                    · obtain rfl : j = (k : Int) := by omega
                      exact hc2⟩
          exact lp (m 2).toNat 0 ⟨by omega, fun j j0 j1 => by omega⟩
        · exact absurd hj99 (by omega)
      · rw [if_neg hj9]
        refine qa_if_ne (pc' := 26) (tgt := 32) ⟨rfl, rfl⟩ rfl (by omega) (fun hj99 => ?_) (fun hj99 => ?_)
        · exact absurd hj99 (by omega)
        · refine qa_aload_n (pc' := 27) ⟨rfl, rfl⟩ rfl ?_
          refine qa_iconst (pc' := 28) ⟨rfl, rfl⟩ ?_
          refine qa_callV rfl qf_M_throwing ql_10_60 (c_M_throwing (E := E) (v := 1) hlo hM) hM rfl rfl rfl (qa_lt9 rfl) (qa_le9 rfl) (qa_le9 rfl) (qa_le9 rfl) (fun o9 τ9 hq9 => ?_)
          obtain ⟨rfl, e9, hM, f9⟩ := hq9
          refine qa_nx (pc' := 31) (st' := [_]) rfl rfl rfl rfl ?_
          refine qa_ireturn rfl rfl rfl (hQ _ _ (qa_Mt.bad (a := -11) (d := 0) (by unfold so_tempo; repeat (first | rw [if_pos (by omega)] | rw [if_neg (by omega)])) (by omega) (by first | rfl | (unfold so_pl; rfl)) (e9.trans e0) hM ((f9 _ (by omega)).trans hm) (fun q hq => (f9 q hq.1).trans (fr q hq))))
  · rw [if_neg hi9]
    refine qa_if_eq (pc' := 12) (tgt := 26) ⟨rfl, rfl⟩ rfl (by omega) (fun hi99 => ?_) (fun hi99 => ?_)
    · refine qa_aload_n (pc' := 27) ⟨rfl, rfl⟩ rfl ?_
      refine qa_iconst (pc' := 28) ⟨rfl, rfl⟩ ?_
      refine qa_callV rfl qf_M_throwing ql_10_60 (c_M_throwing (E := E) (v := 1) hlo hM) hM rfl rfl rfl (qa_lt9 rfl) (qa_le9 rfl) (qa_le9 rfl) (qa_le9 rfl) (fun o9 τ9 hq9 => ?_)
      obtain ⟨rfl, e9, hM, f9⟩ := hq9
      refine qa_nx (pc' := 31) (st' := [_]) rfl rfl rfl rfl ?_
      refine qa_ireturn rfl rfl rfl (hQ _ _ (qa_Mt.bad (a := -11) (d := 0) (by unfold so_tempo; repeat (first | rw [if_pos (by omega)] | rw [if_neg (by omega)])) (by omega) (by first | rfl | (unfold so_pl; rfl)) (e9.trans e0) hM ((f9 _ (by omega)).trans hm) (fun q hq => (f9 q hq.1).trans (fr q hq))))
    · exact absurd hi99 (by omega)
