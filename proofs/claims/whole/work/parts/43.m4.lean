theorem sp_ca_s (s : Int → Int) (p : Int) (f : Nat) (i : Int) : sp_ca s p (f + 1) i = if s (i - p) = s i then sp_ca s p f (i + 1) else 0 := rfl
theorem sp_pt_s (s : Int → Int) (n : Int) (f : Nat) (p : Int) : sp_pt s n (f + 1) p = if sp_ca s p (n - p).toNat p = 0 then sp_pt s n f (p + 1) else p := rfl
theorem so_at_s (m : Int → Int) (ps : Int) (f : Nat) (i : Int) : so_at m ps (f + 1) i = if so_an m i (m 0).toNat = ps then i else so_at m ps f (i + 1) := rfl
theorem sp_fo_s (p : Int → Int) (by9 : Int) (f : Nat) (i : Int) : sp_fo p by9 (f + 1) i = if p i ≠ -1 ∧ ¬ (0 ≤ p i + by9 ∧ p i + by9 ≤ 35) then i else sp_fo p by9 f (i + 1) := rfl
theorem c_M_period {E : qa_V} {σ : qa_S} {μ : Nat} {f : Nat → Int} {m : Int → Int} {B : Int} {p : Int} (hlo : E.1 ≤ μ) (hM : σ.1 μ = some (qa_MoF μ f)) (hm : σ.1 (μ + 1) = some (qa_ia 146 m)) (hk : sm_ok m B) (hp : qa_in p) : qa_T E qm_M_period 0 0 [.ref μ, .int (qa_i p)] σ (qa_Mi σ μ f (fo_per m p (sp_pt (sm_c m p) (sm_n m p) (sm_n m p - 1).toNat 1))) := by
  refine qa_enterQ (by decide) rfl qm_M_period_ok rfl rfl (fun Q9 hQ => ?_)
  obtain ⟨k0, k1, k2, k3, k4, k5, k6, k7, k8⟩ := id hk
  have e0 : σ.2 = σ.2 := rfl
  have fr : ∀ q, q ≠ μ → σ.1 q = σ.1 q := fun _ _ => rfl
  refine qa_aload_n (pc' := 1) ⟨rfl, rfl⟩ rfl ?_
  refine qa_iconst (pc' := 2) ⟨rfl, rfl⟩ ?_
  refine qa_putf (fs' := [_, _, _, _, _, _, _, _, _, _, _, _, _, _, _, _, _, _, _, _, _, _, _, _, _, _, _]) (pc' := 5) ⟨rfl, rfl⟩ qg_10_51 qw_9 hM (by omega) rfl (fun r hr => by cases hr; exact ⟨rfl, Or.inl rfl⟩) rfl rfl ?_
  refine qa_gz (fun τ1 e1 w1 f1 => ?_)
  replace hm := (f1 _ (by omega)).trans hm
  replace fr := fun q hq => (f1 q (by have := hq; omega)).trans (fr q hq)
  replace e0 := e1.trans e0
  have hM : τ1.1 μ = some (qa_MoF μ (sN_put f 12 0)) := w1
  refine qa_aload_n (pc' := 6) ⟨rfl, rfl⟩ rfl ?_
  refine qa_iload_n (pc' := 7) ⟨rfl, rfl⟩ rfl ?_
  refine qa_callV rfl qf_M_isPart ql_10_111 (c_M_isPart (E := E) hM hm hk (by omega)) hM rfl rfl rfl (qa_lt9 rfl) (qa_le9 rfl) (qa_le9 rfl) (qa_le9 rfl) (fun o9 τ9 hq9 => ?_)
  obtain ⟨rfl, hq9⟩ := hq9
  replace hq9 := hq9.symm; subst hq9
  refine qa_nx (pc' := 10) (st' := [_]) rfl rfl rfl rfl ?_
  by_cases hp9 : 0 ≤ p ∧ p < m 0
  · rw [if_pos hp9]
    refine qa_if_ne (pc' := 13) (tgt := 19) ⟨rfl, rfl⟩ rfl (by omega) (fun hp99 => ?_) (fun hp99 => ?_)
    · have kk := k4 p (by omega) (by omega)
      have kn := kk.1
      have kw := sm_wh_b kk
      refine qa_aload_n (pc' := 20) ⟨rfl, rfl⟩ rfl ?_
      refine qa_iload_n (pc' := 21) ⟨rfl, rfl⟩ rfl ?_
      refine qa_callV rfl qf_M_notes ql_10_77 (c_M_notes (E := E) hM hm ⟨by omega, by omega⟩) hM rfl rfl rfl (qa_lt9 rfl) (qa_le9 rfl) (qa_le9 rfl) (qa_le9 rfl) (fun o9 τ9 hq9 => ?_)
      obtain ⟨rfl, hq9⟩ := hq9
      replace hq9 := hq9.symm; subst hq9
      refine qa_nx (pc' := 24) (st' := [_]) rfl rfl rfl rfl ?_
      refine qa_if_ne (pc' := 27) (tgt := 33) ⟨rfl, rfl⟩ rfl (by omega) (fun hc8 => ?_) (fun hc8 => ?_)
      · refine qa_iconst (pc' := 34) ⟨rfl, rfl⟩ ?_
        refine qa_istore_n (L' := [(0, _), (1, _), (2, _)]) (pc' := 35) ⟨rfl, rfl⟩ rfl rfl ?_
        refine qa_iconst (pc' := 36) ⟨rfl, rfl⟩ ?_
        refine qa_istore_n (L' := [(0, _), (1, _), (2, _), (3, _)]) (pc' := 37) ⟨rfl, rfl⟩ rfl rfl ?_
        have lp : ∀ (f9 : Nat) (q : Int), (q + 1 + f9 = sm_n m p ∧ 0 ≤ q ∧ sp_pt (sm_c m p) (sm_n m p) f9 (q + 1) = sp_pt (sm_c m p) (sm_n m p) (sm_n m p - 1).toNat 1) → qa_W E qm_M_period Q9 0 0 37 [(0, .ref μ), (1, .int (qa_i p)), (2, .int (qa_i q)), (3, .int (qa_i 0))] [] τ1 := by
          intro f9
          induction f9 with
          | zero =>
            intro q ⟨hqf, hq0, hr⟩
            have ho : ∀ s : Int, s = sp_ca (sm_c m p) (q + 1) (sm_n m p - (q + 1)).toNat (q + 1) → qa_W E qm_M_period Q9 0 0 37 [(0, .ref μ), (1, .int (qa_i p)), (2, .int (qa_i (q + 1))), (3, .int (qa_i s))] [] τ1 := by
              intro s hs
              rw [show (sm_n m p - (q + 1)).toNat = 0 by omega] at hs
              have hs1 : s = 1 := hs
              refine qa_iload_n (pc' := 38) ⟨rfl, rfl⟩ rfl ?_
              refine qa_if_ne (pc' := 41) (tgt := 93) ⟨rfl, rfl⟩ rfl (by omega) (fun hc9 => ?_) (fun hc9 => ?_)
              · refine qa_iload_n (pc' := 94) ⟨rfl, rfl⟩ rfl ?_
                refine qa_ireturn rfl rfl rfl (hQ _ _ (qa_Mi.mk (k := 0) (by unfold fo_per; rw [if_pos (by omega), if_pos (by omega), ← hr, show q + 1 = sm_n m p by omega]; rfl) (fun _ => rfl) e0 hM fr))
              · exact absurd hc9 (by omega)
            obtain ⟨p1, hp1⟩ : ∃ p1 : Int, p1 = q + 1 := ⟨_, rfl⟩
            rw [← hp1] at ho
            refine qa_iload_n (pc' := 38) ⟨rfl, rfl⟩ rfl ?_
            refine qa_if_ne (pc' := 41) (tgt := 93) ⟨rfl, rfl⟩ rfl (by omega) (fun hc1 => ?_) (fun hc1 => ?_)
            · exact absurd hc1 (by omega)
            · refine qa_iinc (L' := [(0, _), (1, _), (2, _), (3, _)]) (z := p1) (pc' := 44) ⟨rfl, rfl⟩ rfl hp1.symm rfl rfl ?_
              refine qa_iconst (pc' := 45) ⟨rfl, rfl⟩ ?_
              refine qa_istore_n (L' := [(0, _), (1, _), (2, _), (3, _)]) (pc' := 46) ⟨rfl, rfl⟩ rfl rfl ?_
              refine qa_iload_n (pc' := 47) ⟨rfl, rfl⟩ rfl ?_
              refine qa_istore (L' := [(0, _), (1, _), (2, _), (3, _), (4, _)]) (pc' := 49) ⟨rfl, rfl⟩ rfl rfl ?_
              have lq : ∀ (f2 : Nat) (k s : Int), (k : Int) + f2 = sm_n m p ∧ 1 ≤ k ∧ p1 ≤ k ∧ (s = 0 ∧ sp_ca (sm_c m p) p1 (sm_n m p - p1).toNat p1 = 0 ∨ s = 1 ∧ sp_ca (sm_c m p) p1 f2 k = sp_ca (sm_c m p) p1 (sm_n m p - p1).toNat p1) → qa_W E qm_M_period Q9 0 0 49 [(0, .ref μ), (1, .int (qa_i p)), (2, .int (qa_i p1)), (3, .int (qa_i s)), (4, .int (qa_i k))] [] τ1 := by
                intro f2
                induction f2 with
                | zero =>
                  intro k s ⟨hk2, hk1, hkp, hs⟩
                  refine qa_iload (pc' := 51) ⟨rfl, rfl⟩ rfl ?_
                  refine qa_aload_n (pc' := 52) ⟨rfl, rfl⟩ rfl ?_
                  refine qa_iload_n (pc' := 53) ⟨rfl, rfl⟩ rfl ?_
                  refine qa_callV rfl qf_M_notes ql_10_77 (c_M_notes (E := E) hM hm ⟨by omega, by omega⟩) hM rfl rfl rfl (qa_lt9 rfl) (qa_le9 rfl) (qa_le9 rfl) (qa_le9 rfl) (fun o9 τ9 hq9 => ?_)
                  obtain ⟨rfl, hq9⟩ := hq9
                  replace hq9 := hq9.symm; subst hq9
                  refine qa_nx (pc' := 56) (st' := [_, _]) rfl rfl rfl rfl ?_
                  refine qa_icmp_ge (pc' := 59) (tgt := 90) ⟨rfl, rfl⟩ rfl (by omega) (by omega) (fun hc2 => ?_) (fun hc2 => ?_)
                  · refine qa_goto (pc' := 93) (tgt := 37) ⟨rfl, rfl⟩ rfl ?_
                    refine qa_sub (ks' := [0, 1, 2, 3]) (L' := [(0, _), (1, _), (2, _), (3, _)]) rfl ?_
                    have hs2 : s = sp_ca (sm_c m p) p1 (sm_n m p - p1).toNat p1 := by
                      rcases hs with ⟨h1, h2⟩ | ⟨h1, h2⟩
                      · rw [h1, h2]
                      · rw [h1, ← h2]; rfl
                    exact ho s hs2
                  · exact absurd hc2 (by omega)
                | succ f2 ih2 =>
                  intro k s ⟨hk2, hk1, hkp, hs⟩
                  refine qa_iload (pc' := 51) ⟨rfl, rfl⟩ rfl ?_
                  refine qa_aload_n (pc' := 52) ⟨rfl, rfl⟩ rfl ?_
                  refine qa_iload_n (pc' := 53) ⟨rfl, rfl⟩ rfl ?_
                  refine qa_callV rfl qf_M_notes ql_10_77 (c_M_notes (E := E) hM hm ⟨by omega, by omega⟩) hM rfl rfl rfl (qa_lt9 rfl) (qa_le9 rfl) (qa_le9 rfl) (qa_le9 rfl) (fun o9 τ9 hq9 => ?_)
                  obtain ⟨rfl, hq9⟩ := hq9
                  replace hq9 := hq9.symm; subst hq9
                  refine qa_nx (pc' := 56) (st' := [_, _]) rfl rfl rfl rfl ?_
                  refine qa_icmp_ge (pc' := 59) (tgt := 90) ⟨rfl, rfl⟩ rfl (by omega) (by omega) (fun hc2 => ?_) (fun hc2 => ?_)
                  · exact absurd hc2 (by omega)
                  · refine qa_iload_n (pc' := 60) ⟨rfl, rfl⟩ rfl ?_
                    refine qa_if_eq (pc' := 63) (tgt := 82) ⟨rfl, rfl⟩ rfl (by omega) (fun hc3 => ?_) (fun hc3 => ?_)
                    · refine qa_iconst (pc' := 83) ⟨rfl, rfl⟩ ?_
                      refine qa_istore_n (L' := [(0, _), (1, _), (2, _), (3, _), (4, _)]) (pc' := 84) ⟨rfl, rfl⟩ rfl rfl ?_
                      refine qa_iinc (L' := [(0, _), (1, _), (2, _), (3, _), (4, _)]) (z := k + 1) (pc' := 87) ⟨rfl, rfl⟩ rfl rfl rfl rfl ?_
                      refine qa_goto (pc' := 90) (tgt := 49) ⟨rfl, rfl⟩ rfl ?_
                      exact ih2 (k + 1) _ ⟨by omega, by omega, by omega, Or.inl ⟨rfl, by rcases hs with h9 | h9; exact h9.2; omega⟩⟩
                    · have hs1 : sp_ca (sm_c m p) p1 (f2 + 1) k = sp_ca (sm_c m p) p1 (sm_n m p - p1).toNat p1 := by rcases hs with h9 | h9; omega; exact h9.2
                      rw [sp_ca_s] at hs1
                      refine qa_aload_n (pc' := 64) ⟨rfl, rfl⟩ rfl ?_
                      refine qa_iload_n (pc' := 65) ⟨rfl, rfl⟩ rfl ?_
                      refine qa_iload (pc' := 67) ⟨rfl, rfl⟩ rfl ?_
                      refine qa_iload_n (pc' := 68) ⟨rfl, rfl⟩ rfl ?_
                      refine qa_iload (pc' := 70) ⟨rfl, rfl⟩ rfl ?_
                      refine qa_iload_n (pc' := 71) ⟨rfl, rfl⟩ rfl ?_
                      refine qa_isub (pc' := 72) ⟨rfl, rfl⟩ rfl ?_
                      refine qa_callV rfl qf_M_areAlike ql_10_188 (c_M_areAlike (E := E) hM hm hk ⟨by omega, by omega⟩ ⟨by omega, by omega⟩ ⟨by omega, by omega⟩ ⟨by omega, by omega⟩) hM rfl rfl rfl (qa_lt9 rfl) (qa_le9 rfl) (qa_le9 rfl) (qa_le9 rfl) (fun o9 τ9 hq9 => ?_)
                      obtain ⟨rfl, hq9⟩ := hq9
                      replace hq9 := hq9.symm; subst hq9
                      refine qa_nx (pc' := 75) (st' := [_]) rfl rfl rfl rfl ?_
                      by_cases hw : sm_c m p k = sm_c m p (k - p1)
                      · rw [if_pos hw]
                        refine qa_if_eq (pc' := 78) (tgt := 82) ⟨rfl, rfl⟩ rfl (by omega) (fun hw9 => ?_) (fun hw9 => ?_)
                        · exact absurd hw9 (by omega)
                        · refine qa_iconst (pc' := 79) ⟨rfl, rfl⟩ ?_
                          refine qa_goto (pc' := 82) (tgt := 83) ⟨rfl, rfl⟩ rfl ?_
                          refine qa_istore_n (L' := [(0, _), (1, _), (2, _), (3, _), (4, _)]) (pc' := 84) ⟨rfl, rfl⟩ rfl rfl ?_
                          refine qa_iinc (L' := [(0, _), (1, _), (2, _), (3, _), (4, _)]) (z := k + 1) (pc' := 87) ⟨rfl, rfl⟩ rfl rfl rfl rfl ?_
                          refine qa_goto (pc' := 90) (tgt := 49) ⟨rfl, rfl⟩ rfl ?_
                          exact ih2 (k + 1) _ ⟨by omega, by omega, by omega, Or.inr ⟨rfl, by rw [if_pos hw.symm] at hs1; exact hs1⟩⟩
                      · rw [if_neg hw]
                        refine qa_if_eq (pc' := 78) (tgt := 82) ⟨rfl, rfl⟩ rfl (by omega) (fun hw9 => ?_) (fun hw9 => ?_)
                        · refine qa_iconst (pc' := 83) ⟨rfl, rfl⟩ ?_
                          refine qa_istore_n (L' := [(0, _), (1, _), (2, _), (3, _), (4, _)]) (pc' := 84) ⟨rfl, rfl⟩ rfl rfl ?_
                          refine qa_iinc (L' := [(0, _), (1, _), (2, _), (3, _), (4, _)]) (z := k + 1) (pc' := 87) ⟨rfl, rfl⟩ rfl rfl rfl rfl ?_
                          refine qa_goto (pc' := 90) (tgt := 49) ⟨rfl, rfl⟩ rfl ?_
                          exact ih2 (k + 1) _ ⟨by omega, by omega, by omega, Or.inl ⟨rfl, by rw [if_neg (fun h => hw h.symm)] at hs1; exact hs1.symm⟩⟩
                        · exact absurd hw9 (by omega)
              exact lq (sm_n m p - p1).toNat p1 1 ⟨by omega, by omega, by omega, Or.inr ⟨rfl, rfl⟩⟩
          | succ f9 ih =>
            intro q ⟨hqf, hq0, hr⟩
            have hb9 := sp_ca_b (sm_c m p) (q + 1) (sm_n m p - (q + 1)).toNat (q + 1)
            have hr0 := hr
            rw [sp_pt_s] at hr
            have ho : ∀ s : Int, s = sp_ca (sm_c m p) (q + 1) (sm_n m p - (q + 1)).toNat (q + 1) → qa_W E qm_M_period Q9 0 0 37 [(0, .ref μ), (1, .int (qa_i p)), (2, .int (qa_i (q + 1))), (3, .int (qa_i s))] [] τ1 := by
              intro s hs
              by_cases h0 : s = 0
              · subst h0
                rw [if_pos hs.symm] at hr
                exact ih (q + 1) ⟨by omega, by omega, hr⟩
              · refine qa_iload_n (pc' := 38) ⟨rfl, rfl⟩ rfl ?_
                refine qa_if_ne (pc' := 41) (tgt := 93) ⟨rfl, rfl⟩ rfl (by omega) (fun hc9 => ?_) (fun hc9 => ?_)
                · refine qa_iload_n (pc' := 94) ⟨rfl, rfl⟩ rfl ?_
                  refine qa_ireturn rfl rfl rfl (hQ _ _ (qa_Mi.mk (k := 0) (by unfold fo_per; rw [if_pos (by omega), if_pos (by omega), ← hr, if_neg (by omega)]) (fun _ => rfl) e0 hM fr))
                · exact absurd hc9 (by omega)
            obtain ⟨p1, hp1⟩ : ∃ p1 : Int, p1 = q + 1 := ⟨_, rfl⟩
            rw [← hp1] at ho
            refine qa_iload_n (pc' := 38) ⟨rfl, rfl⟩ rfl ?_
            refine qa_if_ne (pc' := 41) (tgt := 93) ⟨rfl, rfl⟩ rfl (by omega) (fun hc1 => ?_) (fun hc1 => ?_)
            · exact absurd hc1 (by omega)
            · refine qa_iinc (L' := [(0, _), (1, _), (2, _), (3, _)]) (z := p1) (pc' := 44) ⟨rfl, rfl⟩ rfl hp1.symm rfl rfl ?_
              refine qa_iconst (pc' := 45) ⟨rfl, rfl⟩ ?_
              refine qa_istore_n (L' := [(0, _), (1, _), (2, _), (3, _)]) (pc' := 46) ⟨rfl, rfl⟩ rfl rfl ?_
              refine qa_iload_n (pc' := 47) ⟨rfl, rfl⟩ rfl ?_
              refine qa_istore (L' := [(0, _), (1, _), (2, _), (3, _), (4, _)]) (pc' := 49) ⟨rfl, rfl⟩ rfl rfl ?_
              have lq : ∀ (f2 : Nat) (k s : Int), (k : Int) + f2 = sm_n m p ∧ 1 ≤ k ∧ p1 ≤ k ∧ (s = 0 ∧ sp_ca (sm_c m p) p1 (sm_n m p - p1).toNat p1 = 0 ∨ s = 1 ∧ sp_ca (sm_c m p) p1 f2 k = sp_ca (sm_c m p) p1 (sm_n m p - p1).toNat p1) → qa_W E qm_M_period Q9 0 0 49 [(0, .ref μ), (1, .int (qa_i p)), (2, .int (qa_i p1)), (3, .int (qa_i s)), (4, .int (qa_i k))] [] τ1 := by
                intro f2
                induction f2 with
                | zero =>
                  intro k s ⟨hk2, hk1, hkp, hs⟩
                  refine qa_iload (pc' := 51) ⟨rfl, rfl⟩ rfl ?_
                  refine qa_aload_n (pc' := 52) ⟨rfl, rfl⟩ rfl ?_
                  refine qa_iload_n (pc' := 53) ⟨rfl, rfl⟩ rfl ?_
                  refine qa_callV rfl qf_M_notes ql_10_77 (c_M_notes (E := E) hM hm ⟨by omega, by omega⟩) hM rfl rfl rfl (qa_lt9 rfl) (qa_le9 rfl) (qa_le9 rfl) (qa_le9 rfl) (fun o9 τ9 hq9 => ?_)
                  obtain ⟨rfl, hq9⟩ := hq9
                  replace hq9 := hq9.symm; subst hq9
                  refine qa_nx (pc' := 56) (st' := [_, _]) rfl rfl rfl rfl ?_
                  refine qa_icmp_ge (pc' := 59) (tgt := 90) ⟨rfl, rfl⟩ rfl (by omega) (by omega) (fun hc2 => ?_) (fun hc2 => ?_)
                  · refine qa_goto (pc' := 93) (tgt := 37) ⟨rfl, rfl⟩ rfl ?_
                    refine qa_sub (ks' := [0, 1, 2, 3]) (L' := [(0, _), (1, _), (2, _), (3, _)]) rfl ?_
                    have hs2 : s = sp_ca (sm_c m p) p1 (sm_n m p - p1).toNat p1 := by
                      rcases hs with ⟨h1, h2⟩ | ⟨h1, h2⟩
                      · rw [h1, h2]
                      · rw [h1, ← h2]; rfl
                    exact ho s hs2
                  · exact absurd hc2 (by omega)
                | succ f2 ih2 =>
                  intro k s ⟨hk2, hk1, hkp, hs⟩
                  refine qa_iload (pc' := 51) ⟨rfl, rfl⟩ rfl ?_
                  refine qa_aload_n (pc' := 52) ⟨rfl, rfl⟩ rfl ?_
                  refine qa_iload_n (pc' := 53) ⟨rfl, rfl⟩ rfl ?_
                  refine qa_callV rfl qf_M_notes ql_10_77 (c_M_notes (E := E) hM hm ⟨by omega, by omega⟩) hM rfl rfl rfl (qa_lt9 rfl) (qa_le9 rfl) (qa_le9 rfl) (qa_le9 rfl) (fun o9 τ9 hq9 => ?_)
                  obtain ⟨rfl, hq9⟩ := hq9
                  replace hq9 := hq9.symm; subst hq9
                  refine qa_nx (pc' := 56) (st' := [_, _]) rfl rfl rfl rfl ?_
                  refine qa_icmp_ge (pc' := 59) (tgt := 90) ⟨rfl, rfl⟩ rfl (by omega) (by omega) (fun hc2 => ?_) (fun hc2 => ?_)
                  · exact absurd hc2 (by omega)
                  · refine qa_iload_n (pc' := 60) ⟨rfl, rfl⟩ rfl ?_
                    refine qa_if_eq (pc' := 63) (tgt := 82) ⟨rfl, rfl⟩ rfl (by omega) (fun hc3 => ?_) (fun hc3 => ?_)
                    · refine qa_iconst (pc' := 83) ⟨rfl, rfl⟩ ?_
                      refine qa_istore_n (L' := [(0, _), (1, _), (2, _), (3, _), (4, _)]) (pc' := 84) ⟨rfl, rfl⟩ rfl rfl ?_
                      refine qa_iinc (L' := [(0, _), (1, _), (2, _), (3, _), (4, _)]) (z := k + 1) (pc' := 87) ⟨rfl, rfl⟩ rfl rfl rfl rfl ?_
                      refine qa_goto (pc' := 90) (tgt := 49) ⟨rfl, rfl⟩ rfl ?_
                      exact ih2 (k + 1) _ ⟨by omega, by omega, by omega, Or.inl ⟨rfl, by rcases hs with h9 | h9; exact h9.2; omega⟩⟩
                    · have hs1 : sp_ca (sm_c m p) p1 (f2 + 1) k = sp_ca (sm_c m p) p1 (sm_n m p - p1).toNat p1 := by rcases hs with h9 | h9; omega; exact h9.2
                      rw [sp_ca_s] at hs1
                      refine qa_aload_n (pc' := 64) ⟨rfl, rfl⟩ rfl ?_
                      refine qa_iload_n (pc' := 65) ⟨rfl, rfl⟩ rfl ?_
                      refine qa_iload (pc' := 67) ⟨rfl, rfl⟩ rfl ?_
                      refine qa_iload_n (pc' := 68) ⟨rfl, rfl⟩ rfl ?_
                      refine qa_iload (pc' := 70) ⟨rfl, rfl⟩ rfl ?_
                      refine qa_iload_n (pc' := 71) ⟨rfl, rfl⟩ rfl ?_
                      refine qa_isub (pc' := 72) ⟨rfl, rfl⟩ rfl ?_
                      refine qa_callV rfl qf_M_areAlike ql_10_188 (c_M_areAlike (E := E) hM hm hk ⟨by omega, by omega⟩ ⟨by omega, by omega⟩ ⟨by omega, by omega⟩ ⟨by omega, by omega⟩) hM rfl rfl rfl (qa_lt9 rfl) (qa_le9 rfl) (qa_le9 rfl) (qa_le9 rfl) (fun o9 τ9 hq9 => ?_)
                      obtain ⟨rfl, hq9⟩ := hq9
                      replace hq9 := hq9.symm; subst hq9
                      refine qa_nx (pc' := 75) (st' := [_]) rfl rfl rfl rfl ?_
                      by_cases hw : sm_c m p k = sm_c m p (k - p1)
                      · rw [if_pos hw]
                        refine qa_if_eq (pc' := 78) (tgt := 82) ⟨rfl, rfl⟩ rfl (by omega) (fun hw9 => ?_) (fun hw9 => ?_)
                        · exact absurd hw9 (by omega)
                        · refine qa_iconst (pc' := 79) ⟨rfl, rfl⟩ ?_
                          refine qa_goto (pc' := 82) (tgt := 83) ⟨rfl, rfl⟩ rfl ?_
                          refine qa_istore_n (L' := [(0, _), (1, _), (2, _), (3, _), (4, _)]) (pc' := 84) ⟨rfl, rfl⟩ rfl rfl ?_
                          refine qa_iinc (L' := [(0, _), (1, _), (2, _), (3, _), (4, _)]) (z := k + 1) (pc' := 87) ⟨rfl, rfl⟩ rfl rfl rfl rfl ?_
                          refine qa_goto (pc' := 90) (tgt := 49) ⟨rfl, rfl⟩ rfl ?_
                          exact ih2 (k + 1) _ ⟨by omega, by omega, by omega, Or.inr ⟨rfl, by rw [if_pos hw.symm] at hs1; exact hs1⟩⟩
                      · rw [if_neg hw]
                        refine qa_if_eq (pc' := 78) (tgt := 82) ⟨rfl, rfl⟩ rfl (by omega) (fun hw9 => ?_) (fun hw9 => ?_)
                        · refine qa_iconst (pc' := 83) ⟨rfl, rfl⟩ ?_
                          refine qa_istore_n (L' := [(0, _), (1, _), (2, _), (3, _), (4, _)]) (pc' := 84) ⟨rfl, rfl⟩ rfl rfl ?_
                          refine qa_iinc (L' := [(0, _), (1, _), (2, _), (3, _), (4, _)]) (z := k + 1) (pc' := 87) ⟨rfl, rfl⟩ rfl rfl rfl rfl ?_
                          refine qa_goto (pc' := 90) (tgt := 49) ⟨rfl, rfl⟩ rfl ?_
                          exact ih2 (k + 1) _ ⟨by omega, by omega, by omega, Or.inl ⟨rfl, by rw [if_neg (fun h => hw h.symm)] at hs1; exact hs1.symm⟩⟩
                        · exact absurd hw9 (by omega)
              exact lq (sm_n m p - p1).toNat p1 1 ⟨by omega, by omega, by omega, Or.inr ⟨rfl, rfl⟩⟩
        exact lp (sm_n m p - 1).toNat 0 ⟨by omega, by omega, rfl⟩
      · refine qa_aload_n (pc' := 28) ⟨rfl, rfl⟩ rfl ?_
        refine qa_iconst (pc' := 29) ⟨rfl, rfl⟩ ?_
        refine qa_callV rfl qf_M_throwing ql_10_60 (c_M_throwing (E := E) (f := (sN_put f 12 0)) (v := 2) hlo hM) hM rfl rfl rfl (qa_lt9 rfl) (qa_le9 rfl) (qa_le9 rfl) (qa_le9 rfl) (fun o9 τ9 hq9 => ?_)
        obtain ⟨rfl, e9, hM, f9⟩ := hq9
        refine qa_nx (pc' := 32) (st' := [_]) rfl rfl rfl rfl ?_
        refine qa_ireturn rfl rfl rfl (hQ _ _ (qa_Mi.mk (k := 2) (w := 0) (by unfold fo_per; rw [if_pos (by omega), if_neg (by omega)]) (fun h => absurd h (by decide)) (e9.trans e0) (by rw [sN_pp] at hM; exact hM) (fun q hq => (f9 q hq).trans (fr q hq))))
    · exact absurd hp99 (by omega)
  · rw [if_neg hp9]
    refine qa_if_ne (pc' := 13) (tgt := 19) ⟨rfl, rfl⟩ rfl (by omega) (fun hp99 => ?_) (fun hp99 => ?_)
    · exact absurd hp99 (by omega)
    · refine qa_aload_n (pc' := 14) ⟨rfl, rfl⟩ rfl ?_
      refine qa_iconst (pc' := 15) ⟨rfl, rfl⟩ ?_
      refine qa_callV rfl qf_M_throwing ql_10_60 (c_M_throwing (E := E) (f := (sN_put f 12 0)) (v := 1) hlo hM) hM rfl rfl rfl (qa_lt9 rfl) (qa_le9 rfl) (qa_le9 rfl) (qa_le9 rfl) (fun o9 τ9 hq9 => ?_)
      obtain ⟨rfl, e9, hM, f9⟩ := hq9
      refine qa_nx (pc' := 18) (st' := [_]) rfl rfl rfl rfl ?_
      refine qa_ireturn rfl rfl rfl (hQ _ _ (qa_Mi.mk (k := 1) (w := 0) (by unfold fo_per; repeat (first | rw [if_pos (by omega)] | rw [if_neg (by omega)])) (fun h => absurd h (by decide)) (e9.trans e0) (by rw [sN_pp] at hM; exact hM) (fun q hq => (f9 q hq).trans (fr q hq))))
theorem c_M_periodByTrying {E : qa_V} {σ : qa_S} {μ : Nat} {f : Nat → Int} {m : Int → Int} {B : Int} {p : Int} (hlo : E.1 ≤ μ) (hM : σ.1 μ = some (qa_MoF μ f)) (hm : σ.1 (μ + 1) = some (qa_ia 146 m)) (hk : sm_ok m B) (hp : qa_in p) : qa_T E qm_M_periodByTrying 0 0 [.ref μ, .int (qa_i p)] σ (qa_Mi σ μ f (fo_per m p (sp_pt (sm_c m p) (sm_n m p) (sm_n m p - 1).toNat 1))) := by
  refine qa_enterQ (by decide) rfl qm_M_periodByTrying_ok rfl rfl (fun Q9 hQ => ?_)
  obtain ⟨k0, k1, k2, k3, k4, k5, k6, k7, k8⟩ := id hk
  have e0 : σ.2 = σ.2 := rfl
  have fr : ∀ q, q ≠ μ → σ.1 q = σ.1 q := fun _ _ => rfl
  refine qa_aload_n (pc' := 1) ⟨rfl, rfl⟩ rfl ?_
  refine qa_iload_n (pc' := 2) ⟨rfl, rfl⟩ rfl ?_
  refine qa_callV rfl qf_M_period ql_10_192 (c_M_period (E := E) hlo hM hm hk hp) hM rfl rfl rfl (qa_lt9 rfl) (qa_le9 rfl) (qa_le9 rfl) (qa_le9 rfl) (fun o9 τ9 hq9 => ?_)
  obtain ⟨⟨v9, rfl, hv9⟩, e9, w9, f9⟩ := hq9
  refine qa_nx (pc' := 5) (st' := [_]) rfl rfl rfl rfl ?_
  refine qa_ireturn rfl rfl rfl (hQ _ _ ⟨⟨v9, rfl, hv9⟩, e9, w9, f9⟩)
theorem c_M_interval {E : qa_V} {σ : qa_S} {μ : Nat} {f : Nat → Int} {m : Int → Int} {B : Int} {p q b : Int} (hlo : E.1 ≤ μ) (hM : σ.1 μ = some (qa_MoF μ f)) (hm : σ.1 (μ + 1) = some (qa_ia 146 m)) (hk : sm_ok m B) (hp : qa_in p) (hq : qa_in q) (hb : b = 0 ∨ b = 1) : qa_T E qm_M_interval 0 0 [.ref μ, .int (qa_i p), .int (qa_i q), .int (qa_i b)] σ (qa_Mi σ μ f (fo_of2 m p q ((if b = 1 then (m (5 + 26 * p) * m (6 + 26 * q)) else (m (6 + 26 * p) * m (5 + 26 * q))) / sp_gd 64 (m (5 + 26 * p) * m (6 + 26 * q)) (m (6 + 26 * p) * m (5 + 26 * q))))) := by
  refine qa_enterQ (by decide) rfl qm_M_interval_ok rfl rfl (fun Q9 hQ => ?_)
  obtain ⟨k0, k1, k2, k3, k4, k5, k6, k7, k8⟩ := id hk
  have e0 : σ.2 = σ.2 := rfl
  have fr : ∀ q, q ≠ μ → σ.1 q = σ.1 q := fun _ _ => rfl
  refine qa_aload_n (pc' := 1) ⟨rfl, rfl⟩ rfl ?_
  refine qa_iconst (pc' := 2) ⟨rfl, rfl⟩ ?_
  refine qa_putf (fs' := [_, _, _, _, _, _, _, _, _, _, _, _, _, _, _, _, _, _, _, _, _, _, _, _, _, _, _]) (pc' := 5) ⟨rfl, rfl⟩ qg_10_51 qw_9 hM (by omega) rfl (fun r hr => by cases hr; exact ⟨rfl, Or.inl rfl⟩) rfl rfl ?_
  refine qa_gz (fun τ1 e1 w1 f1 => ?_)
  replace hm := (f1 _ (by omega)).trans hm
  replace fr := fun q hq => (f1 q (by have := hq; omega)).trans (fr q hq)
  replace e0 := e1.trans e0
  have hM : τ1.1 μ = some (qa_MoF μ (sN_put f 12 0)) := w1
  refine qa_aload_n (pc' := 6) ⟨rfl, rfl⟩ rfl ?_
  refine qa_iload_n (pc' := 7) ⟨rfl, rfl⟩ rfl ?_
  refine qa_callV rfl qf_M_isPart ql_10_111 (c_M_isPart (E := E) hM hm hk (by omega)) hM rfl rfl rfl (qa_lt9 rfl) (qa_le9 rfl) (qa_le9 rfl) (qa_le9 rfl) (fun o9 τ9 hq9 => ?_)
  obtain ⟨rfl, hq9⟩ := hq9
  replace hq9 := hq9.symm; subst hq9
  refine qa_nx (pc' := 10) (st' := [_]) rfl rfl rfl rfl ?_
  by_cases hp9 : 0 ≤ p ∧ p < m 0
  · rw [if_pos hp9]
    refine qa_if_eq (pc' := 13) (tgt := 21) ⟨rfl, rfl⟩ rfl (by omega) (fun hp99 => ?_) (fun hp99 => ?_)
    · exact absurd hp99 (by omega)
    · refine qa_aload_n (pc' := 14) ⟨rfl, rfl⟩ rfl ?_
      refine qa_iload_n (pc' := 15) ⟨rfl, rfl⟩ rfl ?_
      refine qa_callV rfl qf_M_isPart ql_10_111 (c_M_isPart (E := E) hM hm hk (by omega)) hM rfl rfl rfl (qa_lt9 rfl) (qa_le9 rfl) (qa_le9 rfl) (qa_le9 rfl) (fun o9 τ9 hq9 => ?_)
      obtain ⟨rfl, hq9⟩ := hq9
      replace hq9 := hq9.symm; subst hq9
      refine qa_nx (pc' := 18) (st' := [_]) rfl rfl rfl rfl ?_
      by_cases hq9 : 0 ≤ q ∧ q < m 0
      · rw [if_pos hq9]
        refine qa_if_ne (pc' := 21) (tgt := 27) ⟨rfl, rfl⟩ rfl (by omega) (fun hq99 => ?_) (fun hq99 => ?_)
        · have tp := k5 p (by omega) (by omega)
          have tq := k5 q (by omega) (by omega)
          have mt := sp_mb (a := m (5 + 26 * p)) (b := m (6 + 26 * q)) (A := 99) (B := 99) (by omega) (by omega)
          have mb := sp_mb (a := m (6 + 26 * p)) (b := m (5 + 26 * q)) (A := 99) (B := 99) (by omega) (by omega)
          have mt1 : 1 * 1 ≤ m (5 + 26 * p) * m (6 + 26 * q) := Int.mul_le_mul (by omega) (by omega) (by omega) (by omega)
          have mb1 : 1 * 1 ≤ m (6 + 26 * p) * m (5 + 26 * q) := Int.mul_le_mul (by omega) (by omega) (by omega) (by omega)
          obtain ⟨t9, ht9⟩ : ∃ t9, t9 = m (5 + 26 * p) * m (6 + 26 * q) := ⟨_, rfl⟩
          obtain ⟨b9, hb9⟩ : ∃ b9, b9 = m (6 + 26 * p) * m (5 + 26 * q) := ⟨_, rfl⟩
          rw [← ht9, ← hb9] at hQ
          rw [← ht9] at mt mt1
          rw [← hb9] at mb mb1
          have hg := sp_gd_pos (a := t9) (b := b9) (by omega) (by omega)
          refine qa_aload_n (pc' := 28) ⟨rfl, rfl⟩ rfl ?_
          refine qa_getf (pc' := 31) ⟨rfl, rfl⟩ qg_10_9 (by assumption) rfl ?_
          refine qa_iload_n (pc' := 32) ⟨rfl, rfl⟩ rfl ?_
          refine qa_callS rfl qf_M_partAt rfl ql_10_74 (c_M_partAt (E := E)) rfl rfl (qa_lt9 rfl) (qa_le9 rfl) (qa_le9 rfl) (qa_le9 rfl) (fun o9 τ9 hq9 => ?_)
          obtain ⟨rfl, hq9⟩ := hq9
          replace hq9 := hq9.symm; subst hq9
          refine qa_nx (pc' := 35) (st' := [_, _]) rfl rfl rfl rfl ?_
          refine qa_iconst (pc' := 36) ⟨rfl, rfl⟩ ?_
          refine qa_iadd (z := 5 + 26 * p) (pc' := 37) ⟨rfl, rfl⟩ (by omega) ?_
          refine qa_iaload (pc' := 38) ⟨rfl, rfl⟩ (by assumption) (by omega) ?_
          refine qa_aload_n (pc' := 39) ⟨rfl, rfl⟩ rfl ?_
          refine qa_getf (pc' := 42) ⟨rfl, rfl⟩ qg_10_9 (by assumption) rfl ?_
          refine qa_iload_n (pc' := 43) ⟨rfl, rfl⟩ rfl ?_
          refine qa_callS rfl qf_M_partAt rfl ql_10_74 (c_M_partAt (E := E)) rfl rfl (qa_lt9 rfl) (qa_le9 rfl) (qa_le9 rfl) (qa_le9 rfl) (fun o9 τ9 hq9 => ?_)
          obtain ⟨rfl, hq9⟩ := hq9
          replace hq9 := hq9.symm; subst hq9
          refine qa_nx (pc' := 46) (st' := [_, _, _]) rfl rfl rfl rfl ?_
          refine qa_iconst (pc' := 47) ⟨rfl, rfl⟩ ?_
          refine qa_iadd (z := 6 + 26 * q) (pc' := 48) ⟨rfl, rfl⟩ (by omega) ?_
          refine qa_iaload (pc' := 49) ⟨rfl, rfl⟩ (by assumption) (by omega) ?_
          refine qa_imul (z := t9) (pc' := 50) ⟨rfl, rfl⟩ ht9.symm ?_
          refine qa_istore (L' := [(0, _), (1, _), (2, _), (3, _), (4, _)]) (pc' := 52) ⟨rfl, rfl⟩ rfl rfl ?_
          refine qa_aload_n (pc' := 53) ⟨rfl, rfl⟩ rfl ?_
          refine qa_getf (pc' := 56) ⟨rfl, rfl⟩ qg_10_9 (by assumption) rfl ?_
          refine qa_iload_n (pc' := 57) ⟨rfl, rfl⟩ rfl ?_
          refine qa_callS rfl qf_M_partAt rfl ql_10_74 (c_M_partAt (E := E)) rfl rfl (qa_lt9 rfl) (qa_le9 rfl) (qa_le9 rfl) (qa_le9 rfl) (fun o9 τ9 hq9 => ?_)
          obtain ⟨rfl, hq9⟩ := hq9
          replace hq9 := hq9.symm; subst hq9
          refine qa_nx (pc' := 60) (st' := [_, _]) rfl rfl rfl rfl ?_
          refine qa_iconst (pc' := 61) ⟨rfl, rfl⟩ ?_
          refine qa_iadd (z := 6 + 26 * p) (pc' := 62) ⟨rfl, rfl⟩ (by omega) ?_
          refine qa_iaload (pc' := 63) ⟨rfl, rfl⟩ (by assumption) (by omega) ?_
          refine qa_aload_n (pc' := 64) ⟨rfl, rfl⟩ rfl ?_
          refine qa_getf (pc' := 67) ⟨rfl, rfl⟩ qg_10_9 (by assumption) rfl ?_
          refine qa_iload_n (pc' := 68) ⟨rfl, rfl⟩ rfl ?_
          refine qa_callS rfl qf_M_partAt rfl ql_10_74 (c_M_partAt (E := E)) rfl rfl (qa_lt9 rfl) (qa_le9 rfl) (qa_le9 rfl) (qa_le9 rfl) (fun o9 τ9 hq9 => ?_)
          obtain ⟨rfl, hq9⟩ := hq9
          replace hq9 := hq9.symm; subst hq9
          refine qa_nx (pc' := 71) (st' := [_, _, _]) rfl rfl rfl rfl ?_
          refine qa_iconst (pc' := 72) ⟨rfl, rfl⟩ ?_
          refine qa_iadd (z := 5 + 26 * q) (pc' := 73) ⟨rfl, rfl⟩ (by omega) ?_
          refine qa_iaload (pc' := 74) ⟨rfl, rfl⟩ (by assumption) (by omega) ?_
          refine qa_imul (z := b9) (pc' := 75) ⟨rfl, rfl⟩ hb9.symm ?_
          refine qa_istore (L' := [(0, _), (1, _), (2, _), (3, _), (4, _), (5, _)]) (pc' := 77) ⟨rfl, rfl⟩ rfl rfl ?_
          refine qa_iload_n (pc' := 78) ⟨rfl, rfl⟩ rfl ?_
          refine qa_if_eq (pc' := 81) (tgt := 86) ⟨rfl, rfl⟩ rfl (by omega) (fun hb8 => ?_) (fun hb8 => ?_)
          · refine qa_iload (pc' := 88) ⟨rfl, rfl⟩ rfl ?_
            refine qa_iload (pc' := 90) ⟨rfl, rfl⟩ rfl ?_
            refine qa_iload (pc' := 92) ⟨rfl, rfl⟩ rfl ?_
            refine qa_callS rfl qf_M_divisor rfl ql_10_134 (c_M_divisor (E := E) (by omega) (by omega)) rfl rfl (qa_lt9 rfl) (qa_le9 rfl) (qa_le9 rfl) (qa_le9 rfl) (fun o9 τ9 hq9 => ?_)
            obtain ⟨rfl, hq9⟩ := hq9
            replace hq9 := hq9.symm; subst hq9
            refine qa_nx (pc' := 95) (st' := [_, _]) rfl rfl rfl rfl ?_
            refine qa_idiv (pc' := 96) ⟨rfl, rfl⟩ (by omega) (by omega) (by omega) (by omega) rfl ?_
            refine qa_ireturn rfl rfl rfl (hQ _ _ (qa_Mi.mk (k := 0) (by unfold fo_of2; rw [if_pos (by omega), if_neg (by omega)]) (fun _ => rfl) e0 hM fr))
          · refine qa_iload (pc' := 83) ⟨rfl, rfl⟩ rfl ?_
            refine qa_goto (pc' := 86) (tgt := 88) ⟨rfl, rfl⟩ rfl ?_
            refine qa_iload (pc' := 90) ⟨rfl, rfl⟩ rfl ?_
            refine qa_iload (pc' := 92) ⟨rfl, rfl⟩ rfl ?_
            refine qa_callS rfl qf_M_divisor rfl ql_10_134 (c_M_divisor (E := E) (by omega) (by omega)) rfl rfl (qa_lt9 rfl) (qa_le9 rfl) (qa_le9 rfl) (qa_le9 rfl) (fun o9 τ9 hq9 => ?_)
            obtain ⟨rfl, hq9⟩ := hq9
            replace hq9 := hq9.symm; subst hq9
            refine qa_nx (pc' := 95) (st' := [_, _]) rfl rfl rfl rfl ?_
            refine qa_idiv (pc' := 96) ⟨rfl, rfl⟩ (by omega) (by omega) (by omega) (by omega) rfl ?_
            refine qa_ireturn rfl rfl rfl (hQ _ _ (qa_Mi.mk (k := 0) (by unfold fo_of2; rw [if_pos (by omega), if_pos (by omega)]) (fun _ => rfl) e0 hM fr))
        · exact absurd hq99 (by omega)
      · rw [if_neg hq9]
        refine qa_if_ne (pc' := 21) (tgt := 27) ⟨rfl, rfl⟩ rfl (by omega) (fun hq99 => ?_) (fun hq99 => ?_)
        · exact absurd hq99 (by omega)
        · refine qa_aload_n (pc' := 22) ⟨rfl, rfl⟩ rfl ?_
          refine qa_iconst (pc' := 23) ⟨rfl, rfl⟩ ?_
          refine qa_callV rfl qf_M_throwing ql_10_60 (c_M_throwing (E := E) (f := (sN_put f 12 0)) (v := 1) hlo hM) hM rfl rfl rfl (qa_lt9 rfl) (qa_le9 rfl) (qa_le9 rfl) (qa_le9 rfl) (fun o9 τ9 hq9 => ?_)
          obtain ⟨rfl, e9, hM, f9⟩ := hq9
          refine qa_nx (pc' := 26) (st' := [_]) rfl rfl rfl rfl ?_
          refine qa_ireturn rfl rfl rfl (hQ _ _ (qa_Mi.mk (k := 1) (w := 0) (by unfold fo_of2; repeat (first | rw [if_pos (by omega)] | rw [if_neg (by omega)])) (fun h => absurd h (by decide)) (e9.trans e0) (by rw [sN_pp] at hM; exact hM) (fun q hq => (f9 q hq).trans (fr q hq))))
  · rw [if_neg hp9]
    refine qa_if_eq (pc' := 13) (tgt := 21) ⟨rfl, rfl⟩ rfl (by omega) (fun hp99 => ?_) (fun hp99 => ?_)
    · refine qa_aload_n (pc' := 22) ⟨rfl, rfl⟩ rfl ?_
      refine qa_iconst (pc' := 23) ⟨rfl, rfl⟩ ?_
      refine qa_callV rfl qf_M_throwing ql_10_60 (c_M_throwing (E := E) (f := (sN_put f 12 0)) (v := 1) hlo hM) hM rfl rfl rfl (qa_lt9 rfl) (qa_le9 rfl) (qa_le9 rfl) (qa_le9 rfl) (fun o9 τ9 hq9 => ?_)
      obtain ⟨rfl, e9, hM, f9⟩ := hq9
      refine qa_nx (pc' := 26) (st' := [_]) rfl rfl rfl rfl ?_
      refine qa_ireturn rfl rfl rfl (hQ _ _ (qa_Mi.mk (k := 1) (w := 0) (by unfold fo_of2; repeat (first | rw [if_pos (by omega)] | rw [if_neg (by omega)])) (fun h => absurd h (by decide)) (e9.trans e0) (by rw [sN_pp] at hM; exact hM) (fun q hq => (f9 q hq).trans (fr q hq))))
    · exact absurd hp99 (by omega)
theorem c_M_intervalNumerator {E : qa_V} {σ : qa_S} {μ : Nat} {f : Nat → Int} {m : Int → Int} {B : Int} {p q : Int} (hlo : E.1 ≤ μ) (hM : σ.1 μ = some (qa_MoF μ f)) (hm : σ.1 (μ + 1) = some (qa_ia 146 m)) (hk : sm_ok m B) (hp : qa_in p) (hq : qa_in q) : qa_T E qm_M_intervalNumerator 0 0 [.ref μ, .int (qa_i p), .int (qa_i q)] σ (qa_Mi σ μ f (fo_of2 m p q ((if (1 : Int) = 1 then (m (5 + 26 * p) * m (6 + 26 * q)) else (m (6 + 26 * p) * m (5 + 26 * q))) / sp_gd 64 (m (5 + 26 * p) * m (6 + 26 * q)) (m (6 + 26 * p) * m (5 + 26 * q))))) := by
  refine qa_enterQ (by decide) rfl qm_M_intervalNumerator_ok rfl rfl (fun Q9 hQ => ?_)
  obtain ⟨k0, k1, k2, k3, k4, k5, k6, k7, k8⟩ := id hk
  have e0 : σ.2 = σ.2 := rfl
  have fr : ∀ q, q ≠ μ → σ.1 q = σ.1 q := fun _ _ => rfl
  refine qa_aload_n (pc' := 1) ⟨rfl, rfl⟩ rfl ?_
  refine qa_iload_n (pc' := 2) ⟨rfl, rfl⟩ rfl ?_
  refine qa_iload_n (pc' := 3) ⟨rfl, rfl⟩ rfl ?_
  refine qa_iconst (pc' := 4) ⟨rfl, rfl⟩ ?_
  refine qa_callV rfl qf_M_interval ql_10_218 (c_M_interval (E := E) hlo hM hm hk hp hq (Or.inr rfl)) hM rfl rfl rfl (qa_lt9 rfl) (qa_le9 rfl) (qa_le9 rfl) (qa_le9 rfl) (fun o9 τ9 hq9 => ?_)
  obtain ⟨⟨v9, rfl, hv9⟩, e9, w9, f9⟩ := hq9
  refine qa_nx (pc' := 7) (st' := [_]) rfl rfl rfl rfl ?_
  refine qa_ireturn rfl rfl rfl (hQ _ _ ⟨⟨v9, rfl, hv9⟩, e9, w9, f9⟩)
theorem c_M_intervalDenominator {E : qa_V} {σ : qa_S} {μ : Nat} {f : Nat → Int} {m : Int → Int} {B : Int} {p q : Int} (hlo : E.1 ≤ μ) (hM : σ.1 μ = some (qa_MoF μ f)) (hm : σ.1 (μ + 1) = some (qa_ia 146 m)) (hk : sm_ok m B) (hp : qa_in p) (hq : qa_in q) : qa_T E qm_M_intervalDenominator 0 0 [.ref μ, .int (qa_i p), .int (qa_i q)] σ (qa_Mi σ μ f (fo_of2 m p q ((if (0 : Int) = 1 then (m (5 + 26 * p) * m (6 + 26 * q)) else (m (6 + 26 * p) * m (5 + 26 * q))) / sp_gd 64 (m (5 + 26 * p) * m (6 + 26 * q)) (m (6 + 26 * p) * m (5 + 26 * q))))) := by
  refine qa_enterQ (by decide) rfl qm_M_intervalDenominator_ok rfl rfl (fun Q9 hQ => ?_)
  obtain ⟨k0, k1, k2, k3, k4, k5, k6, k7, k8⟩ := id hk
  have e0 : σ.2 = σ.2 := rfl
  have fr : ∀ q, q ≠ μ → σ.1 q = σ.1 q := fun _ _ => rfl
  refine qa_aload_n (pc' := 1) ⟨rfl, rfl⟩ rfl ?_
  refine qa_iload_n (pc' := 2) ⟨rfl, rfl⟩ rfl ?_
  refine qa_iload_n (pc' := 3) ⟨rfl, rfl⟩ rfl ?_
  refine qa_iconst (pc' := 4) ⟨rfl, rfl⟩ ?_
  refine qa_callV rfl qf_M_interval ql_10_218 (c_M_interval (E := E) hlo hM hm hk hp hq (Or.inl rfl)) hM rfl rfl rfl (qa_lt9 rfl) (qa_le9 rfl) (qa_le9 rfl) (qa_le9 rfl) (fun o9 τ9 hq9 => ?_)
  obtain ⟨⟨v9, rfl, hv9⟩, e9, w9, f9⟩ := hq9
  refine qa_nx (pc' := 7) (st' := [_]) rfl rfl rfl rfl ?_
  refine qa_ireturn rfl rfl rfl (hQ _ _ ⟨⟨v9, rfl, hv9⟩, e9, w9, f9⟩)
theorem c_M_isAhead {E : qa_V} {σ : qa_S} {μ : Nat} {f : Nat → Int} {m : Int → Int} {B : Int} {p q : Int} (hM : σ.1 μ = some (qa_MoF μ f)) (hm : σ.1 (μ + 1) = some (qa_ia 146 m)) (hk : sm_ok m B) (hp : 0 ≤ p ∧ p < m 0) (hq : 0 ≤ q ∧ q < m 0) : qa_T E qm_M_isAhead 0 0 [.ref μ, .int (qa_i p), .int (qa_i q)] σ (fun o9 τ => o9 = .inl (some (.int (qa_i (so_ah m p q)))) ∧ τ = σ) := by
  refine qa_enterQ (by decide) rfl qm_M_isAhead_ok rfl rfl (fun Q9 hQ => ?_)
  obtain ⟨k0, k1, k2, k3, k4, k5, k6, k7, k8⟩ := id hk
  have tp := k5 p (by omega) (by omega)
  have tq := k5 q (by omega) (by omega)
  have kp := k4 p (by omega) (by omega)
  have kq := k4 q (by omega) (by omega)
  have np := kp.1
  have nq := kq.1
  have wp := sm_wh_b kp
  have wq := sm_wh_b kq
  have m1 := sp_mb (a := m (5 + 26 * p)) (b := m (6 + 26 * q)) (A := 99) (B := 99) (by omega) (by omega)
  have m2 := sp_mb (a := m (5 + 26 * q)) (b := m (6 + 26 * p)) (A := 99) (B := 99) (by omega) (by omega)
  obtain ⟨x9, hx9⟩ : ∃ x9, x9 = m (5 + 26 * p) * m (6 + 26 * q) := ⟨_, rfl⟩
  obtain ⟨y9, hy9⟩ : ∃ y9, y9 = m (5 + 26 * q) * m (6 + 26 * p) := ⟨_, rfl⟩
  rw [← hx9] at m1
  rw [← hy9] at m2
  have es : so_ah m p q = if x9 = y9 then (if sm_wh m p = sm_wh m q then (if p < q then 1 else 0) else if sm_wh m q < sm_wh m p then 1 else 0) else if y9 < x9 then 1 else 0 := by rw [hx9, hy9]; rfl
  rw [es] at hQ
  refine qa_aload_n (pc' := 1) ⟨rfl, rfl⟩ rfl ?_
  refine qa_getf (pc' := 4) ⟨rfl, rfl⟩ qg_10_9 (by assumption) rfl ?_
  refine qa_iload_n (pc' := 5) ⟨rfl, rfl⟩ rfl ?_
  refine qa_callS rfl qf_M_partAt rfl ql_10_74 (c_M_partAt (E := E)) rfl rfl (qa_lt9 rfl) (qa_le9 rfl) (qa_le9 rfl) (qa_le9 rfl) (fun o9 τ9 hq9 => ?_)
  obtain ⟨rfl, hq9⟩ := hq9
  replace hq9 := hq9.symm; subst hq9
  refine qa_nx (pc' := 8) (st' := [_, _]) rfl rfl rfl rfl ?_
  refine qa_iconst (pc' := 9) ⟨rfl, rfl⟩ ?_
  refine qa_iadd (z := 5 + 26 * p) (pc' := 10) ⟨rfl, rfl⟩ (by omega) ?_
  refine qa_iaload (pc' := 11) ⟨rfl, rfl⟩ (by assumption) (by omega) ?_
  refine qa_aload_n (pc' := 12) ⟨rfl, rfl⟩ rfl ?_
  refine qa_getf (pc' := 15) ⟨rfl, rfl⟩ qg_10_9 (by assumption) rfl ?_
  refine qa_iload_n (pc' := 16) ⟨rfl, rfl⟩ rfl ?_
  refine qa_callS rfl qf_M_partAt rfl ql_10_74 (c_M_partAt (E := E)) rfl rfl (qa_lt9 rfl) (qa_le9 rfl) (qa_le9 rfl) (qa_le9 rfl) (fun o9 τ9 hq9 => ?_)
  obtain ⟨rfl, hq9⟩ := hq9
  replace hq9 := hq9.symm; subst hq9
  refine qa_nx (pc' := 19) (st' := [_, _, _]) rfl rfl rfl rfl ?_
  refine qa_iconst (pc' := 20) ⟨rfl, rfl⟩ ?_
  refine qa_iadd (z := 6 + 26 * q) (pc' := 21) ⟨rfl, rfl⟩ (by omega) ?_
  refine qa_iaload (pc' := 22) ⟨rfl, rfl⟩ (by assumption) (by omega) ?_
  refine qa_imul (z := x9) (pc' := 23) ⟨rfl, rfl⟩ hx9.symm ?_
  refine qa_aload_n (pc' := 24) ⟨rfl, rfl⟩ rfl ?_
  refine qa_getf (pc' := 27) ⟨rfl, rfl⟩ qg_10_9 (by assumption) rfl ?_
  refine qa_iload_n (pc' := 28) ⟨rfl, rfl⟩ rfl ?_
  refine qa_callS rfl qf_M_partAt rfl ql_10_74 (c_M_partAt (E := E)) rfl rfl (qa_lt9 rfl) (qa_le9 rfl) (qa_le9 rfl) (qa_le9 rfl) (fun o9 τ9 hq9 => ?_)
  obtain ⟨rfl, hq9⟩ := hq9
  replace hq9 := hq9.symm; subst hq9
  refine qa_nx (pc' := 31) (st' := [_, _, _]) rfl rfl rfl rfl ?_
  refine qa_iconst (pc' := 32) ⟨rfl, rfl⟩ ?_
  refine qa_iadd (z := 5 + 26 * q) (pc' := 33) ⟨rfl, rfl⟩ (by omega) ?_
  refine qa_iaload (pc' := 34) ⟨rfl, rfl⟩ (by assumption) (by omega) ?_
  refine qa_aload_n (pc' := 35) ⟨rfl, rfl⟩ rfl ?_
  refine qa_getf (pc' := 38) ⟨rfl, rfl⟩ qg_10_9 (by assumption) rfl ?_
  refine qa_iload_n (pc' := 39) ⟨rfl, rfl⟩ rfl ?_
  refine qa_callS rfl qf_M_partAt rfl ql_10_74 (c_M_partAt (E := E)) rfl rfl (qa_lt9 rfl) (qa_le9 rfl) (qa_le9 rfl) (qa_le9 rfl) (fun o9 τ9 hq9 => ?_)
  obtain ⟨rfl, hq9⟩ := hq9
  replace hq9 := hq9.symm; subst hq9
  refine qa_nx (pc' := 42) (st' := [_, _, _, _]) rfl rfl rfl rfl ?_
  refine qa_iconst (pc' := 43) ⟨rfl, rfl⟩ ?_
  refine qa_iadd (z := 6 + 26 * p) (pc' := 44) ⟨rfl, rfl⟩ (by omega) ?_
  refine qa_iaload (pc' := 45) ⟨rfl, rfl⟩ (by assumption) (by omega) ?_
  refine qa_imul (z := y9) (pc' := 46) ⟨rfl, rfl⟩ hy9.symm ?_
  refine qa_isub (pc' := 47) ⟨rfl, rfl⟩ rfl ?_
  refine qa_istore_n (L' := [(0, _), (1, _), (2, _), (3, _)]) (pc' := 48) ⟨rfl, rfl⟩ rfl rfl ?_
  refine qa_iload_n (pc' := 49) ⟨rfl, rfl⟩ rfl ?_
  refine qa_if_ne (pc' := 52) (tgt := 66) ⟨rfl, rfl⟩ rfl (by omega) (fun hc1 => ?_) (fun hc1 => ?_)
  · refine qa_iload_n (pc' := 67) ⟨rfl, rfl⟩ rfl ?_
    refine qa_istore_n (L' := [(0, _), (1, _), (2, _), (3, _)]) (pc' := 68) ⟨rfl, rfl⟩ rfl rfl ?_
    refine qa_iload_n (pc' := 69) ⟨rfl, rfl⟩ rfl ?_
    refine qa_if_gt (pc' := 72) (tgt := 81) ⟨rfl, rfl⟩ rfl (by omega) (fun hc5 => ?_) (fun hc5 => ?_)
    · refine qa_iconst (pc' := 82) ⟨rfl, rfl⟩ ?_
      refine qa_goto (pc' := 85) (tgt := 86) ⟨rfl, rfl⟩ rfl ?_
      refine qa_ireturn rfl rfl rfl (hQ _ _ ⟨by first | (exfalso; omega) | rfl | (repeat (first | rw [if_pos (by omega)] | rw [if_neg (by omega)])), rfl⟩)
    · refine qa_iload_n (pc' := 73) ⟨rfl, rfl⟩ rfl ?_
      refine qa_if_ne (pc' := 76) (tgt := 85) ⟨rfl, rfl⟩ rfl (by omega) (fun hc6 => ?_) (fun hc6 => ?_)
      · refine qa_iconst (pc' := 86) ⟨rfl, rfl⟩ ?_
        refine qa_ireturn rfl rfl rfl (hQ _ _ ⟨by first | (exfalso; omega) | rfl | (repeat (first | rw [if_pos (by omega)] | rw [if_neg (by omega)])), rfl⟩)
      · refine qa_iload_n (pc' := 77) ⟨rfl, rfl⟩ rfl ?_
        refine qa_iload_n (pc' := 78) ⟨rfl, rfl⟩ rfl ?_
        refine qa_icmp_ge (pc' := 81) (tgt := 85) ⟨rfl, rfl⟩ rfl (by omega) (by omega) (fun hc7 => ?_) (fun hc7 => ?_)
        · refine qa_iconst (pc' := 86) ⟨rfl, rfl⟩ ?_
          refine qa_ireturn rfl rfl rfl (hQ _ _ ⟨by first | (exfalso; omega) | rfl | (repeat (first | rw [if_pos (by omega)] | rw [if_neg (by omega)])), rfl⟩)
        · refine qa_iconst (pc' := 82) ⟨rfl, rfl⟩ ?_
          refine qa_goto (pc' := 85) (tgt := 86) ⟨rfl, rfl⟩ rfl ?_
          refine qa_ireturn rfl rfl rfl (hQ _ _ ⟨by first | (exfalso; omega) | rfl | (repeat (first | rw [if_pos (by omega)] | rw [if_neg (by omega)])), rfl⟩)
  · refine qa_aload_n (pc' := 53) ⟨rfl, rfl⟩ rfl ?_
    refine qa_iload_n (pc' := 54) ⟨rfl, rfl⟩ rfl ?_
    refine qa_callV rfl qf_M_whole ql_10_84 (c_M_whole (E := E) hM hm hk ⟨by omega, by omega⟩) hM rfl rfl rfl (qa_lt9 rfl) (qa_le9 rfl) (qa_le9 rfl) (qa_le9 rfl) (fun o9 τ9 hq9 => ?_)
    obtain ⟨rfl, hq9⟩ := hq9
    replace hq9 := hq9.symm; subst hq9
    refine qa_nx (pc' := 57) (st' := [_]) rfl rfl rfl rfl ?_
    refine qa_aload_n (pc' := 58) ⟨rfl, rfl⟩ rfl ?_
    refine qa_iload_n (pc' := 59) ⟨rfl, rfl⟩ rfl ?_
    refine qa_callV rfl qf_M_whole ql_10_84 (c_M_whole (E := E) hM hm hk ⟨by omega, by omega⟩) hM rfl rfl rfl (qa_lt9 rfl) (qa_le9 rfl) (qa_le9 rfl) (qa_le9 rfl) (fun o9 τ9 hq9 => ?_)
    obtain ⟨rfl, hq9⟩ := hq9
    replace hq9 := hq9.symm; subst hq9
    refine qa_nx (pc' := 62) (st' := [_, _]) rfl rfl rfl rfl ?_
    refine qa_isub (pc' := 63) ⟨rfl, rfl⟩ rfl ?_
    refine qa_goto (pc' := 66) (tgt := 67) ⟨rfl, rfl⟩ rfl ?_
    refine qa_istore_n (L' := [(0, _), (1, _), (2, _), (3, _)]) (pc' := 68) ⟨rfl, rfl⟩ rfl rfl ?_
    refine qa_iload_n (pc' := 69) ⟨rfl, rfl⟩ rfl ?_
    refine qa_if_gt (pc' := 72) (tgt := 81) ⟨rfl, rfl⟩ rfl (by omega) (fun hc5 => ?_) (fun hc5 => ?_)
    · refine qa_iconst (pc' := 82) ⟨rfl, rfl⟩ ?_
      refine qa_goto (pc' := 85) (tgt := 86) ⟨rfl, rfl⟩ rfl ?_
      refine qa_ireturn rfl rfl rfl (hQ _ _ ⟨by first | (exfalso; omega) | rfl | (repeat (first | rw [if_pos (by omega)] | rw [if_neg (by omega)])), rfl⟩)
    · refine qa_iload_n (pc' := 73) ⟨rfl, rfl⟩ rfl ?_
      refine qa_if_ne (pc' := 76) (tgt := 85) ⟨rfl, rfl⟩ rfl (by omega) (fun hc6 => ?_) (fun hc6 => ?_)
      · refine qa_iconst (pc' := 86) ⟨rfl, rfl⟩ ?_
        refine qa_ireturn rfl rfl rfl (hQ _ _ ⟨by first | (exfalso; omega) | rfl | (repeat (first | rw [if_pos (by omega)] | rw [if_neg (by omega)])), rfl⟩)
      · refine qa_iload_n (pc' := 77) ⟨rfl, rfl⟩ rfl ?_
        refine qa_iload_n (pc' := 78) ⟨rfl, rfl⟩ rfl ?_
        refine qa_icmp_ge (pc' := 81) (tgt := 85) ⟨rfl, rfl⟩ rfl (by omega) (by omega) (fun hc7 => ?_) (fun hc7 => ?_)
        · refine qa_iconst (pc' := 86) ⟨rfl, rfl⟩ ?_
          refine qa_ireturn rfl rfl rfl (hQ _ _ ⟨by first | (exfalso; omega) | rfl | (repeat (first | rw [if_pos (by omega)] | rw [if_neg (by omega)])), rfl⟩)
        · refine qa_iconst (pc' := 82) ⟨rfl, rfl⟩ ?_
          refine qa_goto (pc' := 85) (tgt := 86) ⟨rfl, rfl⟩ rfl ?_
          refine qa_ireturn rfl rfl rfl (hQ _ _ ⟨by first | (exfalso; omega) | rfl | (repeat (first | rw [if_pos (by omega)] | rw [if_neg (by omega)])), rfl⟩)
theorem so_ah_s (m : Int → Int) (k : Int) : so_ah m k k = 0 := by
  unfold so_ah
  rw [if_pos rfl, if_pos rfl, if_neg (by omega)]
theorem c_M_partByTuning {E : qa_V} {σ : qa_S} {μ : Nat} {f : Nat → Int} {m : Int → Int} {B : Int} {x : Int} (hlo : E.1 ≤ μ) (hM : σ.1 μ = some (qa_MoF μ f)) (hm : σ.1 (μ + 1) = some (qa_ia 146 m)) (hk : sm_ok m B) (hx : qa_in x) : qa_T E qm_M_partByTuning 0 0 [.ref μ, .int (qa_i x)] σ (qa_Mi σ μ f (fo_found (so_at m x (m 0).toNat 0))) := by
  refine qa_enterQ (by decide) rfl qm_M_partByTuning_ok rfl rfl (fun Q9 hQ => ?_)
  obtain ⟨k0, k1, k2, k3, k4, k5, k6, k7, k8⟩ := id hk
  have e0 : σ.2 = σ.2 := rfl
  have fr : ∀ q, q ≠ μ → σ.1 q = σ.1 q := fun _ _ => rfl
  refine qa_aload_n (pc' := 1) ⟨rfl, rfl⟩ rfl ?_
  refine qa_iconst (pc' := 2) ⟨rfl, rfl⟩ ?_
  refine qa_putf (fs' := [_, _, _, _, _, _, _, _, _, _, _, _, _, _, _, _, _, _, _, _, _, _, _, _, _, _, _]) (pc' := 5) ⟨rfl, rfl⟩ qg_10_51 qw_9 hM (by omega) rfl (fun r hr => by cases hr; exact ⟨rfl, Or.inl rfl⟩) rfl rfl ?_
  refine qa_gz (fun τ1 e1 w1 f1 => ?_)
  replace hm := (f1 _ (by omega)).trans hm
  replace fr := fun q hq => (f1 q (by have := hq; omega)).trans (fr q hq)
  replace e0 := e1.trans e0
  have hM : τ1.1 μ = some (qa_MoF μ (sN_put f 12 0)) := w1
  refine qa_iconst (pc' := 6) ⟨rfl, rfl⟩ ?_
  refine qa_istore_n (L' := [(0, _), (1, _), (2, _)]) (pc' := 7) ⟨rfl, rfl⟩ rfl rfl ?_
  have lp : ∀ (f9 : Nat) (k : Int), (k + f9 = m 0 ∧ 0 ≤ k ∧ so_at m x f9 k = so_at m x (m 0).toNat 0) → qa_W E qm_M_partByTuning Q9 0 0 7 [(0, .ref μ), (1, .int (qa_i x)), (2, .int (qa_i k))] [] τ1 := by
    intro f9
    induction f9 with
    | zero =>
      intro k ⟨hkf, hk0, hr⟩
      refine qa_iload_n (pc' := 8) ⟨rfl, rfl⟩ rfl ?_
      refine qa_aload_n (pc' := 9) ⟨rfl, rfl⟩ rfl ?_
      refine qa_getf (pc' := 12) ⟨rfl, rfl⟩ qg_10_9 (by assumption) rfl ?_
      refine qa_iconst (pc' := 13) ⟨rfl, rfl⟩ ?_
      refine qa_iaload (pc' := 14) ⟨rfl, rfl⟩ (by assumption) (by omega) ?_
      refine qa_icmp_ge (pc' := 17) (tgt := 70) ⟨rfl, rfl⟩ rfl (by omega) (by omega) (fun hc1 => ?_) (fun hc1 => ?_)
      · refine qa_aload_n (pc' := 71) ⟨rfl, rfl⟩ rfl ?_
        refine qa_iconst (pc' := 72) ⟨rfl, rfl⟩ ?_
        refine qa_callV rfl qf_M_throwing ql_10_60 (c_M_throwing (E := E) (f := (sN_put f 12 0)) (v := 1) hlo hM) hM rfl rfl rfl (qa_lt9 rfl) (qa_le9 rfl) (qa_le9 rfl) (qa_le9 rfl) (fun o9 τ9 hq9 => ?_)
        obtain ⟨rfl, e9, hM, f9⟩ := hq9
        refine qa_nx (pc' := 75) (st' := [_]) rfl rfl rfl rfl ?_
        refine qa_ireturn rfl rfl rfl (hQ _ _ (qa_Mi.mk (k := 1) (w := 0) (by unfold fo_found; rw [if_pos]; rw [← hr]; rfl) (fun h => absurd h (by decide)) (e9.trans e0) (by rw [sN_pp] at hM; exact hM) (fun q hq => (f9 q hq).trans (fr q hq))))
      · exact absurd hc1 (by omega)
    | succ f9 ih =>
      intro k ⟨hkf, hk0, hr⟩
      refine qa_iload_n (pc' := 8) ⟨rfl, rfl⟩ rfl ?_
      refine qa_aload_n (pc' := 9) ⟨rfl, rfl⟩ rfl ?_
      refine qa_getf (pc' := 12) ⟨rfl, rfl⟩ qg_10_9 (by assumption) rfl ?_
      refine qa_iconst (pc' := 13) ⟨rfl, rfl⟩ ?_
      refine qa_iaload (pc' := 14) ⟨rfl, rfl⟩ (by assumption) (by omega) ?_
      refine qa_icmp_ge (pc' := 17) (tgt := 70) ⟨rfl, rfl⟩ rfl (by omega) (by omega) (fun hc1 => ?_) (fun hc1 => ?_)
      · exact absurd hc1 (by omega)
      · refine qa_iconst (pc' := 18) ⟨rfl, rfl⟩ ?_
        refine qa_istore_n (L' := [(0, _), (1, _), (2, _), (3, _)]) (pc' := 19) ⟨rfl, rfl⟩ rfl rfl ?_
        refine qa_iconst (pc' := 20) ⟨rfl, rfl⟩ ?_
        refine qa_istore (L' := [(0, _), (1, _), (2, _), (3, _), (4, _)]) (pc' := 22) ⟨rfl, rfl⟩ rfl rfl ?_
        have lq : ∀ (f2 : Nat) (j : Nat) (r : Int), (j : Int) + f2 = m 0 ∧ r = so_an m k j → qa_W E qm_M_partByTuning Q9 0 0 22 [(0, .ref μ), (1, .int (qa_i x)), (2, .int (qa_i k)), (3, .int (qa_i r)), (4, .int (qa_i j))] [] τ1 := by
          intro f2
          induction f2 with
          | zero =>
            intro j r ⟨hj, hrj⟩
            have hb := so_an_b m k j
            refine qa_iload (pc' := 24) ⟨rfl, rfl⟩ rfl ?_
            refine qa_aload_n (pc' := 25) ⟨rfl, rfl⟩ rfl ?_
            refine qa_getf (pc' := 28) ⟨rfl, rfl⟩ qg_10_9 (by assumption) rfl ?_
            refine qa_iconst (pc' := 29) ⟨rfl, rfl⟩ ?_
            refine qa_iaload (pc' := 30) ⟨rfl, rfl⟩ (by assumption) (by omega) ?_
            refine qa_icmp_ge (pc' := 33) (tgt := 57) ⟨rfl, rfl⟩ rfl (by omega) (by omega) (fun hc2 => ?_) (fun hc2 => ?_)
            · have ej : (m 0).toNat = j := by omega
              rw [so_at_s] at hr
              refine qa_iload_n (pc' := 58) ⟨rfl, rfl⟩ rfl ?_
              refine qa_iload_n (pc' := 59) ⟨rfl, rfl⟩ rfl ?_
              refine qa_icmp_ne (pc' := 62) (tgt := 64) ⟨rfl, rfl⟩ rfl (by omega) (by omega) (fun hc3 => ?_) (fun hc3 => ?_)
              · refine qa_iinc (L' := [(0, _), (1, _), (2, _), (3, _), (4, _)]) (z := k + 1) (pc' := 67) ⟨rfl, rfl⟩ rfl rfl rfl rfl ?_
                refine qa_goto (pc' := 70) (tgt := 7) ⟨rfl, rfl⟩ rfl ?_
                refine qa_sub (ks' := [0, 1, 2]) (L' := [(0, _), (1, _), (2, _)]) rfl ?_
                rw [if_neg (by rw [ej]; omega)] at hr
                exact ih (k + 1) ⟨by omega, by omega, hr⟩
              · have h9 : so_at m x (m 0).toNat 0 = k := by rw [← hr, if_pos (by rw [ej]; omega)]
                refine qa_iload_n (pc' := 63) ⟨rfl, rfl⟩ rfl ?_
                refine qa_ireturn rfl rfl rfl (hQ _ _ (qa_Mi.mk (k := 0) (by unfold fo_found; rw [h9, if_neg (by omega)]) (fun _ => rfl) e0 hM fr))
            · exact absurd hc2 (by omega)
          | succ f2 ih2 =>
            intro j r ⟨hj, hrj⟩
            have hb := so_an_b m k j
            refine qa_iload (pc' := 24) ⟨rfl, rfl⟩ rfl ?_
            refine qa_aload_n (pc' := 25) ⟨rfl, rfl⟩ rfl ?_
            refine qa_getf (pc' := 28) ⟨rfl, rfl⟩ qg_10_9 (by assumption) rfl ?_
            refine qa_iconst (pc' := 29) ⟨rfl, rfl⟩ ?_
            refine qa_iaload (pc' := 30) ⟨rfl, rfl⟩ (by assumption) (by omega) ?_
            refine qa_icmp_ge (pc' := 33) (tgt := 57) ⟨rfl, rfl⟩ rfl (by omega) (by omega) (fun hc2 => ?_) (fun hc2 => ?_)
            · exact absurd hc2 (by omega)
            · refine qa_iload_n (pc' := 34) ⟨rfl, rfl⟩ rfl ?_
              refine qa_aload_n (pc' := 35) ⟨rfl, rfl⟩ rfl ?_
              refine qa_iload (pc' := 37) ⟨rfl, rfl⟩ rfl ?_
              refine qa_iload_n (pc' := 38) ⟨rfl, rfl⟩ rfl ?_
              refine qa_callV rfl qf_M_isAhead ql_10_222 (c_M_isAhead (E := E) hM hm hk ⟨by omega, by omega⟩ ⟨by omega, by omega⟩) hM rfl rfl rfl (qa_lt9 rfl) (qa_le9 rfl) (qa_le9 rfl) (qa_le9 rfl) (fun o9 τ9 hq9 => ?_)
              obtain ⟨rfl, hq9⟩ := hq9
              replace hq9 := hq9.symm; subst hq9
              refine qa_nx (pc' := 41) (st' := [_, _]) rfl rfl rfl rfl ?_
              have ab := so_ah_b m j k
              have e2 : so_an m k (j + 1) = so_an m k j + so_ah m j k := by
                show so_an m k j + (if (j : Int) = k then 0 else so_ah m j k) = _
                by_cases hjk : (j : Int) = k
                · rw [if_pos hjk, hjk, so_ah_s]
                · rw [if_neg hjk]
              refine qa_if_eq (pc' := 44) (tgt := 48) ⟨rfl, rfl⟩ rfl (by omega) (fun hc3 => ?_) (fun hc3 => ?_)
              · refine qa_iconst (pc' := 49) ⟨rfl, rfl⟩ ?_
                refine qa_iadd (pc' := 50) ⟨rfl, rfl⟩ rfl ?_
                refine qa_istore_n (L' := [(0, _), (1, _), (2, _), (3, _), (4, _)]) (pc' := 51) ⟨rfl, rfl⟩ rfl rfl ?_
                refine qa_iinc (L' := [(0, _), (1, _), (2, _), (3, _), (4, _)]) (z := ((j + 1 : Nat) : Int)) (pc' := 54) ⟨rfl, rfl⟩ rfl (by omega) rfl rfl ?_
                refine qa_goto (pc' := 57) (tgt := 22) ⟨rfl, rfl⟩ rfl ?_
                exact ih2 (j + 1) _ ⟨by omega, by omega⟩
              · refine qa_iconst (pc' := 45) ⟨rfl, rfl⟩ ?_
                refine qa_goto (pc' := 48) (tgt := 49) ⟨rfl, rfl⟩ rfl ?_
                refine qa_iadd (pc' := 50) ⟨rfl, rfl⟩ rfl ?_
                refine qa_istore_n (L' := [(0, _), (1, _), (2, _), (3, _), (4, _)]) (pc' := 51) ⟨rfl, rfl⟩ rfl rfl ?_
                refine qa_iinc (L' := [(0, _), (1, _), (2, _), (3, _), (4, _)]) (z := ((j + 1 : Nat) : Int)) (pc' := 54) ⟨rfl, rfl⟩ rfl (by omega) rfl rfl ?_
                refine qa_goto (pc' := 57) (tgt := 22) ⟨rfl, rfl⟩ rfl ?_
                exact ih2 (j + 1) _ ⟨by omega, by omega⟩
        exact lq (m 0).toNat 0 0 ⟨by omega, rfl⟩
  exact lp (m 0).toNat 0 ⟨by omega, by omega, rfl⟩
theorem c_M_cueOf {E : qa_V} {σ : qa_S} {μ : Nat} {f : Nat → Int} {m : Int → Int} {B : Int} {p : Int} (hlo : E.1 ≤ μ) (hM : σ.1 μ = some (qa_MoF μ f)) (hm : σ.1 (μ + 1) = some (qa_ia 146 m)) (hk : sm_ok m B) (hp : qa_in p) : qa_T E qm_M_cueOf 0 0 [.ref μ, .int (qa_i p)] σ (qa_Mi σ μ f (fo_foundP m p (m (7 + 26 * p)))) := by
  refine qa_enterQ (by decide) rfl qm_M_cueOf_ok rfl rfl (fun Q9 hQ => ?_)
  obtain ⟨k0, k1, k2, k3, k4, k5, k6, k7, k8⟩ := id hk
  have e0 : σ.2 = σ.2 := rfl
  have fr : ∀ q, q ≠ μ → σ.1 q = σ.1 q := fun _ _ => rfl
  refine qa_aload_n (pc' := 1) ⟨rfl, rfl⟩ rfl ?_
  refine qa_iload_n (pc' := 2) ⟨rfl, rfl⟩ rfl ?_
  refine qa_iconst (pc' := 3) ⟨rfl, rfl⟩ ?_
  refine qa_callV rfl qf_M_ofPart ql_10_175 (c_M_ofPart (E := E) hlo hM hm hk hp (w := 3) (by omega)) hM rfl rfl rfl (qa_lt9 rfl) (qa_le9 rfl) (qa_le9 rfl) (qa_le9 rfl) (fun o9 τ9 hq9 => ?_)
  obtain ⟨⟨v9, rfl, hv9⟩, e0, hM9, fr⟩ := hq9
  refine qa_nx (pc' := 6) (st' := [_]) rfl rfl rfl rfl ?_
  rw [show 4 + 26 * p + 3 = 7 + 26 * p by omega] at hv9 hM9
  by_cases hw : sm_is m p
  · have e1 : fo_of m p (m (7 + 26 * p)) = (0, m (7 + 26 * p)) := by unfold fo_of; rw [if_pos hw]
    rw [e1] at hv9 hM9
    have e2 : v9 = m (7 + 26 * p) := hv9 rfl
    subst e2
    have hM : τ9.1 μ = some (qa_MoF μ (sN_put f 12 0)) := hM9
    have hz9 : sN_put f 12 0 12 = 0 := rfl
    have cb := k5 p hw.1 hw.2
    refine qa_istore_n (L' := [(0, _), (1, _), (2, _)]) (pc' := 7) ⟨rfl, rfl⟩ rfl rfl ?_
    refine qa_aload_n (pc' := 8) ⟨rfl, rfl⟩ rfl ?_
    refine qa_getf (pc' := 11) ⟨rfl, rfl⟩ qg_10_51 (by assumption) rfl ?_
    refine qa_if_ne (pc' := 14) (tgt := 27) ⟨rfl, rfl⟩ rfl (by omega) (fun hz => ?_) (fun hz => ?_)
    · exact absurd hz (by omega)
    · refine qa_iload_n (pc' := 15) ⟨rfl, rfl⟩ rfl ?_
      refine qa_iconst (pc' := 16) ⟨rfl, rfl⟩ ?_
      refine qa_icmp_ne (pc' := 19) (tgt := 27) ⟨rfl, rfl⟩ rfl (by omega) (by omega) (fun hc2 => ?_) (fun hc2 => ?_)
      · refine qa_iload_n (pc' := 28) ⟨rfl, rfl⟩ rfl ?_
        refine qa_ireturn rfl rfl rfl (hQ _ _ (qa_Mi.mk (k := 0) (by unfold fo_foundP; rw [if_pos hw, if_neg (by omega)]) (fun _ => rfl) e0 hM fr))
      · refine qa_aload_n (pc' := 20) ⟨rfl, rfl⟩ rfl ?_
        refine qa_iconst (pc' := 21) ⟨rfl, rfl⟩ ?_
        refine qa_callV rfl qf_M_throwing ql_10_60 (c_M_throwing (E := E) (f := (sN_put f 12 0)) (v := 2) hlo hM) hM rfl rfl rfl (qa_lt9 rfl) (qa_le9 rfl) (qa_le9 rfl) (qa_le9 rfl) (fun o9 τ9 hq9 => ?_)
        obtain ⟨rfl, e9, hM, f9⟩ := hq9
        refine qa_nx (pc' := 24) (st' := [_]) rfl rfl rfl rfl ?_
        refine qa_goto (pc' := 27) (tgt := 28) ⟨rfl, rfl⟩ rfl ?_
        refine qa_ireturn rfl rfl rfl (hQ _ _ (qa_Mi.mk (k := 2) (w := 0) (by unfold fo_foundP; rw [if_pos hw, if_pos (by omega)]) (fun h => absurd h (by decide)) (e9.trans e0) (by rw [sN_pp] at hM; exact hM) (fun q hq => (f9 q hq).trans (fr q hq))))
  · have e1 : fo_of m p (m (7 + 26 * p)) = (1, 0) := by unfold fo_of; rw [if_neg hw]
    rw [e1] at hM9
    have hM : τ9.1 μ = some (qa_MoF μ (sN_put f 12 1)) := hM9
    have hz9 : sN_put f 12 1 12 = 1 := rfl
    refine qa_istore_n (L' := [(0, _), (1, _), (2, _)]) (pc' := 7) ⟨rfl, rfl⟩ rfl rfl ?_
    refine qa_aload_n (pc' := 8) ⟨rfl, rfl⟩ rfl ?_
    refine qa_getf (pc' := 11) ⟨rfl, rfl⟩ qg_10_51 (by assumption) rfl ?_
    refine qa_if_ne (pc' := 14) (tgt := 27) ⟨rfl, rfl⟩ rfl (by omega) (fun hz => ?_) (fun hz => ?_)
    · refine qa_iload_n (pc' := 28) ⟨rfl, rfl⟩ rfl ?_
      refine qa_ireturn rfl rfl rfl (hQ _ _ (qa_Mi.mk (k := 1) (w := 0) (by unfold fo_foundP; rw [if_neg hw]) (fun h => absurd h (by decide)) e0 hM fr))
    · exact absurd hz (by omega)
def sp_md (src : Int → Int) : Nat → Int → Int → Int
  | 0, _, n => n
  | f + 1, a, n => if sp_af src a = -1 then n else sp_md src f (sp_af src a) (n + 1)
def sp_mw (src : Int → Int) (a : Int) : Nat → Int → Int → Int
  | 0, _, _ => -7
  | f + 1, x, n => if x = a then n else if x = -1 then 0 else sp_mw src a f (sp_af src x) (n + 1)
def sp_mc (src : Int → Int) : Nat → Int → Int
  | 0, a => sp_mw src a 7 (sp_af src a) 1
  | f + 1, a => if sp_af src a = -1 then 0 else sp_mc src f (sp_af src a)
theorem sp_md_s (src : Int → Int) (f : Nat) (a n : Int) : sp_md src (f + 1) a n = if sp_af src a = -1 then n else sp_md src f (sp_af src a) (n + 1) := rfl
theorem sp_mw_s (src : Int → Int) (a : Int) (f : Nat) (x n : Int) : sp_mw src a (f + 1) x n = if x = a then n else if x = -1 then 0 else sp_mw src a f (sp_af src x) (n + 1) := rfl
theorem sp_mc_s (src : Int → Int) (f : Nat) (a : Int) : sp_mc src (f + 1) a = if sp_af src a = -1 then 0 else sp_mc src f (sp_af src a) := rfl
theorem sm_src_at {m : Int → Int} {B a : Int} (hk : sm_ok m B) (ha : 0 ≤ a ∧ a < m 0) : sp_af (sm_src m) a = m (7 + 26 * a) := by
  have k0 := hk.1
  unfold sp_af sm_src
  rw [if_pos ⟨ha.1, by omega⟩, if_pos ha.2]
def fo_cd (m : Int → Int) (p v : Int) : Int × Int := if sm_is m p then (if 5 < v then (2, 0) else (0, v)) else (1, 0)
theorem c_M_cueDepth {E : qa_V} {σ : qa_S} {μ : Nat} {f : Nat → Int} {m : Int → Int} {B : Int} {p : Int} (hlo : E.1 ≤ μ) (hM : σ.1 μ = some (qa_MoF μ f)) (hm : σ.1 (μ + 1) = some (qa_ia 146 m)) (hk : sm_ok m B) (hp : qa_in p) : qa_T E qm_M_cueDepth 0 0 [.ref μ, .int (qa_i p)] σ (qa_Mi σ μ f (fo_cd m p (sp_md (sm_src m) 6 p 0))) := by
  refine qa_enterQ (by decide) rfl qm_M_cueDepth_ok rfl rfl (fun Q9 hQ => ?_)
  obtain ⟨k0, k1, k2, k3, k4, k5, k6, k7, k8⟩ := id hk
  have e0 : σ.2 = σ.2 := rfl
  have fr : ∀ q, q ≠ μ → σ.1 q = σ.1 q := fun _ _ => rfl
  refine qa_aload_n (pc' := 1) ⟨rfl, rfl⟩ rfl ?_
  refine qa_iconst (pc' := 2) ⟨rfl, rfl⟩ ?_
  refine qa_putf (fs' := [_, _, _, _, _, _, _, _, _, _, _, _, _, _, _, _, _, _, _, _, _, _, _, _, _, _, _]) (pc' := 5) ⟨rfl, rfl⟩ qg_10_51 qw_9 hM (by omega) rfl (fun r hr => by cases hr; exact ⟨rfl, Or.inl rfl⟩) rfl rfl ?_
  refine qa_gz (fun τ1 e1 w1 f1 => ?_)
  replace hm := (f1 _ (by omega)).trans hm
  replace fr := fun q hq => (f1 q (by have := hq; omega)).trans (fr q hq)
  replace e0 := e1.trans e0
  have hM : τ1.1 μ = some (qa_MoF μ (sN_put f 12 0)) := w1
  refine qa_aload_n (pc' := 6) ⟨rfl, rfl⟩ rfl ?_
  refine qa_iload_n (pc' := 7) ⟨rfl, rfl⟩ rfl ?_
  refine qa_callV rfl qf_M_isPart ql_10_111 (c_M_isPart (E := E) hM hm hk (by omega)) hM rfl rfl rfl (qa_lt9 rfl) (qa_le9 rfl) (qa_le9 rfl) (qa_le9 rfl) (fun o9 τ9 hq9 => ?_)
  obtain ⟨rfl, hq9⟩ := hq9
  replace hq9 := hq9.symm; subst hq9
  refine qa_nx (pc' := 10) (st' := [_]) rfl rfl rfl rfl ?_
  by_cases hp9 : 0 ≤ p ∧ p < m 0
  · rw [if_pos hp9]
    refine qa_if_ne (pc' := 13) (tgt := 19) ⟨rfl, rfl⟩ rfl (by omega) (fun hp99 => ?_) (fun hp99 => ?_)
    · refine qa_iconst (pc' := 20) ⟨rfl, rfl⟩ ?_
      refine qa_istore_n (L' := [(0, _), (1, _), (2, _)]) (pc' := 21) ⟨rfl, rfl⟩ rfl rfl ?_
      refine qa_iload_n (pc' := 22) ⟨rfl, rfl⟩ rfl ?_
      refine qa_istore_n (L' := [(0, _), (1, _), (2, _), (3, _)]) (pc' := 23) ⟨rfl, rfl⟩ rfl rfl ?_
      have lp : ∀ (f9 : Nat) (a n : Int), (n + f9 = 6 ∧ 0 ≤ n ∧ (0 ≤ a ∧ a < m 0) ∧ sp_md (sm_src m) f9 a n = sp_md (sm_src m) 6 p 0) → qa_W E qm_M_cueDepth Q9 0 0 23 [(0, .ref μ), (1, .int (qa_i p)), (2, .int (qa_i n)), (3, .int (qa_i a))] [] τ1 := by
        intro f9
        induction f9 with
        | zero =>
          intro a n ⟨hn, hn0, ha, hr⟩
          have hr9 : n = sp_md (sm_src m) 6 p 0 := hr
          replace hr := hr9
          refine qa_iload_n (pc' := 24) ⟨rfl, rfl⟩ rfl ?_
          refine qa_iconst (pc' := 25) ⟨rfl, rfl⟩ ?_
          refine qa_icmp_gt (pc' := 28) (tgt := 61) ⟨rfl, rfl⟩ rfl (by omega) (by omega) (fun hc1 => ?_) (fun hc1 => ?_)
          · refine qa_iload_n (pc' := 62) ⟨rfl, rfl⟩ rfl ?_
            refine qa_iconst (pc' := 63) ⟨rfl, rfl⟩ ?_
            refine qa_icmp_le (pc' := 66) (tgt := 74) ⟨rfl, rfl⟩ rfl (by omega) (by omega) (fun hc8 => ?_) (fun hc8 => ?_)
            · refine qa_iload_n (pc' := 75) ⟨rfl, rfl⟩ rfl ?_
              refine qa_ireturn rfl rfl rfl (hQ _ _ (qa_Mi.mk (k := 0) (by unfold fo_cd; rw [if_pos (by omega), ← hr]; rw [if_neg (by omega)]) (fun _ => rfl) e0 hM fr))
            · refine qa_aload_n (pc' := 67) ⟨rfl, rfl⟩ rfl ?_
              refine qa_iconst (pc' := 68) ⟨rfl, rfl⟩ ?_
              refine qa_callV rfl qf_M_throwing ql_10_60 (c_M_throwing (E := E) (f := (sN_put f 12 0)) (v := 2) hlo hM) hM rfl rfl rfl (qa_lt9 rfl) (qa_le9 rfl) (qa_le9 rfl) (qa_le9 rfl) (fun o9 τ9 hq9 => ?_)
              obtain ⟨rfl, e9, hM, f9⟩ := hq9
              refine qa_nx (pc' := 71) (st' := [_]) rfl rfl rfl rfl ?_
              refine qa_goto (pc' := 74) (tgt := 75) ⟨rfl, rfl⟩ rfl ?_
              refine qa_ireturn rfl rfl rfl (hQ _ _ (qa_Mi.mk (k := 2) (w := 0) (by unfold fo_cd; rw [if_pos (by omega), ← hr]; rw [if_pos (by omega)]) (fun h => absurd h (by decide)) (e9.trans e0) (by rw [sN_pp] at hM; exact hM) (fun q hq => (f9 q hq).trans (fr q hq))))
          · exact absurd hc1 (by omega)
        | succ f9 ih =>
          intro a n ⟨hn, hn0, ha, hr⟩
          have es := sm_src_at hk ha
          have cb := k5 a ha.1 ha.2
          rw [sp_md_s] at hr
          rw [es] at hr
          refine qa_iload_n (pc' := 24) ⟨rfl, rfl⟩ rfl ?_
          refine qa_iconst (pc' := 25) ⟨rfl, rfl⟩ ?_
          refine qa_icmp_gt (pc' := 28) (tgt := 61) ⟨rfl, rfl⟩ rfl (by omega) (by omega) (fun hc1 => ?_) (fun hc1 => ?_)
          · exact absurd hc1 (by omega)
          · refine qa_aload_n (pc' := 29) ⟨rfl, rfl⟩ rfl ?_
            refine qa_getf (pc' := 32) ⟨rfl, rfl⟩ qg_10_9 (by assumption) rfl ?_
            refine qa_iload_n (pc' := 33) ⟨rfl, rfl⟩ rfl ?_
            refine qa_callS rfl qf_M_partAt rfl ql_10_74 (c_M_partAt (E := E)) rfl rfl (qa_lt9 rfl) (qa_le9 rfl) (qa_le9 rfl) (qa_le9 rfl) (fun o9 τ9 hq9 => ?_)
            obtain ⟨rfl, hq9⟩ := hq9
            replace hq9 := hq9.symm; subst hq9
            refine qa_nx (pc' := 36) (st' := [_, _]) rfl rfl rfl rfl ?_
            refine qa_iconst (pc' := 37) ⟨rfl, rfl⟩ ?_
            refine qa_iadd (z := 7 + 26 * a) (pc' := 38) ⟨rfl, rfl⟩ (by omega) ?_
            refine qa_iaload (pc' := 39) ⟨rfl, rfl⟩ (by assumption) (by omega) ?_
            refine qa_iconst (pc' := 40) ⟨rfl, rfl⟩ ?_
            refine qa_icmp_eq (pc' := 43) (tgt := 61) ⟨rfl, rfl⟩ rfl (by omega) (by omega) (fun hc2 => ?_) (fun hc2 => ?_)
            · rw [if_pos hc2] at hr
              refine qa_iload_n (pc' := 62) ⟨rfl, rfl⟩ rfl ?_
              refine qa_iconst (pc' := 63) ⟨rfl, rfl⟩ ?_
              refine qa_icmp_le (pc' := 66) (tgt := 74) ⟨rfl, rfl⟩ rfl (by omega) (by omega) (fun hc8 => ?_) (fun hc8 => ?_)
              · refine qa_iload_n (pc' := 75) ⟨rfl, rfl⟩ rfl ?_
                refine qa_ireturn rfl rfl rfl (hQ _ _ (qa_Mi.mk (k := 0) (by unfold fo_cd; rw [if_pos (by omega), ← hr]; rw [if_neg (by omega)]) (fun _ => rfl) e0 hM fr))
              · refine qa_aload_n (pc' := 67) ⟨rfl, rfl⟩ rfl ?_
                refine qa_iconst (pc' := 68) ⟨rfl, rfl⟩ ?_
                refine qa_callV rfl qf_M_throwing ql_10_60 (c_M_throwing (E := E) (f := (sN_put f 12 0)) (v := 2) hlo hM) hM rfl rfl rfl (qa_lt9 rfl) (qa_le9 rfl) (qa_le9 rfl) (qa_le9 rfl) (fun o9 τ9 hq9 => ?_)
                obtain ⟨rfl, e9, hM, f9⟩ := hq9
                refine qa_nx (pc' := 71) (st' := [_]) rfl rfl rfl rfl ?_
                refine qa_goto (pc' := 74) (tgt := 75) ⟨rfl, rfl⟩ rfl ?_
                refine qa_ireturn rfl rfl rfl (hQ _ _ (qa_Mi.mk (k := 2) (w := 0) (by unfold fo_cd; rw [if_pos (by omega), ← hr]; rw [if_pos (by omega)]) (fun h => absurd h (by decide)) (e9.trans e0) (by rw [sN_pp] at hM; exact hM) (fun q hq => (f9 q hq).trans (fr q hq))))
            · refine qa_aload_n (pc' := 44) ⟨rfl, rfl⟩ rfl ?_
              refine qa_getf (pc' := 47) ⟨rfl, rfl⟩ qg_10_9 (by assumption) rfl ?_
              refine qa_iload_n (pc' := 48) ⟨rfl, rfl⟩ rfl ?_
              refine qa_callS rfl qf_M_partAt rfl ql_10_74 (c_M_partAt (E := E)) rfl rfl (qa_lt9 rfl) (qa_le9 rfl) (qa_le9 rfl) (qa_le9 rfl) (fun o9 τ9 hq9 => ?_)
              obtain ⟨rfl, hq9⟩ := hq9
              replace hq9 := hq9.symm; subst hq9
              refine qa_nx (pc' := 51) (st' := [_, _]) rfl rfl rfl rfl ?_
              refine qa_iconst (pc' := 52) ⟨rfl, rfl⟩ ?_
              refine qa_iadd (z := 7 + 26 * a) (pc' := 53) ⟨rfl, rfl⟩ (by omega) ?_
              refine qa_iaload (pc' := 54) ⟨rfl, rfl⟩ (by assumption) (by omega) ?_
              refine qa_istore_n (L' := [(0, _), (1, _), (2, _), (3, _)]) (pc' := 55) ⟨rfl, rfl⟩ rfl rfl ?_
              refine qa_iinc (L' := [(0, _), (1, _), (2, _), (3, _)]) (z := n + 1) (pc' := 58) ⟨rfl, rfl⟩ rfl rfl rfl rfl ?_
              refine qa_goto (pc' := 61) (tgt := 23) ⟨rfl, rfl⟩ rfl ?_
              rw [if_neg hc2] at hr
              exact ih _ (n + 1) ⟨by omega, by omega, by omega, hr⟩
      exact lp 6 p 0 ⟨by omega, by omega, by omega, rfl⟩
    · exact absurd hp99 (by omega)
  · rw [if_neg hp9]
    refine qa_if_ne (pc' := 13) (tgt := 19) ⟨rfl, rfl⟩ rfl (by omega) (fun hp99 => ?_) (fun hp99 => ?_)
    · exact absurd hp99 (by omega)
    · refine qa_aload_n (pc' := 14) ⟨rfl, rfl⟩ rfl ?_
      refine qa_iconst (pc' := 15) ⟨rfl, rfl⟩ ?_
      refine qa_callV rfl qf_M_throwing ql_10_60 (c_M_throwing (E := E) (f := (sN_put f 12 0)) (v := 1) hlo hM) hM rfl rfl rfl (qa_lt9 rfl) (qa_le9 rfl) (qa_le9 rfl) (qa_le9 rfl) (fun o9 τ9 hq9 => ?_)
      obtain ⟨rfl, e9, hM, f9⟩ := hq9
      refine qa_nx (pc' := 18) (st' := [_]) rfl rfl rfl rfl ?_
      refine qa_ireturn rfl rfl rfl (hQ _ _ (qa_Mi.mk (k := 1) (w := 0) (by unfold fo_cd; repeat (first | rw [if_pos (by omega)] | rw [if_neg (by omega)])) (fun h => absurd h (by decide)) (e9.trans e0) (by rw [sN_pp] at hM; exact hM) (fun q hq => (f9 q hq).trans (fr q hq))))
theorem c_M_circleLength {E : qa_V} {σ : qa_S} {μ : Nat} {f : Nat → Int} {m : Int → Int} {B : Int} {p : Int} (hlo : E.1 ≤ μ) (hM : σ.1 μ = some (qa_MoF μ f)) (hm : σ.1 (μ + 1) = some (qa_ia 146 m)) (hk : sm_ok m B) (hp : qa_in p) (hne : sm_is m p → 0 ≤ sp_mc (sm_src m) 5 p) : qa_T E qm_M_circleLength 0 0 [.ref μ, .int (qa_i p)] σ (qa_Mi σ μ f (fo_of m p (sp_mc (sm_src m) 5 p))) := by
  refine qa_enterQ (by decide) rfl qm_M_circleLength_ok rfl rfl (fun Q9 hQ => ?_)
  obtain ⟨k0, k1, k2, k3, k4, k5, k6, k7, k8⟩ := id hk
  have e0 : σ.2 = σ.2 := rfl
  have fr : ∀ q, q ≠ μ → σ.1 q = σ.1 q := fun _ _ => rfl
  refine qa_aload_n (pc' := 1) ⟨rfl, rfl⟩ rfl ?_
  refine qa_iconst (pc' := 2) ⟨rfl, rfl⟩ ?_
  refine qa_putf (fs' := [_, _, _, _, _, _, _, _, _, _, _, _, _, _, _, _, _, _, _, _, _, _, _, _, _, _, _]) (pc' := 5) ⟨rfl, rfl⟩ qg_10_51 qw_9 hM (by omega) rfl (fun r hr => by cases hr; exact ⟨rfl, Or.inl rfl⟩) rfl rfl ?_
  refine qa_gz (fun τ1 e1 w1 f1 => ?_)
  replace hm := (f1 _ (by omega)).trans hm
  replace fr := fun q hq => (f1 q (by have := hq; omega)).trans (fr q hq)
  replace e0 := e1.trans e0
  have hM : τ1.1 μ = some (qa_MoF μ (sN_put f 12 0)) := w1
  refine qa_aload_n (pc' := 6) ⟨rfl, rfl⟩ rfl ?_
  refine qa_iload_n (pc' := 7) ⟨rfl, rfl⟩ rfl ?_
  refine qa_callV rfl qf_M_isPart ql_10_111 (c_M_isPart (E := E) hM hm hk (by omega)) hM rfl rfl rfl (qa_lt9 rfl) (qa_le9 rfl) (qa_le9 rfl) (qa_le9 rfl) (fun o9 τ9 hq9 => ?_)
  obtain ⟨rfl, hq9⟩ := hq9
  replace hq9 := hq9.symm; subst hq9
  refine qa_nx (pc' := 10) (st' := [_]) rfl rfl rfl rfl ?_
  by_cases hp9 : 0 ≤ p ∧ p < m 0
  · rw [if_pos hp9]
    refine qa_if_ne (pc' := 13) (tgt := 19) ⟨rfl, rfl⟩ rfl (by omega) (fun hp99 => ?_) (fun hp99 => ?_)
    · have h7 := hne (by omega)
      refine qa_iload_n (pc' := 20) ⟨rfl, rfl⟩ rfl ?_
      refine qa_istore_n (L' := [(0, _), (1, _), (2, _)]) (pc' := 21) ⟨rfl, rfl⟩ rfl rfl ?_
      refine qa_iconst (pc' := 22) ⟨rfl, rfl⟩ ?_
      refine qa_istore_n (L' := [(0, _), (1, _), (2, _), (3, _)]) (pc' := 23) ⟨rfl, rfl⟩ rfl rfl ?_
      have lp : ∀ (f9 : Nat) (k : Nat) (a : Int), ((k : Int) + f9 = 5 ∧ (0 ≤ a ∧ a < m 0) ∧ sp_mc (sm_src m) f9 a = sp_mc (sm_src m) 5 p) → qa_W E qm_M_circleLength Q9 0 0 23 [(0, .ref μ), (1, .int (qa_i p)), (2, .int (qa_i a)), (3, .int (qa_i k))] [] τ1 := by
        intro f9
        induction f9 with
        | zero =>
          intro k a ⟨hn, ha, hr⟩
          refine qa_iload_n (pc' := 24) ⟨rfl, rfl⟩ rfl ?_
          refine qa_iconst (pc' := 25) ⟨rfl, rfl⟩ ?_
          refine qa_icmp_ge (pc' := 28) (tgt := 63) ⟨rfl, rfl⟩ rfl (by omega) (by omega) (fun hc1 => ?_) (fun hc1 => ?_)
          · refine qa_iconst (pc' := 64) ⟨rfl, rfl⟩ ?_
            refine qa_istore_n (L' := [(0, _), (1, _), (2, _), (3, _)]) (pc' := 65) ⟨rfl, rfl⟩ rfl rfl ?_
            refine qa_aload_n (pc' := 66) ⟨rfl, rfl⟩ rfl ?_
            refine qa_getf (pc' := 69) ⟨rfl, rfl⟩ qg_10_9 (by assumption) rfl ?_
            refine qa_iload_n (pc' := 70) ⟨rfl, rfl⟩ rfl ?_
            have es := sm_src_at hk ha
            have cb := k5 a ha.1 ha.2
            refine qa_callS rfl qf_M_partAt rfl ql_10_74 (c_M_partAt (E := E)) rfl rfl (qa_lt9 rfl) (qa_le9 rfl) (qa_le9 rfl) (qa_le9 rfl) (fun o9 τ9 hq9 => ?_)
            obtain ⟨rfl, hq9⟩ := hq9
            replace hq9 := hq9.symm; subst hq9
            refine qa_nx (pc' := 73) (st' := [_, _]) rfl rfl rfl rfl ?_
            refine qa_iconst (pc' := 74) ⟨rfl, rfl⟩ ?_
            refine qa_iadd (z := 7 + 26 * a) (pc' := 75) ⟨rfl, rfl⟩ (by omega) ?_
            refine qa_iaload (pc' := 76) ⟨rfl, rfl⟩ (by assumption) (by omega) ?_
            refine qa_istore (L' := [(0, _), (1, _), (2, _), (3, _), (4, _)]) (pc' := 78) ⟨rfl, rfl⟩ rfl rfl ?_
            have lq : ∀ (f2 : Nat) (x n : Int), n + f2 = 8 ∧ 1 ≤ n ∧ (-1 ≤ x ∧ x < m 0) ∧ sp_mw (sm_src m) a f2 x n = sp_mc (sm_src m) 5 p → qa_W E qm_M_circleLength Q9 0 0 78 [(0, .ref μ), (1, .int (qa_i p)), (2, .int (qa_i a)), (3, .int (qa_i n)), (4, .int (qa_i x))] [] τ1 := by
              intro f2
              induction f2 with
              | zero =>
                intro x n ⟨h1, h2, h3, h4⟩
                have h5 : (-7 : Int) = sp_mc (sm_src m) 5 p := h4
                omega
              | succ f2 ih2 =>
                intro x n ⟨hn, hn1, hx, hr2⟩
                rw [sp_mw_s] at hr2
                refine qa_iload (pc' := 80) ⟨rfl, rfl⟩ rfl ?_
                refine qa_iload_n (pc' := 81) ⟨rfl, rfl⟩ rfl ?_
                refine qa_icmp_eq (pc' := 84) (tgt := 110) ⟨rfl, rfl⟩ rfl (by omega) (by omega) (fun hc4 => ?_) (fun hc4 => ?_)
                · rw [if_pos hc4] at hr2
                  refine qa_iload (pc' := 112) ⟨rfl, rfl⟩ rfl ?_
                  refine qa_iconst (pc' := 113) ⟨rfl, rfl⟩ ?_
                  refine qa_icmp_ne (pc' := 116) (tgt := 120) ⟨rfl, rfl⟩ rfl (by omega) (by omega) (fun hc5 => ?_) (fun hc5 => ?_)
                  · refine qa_iload_n (pc' := 121) ⟨rfl, rfl⟩ rfl ?_
                    refine qa_ireturn rfl rfl rfl (hQ _ _ (qa_Mi.mk (k := 0) (by unfold fo_of; rw [if_pos (by omega), ← hr2]) (fun _ => rfl) e0 hM fr))
                  · exact absurd hc5 (by omega)
                · rw [if_neg hc4] at hr2
                  refine qa_iload (pc' := 86) ⟨rfl, rfl⟩ rfl ?_
                  refine qa_iconst (pc' := 87) ⟨rfl, rfl⟩ ?_
                  refine qa_icmp_eq (pc' := 90) (tgt := 110) ⟨rfl, rfl⟩ rfl (by omega) (by omega) (fun hc5 => ?_) (fun hc5 => ?_)
                  · rw [if_pos hc5] at hr2
                    refine qa_iload (pc' := 112) ⟨rfl, rfl⟩ rfl ?_
                    refine qa_iconst (pc' := 113) ⟨rfl, rfl⟩ ?_
                    refine qa_icmp_ne (pc' := 116) (tgt := 120) ⟨rfl, rfl⟩ rfl (by omega) (by omega) (fun hc6 => ?_) (fun hc6 => ?_)
                    · exact absurd hc6 (by omega)
                    · refine qa_iconst (pc' := 117) ⟨rfl, rfl⟩ ?_
                      refine qa_goto (pc' := 120) (tgt := 121) ⟨rfl, rfl⟩ rfl ?_
                      refine qa_ireturn rfl rfl rfl (hQ _ _ (qa_Mi.mk (k := 0) (by unfold fo_of; rw [if_pos (by omega), ← hr2]) (fun _ => rfl) e0 hM fr))
                  · rw [if_neg hc5] at hr2
                    have es2 := sm_src_at (a := x) hk (by omega)
                    have cb2 := k5 x (by omega) (by omega)
                    rw [es2] at hr2
                    refine qa_aload_n (pc' := 91) ⟨rfl, rfl⟩ rfl ?_
                    refine qa_getf (pc' := 94) ⟨rfl, rfl⟩ qg_10_9 (by assumption) rfl ?_
                    refine qa_iload (pc' := 96) ⟨rfl, rfl⟩ rfl ?_
                    refine qa_callS rfl qf_M_partAt rfl ql_10_74 (c_M_partAt (E := E)) rfl rfl (qa_lt9 rfl) (qa_le9 rfl) (qa_le9 rfl) (qa_le9 rfl) (fun o9 τ9 hq9 => ?_)
                    obtain ⟨rfl, hq9⟩ := hq9
                    replace hq9 := hq9.symm; subst hq9
                    refine qa_nx (pc' := 99) (st' := [_, _]) rfl rfl rfl rfl ?_
                    refine qa_iconst (pc' := 100) ⟨rfl, rfl⟩ ?_
                    refine qa_iadd (z := 7 + 26 * x) (pc' := 101) ⟨rfl, rfl⟩ (by omega) ?_
                    refine qa_iaload (pc' := 102) ⟨rfl, rfl⟩ (by assumption) (by omega) ?_
                    refine qa_istore (L' := [(0, _), (1, _), (2, _), (3, _), (4, _)]) (pc' := 104) ⟨rfl, rfl⟩ rfl rfl ?_
                    refine qa_iinc (L' := [(0, _), (1, _), (2, _), (3, _), (4, _)]) (z := n + 1) (pc' := 107) ⟨rfl, rfl⟩ rfl rfl rfl rfl ?_
                    refine qa_goto (pc' := 110) (tgt := 78) ⟨rfl, rfl⟩ rfl ?_
                    exact ih2 _ (n + 1) ⟨by omega, by omega, by omega, hr2⟩
            refine lq 7 _ 1 ⟨by omega, by omega, by omega, ?_⟩
            rw [← hr, ← es]; rfl
          · exact absurd hc1 (by omega)
        | succ f9 ih =>
          intro k a ⟨hn, ha, hr⟩
          have es := sm_src_at hk ha
          have cb := k5 a ha.1 ha.2
          rw [sp_mc_s] at hr
          rw [es] at hr
          refine qa_iload_n (pc' := 24) ⟨rfl, rfl⟩ rfl ?_
          refine qa_iconst (pc' := 25) ⟨rfl, rfl⟩ ?_
          refine qa_icmp_ge (pc' := 28) (tgt := 63) ⟨rfl, rfl⟩ rfl (by omega) (by omega) (fun hc1 => ?_) (fun hc1 => ?_)
          · exact absurd hc1 (by omega)
          · refine qa_aload_n (pc' := 29) ⟨rfl, rfl⟩ rfl ?_
            refine qa_getf (pc' := 32) ⟨rfl, rfl⟩ qg_10_9 (by assumption) rfl ?_
            refine qa_iload_n (pc' := 33) ⟨rfl, rfl⟩ rfl ?_
            refine qa_callS rfl qf_M_partAt rfl ql_10_74 (c_M_partAt (E := E)) rfl rfl (qa_lt9 rfl) (qa_le9 rfl) (qa_le9 rfl) (qa_le9 rfl) (fun o9 τ9 hq9 => ?_)
            obtain ⟨rfl, hq9⟩ := hq9
            replace hq9 := hq9.symm; subst hq9
            refine qa_nx (pc' := 36) (st' := [_, _]) rfl rfl rfl rfl ?_
            refine qa_iconst (pc' := 37) ⟨rfl, rfl⟩ ?_
            refine qa_iadd (z := 7 + 26 * a) (pc' := 38) ⟨rfl, rfl⟩ (by omega) ?_
            refine qa_iaload (pc' := 39) ⟨rfl, rfl⟩ (by assumption) (by omega) ?_
            refine qa_iconst (pc' := 40) ⟨rfl, rfl⟩ ?_
            refine qa_icmp_ne (pc' := 43) (tgt := 45) ⟨rfl, rfl⟩ rfl (by omega) (by omega) (fun hc2 => ?_) (fun hc2 => ?_)
            · refine qa_aload_n (pc' := 46) ⟨rfl, rfl⟩ rfl ?_
              refine qa_getf (pc' := 49) ⟨rfl, rfl⟩ qg_10_9 (by assumption) rfl ?_
              refine qa_iload_n (pc' := 50) ⟨rfl, rfl⟩ rfl ?_
              refine qa_callS rfl qf_M_partAt rfl ql_10_74 (c_M_partAt (E := E)) rfl rfl (qa_lt9 rfl) (qa_le9 rfl) (qa_le9 rfl) (qa_le9 rfl) (fun o9 τ9 hq9 => ?_)
              obtain ⟨rfl, hq9⟩ := hq9
              replace hq9 := hq9.symm; subst hq9
              refine qa_nx (pc' := 53) (st' := [_, _]) rfl rfl rfl rfl ?_
              refine qa_iconst (pc' := 54) ⟨rfl, rfl⟩ ?_
              refine qa_iadd (z := 7 + 26 * a) (pc' := 55) ⟨rfl, rfl⟩ (by omega) ?_
              refine qa_iaload (pc' := 56) ⟨rfl, rfl⟩ (by assumption) (by omega) ?_
              refine qa_istore_n (L' := [(0, _), (1, _), (2, _), (3, _)]) (pc' := 57) ⟨rfl, rfl⟩ rfl rfl ?_
              refine qa_iinc (L' := [(0, _), (1, _), (2, _), (3, _)]) (z := ((k + 1 : Nat) : Int)) (pc' := 60) ⟨rfl, rfl⟩ rfl (by omega) rfl rfl ?_
              refine qa_goto (pc' := 63) (tgt := 23) ⟨rfl, rfl⟩ rfl ?_
              rw [if_neg hc2] at hr
              exact ih (k + 1) _ ⟨by omega, by omega, hr⟩
            · rw [if_pos hc2] at hr
              refine qa_iconst (pc' := 44) ⟨rfl, rfl⟩ ?_
              refine qa_ireturn rfl rfl rfl (hQ _ _ (qa_Mi.mk (k := 0) (by unfold fo_of; rw [if_pos (by omega), ← hr]) (fun _ => rfl) e0 hM fr))
      exact lp 5 0 p ⟨by omega, by omega, rfl⟩
    · exact absurd hp99 (by omega)
  · rw [if_neg hp9]
    refine qa_if_ne (pc' := 13) (tgt := 19) ⟨rfl, rfl⟩ rfl (by omega) (fun hp99 => ?_) (fun hp99 => ?_)
    · exact absurd hp99 (by omega)
    · refine qa_aload_n (pc' := 14) ⟨rfl, rfl⟩ rfl ?_
      refine qa_iconst (pc' := 15) ⟨rfl, rfl⟩ ?_
      refine qa_callV rfl qf_M_throwing ql_10_60 (c_M_throwing (E := E) (f := (sN_put f 12 0)) (v := 1) hlo hM) hM rfl rfl rfl (qa_lt9 rfl) (qa_le9 rfl) (qa_le9 rfl) (qa_le9 rfl) (fun o9 τ9 hq9 => ?_)
      obtain ⟨rfl, e9, hM, f9⟩ := hq9
      refine qa_nx (pc' := 18) (st' := [_]) rfl rfl rfl rfl ?_
      refine qa_ireturn rfl rfl rfl (hQ _ _ (qa_Mi.mk (k := 1) (w := 0) (by unfold fo_of; repeat (first | rw [if_pos (by omega)] | rw [if_neg (by omega)])) (fun h => absurd h (by decide)) (e9.trans e0) (by rw [sN_pp] at hM; exact hM) (fun q hq => (f9 q hq).trans (fr q hq))))
theorem c_M_circleLengthByMarks {E : qa_V} {σ : qa_S} {μ : Nat} {f : Nat → Int} {m : Int → Int} {B : Int} {p : Int} (hlo : E.1 ≤ μ) (hM : σ.1 μ = some (qa_MoF μ f)) (hm : σ.1 (μ + 1) = some (qa_ia 146 m)) (hk : sm_ok m B) (hp : qa_in p) (hne : sm_is m p → 0 ≤ sp_mc (sm_src m) 5 p) : qa_T E qm_M_circleLengthByMarks 0 0 [.ref μ, .int (qa_i p)] σ (qa_Mi σ μ f (fo_of m p (sp_mc (sm_src m) 5 p))) := by
  refine qa_enterQ (by decide) rfl qm_M_circleLengthByMarks_ok rfl rfl (fun Q9 hQ => ?_)
  obtain ⟨k0, k1, k2, k3, k4, k5, k6, k7, k8⟩ := id hk
  have e0 : σ.2 = σ.2 := rfl
  have fr : ∀ q, q ≠ μ → σ.1 q = σ.1 q := fun _ _ => rfl
  refine qa_aload_n (pc' := 1) ⟨rfl, rfl⟩ rfl ?_
  refine qa_iload_n (pc' := 2) ⟨rfl, rfl⟩ rfl ?_
  refine qa_callV rfl qf_M_circleLength ql_10_225 (c_M_circleLength (E := E) hlo hM hm hk hp hne) hM rfl rfl rfl (qa_lt9 rfl) (qa_le9 rfl) (qa_le9 rfl) (qa_le9 rfl) (fun o9 τ9 hq9 => ?_)
  obtain ⟨⟨v9, rfl, hv9⟩, e9, w9, f9⟩ := hq9
  refine qa_nx (pc' := 5) (st' := [_]) rfl rfl rfl rfl ?_
  refine qa_ireturn rfl rfl rfl (hQ _ _ ⟨⟨v9, rfl, hv9⟩, e9, w9, f9⟩)
