/-- the same of other kinds of answers: thrown is k, and where k is 0 the answer is x -/
def qa_Mv {α : Type} (C : α → Value) (σ : qa_S) (μ : Nat) (f : Nat → Int) (k : Int) (x : α) : qa_O → qa_S → Prop := fun o9 τ => (∃ w : α, o9 = .inl (some (C w)) ∧ (k = 0 → w = x)) ∧ τ.2 = σ.2 ∧ τ.1 μ = some (qa_MoF μ (sN_put f 12 k)) ∧ ∀ q, q ≠ μ → τ.1 q = σ.1 q
theorem qa_Mv.mk {α : Type} {C : α → Value} {σ τ : qa_S} {μ : Nat} {f : Nat → Int} {k k1 : Int} {x w : α} (hk : k = k1) (hv : k1 = 0 → w = x) (he : τ.2 = σ.2) (hw : τ.1 μ = some (qa_MoF μ (sN_put f 12 k1))) (hf : ∀ q, q ≠ μ → τ.1 q = σ.1 q) : qa_Mv C σ μ f k x (.inl (some (C w))) τ := by
  subst hk
  exact ⟨⟨w, rfl, hv⟩, he, hw, hf⟩
theorem sp_lcm2 {a b : Int} (ha : 1 ≤ a ∧ a ≤ 2147483646) (hb : 1 ≤ b ∧ b ≤ 2147483646) : a * (b / sp_gd 64 b a) = a / sp_gd 64 a b * b := by
  rw [sp_gd_all (by omega) (by omega) (by omega), sp_gd_all (by omega) (by omega) (by omega), Int.gcd_comm b a]
  have hg : 0 < ((Int.gcd a b : Nat) : Int) := by
    have := Int.gcd_pos_of_ne_zero_left (a := a) b (by omega)
    omega
  have d1 : ((Int.gcd a b : Nat) : Int) ∣ a := Int.gcd_dvd_left a b
  have d2 : ((Int.gcd a b : Nat) : Int) ∣ b := Int.gcd_dvd_right a b
  obtain ⟨x, hx⟩ := d1
  obtain ⟨y, hy⟩ := d2
  generalize ((Int.gcd a b : Nat) : Int) = g at *
  rw [show b / g = y by rw [hy, Int.mul_ediv_cancel_left _ (by omega)], show a / g = x by rw [hx, Int.mul_ediv_cancel_left _ (by omega)], hx, hy]
  ac_rfl
theorem c_M_chordAt {E : qa_V} {σ : qa_S} {μ : Nat} {f : Nat → Int} {m : Int → Int} {B : Int} {x : Int} (hlo : E.1 ≤ μ) (hM : σ.1 μ = some (qa_MoF μ f)) (hm : σ.1 (μ + 1) = some (qa_ia 146 m)) (hk : sm_ok m B) (hx : qa_in x) : qa_T E qm_M_chordAt 0 0 [.ref μ, .int (qa_i x)] σ (qa_Mv Value.long σ μ f (if 0 ≤ x ∧ x ≤ 999999 then 0 else 1) (sm_ch m x (m 0).toNat)) := by
  refine qa_enterQ (by decide) rfl qm_M_chordAt_ok rfl rfl (fun Q9 hQ => ?_)
  obtain ⟨k0, k1, k2, k3, k4, k5, k6, k7, k8⟩ := id hk
  have e0 : σ.2 = σ.2 := rfl
  have fr : ∀ q, q ≠ μ → σ.1 q = σ.1 q := fun _ _ => rfl
  refine qa_aload_n (pc' := 1) ⟨rfl, rfl⟩ rfl ?_
  refine qa_iconst (pc' := 2) ⟨rfl, rfl⟩ ?_
  refine qa_putf (fs' := [_, _, _, _, _, _, _, _, _, _, _, _, _, _, _, _, _, _, _, _, _, _, _, _, _, _, _]) (pc' := 5) ⟨rfl, rfl⟩ qg_10_51 qw_9 hM (by omega) rfl (fun r hr => by cases hr; exact ⟨rfl, Or.inl rfl⟩) rfl rfl ?_
  refine qa_gz (fun τ1 e1 w1 f1 => ?_)
  replace hm := (f1 _ (by omega)).trans hm
  replace fr := fun q hq => (f1 q (by have := hq; omega)).trans (fr q hq)
  replace e0 := e1.trans e0
  have hM : τ1.1 μ = some (qa_MoF μ (sN_put f 12 0)) := w1
  refine qa_iload_n (pc' := 6) ⟨rfl, rfl⟩ rfl ?_
  refine qa_i2l (pc' := 7) ⟨rfl, rfl⟩ (by omega) ?_
  refine qa_lconst (z := 0) (pc' := 8) ⟨rfl, rfl⟩ rfl ?_
  refine qa_ldc2 (z := 999999) (pc' := 11) ⟨rfl, rfl⟩ qk_10_181 ?_
  refine qa_callS rfl qf_M_in rfl ql_10_70 (c_M_in (E := E) (by omega) (by omega) (by omega)) rfl rfl (qa_lt9 rfl) (qa_le9 rfl) (qa_le9 rfl) (qa_le9 rfl) (fun o9 τ9 hq9 => ?_)
  obtain ⟨rfl, hq9⟩ := hq9
  replace hq9 := hq9.symm; subst hq9
  refine qa_nx (pc' := 14) (st' := [_]) rfl rfl rfl rfl ?_
  by_cases hi9 : 0 ≤ x ∧ x ≤ 999999
  · rw [if_pos hi9]
    refine qa_if_ne (pc' := 17) (tgt := 24) ⟨rfl, rfl⟩ rfl (by omega) (fun hi99 => ?_) (fun hi99 => ?_)
    · refine qa_lconst (z := 0) (pc' := 25) ⟨rfl, rfl⟩ rfl ?_
      refine qa_lstore_n (L' := [(0, _), (1, _), (2, _)]) (pc' := 26) ⟨rfl, rfl⟩ rfl rfl ?_
      refine qa_iconst (pc' := 27) ⟨rfl, rfl⟩ ?_
      refine qa_istore (L' := [(0, _), (1, _), (2, _), (4, _)]) (pc' := 29) ⟨rfl, rfl⟩ rfl rfl ?_
      have lp : ∀ (f9 : Nat) (k : Nat) (r : Int64), ((k : Int) + f9 = m 0 ∧ r = sm_ch m x k) → qa_W E qm_M_chordAt Q9 0 0 29 [(0, .ref μ), (1, .int (qa_i x)), (2, .long r), (4, .int (qa_i k))] [] τ1 := by
        intro f9
        induction f9 with
        | zero =>
          intro k r ⟨hkf, hr⟩
          refine qa_iload (pc' := 31) ⟨rfl, rfl⟩ rfl ?_
          refine qa_aload_n (pc' := 32) ⟨rfl, rfl⟩ rfl ?_
          refine qa_getf (pc' := 35) ⟨rfl, rfl⟩ qg_10_9 (by assumption) rfl ?_
          refine qa_iconst (pc' := 36) ⟨rfl, rfl⟩ ?_
          refine qa_iaload (pc' := 37) ⟨rfl, rfl⟩ (by assumption) (by omega) ?_
          refine qa_icmp_ge (pc' := 40) (tgt := 78) ⟨rfl, rfl⟩ rfl (by omega) (by omega) (fun hc1 => ?_) (fun hc1 => ?_)
          · refine qa_lload_n (pc' := 79) ⟨rfl, rfl⟩ rfl ?_
            refine qa_lreturn rfl rfl (hQ _ _ (qa_Mv.mk (k1 := 0) (by first | rfl | rw [if_pos (by omega)]) (fun _ => by rw [hr, show (m 0).toNat = k by omega]) e0 hM fr))
          · exact absurd hc1 (by omega)
        | succ f9 ih =>
          intro k r ⟨hkf, hr⟩
          have kk := k4 k (by omega) (by omega)
          have kn := kk.1
          have nb := sm_ni_b (tick := x) kk
          refine qa_iload (pc' := 31) ⟨rfl, rfl⟩ rfl ?_
          refine qa_aload_n (pc' := 32) ⟨rfl, rfl⟩ rfl ?_
          refine qa_getf (pc' := 35) ⟨rfl, rfl⟩ qg_10_9 (by assumption) rfl ?_
          refine qa_iconst (pc' := 36) ⟨rfl, rfl⟩ ?_
          refine qa_iaload (pc' := 37) ⟨rfl, rfl⟩ (by assumption) (by omega) ?_
          refine qa_icmp_ge (pc' := 40) (tgt := 78) ⟨rfl, rfl⟩ rfl (by omega) (by omega) (fun hc1 => ?_) (fun hc1 => ?_)
          · exact absurd hc1 (by omega)
          · refine qa_lload_n (pc' := 41) ⟨rfl, rfl⟩ rfl ?_
            refine qa_aload_n (pc' := 42) ⟨rfl, rfl⟩ rfl ?_
            refine qa_iload (pc' := 44) ⟨rfl, rfl⟩ rfl ?_
            refine qa_iload_n (pc' := 45) ⟨rfl, rfl⟩ rfl ?_
            refine qa_callV rfl qf_M_sounds ql_10_93 (c_M_sounds (E := E) hM hm hk ⟨by omega, by omega⟩ (by omega)) hM rfl rfl rfl (qa_lt9 rfl) (qa_le9 rfl) (qa_le9 rfl) (qa_le9 rfl) (fun o9 τ9 hq9 => ?_)
            obtain ⟨rfl, hq9⟩ := hq9
            replace hq9 := hq9.symm; subst hq9
            refine qa_nx (pc' := 48) (st' := [_, _]) rfl rfl rfl rfl ?_
            by_cases hw : sm_pi m k x = -1
            · rw [if_pos hw]
              refine qa_if_eq (pc' := 51) (tgt := 69) ⟨rfl, rfl⟩ rfl (by omega) (fun hw9 => ?_) (fun hw9 => ?_)
              · refine qa_lconst (z := 0) (pc' := 70) ⟨rfl, rfl⟩ rfl ?_
                refine qa_lorR (pc' := 71) ⟨rfl, rfl⟩ rfl ?_
                refine qa_lstore_n (L' := [(0, _), (1, _), (2, _), (4, _)]) (pc' := 72) ⟨rfl, rfl⟩ rfl rfl ?_
                refine qa_iinc (L' := [(0, _), (1, _), (2, _), (4, _)]) (z := ((k + 1 : Nat) : Int)) (pc' := 75) ⟨rfl, rfl⟩ rfl (by omega) rfl rfl ?_
                refine qa_goto (pc' := 78) (tgt := 29) ⟨rfl, rfl⟩ rfl ?_
                refine qa_sub (ks' := [0, 1, 2, 3]) (L' := [(0, _), (1, _), (2, _), (4, _)]) rfl ?_
                exact ih (k + 1) _ ⟨by omega, by unfold sm_ch; rw [if_pos hw, hr]; exact Int64.or_zero⟩
              · exact absurd hw9 (by omega)
            · rw [if_neg hw]
              refine qa_if_eq (pc' := 51) (tgt := 69) ⟨rfl, rfl⟩ rfl (by omega) (fun hw9 => ?_) (fun hw9 => ?_)
              · exact absurd hw9 (by omega)
              · have n0 : sm_ni m k x ≠ -1 := by intro h; exact hw (by unfold sm_pi; rw [h]; rfl)
                have n1 : 0 < sm_n m k := by omega
                have e8 : sm_pi m k x = sm_pf m k (sm_ni m k x) := by unfold sm_pi sp_pI; rw [if_neg n0]
                refine qa_lconst (z := 1) (pc' := 52) ⟨rfl, rfl⟩ rfl ?_
                refine qa_aload_n (pc' := 53) ⟨rfl, rfl⟩ rfl ?_
                refine qa_iload (pc' := 55) ⟨rfl, rfl⟩ rfl ?_
                refine qa_aload_n (pc' := 56) ⟨rfl, rfl⟩ rfl ?_
                refine qa_iload (pc' := 58) ⟨rfl, rfl⟩ rfl ?_
                refine qa_iload_n (pc' := 59) ⟨rfl, rfl⟩ rfl ?_
                refine qa_callV rfl qf_M_noteIn ql_10_87 (c_M_noteIn (E := E) hM hm hk ⟨by omega, by omega⟩ n1 (by omega)) hM rfl rfl rfl (qa_lt9 rfl) (qa_le9 rfl) (qa_le9 rfl) (qa_le9 rfl) (fun o9 τ9 hq9 => ?_)
                obtain ⟨rfl, hq9⟩ := hq9
                replace hq9 := hq9.symm; subst hq9
                refine qa_nx (pc' := 62) (st' := [_, _, _, _, _]) rfl rfl rfl rfl ?_
                refine qa_callV rfl qf_M_pitch ql_10_90 (c_M_pitch (E := E) hM hm ⟨by omega, by omega⟩ (by omega)) hM rfl rfl rfl (qa_lt9 rfl) (qa_le9 rfl) (qa_le9 rfl) (qa_le9 rfl) (fun o9 τ9 hq9 => ?_)
                obtain ⟨rfl, hq9⟩ := hq9
                replace hq9 := hq9.symm; subst hq9
                refine qa_nx (pc' := 65) (st' := [_, _, _]) rfl rfl rfl rfl ?_
                rw [← e8]
                refine qa_lshlR (pc' := 66) ⟨rfl, rfl⟩ rfl ?_
                refine qa_goto (pc' := 69) (tgt := 70) ⟨rfl, rfl⟩ rfl ?_
                refine qa_lorR (pc' := 71) ⟨rfl, rfl⟩ rfl ?_
                refine qa_lstore_n (L' := [(0, _), (1, _), (2, _), (4, _)]) (pc' := 72) ⟨rfl, rfl⟩ rfl rfl ?_
                refine qa_iinc (L' := [(0, _), (1, _), (2, _), (4, _)]) (z := ((k + 1 : Nat) : Int)) (pc' := 75) ⟨rfl, rfl⟩ rfl (by omega) rfl rfl ?_
                refine qa_goto (pc' := 78) (tgt := 29) ⟨rfl, rfl⟩ rfl ?_
                refine qa_sub (ks' := [0, 1, 2, 3]) (L' := [(0, _), (1, _), (2, _), (4, _)]) rfl ?_
                exact ih (k + 1) _ ⟨by omega, by unfold sm_ch; rw [if_neg hw, hr]; rfl⟩
      exact lp (m 0).toNat 0 (qa_l 0) ⟨by omega, rfl⟩
    · exact absurd hi99 (by omega)
  · rw [if_neg hi9]
    refine qa_if_ne (pc' := 17) (tgt := 24) ⟨rfl, rfl⟩ rfl (by omega) (fun hi99 => ?_) (fun hi99 => ?_)
    · exact absurd hi99 (by omega)
    · refine qa_aload_n (pc' := 18) ⟨rfl, rfl⟩ rfl ?_
      refine qa_iconst (pc' := 19) ⟨rfl, rfl⟩ ?_
      refine qa_callV rfl qf_M_throwing ql_10_60 (c_M_throwing (E := E) (f := (sN_put f 12 0)) (v := 1) hlo hM) hM rfl rfl rfl (qa_lt9 rfl) (qa_le9 rfl) (qa_le9 rfl) (qa_le9 rfl) (fun o9 τ9 hq9 => ?_)
      obtain ⟨rfl, e9, hM, f9⟩ := hq9
      refine qa_nx (pc' := 22) (st' := [_]) rfl rfl rfl rfl ?_
      refine qa_i2l (pc' := 23) ⟨rfl, rfl⟩ (by omega) ?_
      refine qa_lreturn rfl rfl (hQ _ _ (qa_Mv.mk (k1 := 1) (by first | rfl | rw [if_neg (by omega)]) (fun h => absurd h (by decide)) (e9.trans e0) (by rw [sN_pp] at hM; exact hM) (fun q hq => (f9 q hq).trans (fr q hq))))
theorem sp_lcm {a b : Int} (ha : 1 ≤ a ∧ a ≤ 2147483646) (hb : 1 ≤ b ∧ b ≤ 2147483646) : b / sp_gd 64 b a * a = a * (b / sp_gd 64 a b) ∧ 1 ≤ b / sp_gd 64 b a ∧ b / sp_gd 64 b a ≤ b := by
  rw [sp_gd_all (by omega) (by omega) (by omega), sp_gd_all (by omega) (by omega) (by omega), Int.gcd_comm b a]
  have hg : 0 < ((Int.gcd a b : Nat) : Int) := by
    have := Int.gcd_pos_of_ne_zero_left (a := a) b (by omega)
    omega
  have d2 : ((Int.gcd a b : Nat) : Int) ∣ b := Int.gcd_dvd_right a b
  obtain ⟨c, hc⟩ := d2
  generalize ((Int.gcd a b : Nat) : Int) = g at *
  have e2 : b / g = c := by rw [hc, Int.mul_ediv_cancel_left _ (by omega)]
  rw [e2]
  have hc0 : 0 < c := by
    rcases Int.lt_or_le 0 c with h | h
    · exact h
    · have := Int.mul_nonneg (Int.le_of_lt hg) (by omega : 0 ≤ -c)
      rw [Int.mul_neg, ← hc] at this
      omega
  refine ⟨Int.mul_comm _ _, by omega, ?_⟩
  have := Int.mul_le_mul_of_nonneg_right (by omega : 1 ≤ g) (by omega : 0 ≤ c)
  rw [← hc] at this
  omega
theorem c_M_togetherAfter {E : qa_V} {σ : qa_S} {μ : Nat} {f : Nat → Int} {m : Int → Int} {B : Int}  (hlo : E.1 ≤ μ) (hM : σ.1 μ = some (qa_MoF μ f)) (hm : σ.1 (μ + 1) = some (qa_ia 146 m)) (hk : sm_ok m B)  : qa_T E qm_M_togetherAfter 0 0 [.ref μ] σ (qa_Mi σ μ f (fo_found (sm_tg m))) := by
  refine qa_enterQ (by decide) rfl qm_M_togetherAfter_ok rfl rfl (fun Q9 hQ => ?_)
  obtain ⟨k0, k1, k2, k3, k4, k5, k6, k7, k8⟩ := id hk
  have e0 : σ.2 = σ.2 := rfl
  have fr : ∀ q, q ≠ μ → σ.1 q = σ.1 q := fun _ _ => rfl
  refine qa_aload_n (pc' := 1) ⟨rfl, rfl⟩ rfl ?_
  refine qa_iconst (pc' := 2) ⟨rfl, rfl⟩ ?_
  refine qa_putf (fs' := [_, _, _, _, _, _, _, _, _, _, _, _, _, _, _, _, _, _, _, _, _, _, _, _, _, _, _]) (pc' := 5) ⟨rfl, rfl⟩ qg_10_51 qw_9 hM (by omega) rfl (fun r hr => by cases hr; exact ⟨rfl, Or.inl rfl⟩) rfl rfl ?_
  refine qa_gz (fun τ1 e1 w1 f1 => ?_)
  replace hm := (f1 _ (by omega)).trans hm
  replace fr := fun q hq => (f1 q (by have := hq; omega)).trans (fr q hq)
  replace e0 := e1.trans e0
  have hM : τ1.1 μ = some (qa_MoF μ (sN_put f 12 0)) := w1
  have hlo9 := sm_lo_b hk (m 0).toNat (by omega)
  refine qa_aload_n (pc' := 6) ⟨rfl, rfl⟩ rfl ?_
  refine qa_callV rfl qf_M_isSilent ql_10_165 (c_M_isSilent (E := E) hM hm hk) hM rfl rfl rfl (qa_lt9 rfl) (qa_le9 rfl) (qa_le9 rfl) (qa_le9 rfl) (fun o9 τ9 hq9 => ?_)
  obtain ⟨rfl, hq9⟩ := hq9
  replace hq9 := hq9.symm; subst hq9
  refine qa_nx (pc' := 9) (st' := [_]) rfl rfl rfl rfl ?_
  by_cases hw : sm_lo m (m 0).toNat = 0
  · rw [if_pos hw]
    refine qa_if_eq (pc' := 12) (tgt := 18) ⟨rfl, rfl⟩ rfl (by omega) (fun hw9 => ?_) (fun hw9 => ?_)
    · exact absurd hw9 (by omega)
    · obtain ⟨r, hr0⟩ : ∃ r : Int, r = 1000000 := ⟨_, rfl⟩
      refine qa_ldc2 (z := 1000000) (pc' := 15) ⟨rfl, rfl⟩ qk_10_183 ?_
      refine qa_goto (pc' := 18) (tgt := 19) ⟨rfl, rfl⟩ rfl ?_
      refine qa_lstore_n (L' := [(0, _), (1, _)]) (pc' := 20) ⟨rfl, rfl⟩ rfl rfl ?_
      refine qa_iconst (pc' := 21) ⟨rfl, rfl⟩ ?_
      refine qa_istore_n (L' := [(0, _), (1, _), (3, _)]) (pc' := 22) ⟨rfl, rfl⟩ rfl rfl ?_
      have s4 := @qa_sg_gt 1000000 999999
      refine qa_iload_n (pc' := 23) ⟨rfl, rfl⟩ rfl ?_
      refine qa_aload_n (pc' := 24) ⟨rfl, rfl⟩ rfl ?_
      refine qa_getf (pc' := 27) ⟨rfl, rfl⟩ qg_10_9 (by assumption) rfl ?_
      refine qa_iconst (pc' := 28) ⟨rfl, rfl⟩ ?_
      refine qa_iaload (pc' := 29) ⟨rfl, rfl⟩ (by assumption) (by omega) ?_
      refine qa_icmp_ge (pc' := 32) (tgt := 79) ⟨rfl, rfl⟩ rfl (by omega) (by omega) (fun hc1 => ?_) (fun hc1 => ?_)
      · have s5 := @qa_sg_le 1000000 999999
        refine qa_lload_n (pc' := 80) ⟨rfl, rfl⟩ rfl ?_
        refine qa_ldc2 (z := 999999) (pc' := 83) ⟨rfl, rfl⟩ qk_10_181 ?_
        refine qa_lcmp (pc' := 84) ⟨rfl, rfl⟩ (by omega) (by omega) ?_
        refine qa_if_le (pc' := 87) (tgt := 95) ⟨rfl, rfl⟩ rfl (qa_sg_in _ _) (fun hz1 => ?_) (fun hz1 => ?_)
        · exact absurd hz1 (by omega)
        · refine qa_aload_n (pc' := 88) ⟨rfl, rfl⟩ rfl ?_
          refine qa_iconst (pc' := 89) ⟨rfl, rfl⟩ ?_
          refine qa_callV rfl qf_M_throwing ql_10_60 (c_M_throwing (E := E) (f := (sN_put f 12 0)) (v := 1) hlo hM) hM rfl rfl rfl (qa_lt9 rfl) (qa_le9 rfl) (qa_le9 rfl) (qa_le9 rfl) (fun o9 τ9 hq9 => ?_)
          obtain ⟨rfl, e9, hM, f9⟩ := hq9
          refine qa_nx (pc' := 92) (st' := [_]) rfl rfl rfl rfl ?_
          refine qa_goto (pc' := 95) (tgt := 97) ⟨rfl, rfl⟩ rfl ?_
          refine qa_ireturn rfl rfl rfl (hQ _ _ (qa_Mi.mk (k := 1) (w := 0) (by unfold fo_found sm_tg; rw [if_pos hw]; first | done | rfl) (fun h => absurd h (by decide)) (e9.trans e0) (by rw [sN_pp] at hM; exact hM) (fun q hq => (f9 q hq).trans (fr q hq))))
      · refine qa_lload_n (pc' := 33) ⟨rfl, rfl⟩ rfl ?_
        refine qa_ldc2 (z := 999999) (pc' := 36) ⟨rfl, rfl⟩ qk_10_181 ?_
        refine qa_lcmp (pc' := 37) ⟨rfl, rfl⟩ (by omega) (by omega) ?_
        refine qa_if_gt (pc' := 40) (tgt := 79) ⟨rfl, rfl⟩ rfl (qa_sg_in _ _) (fun hz2 => ?_) (fun hz2 => ?_)
        · have s5 := @qa_sg_le 1000000 999999
          refine qa_lload_n (pc' := 80) ⟨rfl, rfl⟩ rfl ?_
          refine qa_ldc2 (z := 999999) (pc' := 83) ⟨rfl, rfl⟩ qk_10_181 ?_
          refine qa_lcmp (pc' := 84) ⟨rfl, rfl⟩ (by omega) (by omega) ?_
          refine qa_if_le (pc' := 87) (tgt := 95) ⟨rfl, rfl⟩ rfl (qa_sg_in _ _) (fun hz1 => ?_) (fun hz1 => ?_)
          · exact absurd hz1 (by omega)
          · refine qa_aload_n (pc' := 88) ⟨rfl, rfl⟩ rfl ?_
            refine qa_iconst (pc' := 89) ⟨rfl, rfl⟩ ?_
            refine qa_callV rfl qf_M_throwing ql_10_60 (c_M_throwing (E := E) (f := (sN_put f 12 0)) (v := 1) hlo hM) hM rfl rfl rfl (qa_lt9 rfl) (qa_le9 rfl) (qa_le9 rfl) (qa_le9 rfl) (fun o9 τ9 hq9 => ?_)
            obtain ⟨rfl, e9, hM, f9⟩ := hq9
            refine qa_nx (pc' := 92) (st' := [_]) rfl rfl rfl rfl ?_
            refine qa_goto (pc' := 95) (tgt := 97) ⟨rfl, rfl⟩ rfl ?_
            refine qa_ireturn rfl rfl rfl (hQ _ _ (qa_Mi.mk (k := 1) (w := 0) (by unfold fo_found sm_tg; rw [if_pos hw]; first | done | rfl) (fun h => absurd h (by decide)) (e9.trans e0) (by rw [sN_pp] at hM; exact hM) (fun q hq => (f9 q hq).trans (fr q hq))))
        · exact absurd hz2 (by omega)
  · rw [if_neg hw]
    refine qa_if_eq (pc' := 12) (tgt := 18) ⟨rfl, rfl⟩ rfl (by omega) (fun hw9 => ?_) (fun hw9 => ?_)
    · refine qa_lconst (z := 1) (pc' := 19) ⟨rfl, rfl⟩ rfl ?_
      refine qa_lstore_n (L' := [(0, _), (1, _)]) (pc' := 20) ⟨rfl, rfl⟩ rfl rfl ?_
      refine qa_iconst (pc' := 21) ⟨rfl, rfl⟩ ?_
      refine qa_istore_n (L' := [(0, _), (1, _), (3, _)]) (pc' := 22) ⟨rfl, rfl⟩ rfl rfl ?_
      have lp : ∀ (f9 : Nat) (k : Nat) (r : Int), ((k : Int) + f9 = m 0 ∧ (1 ≤ r ∧ r ≤ 120000000) ∧ (if 999999 < r then -1 else sm_bm m f9 k r) = sm_bm m (m 0).toNat 0 1) → qa_W E qm_M_togetherAfter Q9 0 0 22 [(0, .ref μ), (1, .long (qa_l r)), (3, .int (qa_i k))] [] τ1 := by
        intro f9
        induction f9 with
        | zero =>
          intro k r ⟨hkf, hrb, hr⟩
          refine qa_iload_n (pc' := 23) ⟨rfl, rfl⟩ rfl ?_
          refine qa_aload_n (pc' := 24) ⟨rfl, rfl⟩ rfl ?_
          refine qa_getf (pc' := 27) ⟨rfl, rfl⟩ qg_10_9 (by assumption) rfl ?_
          refine qa_iconst (pc' := 28) ⟨rfl, rfl⟩ ?_
          refine qa_iaload (pc' := 29) ⟨rfl, rfl⟩ (by assumption) (by omega) ?_
          refine qa_icmp_ge (pc' := 32) (tgt := 79) ⟨rfl, rfl⟩ rfl (by omega) (by omega) (fun hc1 => ?_) (fun hc1 => ?_)
          · have s5 := @qa_sg_le r 999999
            refine qa_lload_n (pc' := 80) ⟨rfl, rfl⟩ rfl ?_
            refine qa_ldc2 (z := 999999) (pc' := 83) ⟨rfl, rfl⟩ qk_10_181 ?_
            refine qa_lcmp (pc' := 84) ⟨rfl, rfl⟩ (by omega) (by omega) ?_
            refine qa_if_le (pc' := 87) (tgt := 95) ⟨rfl, rfl⟩ rfl (qa_sg_in _ _) (fun hz1 => ?_) (fun hz1 => ?_)
            · refine qa_lload_n (pc' := 96) ⟨rfl, rfl⟩ rfl ?_
              refine qa_l2i (pc' := 97) ⟨rfl, rfl⟩ ?_
              have h9 : sm_bm m (m 0).toNat 0 1 = r := by rw [← hr, if_neg (by omega)]; rfl
              refine qa_ireturn rfl rfl rfl (hQ _ _ (qa_Mi.mk (k := 0) (by unfold fo_found sm_tg; rw [if_neg hw, h9, if_neg (by omega)]) (fun _ => rfl) e0 hM fr))
            · refine qa_aload_n (pc' := 88) ⟨rfl, rfl⟩ rfl ?_
              refine qa_iconst (pc' := 89) ⟨rfl, rfl⟩ ?_
              refine qa_callV rfl qf_M_throwing ql_10_60 (c_M_throwing (E := E) (f := (sN_put f 12 0)) (v := 1) hlo hM) hM rfl rfl rfl (qa_lt9 rfl) (qa_le9 rfl) (qa_le9 rfl) (qa_le9 rfl) (fun o9 τ9 hq9 => ?_)
              obtain ⟨rfl, e9, hM, f9⟩ := hq9
              refine qa_nx (pc' := 92) (st' := [_]) rfl rfl rfl rfl ?_
              refine qa_goto (pc' := 95) (tgt := 97) ⟨rfl, rfl⟩ rfl ?_
              refine qa_ireturn rfl rfl rfl (hQ _ _ (qa_Mi.mk (k := 1) (w := 0) (by unfold fo_found sm_tg; rw [if_neg hw, show sm_bm m (m 0).toNat 0 1 = -1 by rw [← hr, if_pos (by omega)]]; first | done | rfl) (fun h => absurd h (by decide)) (e9.trans e0) (by rw [sN_pp] at hM; exact hM) (fun q hq => (f9 q hq).trans (fr q hq))))
          · exact absurd hc1 (by omega)
        | succ f9 ih =>
          intro k r ⟨hkf, hrb, hr⟩
          have s4 := @qa_sg_gt r 999999
          have kk := k4 k (by omega) (by omega)
          have kn := kk.1
          have kw := sm_wh_b kk
          refine qa_iload_n (pc' := 23) ⟨rfl, rfl⟩ rfl ?_
          refine qa_aload_n (pc' := 24) ⟨rfl, rfl⟩ rfl ?_
          refine qa_getf (pc' := 27) ⟨rfl, rfl⟩ qg_10_9 (by assumption) rfl ?_
          refine qa_iconst (pc' := 28) ⟨rfl, rfl⟩ ?_
          refine qa_iaload (pc' := 29) ⟨rfl, rfl⟩ (by assumption) (by omega) ?_
          refine qa_icmp_ge (pc' := 32) (tgt := 79) ⟨rfl, rfl⟩ rfl (by omega) (by omega) (fun hc1 => ?_) (fun hc1 => ?_)
          · exact absurd hc1 (by omega)
          · refine qa_lload_n (pc' := 33) ⟨rfl, rfl⟩ rfl ?_
            refine qa_ldc2 (z := 999999) (pc' := 36) ⟨rfl, rfl⟩ qk_10_181 ?_
            refine qa_lcmp (pc' := 37) ⟨rfl, rfl⟩ (by omega) (by omega) ?_
            refine qa_if_gt (pc' := 40) (tgt := 79) ⟨rfl, rfl⟩ rfl (qa_sg_in _ _) (fun hc2 => ?_) (fun hc2 => ?_)
            · have s5 := @qa_sg_le r 999999
              refine qa_lload_n (pc' := 80) ⟨rfl, rfl⟩ rfl ?_
              refine qa_ldc2 (z := 999999) (pc' := 83) ⟨rfl, rfl⟩ qk_10_181 ?_
              refine qa_lcmp (pc' := 84) ⟨rfl, rfl⟩ (by omega) (by omega) ?_
              refine qa_if_le (pc' := 87) (tgt := 95) ⟨rfl, rfl⟩ rfl (qa_sg_in _ _) (fun hz1 => ?_) (fun hz1 => ?_)
              · exact absurd hz1 (by omega)
              · refine qa_aload_n (pc' := 88) ⟨rfl, rfl⟩ rfl ?_
                refine qa_iconst (pc' := 89) ⟨rfl, rfl⟩ ?_
                refine qa_callV rfl qf_M_throwing ql_10_60 (c_M_throwing (E := E) (f := (sN_put f 12 0)) (v := 1) hlo hM) hM rfl rfl rfl (qa_lt9 rfl) (qa_le9 rfl) (qa_le9 rfl) (qa_le9 rfl) (fun o9 τ9 hq9 => ?_)
                obtain ⟨rfl, e9, hM, f9⟩ := hq9
                refine qa_nx (pc' := 92) (st' := [_]) rfl rfl rfl rfl ?_
                refine qa_goto (pc' := 95) (tgt := 97) ⟨rfl, rfl⟩ rfl ?_
                refine qa_ireturn rfl rfl rfl (hQ _ _ (qa_Mi.mk (k := 1) (w := 0) (by unfold fo_found sm_tg; rw [if_neg hw, show sm_bm m (m 0).toNat 0 1 = -1 by rw [← hr, if_pos (by omega)]]; first | done | rfl) (fun h => absurd h (by decide)) (e9.trans e0) (by rw [sN_pp] at hM; exact hM) (fun q hq => (f9 q hq).trans (fr q hq))))
            · refine qa_aload_n (pc' := 41) ⟨rfl, rfl⟩ rfl ?_
              refine qa_iload_n (pc' := 42) ⟨rfl, rfl⟩ rfl ?_
              refine qa_callV rfl qf_M_notes ql_10_77 (c_M_notes (E := E) hM hm ⟨by omega, by omega⟩) hM rfl rfl rfl (qa_lt9 rfl) (qa_le9 rfl) (qa_le9 rfl) (qa_le9 rfl) (fun o9 τ9 hq9 => ?_)
              obtain ⟨rfl, hq9⟩ := hq9
              replace hq9 := hq9.symm; subst hq9
              refine qa_nx (pc' := 45) (st' := [_]) rfl rfl rfl rfl ?_
              have es : sm_bm m (f9 + 1) k r = if 999999 < (if sm_wh m k ≤ 0 then r else r * (sm_wh m k / sp_gd 64 (sm_wh m k) r)) then -1 else sm_bm m f9 (k + 1) (if sm_wh m k ≤ 0 then r else r * (sm_wh m k / sp_gd 64 (sm_wh m k) r)) := rfl
              rw [if_neg (by omega), es] at hr
              refine qa_if_ne (pc' := 48) (tgt := 52) ⟨rfl, rfl⟩ rfl (by omega) (fun hc3 => ?_) (fun hc3 => ?_)
              · have hl := sp_lcm (a := sm_wh m k) (b := r) (by omega) (by omega)
                have hg := sp_gd_pos (a := r) (b := sm_wh m k) (by omega) (by omega)
                refine qa_lload_n (pc' := 53) ⟨rfl, rfl⟩ rfl ?_
                refine qa_lload_n (pc' := 54) ⟨rfl, rfl⟩ rfl ?_
                refine qa_l2i (pc' := 55) ⟨rfl, rfl⟩ ?_
                refine qa_aload_n (pc' := 56) ⟨rfl, rfl⟩ rfl ?_
                refine qa_iload_n (pc' := 57) ⟨rfl, rfl⟩ rfl ?_
                refine qa_callV rfl qf_M_whole ql_10_84 (c_M_whole (E := E) hM hm hk ⟨by omega, by omega⟩) hM rfl rfl rfl (qa_lt9 rfl) (qa_le9 rfl) (qa_le9 rfl) (qa_le9 rfl) (fun o9 τ9 hq9 => ?_)
                obtain ⟨rfl, hq9⟩ := hq9
                replace hq9 := hq9.symm; subst hq9
                refine qa_nx (pc' := 60) (st' := [_, _, _]) rfl rfl rfl rfl ?_
                refine qa_callS rfl qf_M_divisor rfl ql_10_134 (c_M_divisor (E := E) (by omega) (by omega)) rfl rfl (qa_lt9 rfl) (qa_le9 rfl) (qa_le9 rfl) (qa_le9 rfl) (fun o9 τ9 hq9 => ?_)
                obtain ⟨rfl, hq9⟩ := hq9
                replace hq9 := hq9.symm; subst hq9
                refine qa_nx (pc' := 63) (st' := [_, _]) rfl rfl rfl rfl ?_
                refine qa_i2l (pc' := 64) ⟨rfl, rfl⟩ (by omega) ?_
                refine qa_ldiv (pc' := 65) ⟨rfl, rfl⟩ (by omega) (by omega) (by omega) (by omega) rfl ?_
                refine qa_aload_n (pc' := 66) ⟨rfl, rfl⟩ rfl ?_
                refine qa_iload_n (pc' := 67) ⟨rfl, rfl⟩ rfl ?_
                refine qa_callV rfl qf_M_whole ql_10_84 (c_M_whole (E := E) hM hm hk ⟨by omega, by omega⟩) hM rfl rfl rfl (qa_lt9 rfl) (qa_le9 rfl) (qa_le9 rfl) (qa_le9 rfl) (fun o9 τ9 hq9 => ?_)
                obtain ⟨rfl, hq9⟩ := hq9
                replace hq9 := hq9.symm; subst hq9
                refine qa_nx (pc' := 70) (st' := [_, _]) rfl rfl rfl rfl ?_
                obtain ⟨y9, hy9⟩ : ∃ y9, y9 = r / sp_gd 64 r (sm_wh m k) * sm_wh m k := ⟨_, rfl⟩
                have hb9 := sp_mb (a := r / sp_gd 64 r (sm_wh m k)) (b := sm_wh m k) (A := 999999) (B := 120) (by omega) (by omega)
                have hb8 : 1 * 1 ≤ r / sp_gd 64 r (sm_wh m k) * sm_wh m k := Int.mul_le_mul (by omega) (by omega) (by omega) (by omega)
                rw [if_neg (by omega : ¬ sm_wh m k ≤ 0), show r * (sm_wh m k / sp_gd 64 (sm_wh m k) r) = y9 by rw [hy9, sp_lcm2 (by omega) (by omega)]] at hr
                rw [← hy9] at hb9 hb8
                refine qa_i2l (pc' := 71) ⟨rfl, rfl⟩ (by omega) ?_
                refine qa_lmul (z := y9) (pc' := 72) ⟨rfl, rfl⟩ hy9.symm ?_
                refine qa_lstore_n (L' := [(0, _), (1, _), (3, _)]) (pc' := 73) ⟨rfl, rfl⟩ rfl rfl ?_
                refine qa_iinc (L' := [(0, _), (1, _), (3, _)]) (z := ((k + 1 : Nat) : Int)) (pc' := 76) ⟨rfl, rfl⟩ rfl (by omega) rfl rfl ?_
                refine qa_goto (pc' := 79) (tgt := 22) ⟨rfl, rfl⟩ rfl ?_
                refine qa_sub (ks' := [0, 1, 2]) (L' := [(0, _), (1, _), (3, _)]) rfl ?_
                exact ih (k + 1) y9 ⟨by omega, by omega, hr⟩
              · rw [if_pos (by omega : sm_wh m k ≤ 0)] at hr
                refine qa_lload_n (pc' := 49) ⟨rfl, rfl⟩ rfl ?_
                refine qa_goto (pc' := 52) (tgt := 72) ⟨rfl, rfl⟩ rfl ?_
                refine qa_lstore_n (L' := [(0, _), (1, _), (3, _)]) (pc' := 73) ⟨rfl, rfl⟩ rfl rfl ?_
                refine qa_iinc (L' := [(0, _), (1, _), (3, _)]) (z := ((k + 1 : Nat) : Int)) (pc' := 76) ⟨rfl, rfl⟩ rfl (by omega) rfl rfl ?_
                refine qa_goto (pc' := 79) (tgt := 22) ⟨rfl, rfl⟩ rfl ?_
                refine qa_sub (ks' := [0, 1, 2]) (L' := [(0, _), (1, _), (3, _)]) rfl ?_
                exact ih (k + 1) r ⟨by omega, by omega, hr⟩
      exact lp (m 0).toNat 0 1 ⟨by omega, by omega, by rw [if_neg (by omega)]; rfl⟩
    · exact absurd hw9 (by omega)
theorem c_M_togetherAfterBySteps {E : qa_V} {σ : qa_S} {μ : Nat} {f : Nat → Int} {m : Int → Int} {B : Int}  (hlo : E.1 ≤ μ) (hM : σ.1 μ = some (qa_MoF μ f)) (hm : σ.1 (μ + 1) = some (qa_ia 146 m)) (hk : sm_ok m B)  : qa_T E qm_M_togetherAfterBySteps 0 0 [.ref μ] σ (qa_Mi σ μ f (fo_found (sm_tg m))) := by
  refine qa_enterQ (by decide) rfl qm_M_togetherAfterBySteps_ok rfl rfl (fun Q9 hQ => ?_)
  obtain ⟨k0, k1, k2, k3, k4, k5, k6, k7, k8⟩ := id hk
  have e0 : σ.2 = σ.2 := rfl
  have fr : ∀ q, q ≠ μ → σ.1 q = σ.1 q := fun _ _ => rfl
  refine qa_aload_n (pc' := 1) ⟨rfl, rfl⟩ rfl ?_
  refine qa_callV rfl qf_M_togetherAfter ql_10_185 (c_M_togetherAfter (E := E) hlo hM hm hk) hM rfl rfl rfl (qa_lt9 rfl) (qa_le9 rfl) (qa_le9 rfl) (qa_le9 rfl) (fun o9 τ9 hq9 => ?_)
  obtain ⟨⟨v9, rfl, hv9⟩, e9, w9, f9⟩ := hq9
  refine qa_nx (pc' := 4) (st' := [_]) rfl rfl rfl rfl ?_
  refine qa_ireturn rfl rfl rfl (hQ _ _ ⟨⟨v9, rfl, hv9⟩, e9, w9, f9⟩)
