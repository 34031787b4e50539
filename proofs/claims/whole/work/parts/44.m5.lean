theorem qa_i2cX {E : qa_V} {M : qa_M} {Q : qa_O → qa_S → Prop} {kc ks pc pc' : Nat} {L : qa_L} {st : List Value} {σ : qa_S} {a z : Int} (hd : qa_op M pc (.i2c) 1 pc') (hz : ((qa_i a).toUInt32 % 65536).toInt32 = qa_i z)
    (k : qa_W E M Q kc ks pc' L (.int (qa_i z) :: st) σ) : qa_W E M Q kc ks pc L (.int (qa_i a) :: st) σ := by
  obtain ⟨hd, rfl⟩ := hd
  intro G p l e R s m args below meth c H locs cells slots ls ok C hR hS hL hc hs
  exact lv_i2c C.1 C.2.1 (ok _ _ _ hd) hz (k G p l e R s m args below meth c H locs cells slots ls ok C hR hS hL hc hs)
theorem c_M_barsOf {E : qa_V} {σ : qa_S} {μ : Nat} {f : Nat → Int} {m : Int → Int} {B : Int} {p : Int} (hlo : E.1 ≤ μ) (hM : σ.1 μ = some (qa_MoF μ f)) (hm : σ.1 (μ + 1) = some (qa_ia 146 m)) (hk : sm_ok m B) (hp : qa_in p) : qa_T E qm_M_barsOf 0 0 [.ref μ, .int (qa_i p)] σ (qa_Mi σ μ f (fo_foundP m p (if sm_wh m p = 0 ∨ sm_wh m p % m 1 ≠ 0 then -1 else sm_wh m p / m 1))) := by
  refine qa_enterQ (by decide) rfl qm_M_barsOf_ok rfl rfl (fun Q9 hQ => ?_)
  obtain ⟨k0, k1, k2, k3, k4, k5, k6, k7, k8⟩ := id hk
  have e0 : σ.2 = σ.2 := rfl
  have fr : ∀ q, q ≠ μ → σ.1 q = σ.1 q := fun _ _ => rfl
  refine qa_aload_n (pc' := 1) ⟨rfl, rfl⟩ rfl ?_
  refine qa_iconst (pc' := 2) ⟨rfl, rfl⟩ ?_
  refine qa_putf (fs' := [_, _, _, _, _, _, _, _, _, _, _, _, _, _, _, _, _, _, _, _, _, _, _, _, _, _, _]) (pc' := 5) ⟨rfl, rfl⟩ qg_10_51 qw_9 hM (by omega) rfl (fun r hr => by cases hr; exact ⟨rfl, Or.inl rfl⟩) rfl rfl ?_
  refine qa_gz (fun τ1 e1 w1 f1 => ?_)
  replace hm := (f1 _ (by omega)).trans hm
  replace fr := fun q hq => (f1 q (by have := hq; omega)).trans (fr q hq)
  replace e0 := e1.trans e0
  have hM : τ1.1 μ = some (qa_MoF μ (sN_put f 12 0)) := w1
  refine qa_aload_n (pc' := 6) ⟨rfl, rfl⟩ rfl ?_
  refine qa_iload_n (pc' := 7) ⟨rfl, rfl⟩ rfl ?_
  refine qa_callV rfl qf_M_isPart ql_10_111 (c_M_isPart (E := E) hM hm hk (by omega)) hM rfl rfl rfl (qa_lt9 rfl) (qa_le9 rfl) (qa_le9 rfl) (qa_le9 rfl) (fun o9 τ9 hq9 => ?_)
  obtain ⟨rfl, hq9⟩ := hq9
  replace hq9 := hq9.symm; subst hq9
  refine qa_nx (pc' := 10) (st' := [_]) rfl rfl rfl rfl ?_
  by_cases hp9 : 0 ≤ p ∧ p < m 0
  · rw [if_pos hp9]
    refine qa_if_ne (pc' := 13) (tgt := 19) ⟨rfl, rfl⟩ rfl (by omega) (fun hp99 => ?_) (fun hp99 => ?_)
    · have kk := k4 p (by omega) (by omega)
      have kn := kk.1
      have kw := sm_wh_b kk
      have r1 := Int.emod_nonneg (sm_wh m p) (by omega : m 1 ≠ 0)
      have r2 := Int.emod_lt_of_pos (sm_wh m p) (by omega : 0 < m 1)
      have r3 : 0 ≤ sm_wh m p / m 1 := Int.ediv_nonneg (by omega) (by omega)
      refine qa_aload_n (pc' := 20) ⟨rfl, rfl⟩ rfl ?_
      refine qa_iload_n (pc' := 21) ⟨rfl, rfl⟩ rfl ?_
      refine qa_callV rfl qf_M_notes ql_10_77 (c_M_notes (E := E) hM hm ⟨by omega, by omega⟩) hM rfl rfl rfl (qa_lt9 rfl) (qa_le9 rfl) (qa_le9 rfl) (qa_le9 rfl) (fun o9 τ9 hq9 => ?_)
      obtain ⟨rfl, hq9⟩ := hq9
      replace hq9 := hq9.symm; subst hq9
      refine qa_nx (pc' := 24) (st' := [_]) rfl rfl rfl rfl ?_
      refine qa_if_le (pc' := 27) (tgt := 46) ⟨rfl, rfl⟩ rfl (by omega) (fun hc3 => ?_) (fun hc3 => ?_)
      · refine qa_iconst (pc' := 47) ⟨rfl, rfl⟩ ?_
        refine qa_istore_n (L' := [(0, _), (1, _), (2, _)]) (pc' := 48) ⟨rfl, rfl⟩ rfl rfl ?_
        refine qa_iload_n (pc' := 49) ⟨rfl, rfl⟩ rfl ?_
        refine qa_if_eq (pc' := 52) (tgt := 67) ⟨rfl, rfl⟩ rfl (by omega) (fun hz1 => ?_) (fun hz1 => ?_)
        · refine qa_aload_n (pc' := 68) ⟨rfl, rfl⟩ rfl ?_
          refine qa_iconst (pc' := 69) ⟨rfl, rfl⟩ ?_
          refine qa_callV rfl qf_M_throwing ql_10_60 (c_M_throwing (E := E) (f := (sN_put f 12 0)) (v := 2) hlo hM) hM rfl rfl rfl (qa_lt9 rfl) (qa_le9 rfl) (qa_le9 rfl) (qa_le9 rfl) (fun o9 τ9 hq9 => ?_)
          obtain ⟨rfl, e9, hM, f9⟩ := hq9
          refine qa_nx (pc' := 72) (st' := [_]) rfl rfl rfl rfl ?_
          refine qa_ireturn rfl rfl rfl (hQ _ _ (qa_Mi.mk (k := 2) (w := 0) (by unfold fo_foundP; rw [if_pos (by omega), if_pos (by omega : sm_wh m p = 0 ∨ sm_wh m p % m 1 ≠ 0)]; rfl) (fun h => absurd h (by decide)) (e9.trans e0) (by rw [sN_pp] at hM; exact hM) (fun q hq => (f9 q hq).trans (fr q hq))))
        · exact absurd hz1 (by decide)
      · refine qa_aload_n (pc' := 28) ⟨rfl, rfl⟩ rfl ?_
        refine qa_iload_n (pc' := 29) ⟨rfl, rfl⟩ rfl ?_
        refine qa_callV rfl qf_M_whole ql_10_84 (c_M_whole (E := E) hM hm hk ⟨by omega, by omega⟩) hM rfl rfl rfl (qa_lt9 rfl) (qa_le9 rfl) (qa_le9 rfl) (qa_le9 rfl) (fun o9 τ9 hq9 => ?_)
        obtain ⟨rfl, hq9⟩ := hq9
        replace hq9 := hq9.symm; subst hq9
        refine qa_nx (pc' := 32) (st' := [_]) rfl rfl rfl rfl ?_
        refine qa_aload_n (pc' := 33) ⟨rfl, rfl⟩ rfl ?_
        refine qa_getf (pc' := 36) ⟨rfl, rfl⟩ qg_10_9 (by assumption) rfl ?_
        refine qa_iconst (pc' := 37) ⟨rfl, rfl⟩ ?_
        refine qa_iaload (pc' := 38) ⟨rfl, rfl⟩ (by assumption) (by omega) ?_
        refine qa_irem (pc' := 39) ⟨rfl, rfl⟩ (by omega) (by omega) (by omega) (by omega) rfl ?_
        refine qa_if_ne (pc' := 42) (tgt := 46) ⟨rfl, rfl⟩ rfl (by omega) (fun hc4 => ?_) (fun hc4 => ?_)
        · refine qa_iconst (pc' := 47) ⟨rfl, rfl⟩ ?_
          refine qa_istore_n (L' := [(0, _), (1, _), (2, _)]) (pc' := 48) ⟨rfl, rfl⟩ rfl rfl ?_
          refine qa_iload_n (pc' := 49) ⟨rfl, rfl⟩ rfl ?_
          refine qa_if_eq (pc' := 52) (tgt := 67) ⟨rfl, rfl⟩ rfl (by omega) (fun hz1 => ?_) (fun hz1 => ?_)
          · refine qa_aload_n (pc' := 68) ⟨rfl, rfl⟩ rfl ?_
            refine qa_iconst (pc' := 69) ⟨rfl, rfl⟩ ?_
            refine qa_callV rfl qf_M_throwing ql_10_60 (c_M_throwing (E := E) (f := (sN_put f 12 0)) (v := 2) hlo hM) hM rfl rfl rfl (qa_lt9 rfl) (qa_le9 rfl) (qa_le9 rfl) (qa_le9 rfl) (fun o9 τ9 hq9 => ?_)
            obtain ⟨rfl, e9, hM, f9⟩ := hq9
            refine qa_nx (pc' := 72) (st' := [_]) rfl rfl rfl rfl ?_
            refine qa_ireturn rfl rfl rfl (hQ _ _ (qa_Mi.mk (k := 2) (w := 0) (by unfold fo_foundP; rw [if_pos (by omega), if_pos (by omega : sm_wh m p = 0 ∨ sm_wh m p % m 1 ≠ 0)]; rfl) (fun h => absurd h (by decide)) (e9.trans e0) (by rw [sN_pp] at hM; exact hM) (fun q hq => (f9 q hq).trans (fr q hq))))
          · exact absurd hz1 (by decide)
        · refine qa_iconst (pc' := 43) ⟨rfl, rfl⟩ ?_
          refine qa_goto (pc' := 46) (tgt := 47) ⟨rfl, rfl⟩ rfl ?_
          refine qa_istore_n (L' := [(0, _), (1, _), (2, _)]) (pc' := 48) ⟨rfl, rfl⟩ rfl rfl ?_
          refine qa_iload_n (pc' := 49) ⟨rfl, rfl⟩ rfl ?_
          refine qa_if_eq (pc' := 52) (tgt := 67) ⟨rfl, rfl⟩ rfl (by omega) (fun hz1 => ?_) (fun hz1 => ?_)
          · exact absurd hz1 (by decide)
          · refine qa_aload_n (pc' := 53) ⟨rfl, rfl⟩ rfl ?_
            refine qa_iload_n (pc' := 54) ⟨rfl, rfl⟩ rfl ?_
            refine qa_callV rfl qf_M_whole ql_10_84 (c_M_whole (E := E) hM hm hk ⟨by omega, by omega⟩) hM rfl rfl rfl (qa_lt9 rfl) (qa_le9 rfl) (qa_le9 rfl) (qa_le9 rfl) (fun o9 τ9 hq9 => ?_)
            obtain ⟨rfl, hq9⟩ := hq9
            replace hq9 := hq9.symm; subst hq9
            refine qa_nx (pc' := 57) (st' := [_]) rfl rfl rfl rfl ?_
            refine qa_aload_n (pc' := 58) ⟨rfl, rfl⟩ rfl ?_
            refine qa_getf (pc' := 61) ⟨rfl, rfl⟩ qg_10_9 (by assumption) rfl ?_
            refine qa_iconst (pc' := 62) ⟨rfl, rfl⟩ ?_
            refine qa_iaload (pc' := 63) ⟨rfl, rfl⟩ (by assumption) (by omega) ?_
            refine qa_idiv (pc' := 64) ⟨rfl, rfl⟩ (by omega) (by omega) (by omega) (by omega) rfl ?_
            refine qa_goto (pc' := 67) (tgt := 72) ⟨rfl, rfl⟩ rfl ?_
            refine qa_ireturn rfl rfl rfl (hQ _ _ (qa_Mi.mk (k := 0) (by unfold fo_foundP; rw [if_pos (by omega), if_neg (by omega : ¬ (sm_wh m p = 0 ∨ sm_wh m p % m 1 ≠ 0)), if_neg (by omega)]) (fun _ => rfl) e0 hM fr))
    · exact absurd hp99 (by omega)
  · rw [if_neg hp9]
    refine qa_if_ne (pc' := 13) (tgt := 19) ⟨rfl, rfl⟩ rfl (by omega) (fun hp99 => ?_) (fun hp99 => ?_)
    · exact absurd hp99 (by omega)
    · refine qa_aload_n (pc' := 14) ⟨rfl, rfl⟩ rfl ?_
      refine qa_iconst (pc' := 15) ⟨rfl, rfl⟩ ?_
      refine qa_callV rfl qf_M_throwing ql_10_60 (c_M_throwing (E := E) (f := (sN_put f 12 0)) (v := 1) hlo hM) hM rfl rfl rfl (qa_lt9 rfl) (qa_le9 rfl) (qa_le9 rfl) (qa_le9 rfl) (fun o9 τ9 hq9 => ?_)
      obtain ⟨rfl, e9, hM, f9⟩ := hq9
      refine qa_nx (pc' := 18) (st' := [_]) rfl rfl rfl rfl ?_
      refine qa_ireturn rfl rfl rfl (hQ _ _ (qa_Mi.mk (k := 1) (w := 0) (by unfold fo_foundP; repeat (first | rw [if_pos (by omega)] | rw [if_neg (by omega)])) (fun h => absurd h (by decide)) (e9.trans e0) (by rw [sN_pp] at hM; exact hM) (fun q hq => (f9 q hq).trans (fr q hq))))
theorem c_M_tempo {E : qa_V} {σ : qa_S} {μ : Nat} {f : Nat → Int} {m : Int → Int} {B : Int} {x : Int} (hM : σ.1 μ = some (qa_MoF μ f)) (hm : σ.1 (μ + 1) = some (qa_ia 146 m)) (hk : sm_ok m B) (hx : 0 ≤ x ∧ x ≤ 999) : qa_T E qm_M_tempo 0 0 [.ref μ, .int (qa_i x)] σ (fun o9 τ => o9 = .inl (some (.int (qa_i (sm_vf m (sm_e m x))))) ∧ τ = σ) := by
  refine qa_enterQ (by decide) rfl qm_M_tempo_ok rfl rfl (fun Q9 hQ => ?_)
  obtain ⟨k0, k1, k2, k3, k4, k5, k6, k7, k8⟩ := id hk
  refine qa_iconst (pc' := 1) ⟨rfl, rfl⟩ ?_
  refine qa_istore_n (L' := [(0, _), (1, _), (2, _)]) (pc' := 2) ⟨rfl, rfl⟩ rfl rfl ?_
  refine qa_iconst (pc' := 3) ⟨rfl, rfl⟩ ?_
  refine qa_istore_n (L' := [(0, _), (1, _), (2, _), (3, _)]) (pc' := 4) ⟨rfl, rfl⟩ rfl rfl ?_
  have lp : ∀ (f9 : Nat) (k : Nat) (r : Int), ((k : Int) + f9 = m 2 ∧ ∀ j : Nat, k = j + 1 → r = sm_vf m (sp_en (sm_bf m) x j)) → qa_W E qm_M_tempo Q9 0 0 4 [(0, .ref μ), (1, .int (qa_i x)), (2, .int (qa_i r)), (3, .int (qa_i k))] [] σ := by
    intro f9
    induction f9 with
    | zero =>
      intro k r ⟨hkf, hr⟩
      refine qa_iload_n (pc' := 5) ⟨rfl, rfl⟩ rfl ?_
      refine qa_aload_n (pc' := 6) ⟨rfl, rfl⟩ rfl ?_
      refine qa_getf (pc' := 9) ⟨rfl, rfl⟩ qg_10_9 (by assumption) rfl ?_
      refine qa_iconst (pc' := 10) ⟨rfl, rfl⟩ ?_
      refine qa_iaload (pc' := 11) ⟨rfl, rfl⟩ (by assumption) (by omega) ?_
      refine qa_icmp_ge (pc' := 14) (tgt := 55) ⟨rfl, rfl⟩ rfl (by omega) (by omega) (fun hc1 => ?_) (fun hc1 => ?_)
      · have h9 := hr ((m 2).toNat - 1) (by omega)
        refine qa_iload_n (pc' := 56) ⟨rfl, rfl⟩ rfl ?_
        refine qa_ireturn rfl rfl rfl (hQ _ _ ⟨by rw [h9]; unfold sm_e; rw [show (m 2 - 1).toNat = (m 2).toNat - 1 by omega], rfl⟩)
      · exact absurd hc1 (by omega)
    | succ f9 ih =>
      intro k r ⟨hkf, hr⟩
      have bb : 0 ≤ m (134 + 2 * (k : Int)) ∧ m (134 + 2 * (k : Int)) ≤ 999 := k7.2.1 k (by omega) (by omega)
      have b0 := k7.1
      refine qa_iload_n (pc' := 5) ⟨rfl, rfl⟩ rfl ?_
      refine qa_aload_n (pc' := 6) ⟨rfl, rfl⟩ rfl ?_
      refine qa_getf (pc' := 9) ⟨rfl, rfl⟩ qg_10_9 (by assumption) rfl ?_
      refine qa_iconst (pc' := 10) ⟨rfl, rfl⟩ ?_
      refine qa_iaload (pc' := 11) ⟨rfl, rfl⟩ (by assumption) (by omega) ?_
      refine qa_icmp_ge (pc' := 14) (tgt := 55) ⟨rfl, rfl⟩ rfl (by omega) (by omega) (fun hc1 => ?_) (fun hc1 => ?_)
      · exact absurd hc1 (by omega)
      · refine qa_aload_n (pc' := 15) ⟨rfl, rfl⟩ rfl ?_
        refine qa_getf (pc' := 18) ⟨rfl, rfl⟩ qg_10_9 (by assumption) rfl ?_
        refine qa_sipush (z := 134) (pc' := 21) ⟨rfl, rfl⟩ rfl ?_
        refine qa_iconst (pc' := 22) ⟨rfl, rfl⟩ ?_
        refine qa_iload_n (pc' := 23) ⟨rfl, rfl⟩ rfl ?_
        refine qa_imul (pc' := 24) ⟨rfl, rfl⟩ rfl ?_
        refine qa_iadd (z := 134 + 2 * (k : Int)) (pc' := 25) ⟨rfl, rfl⟩ (by omega) ?_
        refine qa_iaload (pc' := 26) ⟨rfl, rfl⟩ (by assumption) (by omega) ?_
        refine qa_iload_n (pc' := 27) ⟨rfl, rfl⟩ rfl ?_
        refine qa_icmp_gt (pc' := 30) (tgt := 47) ⟨rfl, rfl⟩ rfl (by omega) (by omega) (fun hc2 => ?_) (fun hc2 => ?_)
        · refine qa_iload_n (pc' := 48) ⟨rfl, rfl⟩ rfl ?_
          refine qa_istore_n (L' := [(0, _), (1, _), (2, _), (3, _)]) (pc' := 49) ⟨rfl, rfl⟩ rfl rfl ?_
          refine qa_iinc (L' := [(0, _), (1, _), (2, _), (3, _)]) (z := ((k + 1 : Nat) : Int)) (pc' := 52) ⟨rfl, rfl⟩ rfl (by omega) rfl rfl ?_
          refine qa_goto (pc' := 55) (tgt := 4) ⟨rfl, rfl⟩ rfl ?_
          refine ih (k + 1) _ ⟨by omega, fun j hj => ?_⟩
          obtain rfl : j = k := by omega
          cases j with
          | zero => exact absurd hc2 (by have h0 : m (134 + 2 * ((0 : Nat) : Int)) = 0 := b0; omega)
          | succ i => unfold sp_en; rw [if_neg]; exact hr i rfl; exact Int.not_le.mpr hc2
        · refine qa_aload_n (pc' := 31) ⟨rfl, rfl⟩ rfl ?_
          refine qa_getf (pc' := 34) ⟨rfl, rfl⟩ qg_10_9 (by assumption) rfl ?_
          refine qa_sipush (z := 134) (pc' := 37) ⟨rfl, rfl⟩ rfl ?_
          refine qa_iconst (pc' := 38) ⟨rfl, rfl⟩ ?_
          refine qa_iload_n (pc' := 39) ⟨rfl, rfl⟩ rfl ?_
          refine qa_imul (pc' := 40) ⟨rfl, rfl⟩ rfl ?_
          refine qa_iadd (z := 134 + 2 * (k : Int)) (pc' := 41) ⟨rfl, rfl⟩ (by omega) ?_
          refine qa_iconst (pc' := 42) ⟨rfl, rfl⟩ ?_
          refine qa_iadd (z := 135 + 2 * (k : Int)) (pc' := 43) ⟨rfl, rfl⟩ (by omega) ?_
          refine qa_iaload (pc' := 44) ⟨rfl, rfl⟩ (by assumption) (by omega) ?_
          refine qa_goto (pc' := 47) (tgt := 48) ⟨rfl, rfl⟩ rfl ?_
          refine qa_istore_n (L' := [(0, _), (1, _), (2, _), (3, _)]) (pc' := 49) ⟨rfl, rfl⟩ rfl rfl ?_
          refine qa_iinc (L' := [(0, _), (1, _), (2, _), (3, _)]) (z := ((k + 1 : Nat) : Int)) (pc' := 52) ⟨rfl, rfl⟩ rfl (by omega) rfl rfl ?_
          refine qa_goto (pc' := 55) (tgt := 4) ⟨rfl, rfl⟩ rfl ?_
          refine ih (k + 1) _ ⟨by omega, fun j hj => ?_⟩
          obtain rfl : j = k := by omega
          cases j with
          | zero => rfl
          | succ i => unfold sp_en; rw [if_pos]; rfl; exact hc2
  exact lp (m 2).toNat 0 0 ⟨by omega, fun j hj => by omega⟩
theorem c_M_tempoAt {E : qa_V} {σ : qa_S} {μ : Nat} {f : Nat → Int} {m : Int → Int} {B : Int} {x : Int} (hlo : E.1 ≤ μ) (hM : σ.1 μ = some (qa_MoF μ f)) (hm : σ.1 (μ + 1) = some (qa_ia 146 m)) (hk : sm_ok m B) (hx : qa_in x) : qa_T E qm_M_tempoAt 0 0 [.ref μ, .int (qa_i x)] σ (qa_Mi σ μ f (fo_rng 0 999 x (sm_vf m (sm_e m x)))) := by
  refine qa_enterQ (by decide) rfl qm_M_tempoAt_ok rfl rfl (fun Q9 hQ => ?_)
  obtain ⟨k0, k1, k2, k3, k4, k5, k6, k7, k8⟩ := id hk
  have e0 : σ.2 = σ.2 := rfl
  have fr : ∀ q, q ≠ μ → σ.1 q = σ.1 q := fun _ _ => rfl
  refine qa_aload_n (pc' := 1) ⟨rfl, rfl⟩ rfl ?_
  refine qa_iconst (pc' := 2) ⟨rfl, rfl⟩ ?_
  refine qa_putf (fs' := [_, _, _, _, _, _, _, _, _, _, _, _, _, _, _, _, _, _, _, _, _, _, _, _, _, _, _]) (pc' := 5) ⟨rfl, rfl⟩ qg_10_51 qw_9 hM (by omega) rfl (fun r hr => by cases hr; exact ⟨rfl, Or.inl rfl⟩) rfl rfl ?_
  refine qa_gz (fun τ1 e1 w1 f1 => ?_)
  replace hm := (f1 _ (by omega)).trans hm
  replace fr := fun q hq => (f1 q (by have := hq; omega)).trans (fr q hq)
  replace e0 := e1.trans e0
  have hM : τ1.1 μ = some (qa_MoF μ (sN_put f 12 0)) := w1
  refine qa_iload_n (pc' := 6) ⟨rfl, rfl⟩ rfl ?_
  refine qa_i2l (pc' := 7) ⟨rfl, rfl⟩ (by omega) ?_
  refine qa_lconst (z := 0) (pc' := 8) ⟨rfl, rfl⟩ rfl ?_
  refine qa_ldc2 (z := 999) (pc' := 11) ⟨rfl, rfl⟩ qk_10_154 ?_
  refine qa_callS rfl qf_M_in rfl ql_10_70 (c_M_in (E := E) (by omega) (by omega) (by omega)) rfl rfl (qa_lt9 rfl) (qa_le9 rfl) (qa_le9 rfl) (qa_le9 rfl) (fun o9 τ9 hq9 => ?_)
  obtain ⟨rfl, hq9⟩ := hq9
  replace hq9 := hq9.symm; subst hq9
  refine qa_nx (pc' := 14) (st' := [_]) rfl rfl rfl rfl ?_
  by_cases hi9 : 0 ≤ x ∧ x ≤ 999
  · rw [if_pos hi9]
    refine qa_if_eq (pc' := 17) (tgt := 25) ⟨rfl, rfl⟩ rfl (by omega) (fun hi99 => ?_) (fun hi99 => ?_)
    · exact absurd hi99 (by omega)
    · refine qa_aload_n (pc' := 18) ⟨rfl, rfl⟩ rfl ?_
      refine qa_iload_n (pc' := 19) ⟨rfl, rfl⟩ rfl ?_
      refine qa_callV rfl qf_M_tempo ql_10_228 (c_M_tempo (E := E) hM hm hk (by omega)) hM rfl rfl rfl (qa_lt9 rfl) (qa_le9 rfl) (qa_le9 rfl) (qa_le9 rfl) (fun o9 τ9 hq9 => ?_)
      obtain ⟨rfl, hq9⟩ := hq9
      replace hq9 := hq9.symm; subst hq9
      refine qa_nx (pc' := 22) (st' := [_]) rfl rfl rfl rfl ?_
      refine qa_goto (pc' := 25) (tgt := 30) ⟨rfl, rfl⟩ rfl ?_
      refine qa_ireturn rfl rfl rfl (hQ _ _ (qa_Mi.mk (k := 0) (by unfold fo_rng; repeat (first | rw [if_pos (by omega)] | rw [if_neg (by omega)])) (fun _ => rfl) e0 hM fr))
  · rw [if_neg hi9]
    refine qa_if_eq (pc' := 17) (tgt := 25) ⟨rfl, rfl⟩ rfl (by omega) (fun hi99 => ?_) (fun hi99 => ?_)
    · refine qa_aload_n (pc' := 26) ⟨rfl, rfl⟩ rfl ?_
      refine qa_iconst (pc' := 27) ⟨rfl, rfl⟩ ?_
      refine qa_callV rfl qf_M_throwing ql_10_60 (c_M_throwing (E := E) (f := (sN_put f 12 0)) (v := 1) hlo hM) hM rfl rfl rfl (qa_lt9 rfl) (qa_le9 rfl) (qa_le9 rfl) (qa_le9 rfl) (fun o9 τ9 hq9 => ?_)
      obtain ⟨rfl, e9, hM, f9⟩ := hq9
      refine qa_nx (pc' := 30) (st' := [_]) rfl rfl rfl rfl ?_
      refine qa_ireturn rfl rfl rfl (hQ _ _ (qa_Mi.mk (k := 1) (w := 0) (by unfold fo_rng; repeat (first | rw [if_pos (by omega)] | rw [if_neg (by omega)])) (fun h => absurd h (by decide)) (e9.trans e0) (by rw [sN_pp] at hM; exact hM) (fun q hq => (f9 q hq).trans (fr q hq))))
    · exact absurd hi99 (by omega)
theorem c_M_startOfBar {E : qa_V} {σ : qa_S} {μ : Nat} {f : Nat → Int} {m : Int → Int} {B : Int} {x : Int} (hlo : E.1 ≤ μ) (hM : σ.1 μ = some (qa_MoF μ f)) (hm : σ.1 (μ + 1) = some (qa_ia 146 m)) (hk : sm_ok m B) (hx : qa_in x) : qa_T E qm_M_startOfBar 0 0 [.ref μ, .int (qa_i x)] σ (qa_Mv (fun v : Int => Value.long (qa_l v)) σ μ f (if 0 ≤ x ∧ x ≤ 999 then 0 else 1) (sp_sb (sm_bf m) (sm_vf m) (m 2) (m 1) x.toNat)) := by
  refine qa_enterQ (by decide) rfl qm_M_startOfBar_ok rfl rfl (fun Q9 hQ => ?_)
  obtain ⟨k0, k1, k2, k3, k4, k5, k6, k7, k8⟩ := id hk
  have e0 : σ.2 = σ.2 := rfl
  have fr : ∀ q, q ≠ μ → σ.1 q = σ.1 q := fun _ _ => rfl
  refine qa_aload_n (pc' := 1) ⟨rfl, rfl⟩ rfl ?_
  refine qa_iconst (pc' := 2) ⟨rfl, rfl⟩ ?_
  refine qa_putf (fs' := [_, _, _, _, _, _, _, _, _, _, _, _, _, _, _, _, _, _, _, _, _, _, _, _, _, _, _]) (pc' := 5) ⟨rfl, rfl⟩ qg_10_51 qw_9 hM (by omega) rfl (fun r hr => by cases hr; exact ⟨rfl, Or.inl rfl⟩) rfl rfl ?_
  refine qa_gz (fun τ1 e1 w1 f1 => ?_)
  replace hm := (f1 _ (by omega)).trans hm
  replace fr := fun q hq => (f1 q (by have := hq; omega)).trans (fr q hq)
  replace e0 := e1.trans e0
  have hM : τ1.1 μ = some (qa_MoF μ (sN_put f 12 0)) := w1
  refine qa_iload_n (pc' := 6) ⟨rfl, rfl⟩ rfl ?_
  refine qa_i2l (pc' := 7) ⟨rfl, rfl⟩ (by omega) ?_
  refine qa_lconst (z := 0) (pc' := 8) ⟨rfl, rfl⟩ rfl ?_
  refine qa_ldc2 (z := 999) (pc' := 11) ⟨rfl, rfl⟩ qk_10_154 ?_
  refine qa_callS rfl qf_M_in rfl ql_10_70 (c_M_in (E := E) (by omega) (by omega) (by omega)) rfl rfl (qa_lt9 rfl) (qa_le9 rfl) (qa_le9 rfl) (qa_le9 rfl) (fun o9 τ9 hq9 => ?_)
  obtain ⟨rfl, hq9⟩ := hq9
  replace hq9 := hq9.symm; subst hq9
  refine qa_nx (pc' := 14) (st' := [_]) rfl rfl rfl rfl ?_
  by_cases hi9 : 0 ≤ x ∧ x ≤ 999
  · rw [if_pos hi9]
    refine qa_if_ne (pc' := 17) (tgt := 24) ⟨rfl, rfl⟩ rfl (by omega) (fun hi99 => ?_) (fun hi99 => ?_)
    · refine qa_lconst (z := 0) (pc' := 25) ⟨rfl, rfl⟩ rfl ?_
      refine qa_lstore_n (L' := [(0, _), (1, _), (2, _)]) (pc' := 26) ⟨rfl, rfl⟩ rfl rfl ?_
      refine qa_iconst (pc' := 27) ⟨rfl, rfl⟩ ?_
      refine qa_istore (L' := [(0, _), (1, _), (2, _), (4, _)]) (pc' := 29) ⟨rfl, rfl⟩ rfl rfl ?_
      have lp : ∀ (f9 : Nat) (k : Nat) (r : Int), ((k : Int) + f9 = x ∧ r = sp_sb (sm_bf m) (sm_vf m) (m 2) (m 1) k) → qa_W E qm_M_startOfBar Q9 0 0 29 [(0, .ref μ), (1, .int (qa_i x)), (2, .long (qa_l r)), (4, .int (qa_i k))] [] τ1 := by
        intro f9
        induction f9 with
        | zero =>
          intro k r ⟨hkf, hr⟩
          refine qa_iload (pc' := 31) ⟨rfl, rfl⟩ rfl ?_
          refine qa_iload_n (pc' := 32) ⟨rfl, rfl⟩ rfl ?_
          refine qa_icmp_ge (pc' := 35) (tgt := 62) ⟨rfl, rfl⟩ rfl (by omega) (by omega) (fun hc1 => ?_) (fun hc1 => ?_)
          · refine qa_lload_n (pc' := 63) ⟨rfl, rfl⟩ rfl ?_
            refine qa_lreturn rfl rfl (hQ _ _ (qa_Mv.mk (k1 := 0) (by first | rfl | rw [if_pos (by omega)]) (fun _ => by rw [hr, show x.toNat = k by omega]) e0 hM fr))
          · exact absurd hc1 (by omega)
        | succ f9 ih =>
          intro k r ⟨hkf, hr⟩
          refine qa_iload (pc' := 31) ⟨rfl, rfl⟩ rfl ?_
          refine qa_iload_n (pc' := 32) ⟨rfl, rfl⟩ rfl ?_
          refine qa_icmp_ge (pc' := 35) (tgt := 62) ⟨rfl, rfl⟩ rfl (by omega) (by omega) (fun hc1 => ?_) (fun hc1 => ?_)
          · exact absurd hc1 (by omega)
          · have eb := sp_en_b (sm_bf m) k (m 2 - 1).toNat
            have vb := k8 (sp_en (sm_bf m) k (m 2 - 1).toNat) (by omega) (by omega)
            have ms := sp_ms_b (bt := m 1) (v := sm_vf m (sm_e m k)) k1 vb
            have sb := sp_sb_b (bars := sm_bf m) (vals := sm_vf m) (bt := m 1) k2.1 k8 k1 k
            have vb2 : 30 ≤ sm_vf m (sm_e m k) ∧ sm_vf m (sm_e m k) ≤ 240 := vb
            refine qa_lload_n (pc' := 36) ⟨rfl, rfl⟩ rfl ?_
            refine qa_aload_n (pc' := 37) ⟨rfl, rfl⟩ rfl ?_
            refine qa_getf (pc' := 40) ⟨rfl, rfl⟩ qg_10_9 (by assumption) rfl ?_
            refine qa_iconst (pc' := 41) ⟨rfl, rfl⟩ ?_
            refine qa_iaload (pc' := 42) ⟨rfl, rfl⟩ (by assumption) (by omega) ?_
            refine qa_sipush (z := 15000) (pc' := 45) ⟨rfl, rfl⟩ rfl ?_
            refine qa_imul (pc' := 46) ⟨rfl, rfl⟩ rfl ?_
            refine qa_aload_n (pc' := 47) ⟨rfl, rfl⟩ rfl ?_
            refine qa_iload (pc' := 49) ⟨rfl, rfl⟩ rfl ?_
            refine qa_callV rfl qf_M_tempo ql_10_228 (c_M_tempo (E := E) hM hm hk (by omega)) hM rfl rfl rfl (qa_lt9 rfl) (qa_le9 rfl) (qa_le9 rfl) (qa_le9 rfl) (fun o9 τ9 hq9 => ?_)
            obtain ⟨rfl, hq9⟩ := hq9
            replace hq9 := hq9.symm; subst hq9
            refine qa_nx (pc' := 52) (st' := [_, _, _]) rfl rfl rfl rfl ?_
            refine qa_idiv (pc' := 53) ⟨rfl, rfl⟩ (by omega) (by omega) (by omega) (by omega) rfl ?_
            refine qa_i2l (pc' := 54) ⟨rfl, rfl⟩ (by omega) ?_
            refine qa_ladd (z := sp_sb (sm_bf m) (sm_vf m) (m 2) (m 1) (k + 1)) (pc' := 55) ⟨rfl, rfl⟩ (by rw [hr]; rfl) ?_
            refine qa_lstore_n (L' := [(0, _), (1, _), (2, _), (4, _)]) (pc' := 56) ⟨rfl, rfl⟩ rfl rfl ?_
            refine qa_iinc (L' := [(0, _), (1, _), (2, _), (4, _)]) (z := ((k + 1 : Nat) : Int)) (pc' := 59) ⟨rfl, rfl⟩ rfl (by omega) rfl rfl ?_
            refine qa_goto (pc' := 62) (tgt := 29) ⟨rfl, rfl⟩ rfl ?_
            refine qa_sub (ks' := [0, 1, 2, 3]) (L' := [(0, _), (1, _), (2, _), (4, _)]) rfl ?_
            exact ih (k + 1) _ ⟨by omega, rfl⟩
      exact lp x.toNat 0 0 ⟨by omega, rfl⟩
    · exact absurd hi99 (by omega)
  · rw [if_neg hi9]
    refine qa_if_ne (pc' := 17) (tgt := 24) ⟨rfl, rfl⟩ rfl (by omega) (fun hi99 => ?_) (fun hi99 => ?_)
    · exact absurd hi99 (by omega)
    · refine qa_aload_n (pc' := 18) ⟨rfl, rfl⟩ rfl ?_
      refine qa_iconst (pc' := 19) ⟨rfl, rfl⟩ ?_
      refine qa_callV rfl qf_M_throwing ql_10_60 (c_M_throwing (E := E) (f := (sN_put f 12 0)) (v := 1) hlo hM) hM rfl rfl rfl (qa_lt9 rfl) (qa_le9 rfl) (qa_le9 rfl) (qa_le9 rfl) (fun o9 τ9 hq9 => ?_)
      obtain ⟨rfl, e9, hM, f9⟩ := hq9
      refine qa_nx (pc' := 22) (st' := [_]) rfl rfl rfl rfl ?_
      refine qa_i2l (pc' := 23) ⟨rfl, rfl⟩ (by omega) ?_
      refine qa_lreturn rfl rfl (hQ _ _ (qa_Mv.mk (k1 := 1) (by first | rfl | rw [if_neg (by omega)]) (fun h => absurd h (by decide)) (e9.trans e0) (by rw [sN_pp] at hM; exact hM) (fun q hq => (f9 q hq).trans (fr q hq))))
theorem c_M_startOfBarByTempos {E : qa_V} {σ : qa_S} {μ : Nat} {f : Nat → Int} {m : Int → Int} {B : Int} {x : Int} (hlo : E.1 ≤ μ) (hM : σ.1 μ = some (qa_MoF μ f)) (hm : σ.1 (μ + 1) = some (qa_ia 146 m)) (hk : sm_ok m B) (hx : qa_in x) : qa_T E qm_M_startOfBarByTempos 0 0 [.ref μ, .int (qa_i x)] σ (qa_Mv (fun v : Int => Value.long (qa_l v)) σ μ f (if 0 ≤ x ∧ x ≤ 999 then 0 else 1) (sp_sb (sm_bf m) (sm_vf m) (m 2) (m 1) x.toNat)) := by
  refine qa_enterQ (by decide) rfl qm_M_startOfBarByTempos_ok rfl rfl (fun Q9 hQ => ?_)
  obtain ⟨k0, k1, k2, k3, k4, k5, k6, k7, k8⟩ := id hk
  have e0 : σ.2 = σ.2 := rfl
  have fr : ∀ q, q ≠ μ → σ.1 q = σ.1 q := fun _ _ => rfl
  refine qa_aload_n (pc' := 1) ⟨rfl, rfl⟩ rfl ?_
  refine qa_iload_n (pc' := 2) ⟨rfl, rfl⟩ rfl ?_
  refine qa_callV rfl qf_M_startOfBar ql_10_231 (c_M_startOfBar (E := E) hlo hM hm hk hx) hM rfl rfl rfl (qa_lt9 rfl) (qa_le9 rfl) (qa_le9 rfl) (qa_le9 rfl) (fun o9 τ9 hq9 => ?_)
  obtain ⟨⟨v9, rfl, hv9⟩, e9, w9, f9⟩ := hq9
  refine qa_nx (pc' := 5) (st' := [_]) rfl rfl rfl rfl ?_
  refine qa_lreturn rfl rfl (hQ _ _ ⟨⟨v9, rfl, hv9⟩, e9, w9, f9⟩)
theorem c_M_solosAhead {E : qa_V} {σ : qa_S} {μ : Nat} {f : Nat → Int} {m : Int → Int} {B : Int} {x : Int} (hlo : E.1 ≤ μ) (hM : σ.1 μ = some (qa_MoF μ f)) (hm : σ.1 (μ + 1) = some (qa_ia 146 m)) (hk : sm_ok m B) (hx : qa_in x) (hB9 : B ≤ 1000000000) : qa_T E qm_M_solosAhead 0 0 [.ref μ, .int (qa_i x)] σ (qa_Mi σ μ f (fo_rng 1 20 x (sm_si m (x * m 1).toNat))) := by
  refine qa_enterQ (by decide) rfl qm_M_solosAhead_ok rfl rfl (fun Q9 hQ => ?_)
  obtain ⟨k0, k1, k2, k3, k4, k5, k6, k7, k8⟩ := id hk
  have e0 : σ.2 = σ.2 := rfl
  have fr : ∀ q, q ≠ μ → σ.1 q = σ.1 q := fun _ _ => rfl
  refine qa_aload_n (pc' := 1) ⟨rfl, rfl⟩ rfl ?_
  refine qa_iconst (pc' := 2) ⟨rfl, rfl⟩ ?_
  refine qa_putf (fs' := [_, _, _, _, _, _, _, _, _, _, _, _, _, _, _, _, _, _, _, _, _, _, _, _, _, _, _]) (pc' := 5) ⟨rfl, rfl⟩ qg_10_51 qw_9 hM (by omega) rfl (fun r hr => by cases hr; exact ⟨rfl, Or.inl rfl⟩) rfl rfl ?_
  refine qa_gz (fun τ1 e1 w1 f1 => ?_)
  replace hm := (f1 _ (by omega)).trans hm
  replace fr := fun q hq => (f1 q (by have := hq; omega)).trans (fr q hq)
  replace e0 := e1.trans e0
  have hM : τ1.1 μ = some (qa_MoF μ (sN_put f 12 0)) := w1
  refine qa_iload_n (pc' := 6) ⟨rfl, rfl⟩ rfl ?_
  refine qa_i2l (pc' := 7) ⟨rfl, rfl⟩ (by omega) ?_
  refine qa_lconst (z := 1) (pc' := 8) ⟨rfl, rfl⟩ rfl ?_
  refine qa_ldc2 (z := 20) (pc' := 11) ⟨rfl, rfl⟩ qk_10_163 ?_
  refine qa_callS rfl qf_M_in rfl ql_10_70 (c_M_in (E := E) (by omega) (by omega) (by omega)) rfl rfl (qa_lt9 rfl) (qa_le9 rfl) (qa_le9 rfl) (qa_le9 rfl) (fun o9 τ9 hq9 => ?_)
  obtain ⟨rfl, hq9⟩ := hq9
  replace hq9 := hq9.symm; subst hq9
  refine qa_nx (pc' := 14) (st' := [_]) rfl rfl rfl rfl ?_
  by_cases hi9 : 1 ≤ x ∧ x ≤ 20
  · rw [if_pos hi9]
    refine qa_if_ne (pc' := 17) (tgt := 23) ⟨rfl, rfl⟩ rfl (by omega) (fun hi99 => ?_) (fun hi99 => ?_)
    · have hm9 := sp_mb (a := x) (b := m 1) (A := 20) (B := 48) (by omega) (by omega)
      obtain ⟨w9, hw9⟩ : ∃ w9, w9 = x * m 1 := ⟨_, rfl⟩
      rw [← hw9] at hm9 hQ
      refine qa_iconst (pc' := 24) ⟨rfl, rfl⟩ ?_
      refine qa_istore_n (L' := [(0, _), (1, _), (2, _)]) (pc' := 25) ⟨rfl, rfl⟩ rfl rfl ?_
      refine qa_iconst (pc' := 26) ⟨rfl, rfl⟩ ?_
      refine qa_istore_n (L' := [(0, _), (1, _), (2, _), (3, _)]) (pc' := 27) ⟨rfl, rfl⟩ rfl rfl ?_
      have lp : ∀ (f9 : Nat) (k : Nat) (r : Int), ((k : Int) + f9 = w9 ∧ r = sm_si m k) → qa_W E qm_M_solosAhead Q9 0 0 27 [(0, .ref μ), (1, .int (qa_i x)), (2, .int (qa_i r)), (3, .int (qa_i k))] [] τ1 := by
        intro f9
        induction f9 with
        | zero =>
          intro k r ⟨hkf, hr⟩
          refine qa_iload_n (pc' := 28) ⟨rfl, rfl⟩ rfl ?_
          refine qa_iload_n (pc' := 29) ⟨rfl, rfl⟩ rfl ?_
          refine qa_aload_n (pc' := 30) ⟨rfl, rfl⟩ rfl ?_
          refine qa_getf (pc' := 33) ⟨rfl, rfl⟩ qg_10_9 (by assumption) rfl ?_
          refine qa_iconst (pc' := 34) ⟨rfl, rfl⟩ ?_
          refine qa_iaload (pc' := 35) ⟨rfl, rfl⟩ (by assumption) (by omega) ?_
          refine qa_imul (z := w9) (pc' := 36) ⟨rfl, rfl⟩ hw9.symm ?_
          refine qa_icmp_ge (pc' := 39) (tgt := 69) ⟨rfl, rfl⟩ rfl (by omega) (by omega) (fun hc1 => ?_) (fun hc1 => ?_)
          · refine qa_iload_n (pc' := 70) ⟨rfl, rfl⟩ rfl ?_
            refine qa_ireturn rfl rfl rfl (hQ _ _ (qa_Mi.mk (k := 0) (by unfold fo_rng; rw [if_pos (by omega), hr, show w9.toNat = k by omega]) (fun _ => rfl) e0 hM fr))
          · exact absurd hc1 (by omega)
        | succ f9 ih =>
          intro k r ⟨hkf, hr⟩
          refine qa_iload_n (pc' := 28) ⟨rfl, rfl⟩ rfl ?_
          refine qa_iload_n (pc' := 29) ⟨rfl, rfl⟩ rfl ?_
          refine qa_aload_n (pc' := 30) ⟨rfl, rfl⟩ rfl ?_
          refine qa_getf (pc' := 33) ⟨rfl, rfl⟩ qg_10_9 (by assumption) rfl ?_
          refine qa_iconst (pc' := 34) ⟨rfl, rfl⟩ ?_
          refine qa_iaload (pc' := 35) ⟨rfl, rfl⟩ (by assumption) (by omega) ?_
          refine qa_imul (z := w9) (pc' := 36) ⟨rfl, rfl⟩ hw9.symm ?_
          refine qa_icmp_ge (pc' := 39) (tgt := 69) ⟨rfl, rfl⟩ rfl (by omega) (by omega) (fun hc1 => ?_) (fun hc1 => ?_)
          · exact absurd hc1 (by omega)
          · refine qa_iload_n (pc' := 40) ⟨rfl, rfl⟩ rfl ?_
            refine qa_aload_n (pc' := 41) ⟨rfl, rfl⟩ rfl ?_
            refine qa_aload_n (pc' := 42) ⟨rfl, rfl⟩ rfl ?_
            refine qa_getf (pc' := 45) ⟨rfl, rfl⟩ qg_10_9 (by assumption) rfl ?_
            refine qa_iconst (pc' := 46) ⟨rfl, rfl⟩ ?_
            refine qa_iaload (pc' := 47) ⟨rfl, rfl⟩ (by assumption) (by omega) ?_
            refine qa_iload_n (pc' := 48) ⟨rfl, rfl⟩ rfl ?_
            refine qa_iadd (pc' := 49) ⟨rfl, rfl⟩ rfl ?_
            refine qa_callV rfl qf_M_alone ql_10_169 (c_M_alone (E := E) hM hm hk (by omega)) hM rfl rfl rfl (qa_lt9 rfl) (qa_le9 rfl) (qa_le9 rfl) (qa_le9 rfl) (fun o9 τ9 hq9 => ?_)
            obtain ⟨rfl, hq9⟩ := hq9
            replace hq9 := hq9.symm; subst hq9
            refine qa_nx (pc' := 52) (st' := [_, _]) rfl rfl rfl rfl ?_
            have hal := sm_al_b m (m 3 + k) (m 0).toNat
            have hso := sm_so_b m (m 3 + k) (m 0).toNat
            by_cases hw : sm_so m (m 3 + k) (m 0).toNat = 1
            · rw [if_pos hw]
              refine qa_iconst (pc' := 53) ⟨rfl, rfl⟩ ?_
              refine qa_icmp_ne (pc' := 56) (tgt := 60) ⟨rfl, rfl⟩ rfl (by omega) (by omega) (fun hw9 => ?_) (fun hw9 => ?_)
              · refine qa_iconst (pc' := 61) ⟨rfl, rfl⟩ ?_
                refine qa_iadd (pc' := 62) ⟨rfl, rfl⟩ rfl ?_
                refine qa_istore_n (L' := [(0, _), (1, _), (2, _), (3, _)]) (pc' := 63) ⟨rfl, rfl⟩ rfl rfl ?_
                refine qa_iinc (L' := [(0, _), (1, _), (2, _), (3, _)]) (z := ((k + 1 : Nat) : Int)) (pc' := 66) ⟨rfl, rfl⟩ rfl (by omega) rfl rfl ?_
                refine qa_goto (pc' := 69) (tgt := 27) ⟨rfl, rfl⟩ rfl ?_
                exact ih (k + 1) _ ⟨by omega, by unfold sm_si; rw [if_pos hw, hr]⟩
              · exact absurd hw9 (by omega)
            · rw [if_neg hw]
              refine qa_iconst (pc' := 53) ⟨rfl, rfl⟩ ?_
              refine qa_icmp_ne (pc' := 56) (tgt := 60) ⟨rfl, rfl⟩ rfl (by omega) (by omega) (fun hw9 => ?_) (fun hw9 => ?_)
              · exact absurd hw9 (by omega)
              · refine qa_iconst (pc' := 57) ⟨rfl, rfl⟩ ?_
                refine qa_goto (pc' := 60) (tgt := 61) ⟨rfl, rfl⟩ rfl ?_
                refine qa_iadd (pc' := 62) ⟨rfl, rfl⟩ rfl ?_
                refine qa_istore_n (L' := [(0, _), (1, _), (2, _), (3, _)]) (pc' := 63) ⟨rfl, rfl⟩ rfl rfl ?_
                refine qa_iinc (L' := [(0, _), (1, _), (2, _), (3, _)]) (z := ((k + 1 : Nat) : Int)) (pc' := 66) ⟨rfl, rfl⟩ rfl (by omega) rfl rfl ?_
                refine qa_goto (pc' := 69) (tgt := 27) ⟨rfl, rfl⟩ rfl ?_
                exact ih (k + 1) _ ⟨by omega, by unfold sm_si; rw [if_neg hw, hr]⟩
      exact lp w9.toNat 0 0 ⟨by omega, rfl⟩
    · exact absurd hi99 (by omega)
  · rw [if_neg hi9]
    refine qa_if_ne (pc' := 17) (tgt := 23) ⟨rfl, rfl⟩ rfl (by omega) (fun hi99 => ?_) (fun hi99 => ?_)
    · exact absurd hi99 (by omega)
    · refine qa_aload_n (pc' := 18) ⟨rfl, rfl⟩ rfl ?_
      refine qa_iconst (pc' := 19) ⟨rfl, rfl⟩ ?_
      refine qa_callV rfl qf_M_throwing ql_10_60 (c_M_throwing (E := E) (f := (sN_put f 12 0)) (v := 1) hlo hM) hM rfl rfl rfl (qa_lt9 rfl) (qa_le9 rfl) (qa_le9 rfl) (qa_le9 rfl) (fun o9 τ9 hq9 => ?_)
      obtain ⟨rfl, e9, hM, f9⟩ := hq9
      refine qa_nx (pc' := 22) (st' := [_]) rfl rfl rfl rfl ?_
      refine qa_ireturn rfl rfl rfl (hQ _ _ (qa_Mi.mk (k := 1) (w := 0) (by unfold fo_rng; repeat (first | rw [if_pos (by omega)] | rw [if_neg (by omega)])) (fun h => absurd h (by decide)) (e9.trans e0) (by rw [sN_pp] at hM; exact hM) (fun q hq => (f9 q hq).trans (fr q hq))))
theorem c_M_isConsistent {E : qa_V} {σ : qa_S} {μ : Nat} {f : Nat → Int} {m : Int → Int} {B : Int}  (hlo : E.1 ≤ μ) (hM : σ.1 μ = some (qa_MoF μ f)) (hm : σ.1 (μ + 1) = some (qa_ia 146 m)) (hk : sm_ok m B)  : qa_T E qm_M_isConsistent 0 0 [.ref μ] σ (qa_Mi σ μ f ((0, 1))) := by
  refine qa_enterQ (by decide) rfl qm_M_isConsistent_ok rfl rfl (fun Q9 hQ => ?_)
  obtain ⟨k0, k1, k2, k3, k4, k5, k6, k7, k8⟩ := id hk
  have e0 : σ.2 = σ.2 := rfl
  have fr : ∀ q, q ≠ μ → σ.1 q = σ.1 q := fun _ _ => rfl
  refine qa_aload_n (pc' := 1) ⟨rfl, rfl⟩ rfl ?_
  refine qa_iconst (pc' := 2) ⟨rfl, rfl⟩ ?_
  refine qa_putf (fs' := [_, _, _, _, _, _, _, _, _, _, _, _, _, _, _, _, _, _, _, _, _, _, _, _, _, _, _]) (pc' := 5) ⟨rfl, rfl⟩ qg_10_51 qw_9 hM (by omega) rfl (fun r hr => by cases hr; exact ⟨rfl, Or.inl rfl⟩) rfl rfl ?_
  refine qa_gz (fun τ1 e1 w1 f1 => ?_)
  replace hm := (f1 _ (by omega)).trans hm
  replace fr := fun q hq => (f1 q (by have := hq; omega)).trans (fr q hq)
  replace e0 := e1.trans e0
  have hM : τ1.1 μ = some (qa_MoF μ (sN_put f 12 0)) := w1
  refine qa_iconst (pc' := 6) ⟨rfl, rfl⟩ ?_
  refine qa_ireturn rfl rfl rfl (hQ _ _ (qa_Mi.mk (k := 0) (by rfl) (fun _ => rfl) e0 hM fr))
theorem c_M_syntaxErrorOffset {E : qa_V} {σ : qa_S} {μ : Nat} {f : Nat → Int} {m : Int → Int} {B : Int}  (hlo : E.1 ≤ μ) (hM : σ.1 μ = some (qa_MoF μ f)) (hm : σ.1 (μ + 1) = some (qa_ia 146 m)) (hk : sm_ok m B) (hf : qa_in (f 6)) : qa_T E qm_M_syntaxErrorOffset 0 0 [.ref μ] σ (qa_Mi σ μ f (if f 6 = -1 then (1, 0) else (0, f 6))) := by
  refine qa_enterQ (by decide) rfl qm_M_syntaxErrorOffset_ok rfl rfl (fun Q9 hQ => ?_)
  obtain ⟨k0, k1, k2, k3, k4, k5, k6, k7, k8⟩ := id hk
  have e0 : σ.2 = σ.2 := rfl
  have fr : ∀ q, q ≠ μ → σ.1 q = σ.1 q := fun _ _ => rfl
  refine qa_aload_n (pc' := 1) ⟨rfl, rfl⟩ rfl ?_
  refine qa_iconst (pc' := 2) ⟨rfl, rfl⟩ ?_
  refine qa_putf (fs' := [_, _, _, _, _, _, _, _, _, _, _, _, _, _, _, _, _, _, _, _, _, _, _, _, _, _, _]) (pc' := 5) ⟨rfl, rfl⟩ qg_10_51 qw_9 hM (by omega) rfl (fun r hr => by cases hr; exact ⟨rfl, Or.inl rfl⟩) rfl rfl ?_
  refine qa_gz (fun τ1 e1 w1 f1 => ?_)
  replace hm := (f1 _ (by omega)).trans hm
  replace fr := fun q hq => (f1 q (by have := hq; omega)).trans (fr q hq)
  replace e0 := e1.trans e0
  have hM : τ1.1 μ = some (qa_MoF μ (sN_put f 12 0)) := w1
  refine qa_aload_n (pc' := 6) ⟨rfl, rfl⟩ rfl ?_
  refine qa_getf (v := .int (qa_i (f 6))) (pc' := 9) ⟨rfl, rfl⟩ qg_10_22 (by assumption) rfl ?_
  refine qa_iconst (pc' := 10) ⟨rfl, rfl⟩ ?_
  refine qa_icmp_ne (pc' := 13) (tgt := 21) ⟨rfl, rfl⟩ rfl (by omega) (by omega) (fun hc1 => ?_) (fun hc1 => ?_)
  · refine qa_aload_n (pc' := 22) ⟨rfl, rfl⟩ rfl ?_
    refine qa_getf (v := .int (qa_i (f 6))) (pc' := 25) ⟨rfl, rfl⟩ qg_10_22 (by assumption) rfl ?_
    refine qa_ireturn rfl rfl rfl (hQ _ _ (qa_Mi.mk (k := 0) (by rw [if_neg hc1]) (fun _ => rfl) e0 hM fr))
  · refine qa_aload_n (pc' := 14) ⟨rfl, rfl⟩ rfl ?_
    refine qa_iconst (pc' := 15) ⟨rfl, rfl⟩ ?_
    refine qa_callV rfl qf_M_throwing ql_10_60 (c_M_throwing (E := E) (f := (sN_put f 12 0)) (v := 1) hlo hM) hM rfl rfl rfl (qa_lt9 rfl) (qa_le9 rfl) (qa_le9 rfl) (qa_le9 rfl) (fun o9 τ9 hq9 => ?_)
    obtain ⟨rfl, e9, hM, f9⟩ := hq9
    refine qa_nx (pc' := 18) (st' := [_]) rfl rfl rfl rfl ?_
    refine qa_goto (pc' := 21) (tgt := 25) ⟨rfl, rfl⟩ rfl ?_
    refine qa_ireturn rfl rfl rfl (hQ _ _ (qa_Mi.mk (k := 1) (w := 0) (by rw [if_pos hc1]) (fun h => absurd h (by decide)) (e9.trans e0) (by rw [sN_pp] at hM; exact hM) (fun q hq => (f9 q hq).trans (fr q hq))))
theorem c_M_rejectionReason {E : qa_V} {σ : qa_S} {μ : Nat} {f : Nat → Int} {m : Int → Int} {B : Int}  (hlo : E.1 ≤ μ) (hM : σ.1 μ = some (qa_MoF μ f)) (hm : σ.1 (μ + 1) = some (qa_ia 146 m)) (hk : sm_ok m B) (hf : qa_in (f 7)) : qa_T E qm_M_rejectionReason 0 0 [.ref μ] σ (qa_Mi σ μ f (if f 7 = -1 then (1, 0) else (0, f 7))) := by
  refine qa_enterQ (by decide) rfl qm_M_rejectionReason_ok rfl rfl (fun Q9 hQ => ?_)
  obtain ⟨k0, k1, k2, k3, k4, k5, k6, k7, k8⟩ := id hk
  have e0 : σ.2 = σ.2 := rfl
  have fr : ∀ q, q ≠ μ → σ.1 q = σ.1 q := fun _ _ => rfl
  refine qa_aload_n (pc' := 1) ⟨rfl, rfl⟩ rfl ?_
  refine qa_iconst (pc' := 2) ⟨rfl, rfl⟩ ?_
  refine qa_putf (fs' := [_, _, _, _, _, _, _, _, _, _, _, _, _, _, _, _, _, _, _, _, _, _, _, _, _, _, _]) (pc' := 5) ⟨rfl, rfl⟩ qg_10_51 qw_9 hM (by omega) rfl (fun r hr => by cases hr; exact ⟨rfl, Or.inl rfl⟩) rfl rfl ?_
  refine qa_gz (fun τ1 e1 w1 f1 => ?_)
  replace hm := (f1 _ (by omega)).trans hm
  replace fr := fun q hq => (f1 q (by have := hq; omega)).trans (fr q hq)
  replace e0 := e1.trans e0
  have hM : τ1.1 μ = some (qa_MoF μ (sN_put f 12 0)) := w1
  refine qa_aload_n (pc' := 6) ⟨rfl, rfl⟩ rfl ?_
  refine qa_getf (v := .int (qa_i (f 7))) (pc' := 9) ⟨rfl, rfl⟩ qg_10_26 (by assumption) rfl ?_
  refine qa_iconst (pc' := 10) ⟨rfl, rfl⟩ ?_
  refine qa_icmp_ne (pc' := 13) (tgt := 21) ⟨rfl, rfl⟩ rfl (by omega) (by omega) (fun hc1 => ?_) (fun hc1 => ?_)
  · refine qa_aload_n (pc' := 22) ⟨rfl, rfl⟩ rfl ?_
    refine qa_getf (v := .int (qa_i (f 7))) (pc' := 25) ⟨rfl, rfl⟩ qg_10_26 (by assumption) rfl ?_
    refine qa_ireturn rfl rfl rfl (hQ _ _ (qa_Mi.mk (k := 0) (by rw [if_neg hc1]) (fun _ => rfl) e0 hM fr))
  · refine qa_aload_n (pc' := 14) ⟨rfl, rfl⟩ rfl ?_
    refine qa_iconst (pc' := 15) ⟨rfl, rfl⟩ ?_
    refine qa_callV rfl qf_M_throwing ql_10_60 (c_M_throwing (E := E) (f := (sN_put f 12 0)) (v := 1) hlo hM) hM rfl rfl rfl (qa_lt9 rfl) (qa_le9 rfl) (qa_le9 rfl) (qa_le9 rfl) (fun o9 τ9 hq9 => ?_)
    obtain ⟨rfl, e9, hM, f9⟩ := hq9
    refine qa_nx (pc' := 18) (st' := [_]) rfl rfl rfl rfl ?_
    refine qa_goto (pc' := 21) (tgt := 25) ⟨rfl, rfl⟩ rfl ?_
    refine qa_ireturn rfl rfl rfl (hQ _ _ (qa_Mi.mk (k := 1) (w := 0) (by rw [if_pos hc1]) (fun h => absurd h (by decide)) (e9.trans e0) (by rw [sN_pp] at hM; exact hM) (fun q hq => (f9 q hq).trans (fr q hq))))
theorem c_M_rejectionDetail {E : qa_V} {σ : qa_S} {μ : Nat} {f : Nat → Int} {m : Int → Int} {B : Int}  (hlo : E.1 ≤ μ) (hM : σ.1 μ = some (qa_MoF μ f)) (hm : σ.1 (μ + 1) = some (qa_ia 146 m)) (hk : sm_ok m B) (hf : qa_in (f 7)) : qa_T E qm_M_rejectionDetail 0 0 [.ref μ] σ (qa_Mi σ μ f (if f 7 = -1 then (1, 0) else (0, f 8))) := by
  refine qa_enterQ (by decide) rfl qm_M_rejectionDetail_ok rfl rfl (fun Q9 hQ => ?_)
  obtain ⟨k0, k1, k2, k3, k4, k5, k6, k7, k8⟩ := id hk
  have e0 : σ.2 = σ.2 := rfl
  have fr : ∀ q, q ≠ μ → σ.1 q = σ.1 q := fun _ _ => rfl
  refine qa_aload_n (pc' := 1) ⟨rfl, rfl⟩ rfl ?_
  refine qa_iconst (pc' := 2) ⟨rfl, rfl⟩ ?_
  refine qa_putf (fs' := [_, _, _, _, _, _, _, _, _, _, _, _, _, _, _, _, _, _, _, _, _, _, _, _, _, _, _]) (pc' := 5) ⟨rfl, rfl⟩ qg_10_51 qw_9 hM (by omega) rfl (fun r hr => by cases hr; exact ⟨rfl, Or.inl rfl⟩) rfl rfl ?_
  refine qa_gz (fun τ1 e1 w1 f1 => ?_)
  replace hm := (f1 _ (by omega)).trans hm
  replace fr := fun q hq => (f1 q (by have := hq; omega)).trans (fr q hq)
  replace e0 := e1.trans e0
  have hM : τ1.1 μ = some (qa_MoF μ (sN_put f 12 0)) := w1
  refine qa_aload_n (pc' := 6) ⟨rfl, rfl⟩ rfl ?_
  refine qa_getf (v := .int (qa_i (f 7))) (pc' := 9) ⟨rfl, rfl⟩ qg_10_26 (by assumption) rfl ?_
  refine qa_iconst (pc' := 10) ⟨rfl, rfl⟩ ?_
  refine qa_icmp_ne (pc' := 13) (tgt := 21) ⟨rfl, rfl⟩ rfl (by omega) (by omega) (fun hc1 => ?_) (fun hc1 => ?_)
  · refine qa_aload_n (pc' := 22) ⟨rfl, rfl⟩ rfl ?_
    refine qa_getf (v := .int (qa_i (f 8))) (pc' := 25) ⟨rfl, rfl⟩ qg_10_64 (by assumption) rfl ?_
    refine qa_ireturn rfl rfl rfl (hQ _ _ (qa_Mi.mk (k := 0) (by rw [if_neg hc1]) (fun _ => rfl) e0 hM fr))
  · refine qa_aload_n (pc' := 14) ⟨rfl, rfl⟩ rfl ?_
    refine qa_iconst (pc' := 15) ⟨rfl, rfl⟩ ?_
    refine qa_callV rfl qf_M_throwing ql_10_60 (c_M_throwing (E := E) (f := (sN_put f 12 0)) (v := 1) hlo hM) hM rfl rfl rfl (qa_lt9 rfl) (qa_le9 rfl) (qa_le9 rfl) (qa_le9 rfl) (fun o9 τ9 hq9 => ?_)
    obtain ⟨rfl, e9, hM, f9⟩ := hq9
    refine qa_nx (pc' := 18) (st' := [_]) rfl rfl rfl rfl ?_
    refine qa_goto (pc' := 21) (tgt := 25) ⟨rfl, rfl⟩ rfl ?_
    refine qa_ireturn rfl rfl rfl (hQ _ _ (qa_Mi.mk (k := 1) (w := 0) (by rw [if_pos hc1]) (fun h => absurd h (by decide)) (e9.trans e0) (by rw [sN_pp] at hM; exact hM) (fun q hq => (f9 q hq).trans (fr q hq))))
theorem c_M_causeReason {E : qa_V} {σ : qa_S} {μ : Nat} {f : Nat → Int} {m : Int → Int} {B : Int}  (hlo : E.1 ≤ μ) (hM : σ.1 μ = some (qa_MoF μ f)) (hm : σ.1 (μ + 1) = some (qa_ia 146 m)) (hk : sm_ok m B) (hf : qa_in (f 9)) : qa_T E qm_M_causeReason 0 0 [.ref μ] σ (qa_Mi σ μ f (if f 9 = -1 then (1, 0) else (0, f 9))) := by
  refine qa_enterQ (by decide) rfl qm_M_causeReason_ok rfl rfl (fun Q9 hQ => ?_)
  obtain ⟨k0, k1, k2, k3, k4, k5, k6, k7, k8⟩ := id hk
  have e0 : σ.2 = σ.2 := rfl
  have fr : ∀ q, q ≠ μ → σ.1 q = σ.1 q := fun _ _ => rfl
  refine qa_aload_n (pc' := 1) ⟨rfl, rfl⟩ rfl ?_
  refine qa_iconst (pc' := 2) ⟨rfl, rfl⟩ ?_
  refine qa_putf (fs' := [_, _, _, _, _, _, _, _, _, _, _, _, _, _, _, _, _, _, _, _, _, _, _, _, _, _, _]) (pc' := 5) ⟨rfl, rfl⟩ qg_10_51 qw_9 hM (by omega) rfl (fun r hr => by cases hr; exact ⟨rfl, Or.inl rfl⟩) rfl rfl ?_
  refine qa_gz (fun τ1 e1 w1 f1 => ?_)
  replace hm := (f1 _ (by omega)).trans hm
  replace fr := fun q hq => (f1 q (by have := hq; omega)).trans (fr q hq)
  replace e0 := e1.trans e0
  have hM : τ1.1 μ = some (qa_MoF μ (sN_put f 12 0)) := w1
  refine qa_aload_n (pc' := 6) ⟨rfl, rfl⟩ rfl ?_
  refine qa_getf (v := .int (qa_i (f 9))) (pc' := 9) ⟨rfl, rfl⟩ qg_10_29 (by assumption) rfl ?_
  refine qa_iconst (pc' := 10) ⟨rfl, rfl⟩ ?_
  refine qa_icmp_ne (pc' := 13) (tgt := 21) ⟨rfl, rfl⟩ rfl (by omega) (by omega) (fun hc1 => ?_) (fun hc1 => ?_)
  · refine qa_aload_n (pc' := 22) ⟨rfl, rfl⟩ rfl ?_
    refine qa_getf (v := .int (qa_i (f 9))) (pc' := 25) ⟨rfl, rfl⟩ qg_10_29 (by assumption) rfl ?_
    refine qa_ireturn rfl rfl rfl (hQ _ _ (qa_Mi.mk (k := 0) (by rw [if_neg hc1]) (fun _ => rfl) e0 hM fr))
  · refine qa_aload_n (pc' := 14) ⟨rfl, rfl⟩ rfl ?_
    refine qa_iconst (pc' := 15) ⟨rfl, rfl⟩ ?_
    refine qa_callV rfl qf_M_throwing ql_10_60 (c_M_throwing (E := E) (f := (sN_put f 12 0)) (v := 1) hlo hM) hM rfl rfl rfl (qa_lt9 rfl) (qa_le9 rfl) (qa_le9 rfl) (qa_le9 rfl) (fun o9 τ9 hq9 => ?_)
    obtain ⟨rfl, e9, hM, f9⟩ := hq9
    refine qa_nx (pc' := 18) (st' := [_]) rfl rfl rfl rfl ?_
    refine qa_goto (pc' := 21) (tgt := 25) ⟨rfl, rfl⟩ rfl ?_
    refine qa_ireturn rfl rfl rfl (hQ _ _ (qa_Mi.mk (k := 1) (w := 0) (by rw [if_pos hc1]) (fun h => absurd h (by decide)) (e9.trans e0) (by rw [sN_pp] at hM; exact hM) (fun q hq => (f9 q hq).trans (fr q hq))))
theorem c_M_outputAt {E : qa_V} {σ : qa_S} {μ : Nat} {f : Nat → Int} {m : Int → Int} {B : Int} {x : Int} {li : Int → Int} (hlo : E.1 ≤ μ) (hM : σ.1 μ = some (qa_MoF μ f)) (hm : σ.1 (μ + 1) = some (qa_ia 146 m)) (hk : sm_ok m B) (hx : qa_in x) (hli : σ.1 (μ + 7) = some (qa_ia 120 li)) (hl : 0 ≤ f 19 ∧ f 19 ≤ 120) (hl9 : ∀ j : Int, 0 ≤ j → j < f 19 → 0 ≤ li j ∧ li j ≤ 127) : qa_T E qm_M_outputAt 0 0 [.ref μ, .int (qa_i x)] σ (qa_Mi σ μ f (if 0 ≤ x ∧ x < f 19 then (0, li x) else (1, 0))) := by
  refine qa_enterQ (by decide) rfl qm_M_outputAt_ok rfl rfl (fun Q9 hQ => ?_)
  obtain ⟨k0, k1, k2, k3, k4, k5, k6, k7, k8⟩ := id hk
  have e0 : σ.2 = σ.2 := rfl
  have fr : ∀ q, q ≠ μ → σ.1 q = σ.1 q := fun _ _ => rfl
  refine qa_aload_n (pc' := 1) ⟨rfl, rfl⟩ rfl ?_
  refine qa_iconst (pc' := 2) ⟨rfl, rfl⟩ ?_
  refine qa_putf (fs' := [_, _, _, _, _, _, _, _, _, _, _, _, _, _, _, _, _, _, _, _, _, _, _, _, _, _, _]) (pc' := 5) ⟨rfl, rfl⟩ qg_10_51 qw_9 hM (by omega) rfl (fun r hr => by cases hr; exact ⟨rfl, Or.inl rfl⟩) rfl rfl ?_
  refine qa_gz (fun τ1 e1 w1 f1 => ?_)
  replace hm := (f1 _ (by omega)).trans hm
  replace hli := (f1 _ (by omega)).trans hli
  replace fr := fun q hq => (f1 q (by have := hq; omega)).trans (fr q hq)
  replace e0 := e1.trans e0
  have hM : τ1.1 μ = some (qa_MoF μ (sN_put f 12 0)) := w1
  refine qa_iload_n (pc' := 6) ⟨rfl, rfl⟩ rfl ?_
  refine qa_i2l (pc' := 7) ⟨rfl, rfl⟩ (by omega) ?_
  refine qa_lconst (z := 0) (pc' := 8) ⟨rfl, rfl⟩ rfl ?_
  refine qa_aload_n (pc' := 9) ⟨rfl, rfl⟩ rfl ?_
  refine qa_getf (v := .int (qa_i (f 19))) (pc' := 12) ⟨rfl, rfl⟩ qg_10_245 (by assumption) rfl ?_
  refine qa_iconst (pc' := 13) ⟨rfl, rfl⟩ ?_
  refine qa_isub (pc' := 14) ⟨rfl, rfl⟩ rfl ?_
  refine qa_i2l (pc' := 15) ⟨rfl, rfl⟩ (by omega) ?_
  refine qa_callS rfl qf_M_in rfl ql_10_70 (c_M_in (E := E) (by omega) (by omega) (by omega)) rfl rfl (qa_lt9 rfl) (qa_le9 rfl) (qa_le9 rfl) (qa_le9 rfl) (fun o9 τ9 hq9 => ?_)
  obtain ⟨rfl, hq9⟩ := hq9
  replace hq9 := hq9.symm; subst hq9
  refine qa_nx (pc' := 18) (st' := [_]) rfl rfl rfl rfl ?_
  by_cases hi9 : 0 ≤ x ∧ x ≤ f 19 - 1
  · rw [if_pos hi9]
    refine qa_if_eq (pc' := 21) (tgt := 31) ⟨rfl, rfl⟩ rfl (by omega) (fun hi99 => ?_) (fun hi99 => ?_)
    · exact absurd hi99 (by omega)
    · have lb := hl9 x (by omega) (by omega)
      refine qa_aload_n (pc' := 22) ⟨rfl, rfl⟩ rfl ?_
      refine qa_getf (pc' := 25) ⟨rfl, rfl⟩ qg_10_38 (by assumption) rfl ?_
      refine qa_iload_n (pc' := 26) ⟨rfl, rfl⟩ rfl ?_
      refine qa_iaload (pc' := 27) ⟨rfl, rfl⟩ hli (by omega) ?_
      refine qa_i2c (pc' := 28) ⟨rfl, rfl⟩ (by omega) (by omega) ?_
      refine qa_goto (pc' := 31) (tgt := 37) ⟨rfl, rfl⟩ rfl ?_
      refine qa_ireturn rfl rfl (by have := lg_i2c_word (v := qa_i (li x)) (by rw [qa_i_toInt (by omega)]; omega) (by rw [qa_i_toInt (by omega)]; omega); exact congrArg Value.int this) (hQ _ _ (qa_Mi.mk (k := 0) (by rw [if_pos (by omega)]) (fun _ => rfl) e0 hM fr))
  · rw [if_neg hi9]
    refine qa_if_eq (pc' := 21) (tgt := 31) ⟨rfl, rfl⟩ rfl (by omega) (fun hi99 => ?_) (fun hi99 => ?_)
    · refine qa_aload_n (pc' := 32) ⟨rfl, rfl⟩ rfl ?_
      refine qa_iconst (pc' := 33) ⟨rfl, rfl⟩ ?_
      refine qa_callV rfl qf_M_throwing ql_10_60 (c_M_throwing (E := E) (f := (sN_put f 12 0)) (v := 1) hlo hM) hM rfl rfl rfl (qa_lt9 rfl) (qa_le9 rfl) (qa_le9 rfl) (qa_le9 rfl) (fun o9 τ9 hq9 => ?_)
      obtain ⟨rfl, e9, hM, f9⟩ := hq9
      refine qa_nx (pc' := 36) (st' := [_]) rfl rfl rfl rfl ?_
      refine qa_i2cX (z := 65535) (pc' := 37) ⟨rfl, rfl⟩ (by decide +kernel) ?_
      refine qa_ireturn rfl rfl rfl (hQ _ _ (qa_Mi.mk (k := 1) (w := 0) (by rw [if_neg (by omega)]) (fun h => absurd h (by decide)) (e9.trans e0) (by rw [sN_pp] at hM; exact hM) (fun q hq => (f9 q hq).trans (fr q hq))))
    · exact absurd hi99 (by omega)
