def sm_so (m : Int → Int) (tick : Int) : Nat → Int
  | 0 => 0
  | k + 1 => sm_so m tick k + if sm_pi m k tick = -1 then 0 else 1
def sm_lo (m : Int → Int) : Nat → Int
  | 0 => 0
  | k + 1 => if sm_wh m k ≤ sm_lo m k then sm_lo m k else sm_wh m k
def sm_ch (m : Int → Int) (tick : Int) : Nat → Int64
  | 0 => 0
  | k + 1 => if sm_pi m k tick = -1 then sm_ch m tick k else sm_ch m tick k ||| ((1 : Int64) <<< ((qa_i (sm_pi m k tick)).toInt64 &&& 63))
def sm_ea (m : Int → Int) (af : Int) : Nat → Int → Int
  | 0, _ => 1
  | f + 1, i => if sm_wh m i < 1 ∨ af % sm_wh m i = 0 then sm_ea m af f (i + 1) else 0
theorem sm_ea_b (m : Int → Int) (af : Int) : ∀ (f : Nat) (i : Int), sm_ea m af f i = 0 ∨ sm_ea m af f i = 1
  | 0, _ => Or.inr rfl
  | f + 1, i => by
    unfold sm_ea
    split
    · exact sm_ea_b m af f _
    · exact Or.inl rfl
def sm_bs (m : Int → Int) (lo : Int) : Nat → Int → Int
  | 0, _ => -1
  | f + 1, af => if af ≤ 999999 then (if sm_ea m af (m 0).toNat 0 = 0 then sm_bs m lo f (af + lo) else af) else -1
def sm_bm (m : Int → Int) : Nat → Int → Int → Int
  | 0, _, t => t
  | f + 1, i, t => if 999999 < (if sm_wh m i ≤ 0 then t else t * (sm_wh m i / sp_gd 64 (sm_wh m i) t)) then -1 else sm_bm m f (i + 1) (if sm_wh m i ≤ 0 then t else t * (sm_wh m i / sp_gd 64 (sm_wh m i) t))
def sm_si (m : Int → Int) : Nat → Int
  | 0 => 0
  | k + 1 => sm_si m k + if sm_so m (m 3 + k) (m 0).toNat = 1 then 1 else 0
theorem sm_so_b (m : Int → Int) (tick : Int) : ∀ k : Nat, 0 ≤ sm_so m tick k ∧ sm_so m tick k ≤ k
  | 0 => ⟨Int.le_refl _, Int.le_refl _⟩
  | k + 1 => by
    have := sm_so_b m tick k
    unfold sm_so
    split <;> omega
theorem sm_lo_b {m : Int → Int} {B : Int} (hk : sm_ok m B) : ∀ k : Nat, k ≤ 5 → 0 ≤ sm_lo m k ∧ sm_lo m k ≤ 120
  | 0, _ => ⟨Int.le_refl _, by show (0 : Int) ≤ 120; decide⟩
  | k + 1, h => by
    have h1 := sm_lo_b hk k (by omega)
    have h2 := sm_wh_b (hk.2.2.2.2.1 k (by omega) (by omega))
    have h3 := (hk.2.2.2.2.1 k (by omega) (by omega)).1
    unfold sm_lo
    split <;> omega
theorem sm_si_b (m : Int → Int) : ∀ k : Nat, 0 ≤ sm_si m k ∧ sm_si m k ≤ k
  | 0 => ⟨Int.le_refl _, Int.le_refl _⟩
  | k + 1 => by
    have := sm_si_b m k
    unfold sm_si
    split <;> omega
theorem c_S_has {E : qa_V} {σ : qa_S} {a : Nat} {m : Int → Int} {rf B : Int} {p : Int} (hS : sR_S σ.1 a m rf) (hk : sm_ok m B) (hp : qa_in p) : qa_T E qm_S_has 0 0 [.ref a, .int (qa_i p)] σ (fun o9 τ => o9 = .inl (some (.int (qa_i (if 0 ≤ p ∧ p < m 0 then 1 else 0)))) ∧ τ = σ) := by
  refine qa_enterQ (by decide) rfl qm_S_has_ok rfl rfl (fun Q9 hQ => ?_)
  obtain ⟨hs, hpa, hcq, htq, hpp⟩ := hS
  obtain ⟨k0, k1, k2, k3, k4, k5, k6, k7, k8⟩ := hk
  refine qa_iload_n (pc' := 1) ⟨rfl, rfl⟩ rfl ?_
  refine qa_iconst (pc' := 2) ⟨rfl, rfl⟩ ?_
  refine qa_aload_n (pc' := 3) ⟨rfl, rfl⟩ rfl ?_
  refine qa_getf (pc' := 6) ⟨rfl, rfl⟩ qg_2_46 (by assumption) rfl ?_
  refine qa_iconst (pc' := 7) ⟨rfl, rfl⟩ ?_
  refine qa_isub (pc' := 8) ⟨rfl, rfl⟩ rfl ?_
  refine qa_callS rfl qf_C_isWithin rfl ql_2_52 (c_C_isWithin (by omega) (by omega) (by omega)) rfl rfl (qa_lt9 rfl) (qa_le9 rfl) (qa_le9 rfl) (qa_le9 rfl) (fun o9 τ9 hq9 => ?_)
  obtain ⟨rfl, hq9⟩ := hq9
  replace hq9 := hq9.symm; subst hq9
  refine qa_nx (pc' := 11) (st' := [_]) rfl rfl rfl rfl ?_
  by_cases h : 0 ≤ p ∧ p < m 0
  · rw [if_pos (by omega)]; refine qa_ireturn rfl rfl rfl (hQ _ _ ⟨by rw [if_pos h], rfl⟩)
  · rw [if_neg (by omega)]; refine qa_ireturn rfl rfl rfl (hQ _ _ ⟨by rw [if_neg h], rfl⟩)
theorem c_S_partsSoundingIn {E : qa_V} {σ : qa_S} {a : Nat} {m : Int → Int} {rf B : Int} {tick : Int} (hS : sR_S σ.1 a m rf) (hk : sm_ok m B) (ht : 0 ≤ tick ∧ tick ≤ 2147483647) : qa_T E qm_S_partsSoundingIn 0 0 [.ref a, .int (qa_i tick)] σ (fun o9 τ => o9 = .inl (some (.int (qa_i (sm_so m tick (m 0).toNat)))) ∧ τ = σ) := by
  refine qa_enterQ (by decide) rfl qm_S_partsSoundingIn_ok rfl rfl (fun Q9 hQ => ?_)
  obtain ⟨hs, hpa, hcq, htq, hpp⟩ := hS
  obtain ⟨k0, k1, k2, k3, k4, k5, k6, k7, k8⟩ := hk
  refine qa_iconst (pc' := 1) ⟨rfl, rfl⟩ ?_
  refine qa_istore_n (L' := [(0, _), (1, _), (2, _)]) (pc' := 2) ⟨rfl, rfl⟩ rfl rfl ?_
  refine qa_iconst (pc' := 3) ⟨rfl, rfl⟩ ?_
  refine qa_istore_n (L' := [(0, _), (1, _), (2, _), (3, _)]) (pc' := 4) ⟨rfl, rfl⟩ rfl rfl ?_
  have lp : ∀ (f : Nat) (k : Nat) (r : Int), (k : Int) + f = m 0 ∧ (0 ≤ r ∧ r ≤ k) ∧ r = sm_so m tick k → qa_W E qm_S_partsSoundingIn Q9 0 0 4 [(0, .ref a), (1, .int (qa_i tick)), (2, .int (qa_i r)), (3, .int (qa_i k))] [] σ := by
    intro f
    induction f with
    | zero =>
      intro k r ⟨hk, hr0, hr⟩
      refine qa_iload_n (pc' := 5) ⟨rfl, rfl⟩ rfl ?_
      refine qa_aload_n (pc' := 6) ⟨rfl, rfl⟩ rfl ?_
      refine qa_getf (pc' := 9) ⟨rfl, rfl⟩ qg_2_46 (by assumption) rfl ?_
      refine qa_icmp_ge (pc' := 12) (tgt := 35) ⟨rfl, rfl⟩ rfl (by omega) (by omega) (fun hc1 => ?_) (fun hc1 => ?_)
      · refine qa_iload_n (pc' := 36) ⟨rfl, rfl⟩ rfl ?_
        refine qa_ireturn rfl rfl rfl (hQ _ _ ⟨by rw [hr, show k = (m 0).toNat by omega], rfl⟩)
      · exact absurd hc1 (by omega)
    | succ f ih =>
      intro k r ⟨hk, hr0, hr⟩
      have kk := k4 k (by omega) (by omega)
      have kw := sm_wh_b kk
      refine qa_iload_n (pc' := 5) ⟨rfl, rfl⟩ rfl ?_
      refine qa_aload_n (pc' := 6) ⟨rfl, rfl⟩ rfl ?_
      refine qa_getf (pc' := 9) ⟨rfl, rfl⟩ qg_2_46 (by assumption) rfl ?_
      refine qa_icmp_ge (pc' := 12) (tgt := 35) ⟨rfl, rfl⟩ rfl (by omega) (by omega) (fun hc1 => ?_) (fun hc1 => ?_)
      · exact absurd hc1 (by omega)
      · obtain ⟨p, l, u, d, q1, q2, q3, q4, q5, q6⟩ := hpp k (by omega) (by omega)
        refine qa_aload_n (pc' := 13) ⟨rfl, rfl⟩ rfl ?_
        refine qa_getf (pc' := 16) ⟨rfl, rfl⟩ qg_2_11 (by assumption) rfl ?_
        refine qa_iload_n (pc' := 17) ⟨rfl, rfl⟩ rfl ?_
        refine qa_aaload (pc' := 18) ⟨rfl, rfl⟩ (by assumption) rfl rfl (by omega) (sm_q5_at (by omega)) ?_
        refine qa_iload_n (pc' := 19) ⟨rfl, rfl⟩ rfl ?_
        refine qa_callV rfl qf_P_pitchIn ql_2_174 (d_P_pitchIn (hpp k (by omega) (by omega)) kk (by omega)) q1 rfl rfl rfl (qa_lt9 rfl) (qa_le9 rfl) (qa_le9 rfl) (qa_le9 rfl) (fun o9 τ9 hq9 => ?_)
        obtain ⟨rfl, hq9⟩ := hq9
        replace hq9 := hq9.symm; subst hq9
        refine qa_nx (pc' := 22) (st' := [_]) rfl rfl rfl rfl ?_
        have hb9 := sm_pi_b (tick := tick) kk
        refine qa_iconst (pc' := 23) ⟨rfl, rfl⟩ ?_
        refine qa_icmp_eq (pc' := 26) (tgt := 29) ⟨rfl, rfl⟩ rfl (by omega) (by omega) (fun hc2 => ?_) (fun hc2 => ?_)
        · refine qa_iinc (L' := [(0, _), (1, _), (2, _), (3, _)]) (z := ((k + 1 : Nat) : Int)) (pc' := 32) ⟨rfl, rfl⟩ rfl (by omega) rfl rfl ?_
          refine qa_goto (pc' := 35) (tgt := 4) ⟨rfl, rfl⟩ rfl ?_
          refine ih (k + 1) _ ⟨by omega, by omega, ?_⟩
          unfold sm_so; rw [if_pos hc2, hr]; omega
        · refine qa_iinc (L' := [(0, _), (1, _), (2, _), (3, _)]) (pc' := 29) ⟨rfl, rfl⟩ rfl rfl rfl rfl ?_
          refine qa_iinc (L' := [(0, _), (1, _), (2, _), (3, _)]) (z := ((k + 1 : Nat) : Int)) (pc' := 32) ⟨rfl, rfl⟩ rfl (by omega) rfl rfl ?_
          refine qa_goto (pc' := 35) (tgt := 4) ⟨rfl, rfl⟩ rfl ?_
          refine ih (k + 1) _ ⟨by omega, by omega, ?_⟩
          unfold sm_so; rw [if_neg hc2, hr]
  exact lp (m 0).toNat 0 0 ⟨by omega, by omega, rfl⟩
theorem c_S_chordIn {E : qa_V} {σ : qa_S} {a : Nat} {m : Int → Int} {rf B : Int} {tick : Int} (hS : sR_S σ.1 a m rf) (hk : sm_ok m B) (ht : 0 ≤ tick ∧ tick ≤ 2147483647) : qa_T E qm_S_chordIn 0 0 [.ref a, .int (qa_i tick)] σ (fun o9 τ => o9 = .inl (some (.long (sm_ch m tick (m 0).toNat))) ∧ τ = σ) := by
  refine qa_enterQ (by decide) rfl qm_S_chordIn_ok rfl rfl (fun Q9 hQ => ?_)
  obtain ⟨hs, hpa, hcq, htq, hpp⟩ := hS
  obtain ⟨k0, k1, k2, k3, k4, k5, k6, k7, k8⟩ := hk
  refine qa_lconst (z := 0) (pc' := 1) ⟨rfl, rfl⟩ rfl ?_
  refine qa_lstore_n (L' := [(0, _), (1, _), (2, _)]) (pc' := 2) ⟨rfl, rfl⟩ rfl rfl ?_
  refine qa_iconst (pc' := 3) ⟨rfl, rfl⟩ ?_
  refine qa_istore (L' := [(0, _), (1, _), (2, _), (4, _)]) (pc' := 5) ⟨rfl, rfl⟩ rfl rfl ?_
  have lp : ∀ (f : Nat) (k : Nat) (r : Int64), (k : Int) + f = m 0 ∧ r = sm_ch m tick k → qa_W E qm_S_chordIn Q9 0 0 5 [(0, .ref a), (1, .int (qa_i tick)), (2, .long r), (4, .int (qa_i k))] [] σ := by
    intro f
    induction f with
    | zero =>
      intro k r ⟨hk, hr⟩
      refine qa_iload (pc' := 7) ⟨rfl, rfl⟩ rfl ?_
      refine qa_aload_n (pc' := 8) ⟨rfl, rfl⟩ rfl ?_
      refine qa_getf (pc' := 11) ⟨rfl, rfl⟩ qg_2_46 (by assumption) rfl ?_
      refine qa_icmp_ge (pc' := 14) (tgt := 46) ⟨rfl, rfl⟩ rfl (by omega) (by omega) (fun hc1 => ?_) (fun hc1 => ?_)
      · refine qa_lload_n (pc' := 47) ⟨rfl, rfl⟩ rfl ?_
        refine qa_lreturn rfl rfl (hQ _ _ ⟨by rw [hr, show k = (m 0).toNat by omega], rfl⟩)
      · exact absurd hc1 (by omega)
    | succ f ih =>
      intro k r ⟨hk, hr⟩
      have kk := k4 k (by omega) (by omega)
      have kw := sm_wh_b kk
      refine qa_iload (pc' := 7) ⟨rfl, rfl⟩ rfl ?_
      refine qa_aload_n (pc' := 8) ⟨rfl, rfl⟩ rfl ?_
      refine qa_getf (pc' := 11) ⟨rfl, rfl⟩ qg_2_46 (by assumption) rfl ?_
      refine qa_icmp_ge (pc' := 14) (tgt := 46) ⟨rfl, rfl⟩ rfl (by omega) (by omega) (fun hc1 => ?_) (fun hc1 => ?_)
      · exact absurd hc1 (by omega)
      · obtain ⟨p, l, u, d, q1, q2, q3, q4, q5, q6⟩ := hpp k (by omega) (by omega)
        refine qa_aload_n (pc' := 15) ⟨rfl, rfl⟩ rfl ?_
        refine qa_getf (pc' := 18) ⟨rfl, rfl⟩ qg_2_11 (by assumption) rfl ?_
        refine qa_iload (pc' := 20) ⟨rfl, rfl⟩ rfl ?_
        refine qa_aaload (pc' := 21) ⟨rfl, rfl⟩ (by assumption) rfl rfl (by omega) (sm_q5_at (by omega)) ?_
        refine qa_iload_n (pc' := 22) ⟨rfl, rfl⟩ rfl ?_
        refine qa_callV rfl qf_P_pitchIn ql_2_174 (d_P_pitchIn (hpp k (by omega) (by omega)) kk (by omega)) q1 rfl rfl rfl (qa_lt9 rfl) (qa_le9 rfl) (qa_le9 rfl) (qa_le9 rfl) (fun o9 τ9 hq9 => ?_)
        obtain ⟨rfl, hq9⟩ := hq9
        replace hq9 := hq9.symm; subst hq9
        refine qa_nx (pc' := 25) (st' := [_]) rfl rfl rfl rfl ?_
        have hb9 := sm_pi_b (tick := tick) kk
        refine qa_istore (L' := [(0, _), (1, _), (2, _), (4, _), (5, _)]) (pc' := 27) ⟨rfl, rfl⟩ rfl rfl ?_
        refine qa_iload (pc' := 29) ⟨rfl, rfl⟩ rfl ?_
        refine qa_iconst (pc' := 30) ⟨rfl, rfl⟩ ?_
        refine qa_icmp_eq (pc' := 33) (tgt := 40) ⟨rfl, rfl⟩ rfl (by omega) (by omega) (fun hc2 => ?_) (fun hc2 => ?_)
        · refine qa_iinc (L' := [(0, _), (1, _), (2, _), (4, _), (5, _)]) (z := ((k + 1 : Nat) : Int)) (pc' := 43) ⟨rfl, rfl⟩ rfl (by omega) rfl rfl ?_
          refine qa_goto (pc' := 46) (tgt := 5) ⟨rfl, rfl⟩ rfl ?_
          refine qa_sub (ks' := [0, 1, 2, 3]) (L' := [(0, _), (1, _), (2, _), (4, _)]) rfl ?_
          refine ih (k + 1) _ ⟨by omega, ?_⟩
          unfold sm_ch; rw [if_pos hc2, hr]
        · refine qa_lload_n (pc' := 34) ⟨rfl, rfl⟩ rfl ?_
          refine qa_lconst (z := 1) (pc' := 35) ⟨rfl, rfl⟩ rfl ?_
          refine qa_iload (pc' := 37) ⟨rfl, rfl⟩ rfl ?_
          refine qa_lshlR (pc' := 38) ⟨rfl, rfl⟩ rfl ?_
          refine qa_lorR (pc' := 39) ⟨rfl, rfl⟩ rfl ?_
          refine qa_lstore_n (L' := [(0, _), (1, _), (2, _), (4, _), (5, _)]) (pc' := 40) ⟨rfl, rfl⟩ rfl rfl ?_
          refine qa_iinc (L' := [(0, _), (1, _), (2, _), (4, _), (5, _)]) (z := ((k + 1 : Nat) : Int)) (pc' := 43) ⟨rfl, rfl⟩ rfl (by omega) rfl rfl ?_
          refine qa_goto (pc' := 46) (tgt := 5) ⟨rfl, rfl⟩ rfl ?_
          refine qa_sub (ks' := [0, 1, 2, 3]) (L' := [(0, _), (1, _), (2, _), (4, _)]) rfl ?_
          refine ih (k + 1) _ ⟨by omega, ?_⟩
          unfold sm_ch; rw [if_neg hc2, hr]; rfl
  exact lp (m 0).toNat 0 (qa_l 0) ⟨by omega, rfl⟩
theorem c_S_longestPart {E : qa_V} {σ : qa_S} {a : Nat} {m : Int → Int} {rf B : Int} (hS : sR_S σ.1 a m rf) (hk : sm_ok m B) : qa_T E qm_S_longestPart 0 0 [.ref a] σ (fun o9 τ => o9 = .inl (some (.int (qa_i (sm_lo m (m 0).toNat)))) ∧ τ = σ) := by
  refine qa_enterQ (by decide) rfl qm_S_longestPart_ok rfl rfl (fun Q9 hQ => ?_)
  obtain ⟨hs, hpa, hcq, htq, hpp⟩ := hS
  obtain ⟨k0, k1, k2, k3, k4, k5, k6, k7, k8⟩ := hk
  refine qa_iconst (pc' := 1) ⟨rfl, rfl⟩ ?_
  refine qa_istore_n (L' := [(0, _), (1, _)]) (pc' := 2) ⟨rfl, rfl⟩ rfl rfl ?_
  refine qa_iconst (pc' := 3) ⟨rfl, rfl⟩ ?_
  refine qa_istore_n (L' := [(0, _), (1, _), (2, _)]) (pc' := 4) ⟨rfl, rfl⟩ rfl rfl ?_
  have lp : ∀ (f : Nat) (k : Nat) (r : Int), (k : Int) + f = m 0 ∧ r = sm_lo m k → qa_W E qm_S_longestPart Q9 0 0 4 [(0, .ref a), (1, .int (qa_i r)), (2, .int (qa_i k))] [] σ := by
    intro f
    induction f with
    | zero =>
      intro k r ⟨hk, hr⟩
      refine qa_iload_n (pc' := 5) ⟨rfl, rfl⟩ rfl ?_
      refine qa_aload_n (pc' := 6) ⟨rfl, rfl⟩ rfl ?_
      refine qa_getf (pc' := 9) ⟨rfl, rfl⟩ qg_2_46 (by assumption) rfl ?_
      refine qa_icmp_ge (pc' := 12) (tgt := 32) ⟨rfl, rfl⟩ rfl (by omega) (by omega) (fun hc1 => ?_) (fun hc1 => ?_)
      · refine qa_iload_n (pc' := 33) ⟨rfl, rfl⟩ rfl ?_
        refine qa_ireturn rfl rfl rfl (hQ _ _ ⟨by rw [hr, show k = (m 0).toNat by omega], rfl⟩)
      · exact absurd hc1 (by omega)
    | succ f ih =>
      intro k r ⟨hk, hr⟩
      have kk := k4 k (by omega) (by omega)
      have kw := sm_wh_b kk
      refine qa_iload_n (pc' := 5) ⟨rfl, rfl⟩ rfl ?_
      refine qa_aload_n (pc' := 6) ⟨rfl, rfl⟩ rfl ?_
      refine qa_getf (pc' := 9) ⟨rfl, rfl⟩ qg_2_46 (by assumption) rfl ?_
      refine qa_icmp_ge (pc' := 12) (tgt := 32) ⟨rfl, rfl⟩ rfl (by omega) (by omega) (fun hc1 => ?_) (fun hc1 => ?_)
      · exact absurd hc1 (by omega)
      · have hlo := sm_lo_b ⟨k0, k1, k2, k3, k4, k5, k6, k7, k8⟩ k (by omega)
        obtain ⟨p, l, u, d, q1, q2, q3, q4, q5, q6⟩ := hpp k (by omega) (by omega)
        have kn := kk.1
        refine qa_iload_n (pc' := 13) ⟨rfl, rfl⟩ rfl ?_
        refine qa_aload_n (pc' := 14) ⟨rfl, rfl⟩ rfl ?_
        refine qa_getf (pc' := 17) ⟨rfl, rfl⟩ qg_2_11 (by assumption) rfl ?_
        refine qa_iload_n (pc' := 18) ⟨rfl, rfl⟩ rfl ?_
        refine qa_aaload (pc' := 19) ⟨rfl, rfl⟩ (by assumption) rfl rfl (by omega) (sm_q5_at (by omega)) ?_
        refine qa_getf (pc' := 22) ⟨rfl, rfl⟩ qg_2_117 (by assumption) rfl ?_
        refine qa_callS rfl qf_MA_max rfl ql_2_186 (c_MA_max (by omega) (by omega)) rfl rfl (qa_lt9 rfl) (qa_le9 rfl) (qa_le9 rfl) (qa_le9 rfl) (fun o9 τ9 hq9 => ?_)
        obtain ⟨rfl, hq9⟩ := hq9
        replace hq9 := hq9.symm; subst hq9
        refine qa_nx (pc' := 25) (st' := [_]) rfl rfl rfl rfl ?_
        refine qa_istore_n (L' := [(0, _), (1, _), (2, _)]) (pc' := 26) ⟨rfl, rfl⟩ rfl rfl ?_
        refine qa_iinc (L' := [(0, _), (1, _), (2, _)]) (z := ((k + 1 : Nat) : Int)) (pc' := 29) ⟨rfl, rfl⟩ rfl (by omega) rfl rfl ?_
        refine qa_goto (pc' := 32) (tgt := 4) ⟨rfl, rfl⟩ rfl ?_
        refine ih (k + 1) _ ⟨by omega, ?_⟩
        unfold sm_lo; rw [hr]
  exact lp (m 0).toNat 0 0 ⟨by omega, rfl⟩
theorem c_S_allEndAfter {E : qa_V} {σ : qa_S} {a : Nat} {m : Int → Int} {rf B : Int} {af : Int} (hS : sR_S σ.1 a m rf) (hk : sm_ok m B) (ha : 0 ≤ af ∧ af ≤ 2147483647) : qa_T E qm_S_allEndAfter 0 0 [.ref a, .int (qa_i af)] σ (fun o9 τ => o9 = .inl (some (.int (qa_i (sm_ea m af (m 0).toNat 0)))) ∧ τ = σ) := by
  refine qa_enterQ (by decide) rfl qm_S_allEndAfter_ok rfl rfl (fun Q9 hQ => ?_)
  obtain ⟨hs, hpa, hcq, htq, hpp⟩ := hS
  obtain ⟨k0, k1, k2, k3, k4, k5, k6, k7, k8⟩ := hk
  refine qa_iconst (pc' := 1) ⟨rfl, rfl⟩ ?_
  refine qa_istore_n (L' := [(0, _), (1, _), (2, _)]) (pc' := 2) ⟨rfl, rfl⟩ rfl rfl ?_
  have lp : ∀ (f : Nat) (k : Nat), (k : Int) + f = m 0 ∧ sm_ea m af f k = sm_ea m af (m 0).toNat 0 → qa_W E qm_S_allEndAfter Q9 0 0 2 [(0, .ref a), (1, .int (qa_i af)), (2, .int (qa_i k))] [] σ := by
    intro f
    induction f with
    | zero =>
      intro k ⟨hk, hr⟩
      refine qa_iload_n (pc' := 3) ⟨rfl, rfl⟩ rfl ?_
      refine qa_aload_n (pc' := 4) ⟨rfl, rfl⟩ rfl ?_
      refine qa_getf (pc' := 7) ⟨rfl, rfl⟩ qg_2_46 (by assumption) rfl ?_
      refine qa_icmp_ge (pc' := 10) (tgt := 31) ⟨rfl, rfl⟩ rfl (by omega) (by omega) (fun hc1 => ?_) (fun hc1 => ?_)
      · refine qa_iconst (pc' := 32) ⟨rfl, rfl⟩ ?_
        refine qa_ireturn rfl rfl rfl (hQ _ _ ⟨by rw [← hr]; rfl, rfl⟩)
      · exact absurd hc1 (by omega)
    | succ f ih =>
      intro k ⟨hk, hr⟩
      have kk := k4 k (by omega) (by omega)
      have kw := sm_wh_b kk
      refine qa_iload_n (pc' := 3) ⟨rfl, rfl⟩ rfl ?_
      refine qa_aload_n (pc' := 4) ⟨rfl, rfl⟩ rfl ?_
      refine qa_getf (pc' := 7) ⟨rfl, rfl⟩ qg_2_46 (by assumption) rfl ?_
      refine qa_icmp_ge (pc' := 10) (tgt := 31) ⟨rfl, rfl⟩ rfl (by omega) (by omega) (fun hc1 => ?_) (fun hc1 => ?_)
      · exact absurd hc1 (by omega)
      · obtain ⟨p, l, u, d, q1, q2, q3, q4, q5, q6⟩ := hpp k (by omega) (by omega)
        refine qa_aload_n (pc' := 11) ⟨rfl, rfl⟩ rfl ?_
        refine qa_getf (pc' := 14) ⟨rfl, rfl⟩ qg_2_11 (by assumption) rfl ?_
        refine qa_iload_n (pc' := 15) ⟨rfl, rfl⟩ rfl ?_
        refine qa_aaload (pc' := 16) ⟨rfl, rfl⟩ (by assumption) rfl rfl (by omega) (sm_q5_at (by omega)) ?_
        refine qa_iload_n (pc' := 17) ⟨rfl, rfl⟩ rfl ?_
        refine qa_callV rfl qf_P_endsAfter ql_2_195 (d_P_endsAfter (hpp k (by omega) (by omega)) kk (by omega)) q1 rfl rfl rfl (qa_lt9 rfl) (qa_le9 rfl) (qa_le9 rfl) (qa_le9 rfl) (fun o9 τ9 hq9 => ?_)
        obtain ⟨rfl, hq9⟩ := hq9
        replace hq9 := hq9.symm; subst hq9
        refine qa_nx (pc' := 20) (st' := [_]) rfl rfl rfl rfl ?_
        by_cases hw : sm_wh m k < 1 ∨ af % sm_wh m k = 0
        · rw [if_pos hw]
          refine qa_if_ne (pc' := 23) (tgt := 25) ⟨rfl, rfl⟩ rfl (by omega) (fun hc3 => ?_) (fun hc3 => ?_)
          · refine qa_iinc (L' := [(0, _), (1, _), (2, _)]) (z := ((k + 1 : Nat) : Int)) (pc' := 28) ⟨rfl, rfl⟩ rfl (by omega) rfl rfl ?_
            refine qa_goto (pc' := 31) (tgt := 2) ⟨rfl, rfl⟩ rfl ?_
            refine ih (k + 1) ⟨by omega, ?_⟩
            rw [← hr]; conv => rhs; unfold sm_ea
            rw [if_pos hw]; rfl
          · exact absurd hc3 (by omega)
        · rw [if_neg hw]
          refine qa_if_ne (pc' := 23) (tgt := 25) ⟨rfl, rfl⟩ rfl (by omega) (fun hc3 => ?_) (fun hc3 => ?_)
          · exact absurd hc3 (by omega)
          · refine qa_iconst (pc' := 24) ⟨rfl, rfl⟩ ?_
            refine qa_ireturn rfl rfl rfl (hQ _ _ ⟨by rw [← hr]; unfold sm_ea; rw [if_neg hw], rfl⟩)
  exact lp (m 0).toNat 0 ⟨by omega, rfl⟩
theorem c_S_togetherBySteps {E : qa_V} {σ : qa_S} {a : Nat} {m : Int → Int} {rf B : Int} (hS : sR_S σ.1 a m rf) (hk : sm_ok m B) : qa_T E qm_S_togetherBySteps 0 0 [.ref a] σ (fun o9 τ => o9 = .inl (some (.int (qa_i (if sm_lo m (m 0).toNat < 1 then -1 else sm_bs m (sm_lo m (m 0).toNat) 1000000 (sm_lo m (m 0).toNat))))) ∧ τ = σ) := by
  refine qa_enterQ (by decide) rfl qm_S_togetherBySteps_ok rfl rfl (fun Q9 hQ => ?_)
  obtain ⟨hs, hpa, hcq, htq, hpp⟩ := hS
  obtain ⟨k0, k1, k2, k3, k4, k5, k6, k7, k8⟩ := hk
  have hlo := sm_lo_b ⟨k0, k1, k2, k3, k4, k5, k6, k7, k8⟩ (m 0).toNat (by omega)
  refine qa_aload_n (pc' := 1) ⟨rfl, rfl⟩ rfl ?_
  refine qa_callV rfl qf_S_longestPart ql_2_168 (c_S_longestPart ⟨hs, hpa, hcq, htq, hpp⟩ ⟨k0, k1, k2, k3, k4, k5, k6, k7, k8⟩) (by assumption) rfl rfl rfl (qa_lt9 rfl) (qa_le9 rfl) (qa_le9 rfl) (qa_le9 rfl) (fun o9 τ9 hq9 => ?_)
  obtain ⟨rfl, hq9⟩ := hq9
  replace hq9 := hq9.symm; subst hq9
  refine qa_nx (pc' := 4) (st' := [_]) rfl rfl rfl rfl ?_
  obtain ⟨lo, hl9⟩ : ∃ lo, lo = sm_lo m (m 0).toNat := ⟨_, rfl⟩
  rw [← hl9] at hlo ⊢
  refine qa_istore_n (L' := [(0, _), (1, _)]) (pc' := 5) ⟨rfl, rfl⟩ rfl rfl ?_
  refine qa_iload_n (pc' := 6) ⟨rfl, rfl⟩ rfl ?_
  refine qa_iconst (pc' := 7) ⟨rfl, rfl⟩ ?_
  refine qa_icmp_ge (pc' := 10) (tgt := 12) ⟨rfl, rfl⟩ rfl (by omega) (by omega) (fun hc => ?_) (fun hc => ?_)
  · refine qa_iload_n (pc' := 13) ⟨rfl, rfl⟩ rfl ?_
    refine qa_istore_n (L' := [(0, _), (1, _), (2, _)]) (pc' := 14) ⟨rfl, rfl⟩ rfl rfl ?_
    have lp : ∀ (f : Nat) (af : Int), 1000000 ≤ af + f ∧ (0 ≤ af ∧ af ≤ 1000200) ∧ sm_bs m lo f af = sm_bs m (sm_lo m (m 0).toNat) 1000000 (sm_lo m (m 0).toNat) → qa_W E qm_S_togetherBySteps Q9 0 0 14 [(0, .ref a), (1, .int (qa_i lo)), (2, .int (qa_i af))] [] σ := by
      intro f
      induction f with
      | zero =>
        intro af ⟨hk, ha, hr⟩
        refine qa_iload_n (pc' := 15) ⟨rfl, rfl⟩ rfl ?_
        refine qa_ldc (z := 999999) (pc' := 17) ⟨rfl, rfl⟩ qk_2_191 ?_
        refine qa_icmp_gt (pc' := 20) (tgt := 37) ⟨rfl, rfl⟩ rfl (by omega) (by omega) (fun hc1 => ?_) (fun hc1 => ?_)
        · refine qa_iconst (pc' := 38) ⟨rfl, rfl⟩ ?_
          refine qa_ireturn rfl rfl rfl (hQ _ _ ⟨by rw [if_neg (by omega), ← hr]; rfl, rfl⟩)
        · exact absurd hc1 (by omega)
      | succ f ih =>
        intro af ⟨hk, ha, hr⟩
        refine qa_iload_n (pc' := 15) ⟨rfl, rfl⟩ rfl ?_
        refine qa_ldc (z := 999999) (pc' := 17) ⟨rfl, rfl⟩ qk_2_191 ?_
        refine qa_icmp_gt (pc' := 20) (tgt := 37) ⟨rfl, rfl⟩ rfl (by omega) (by omega) (fun hc1 => ?_) (fun hc1 => ?_)
        · refine qa_iconst (pc' := 38) ⟨rfl, rfl⟩ ?_
          refine qa_ireturn rfl rfl rfl (hQ _ _ ⟨by rw [if_neg (by omega), ← hr]; unfold sm_bs; rw [if_neg (by omega)], rfl⟩)
        · refine qa_aload_n (pc' := 21) ⟨rfl, rfl⟩ rfl ?_
          refine qa_iload_n (pc' := 22) ⟨rfl, rfl⟩ rfl ?_
          refine qa_callV rfl qf_S_allEndAfter ql_2_192 (c_S_allEndAfter ⟨hs, hpa, hcq, htq, hpp⟩ ⟨k0, k1, k2, k3, k4, k5, k6, k7, k8⟩ (by omega)) (by assumption) rfl rfl rfl (qa_lt9 rfl) (qa_le9 rfl) (qa_le9 rfl) (qa_le9 rfl) (fun o9 τ9 hq9 => ?_)
          obtain ⟨rfl, hq9⟩ := hq9
          replace hq9 := hq9.symm; subst hq9
          refine qa_nx (pc' := 25) (st' := [_]) rfl rfl rfl rfl ?_
          have hea := sm_ea_b m af (m 0).toNat 0
          refine qa_if_eq (pc' := 28) (tgt := 30) ⟨rfl, rfl⟩ rfl (by omega) (fun hc2 => ?_) (fun hc2 => ?_)
          · refine qa_iload_n (pc' := 31) ⟨rfl, rfl⟩ rfl ?_
            refine qa_iload_n (pc' := 32) ⟨rfl, rfl⟩ rfl ?_
            refine qa_iadd (pc' := 33) ⟨rfl, rfl⟩ rfl ?_
            refine qa_istore_n (L' := [(0, _), (1, _), (2, _)]) (pc' := 34) ⟨rfl, rfl⟩ rfl rfl ?_
            refine qa_goto (pc' := 37) (tgt := 14) ⟨rfl, rfl⟩ rfl ?_
            refine ih (af + lo) ⟨by omega, by omega, ?_⟩
            rw [← hr]; conv => rhs; unfold sm_bs
            rw [if_pos hc1, if_pos hc2]
          · refine qa_iload_n (pc' := 29) ⟨rfl, rfl⟩ rfl ?_
            refine qa_ireturn rfl rfl rfl (hQ _ _ ⟨by rw [if_neg (by omega), ← hr]; unfold sm_bs; rw [if_pos hc1, if_neg hc2], rfl⟩)
    exact lp 1000000 lo ⟨by omega, by omega, by rw [← hl9]⟩
  · refine qa_iconst (pc' := 11) ⟨rfl, rfl⟩ ?_
    refine qa_ireturn rfl rfl rfl (hQ _ _ ⟨by rw [if_pos (by omega)], rfl⟩)
theorem c_S_togetherByMultiples {E : qa_V} {σ : qa_S} {a : Nat} {m : Int → Int} {rf B : Int} (hS : sR_S σ.1 a m rf) (hk : sm_ok m B) : qa_T E qm_S_togetherByMultiples 0 0 [.ref a] σ (fun o9 τ => o9 = .inl (some (.int (qa_i (if sm_lo m (m 0).toNat = 0 then -1 else sm_bm m (m 0).toNat 0 1)))) ∧ τ = σ) := by
  refine qa_enterQ (by decide) rfl qm_S_togetherByMultiples_ok rfl rfl (fun Q9 hQ => ?_)
  obtain ⟨hs, hpa, hcq, htq, hpp⟩ := hS
  obtain ⟨k0, k1, k2, k3, k4, k5, k6, k7, k8⟩ := hk
  have hlo := sm_lo_b ⟨k0, k1, k2, k3, k4, k5, k6, k7, k8⟩ (m 0).toNat (by omega)
  refine qa_aload_n (pc' := 1) ⟨rfl, rfl⟩ rfl ?_
  refine qa_callV rfl qf_S_longestPart ql_2_168 (c_S_longestPart ⟨hs, hpa, hcq, htq, hpp⟩ ⟨k0, k1, k2, k3, k4, k5, k6, k7, k8⟩) (by assumption) rfl rfl rfl (qa_lt9 rfl) (qa_le9 rfl) (qa_le9 rfl) (qa_le9 rfl) (fun o9 τ9 hq9 => ?_)
  obtain ⟨rfl, hq9⟩ := hq9
  replace hq9 := hq9.symm; subst hq9
  refine qa_nx (pc' := 4) (st' := [_]) rfl rfl rfl rfl ?_
  refine qa_if_ne (pc' := 7) (tgt := 9) ⟨rfl, rfl⟩ rfl (by omega) (fun hc => ?_) (fun hc => ?_)
  · refine qa_iconst (pc' := 10) ⟨rfl, rfl⟩ ?_
    refine qa_istore_n (L' := [(0, _), (1, _)]) (pc' := 11) ⟨rfl, rfl⟩ rfl rfl ?_
    refine qa_iconst (pc' := 12) ⟨rfl, rfl⟩ ?_
    refine qa_istore_n (L' := [(0, _), (1, _), (2, _)]) (pc' := 13) ⟨rfl, rfl⟩ rfl rfl ?_
    have lp : ∀ (f : Nat) (k : Nat) (t9 : Int), (k : Int) + f = m 0 ∧ (1 ≤ t9 ∧ t9 ≤ 999999) ∧ sm_bm m f k t9 = sm_bm m (m 0).toNat 0 1 → qa_W E qm_S_togetherByMultiples Q9 0 0 13 [(0, .ref a), (1, .int (qa_i t9)), (2, .int (qa_i k))] [] σ := by
      intro f
      induction f with
      | zero =>
        intro k t9 ⟨hk, ht9, hr⟩
        refine qa_iload_n (pc' := 14) ⟨rfl, rfl⟩ rfl ?_
        refine qa_aload_n (pc' := 15) ⟨rfl, rfl⟩ rfl ?_
        refine qa_getf (pc' := 18) ⟨rfl, rfl⟩ qg_2_46 (by assumption) rfl ?_
        refine qa_icmp_ge (pc' := 21) (tgt := 63) ⟨rfl, rfl⟩ rfl (by omega) (by omega) (fun hc1 => ?_) (fun hc1 => ?_)
        · refine qa_iload_n (pc' := 64) ⟨rfl, rfl⟩ rfl ?_
          refine qa_ireturn rfl rfl rfl (hQ _ _ ⟨by rw [if_neg hc, ← hr]; rfl, rfl⟩)
        · exact absurd hc1 (by omega)
      | succ f ih =>
        intro k t9 ⟨hk, ht9, hr⟩
        have kk := k4 k (by omega) (by omega)
        have kw := sm_wh_b kk
        have kn := kk.1
        refine qa_iload_n (pc' := 14) ⟨rfl, rfl⟩ rfl ?_
        refine qa_aload_n (pc' := 15) ⟨rfl, rfl⟩ rfl ?_
        refine qa_getf (pc' := 18) ⟨rfl, rfl⟩ qg_2_46 (by assumption) rfl ?_
        refine qa_icmp_ge (pc' := 21) (tgt := 63) ⟨rfl, rfl⟩ rfl (by omega) (by omega) (fun hc1 => ?_) (fun hc1 => ?_)
        · exact absurd hc1 (by omega)
        · obtain ⟨p, l, u, d, q1, q2, q3, q4, q5, q6⟩ := hpp k (by omega) (by omega)
          refine qa_aload_n (pc' := 22) ⟨rfl, rfl⟩ rfl ?_
          refine qa_getf (pc' := 25) ⟨rfl, rfl⟩ qg_2_11 (by assumption) rfl ?_
          refine qa_iload_n (pc' := 26) ⟨rfl, rfl⟩ rfl ?_
          refine qa_aaload (pc' := 27) ⟨rfl, rfl⟩ (by assumption) rfl rfl (by omega) (sm_q5_at (by omega)) ?_
          refine qa_getf (pc' := 30) ⟨rfl, rfl⟩ qg_2_117 (by assumption) rfl ?_
          refine qa_if_le (pc' := 33) (tgt := 49) ⟨rfl, rfl⟩ rfl (by omega) (fun hc2 => ?_) (fun hc2 => ?_)
          · refine qa_iload_n (pc' := 50) ⟨rfl, rfl⟩ rfl ?_
            refine qa_ldc (z := 999999) (pc' := 52) ⟨rfl, rfl⟩ qk_2_191 ?_
            refine qa_icmp_le (pc' := 55) (tgt := 57) ⟨rfl, rfl⟩ rfl (by omega) (by omega) (fun hc3 => ?_) (fun hc3 => ?_)
            · refine qa_iinc (L' := [(0, _), (1, _), (2, _)]) (z := ((k + 1 : Nat) : Int)) (pc' := 60) ⟨rfl, rfl⟩ rfl (by omega) rfl rfl ?_
              refine qa_goto (pc' := 63) (tgt := 13) ⟨rfl, rfl⟩ rfl ?_
              refine ih (k + 1) _ ⟨by omega, ?_, ?_⟩
              · omega
              · rw [← hr]; conv => rhs; unfold sm_bm
                rw [if_pos hc2, if_neg (by omega)]; rfl
            · refine qa_iconst (pc' := 56) ⟨rfl, rfl⟩ ?_
              refine qa_ireturn rfl rfl rfl (hQ _ _ ⟨by rw [if_neg hc, ← hr]; unfold sm_bm; rw [if_pos hc2, if_pos (by omega)], rfl⟩)
          · refine qa_iload_n (pc' := 34) ⟨rfl, rfl⟩ rfl ?_
            refine qa_aload_n (pc' := 35) ⟨rfl, rfl⟩ rfl ?_
            refine qa_getf (pc' := 38) ⟨rfl, rfl⟩ qg_2_11 (by assumption) rfl ?_
            refine qa_iload_n (pc' := 39) ⟨rfl, rfl⟩ rfl ?_
            refine qa_aaload (pc' := 40) ⟨rfl, rfl⟩ (by assumption) rfl rfl (by omega) (sm_q5_at (by omega)) ?_
            refine qa_getf (pc' := 43) ⟨rfl, rfl⟩ qg_2_117 (by assumption) rfl ?_
            refine qa_iload_n (pc' := 44) ⟨rfl, rfl⟩ rfl ?_
            refine qa_callS rfl qf_F_reduced rfl ql_2_137 (c_F_reduced (by omega) (by omega)) rfl rfl (qa_lt9 rfl) (qa_le9 rfl) (qa_le9 rfl) (qa_le9 rfl) (fun o9 τ9 hq9 => ?_)
            obtain ⟨rfl, hq9⟩ := hq9
            replace hq9 := hq9.symm; subst hq9
            refine qa_nx (pc' := 47) (st' := [_, _]) rfl rfl rfl rfl ?_
            have hg := sp_gd_pos (a := sm_wh m k) (b := t9) (by omega) (by omega)
            have hq1 : 1 ≤ sm_wh m k / sp_gd 64 (sm_wh m k) t9 := by rw [Int.le_ediv_iff_mul_le (by omega)]; omega
            have hq2 : sm_wh m k / sp_gd 64 (sm_wh m k) t9 ≤ sm_wh m k := Int.ediv_le_self _ (by omega)
            have hm := sp_mb (a := t9) (b := sm_wh m k / sp_gd 64 (sm_wh m k) t9) (A := 999999) (B := 120) (by omega) (by omega)
            have hm2 : 1 ≤ t9 * (sm_wh m k / sp_gd 64 (sm_wh m k) t9) := by have := Int.mul_le_mul (by omega : 1 ≤ t9) hq1 (by omega) (by omega); omega
            obtain ⟨x9, hx9⟩ : ∃ x9, x9 = t9 * (sm_wh m k / sp_gd 64 (sm_wh m k) t9) := ⟨_, rfl⟩
            rw [← hx9] at hm hm2
            refine qa_imul (z := x9) (pc' := 48) ⟨rfl, rfl⟩ hx9.symm ?_
            refine qa_istore_n (L' := [(0, _), (1, _), (2, _)]) (pc' := 49) ⟨rfl, rfl⟩ rfl rfl ?_
            refine qa_iload_n (pc' := 50) ⟨rfl, rfl⟩ rfl ?_
            refine qa_ldc (z := 999999) (pc' := 52) ⟨rfl, rfl⟩ qk_2_191 ?_
            refine qa_icmp_le (pc' := 55) (tgt := 57) ⟨rfl, rfl⟩ rfl (by omega) (by omega) (fun hc3 => ?_) (fun hc3 => ?_)
            · refine qa_iinc (L' := [(0, _), (1, _), (2, _)]) (z := ((k + 1 : Nat) : Int)) (pc' := 60) ⟨rfl, rfl⟩ rfl (by omega) rfl rfl ?_
              refine qa_goto (pc' := 63) (tgt := 13) ⟨rfl, rfl⟩ rfl ?_
              refine ih (k + 1) _ ⟨by omega, ?_, ?_⟩
              · omega
              · rw [← hr]; conv => rhs; unfold sm_bm
                rw [if_neg (by omega : ¬ sm_wh m k ≤ 0), ← hx9, if_neg (by omega)]; rfl
            · refine qa_iconst (pc' := 56) ⟨rfl, rfl⟩ ?_
              refine qa_ireturn rfl rfl rfl (hQ _ _ ⟨by rw [if_neg hc, ← hr]; unfold sm_bm; rw [if_neg (by omega : ¬ sm_wh m k ≤ 0), ← hx9, if_pos (by omega)], rfl⟩)
    exact lp (m 0).toNat 0 1 ⟨by omega, by omega, rfl⟩
  · refine qa_iconst (pc' := 8) ⟨rfl, rfl⟩ ?_
    refine qa_ireturn rfl rfl rfl (hQ _ _ ⟨by rw [if_pos hc], rfl⟩)
theorem c_S_wholeBars {E : qa_V} {σ : qa_S} {a : Nat} {m : Int → Int} {rf B : Int} {t : Int} (hS : sR_S σ.1 a m rf) (hk : sm_ok m B) (ht : 0 ≤ t ∧ t ≤ 120) : qa_T E qm_S_wholeBars 0 0 [.ref a, .int (qa_i t)] σ (fun o9 τ => o9 = .inl (some (.int (qa_i (if t = 0 ∨ t % m 1 ≠ 0 then -1 else t / m 1)))) ∧ τ = σ) := by
  refine qa_enterQ (by decide) rfl qm_S_wholeBars_ok rfl rfl (fun Q9 hQ => ?_)
  obtain ⟨hs, hpa, hcq, htq, hpp⟩ := hS
  obtain ⟨k0, k1, k2, k3, k4, k5, k6, k7, k8⟩ := hk
  have r1 := Int.emod_nonneg t (by omega : m 1 ≠ 0)
  have r2 := Int.emod_lt_of_pos t (by omega : 0 < m 1)
  refine qa_iload_n (pc' := 1) ⟨rfl, rfl⟩ rfl ?_
  refine qa_if_eq (pc' := 4) (tgt := 21) ⟨rfl, rfl⟩ rfl (by omega) (fun hc1 => ?_) (fun hc1 => ?_)
  · refine qa_iconst (pc' := 22) ⟨rfl, rfl⟩ ?_
    refine qa_ireturn rfl rfl rfl (hQ _ _ ⟨by first | rw [if_pos (by omega)] | rw [if_neg (by omega)], rfl⟩)
  · refine qa_aload_n (pc' := 5) ⟨rfl, rfl⟩ rfl ?_
    refine qa_getf (pc' := 8) ⟨rfl, rfl⟩ qg_2_31 (by assumption) rfl ?_
    refine qa_iconst (pc' := 9) ⟨rfl, rfl⟩ ?_
    refine qa_icmp_lt (pc' := 12) (tgt := 21) ⟨rfl, rfl⟩ rfl (by omega) (by omega) (fun hc2 => ?_) (fun hc2 => ?_)
    · exact absurd hc2 (by omega)
    · refine qa_iload_n (pc' := 13) ⟨rfl, rfl⟩ rfl ?_
      refine qa_aload_n (pc' := 14) ⟨rfl, rfl⟩ rfl ?_
      refine qa_getf (pc' := 17) ⟨rfl, rfl⟩ qg_2_31 (by assumption) rfl ?_
      refine qa_irem (pc' := 18) ⟨rfl, rfl⟩ (by omega) (by omega) (by omega) (by omega) rfl ?_
      refine qa_if_eq (pc' := 21) (tgt := 23) ⟨rfl, rfl⟩ rfl (by omega) (fun hc3 => ?_) (fun hc3 => ?_)
      · refine qa_iload_n (pc' := 24) ⟨rfl, rfl⟩ rfl ?_
        refine qa_aload_n (pc' := 25) ⟨rfl, rfl⟩ rfl ?_
        refine qa_getf (pc' := 28) ⟨rfl, rfl⟩ qg_2_31 (by assumption) rfl ?_
        refine qa_idiv (pc' := 29) ⟨rfl, rfl⟩ (by omega) (by omega) (by omega) (by omega) rfl ?_
        refine qa_ireturn rfl rfl rfl (hQ _ _ ⟨by first | rw [if_pos (by omega)] | rw [if_neg (by omega)], rfl⟩)
      · refine qa_iconst (pc' := 22) ⟨rfl, rfl⟩ ?_
        refine qa_ireturn rfl rfl rfl (hQ _ _ ⟨by first | rw [if_pos (by omega)] | rw [if_neg (by omega)], rfl⟩)
theorem c_S_solosInNext {E : qa_V} {σ : qa_S} {a : Nat} {m : Int → Int} {rf B : Int} {bars : Int} (hS : sR_S σ.1 a m rf) (hk : sm_ok m B) (hB : B ≤ 2000000000) (hb : 1 ≤ bars ∧ bars ≤ 20) : qa_T E qm_S_solosInNext 0 0 [.ref a, .int (qa_i bars)] σ (fun o9 τ => o9 = .inl (some (.int (qa_i (sm_si m (bars * m 1).toNat)))) ∧ τ = σ) := by
  refine qa_enterQ (by decide) rfl qm_S_solosInNext_ok rfl rfl (fun Q9 hQ => ?_)
  obtain ⟨hs, hpa, hcq, htq, hpp⟩ := hS
  obtain ⟨k0, k1, k2, k3, k4, k5, k6, k7, k8⟩ := hk
  have hm9 := sp_mb (a := bars) (b := m 1) (A := 20) (B := 48) (by omega) (by omega)
  obtain ⟨w9, hw9⟩ : ∃ w9, w9 = bars * m 1 := ⟨_, rfl⟩
  rw [← hw9] at hm9 hQ
  refine qa_iload_n (pc' := 1) ⟨rfl, rfl⟩ rfl ?_
  refine qa_aload_n (pc' := 2) ⟨rfl, rfl⟩ rfl ?_
  refine qa_getf (pc' := 5) ⟨rfl, rfl⟩ qg_2_31 (by assumption) rfl ?_
  refine qa_imul (z := w9) (pc' := 6) ⟨rfl, rfl⟩ hw9.symm ?_
  refine qa_istore_n (L' := [(0, _), (1, _), (2, _)]) (pc' := 7) ⟨rfl, rfl⟩ rfl rfl ?_
  refine qa_iconst (pc' := 8) ⟨rfl, rfl⟩ ?_
  refine qa_istore_n (L' := [(0, _), (1, _), (2, _), (3, _)]) (pc' := 9) ⟨rfl, rfl⟩ rfl rfl ?_
  refine qa_iconst (pc' := 10) ⟨rfl, rfl⟩ ?_
  refine qa_istore (L' := [(0, _), (1, _), (2, _), (3, _), (4, _)]) (pc' := 12) ⟨rfl, rfl⟩ rfl rfl ?_
  have lp : ∀ (f : Nat) (k : Nat) (r : Int), (k : Int) + f = w9 ∧ (0 ≤ r ∧ r ≤ k) ∧ r = sm_si m k → qa_W E qm_S_solosInNext Q9 0 0 12 [(0, .ref a), (1, .int (qa_i bars)), (2, .int (qa_i w9)), (3, .int (qa_i r)), (4, .int (qa_i k))] [] σ := by
    intro f
    induction f with
    | zero =>
      intro k r ⟨hk, hr0, hr⟩
      refine qa_iload (pc' := 14) ⟨rfl, rfl⟩ rfl ?_
      refine qa_iload_n (pc' := 15) ⟨rfl, rfl⟩ rfl ?_
      refine qa_icmp_ge (pc' := 18) (tgt := 42) ⟨rfl, rfl⟩ rfl (by omega) (by omega) (fun hc1 => ?_) (fun hc1 => ?_)
      · refine qa_iload_n (pc' := 43) ⟨rfl, rfl⟩ rfl ?_
        refine qa_ireturn rfl rfl rfl (hQ _ _ ⟨by rw [hr, show k = w9.toNat by omega], rfl⟩)
      · exact absurd hc1 (by omega)
    | succ f ih =>
      intro k r ⟨hk, hr0, hr⟩
      refine qa_iload (pc' := 14) ⟨rfl, rfl⟩ rfl ?_
      refine qa_iload_n (pc' := 15) ⟨rfl, rfl⟩ rfl ?_
      refine qa_icmp_ge (pc' := 18) (tgt := 42) ⟨rfl, rfl⟩ rfl (by omega) (by omega) (fun hc1 => ?_) (fun hc1 => ?_)
      · exact absurd hc1 (by omega)
      · refine qa_aload_n (pc' := 19) ⟨rfl, rfl⟩ rfl ?_
        refine qa_aload_n (pc' := 20) ⟨rfl, rfl⟩ rfl ?_
        refine qa_getf (pc' := 23) ⟨rfl, rfl⟩ qg_2_49 (by assumption) rfl ?_
        refine qa_iload (pc' := 25) ⟨rfl, rfl⟩ rfl ?_
        refine qa_iadd (pc' := 26) ⟨rfl, rfl⟩ rfl ?_
        refine qa_callV rfl qf_S_partsSoundingIn ql_2_183 (c_S_partsSoundingIn ⟨hs, hpa, hcq, htq, hpp⟩ ⟨k0, k1, k2, k3, k4, k5, k6, k7, k8⟩ (by omega)) (by assumption) rfl rfl rfl (qa_lt9 rfl) (qa_le9 rfl) (qa_le9 rfl) (qa_le9 rfl) (fun o9 τ9 hq9 => ?_)
        obtain ⟨rfl, hq9⟩ := hq9
        replace hq9 := hq9.symm; subst hq9
        refine qa_nx (pc' := 29) (st' := [_]) rfl rfl rfl rfl ?_
        have hb9 := sm_so_b m (m 3 + k) (m 0).toNat
        refine qa_iconst (pc' := 30) ⟨rfl, rfl⟩ ?_
        refine qa_icmp_ne (pc' := 33) (tgt := 36) ⟨rfl, rfl⟩ rfl (by omega) (by omega) (fun hc2 => ?_) (fun hc2 => ?_)
        · refine qa_iinc (L' := [(0, _), (1, _), (2, _), (3, _), (4, _)]) (z := ((k + 1 : Nat) : Int)) (pc' := 39) ⟨rfl, rfl⟩ rfl (by omega) rfl rfl ?_
          refine qa_goto (pc' := 42) (tgt := 12) ⟨rfl, rfl⟩ rfl ?_
          refine ih (k + 1) _ ⟨by omega, by omega, ?_⟩
          unfold sm_si; rw [if_neg hc2, hr]; omega
        · refine qa_iinc (L' := [(0, _), (1, _), (2, _), (3, _), (4, _)]) (pc' := 36) ⟨rfl, rfl⟩ rfl rfl rfl rfl ?_
          refine qa_iinc (L' := [(0, _), (1, _), (2, _), (3, _), (4, _)]) (z := ((k + 1 : Nat) : Int)) (pc' := 39) ⟨rfl, rfl⟩ rfl (by omega) rfl rfl ?_
          refine qa_goto (pc' := 42) (tgt := 12) ⟨rfl, rfl⟩ rfl ?_
          refine ih (k + 1) _ ⟨by omega, by omega, ?_⟩
          unfold sm_si; rw [if_pos hc2, hr]
  exact lp w9.toNat 0 0 ⟨by omega, by omega, rfl⟩
theorem c_S_refused {E : qa_V} {σ : qa_S} {a : Nat} {n bt pl rf why what : Int} (hlo : E.1 ≤ a) (hs : σ.1 a = some (qa_ScF a n bt pl rf)) : qa_T E qm_S_refused 0 0 [.ref a, .int (qa_i why), .int (qa_i what)] σ (fun o9 τ => o9 = .inl (some (.int (qa_i (-why)))) ∧ τ.2 = σ.2 ∧ τ.1 a = some (qa_ScF a n bt pl what) ∧ ∀ q, q ≠ a → τ.1 q = σ.1 q) := by
  refine qa_enterQ (by decide) rfl qm_S_refused_ok rfl rfl (fun Q9 hQ => ?_)
  have e0 : σ.2 = σ.2 := rfl
  have fr : ∀ q, q ≠ a → σ.1 q = σ.1 q := fun _ _ => rfl
  refine qa_aload_n (pc' := 1) ⟨rfl, rfl⟩ rfl ?_
  refine qa_iload_n (pc' := 2) ⟨rfl, rfl⟩ rfl ?_
  refine qa_putf (fs' := [_, _, _, _, _, _, _]) (pc' := 5) ⟨rfl, rfl⟩ qg_2_104 qw_1 (by assumption) (by omega) rfl (fun r hr => by cases hr; exact ⟨rfl, Or.inl rfl⟩) rfl rfl ?_
  refine qa_gz (fun τ1 e1 w1 f1 => ?_)
  replace fr := fun q hq => (f1 q (by have := hq; omega)).trans (fr q hq)
  replace e0 := e1.trans e0
  refine qa_iload_n (pc' := 6) ⟨rfl, rfl⟩ rfl ?_
  refine qa_ineg (pc' := 7) ⟨rfl, rfl⟩ rfl ?_
  refine qa_ireturn rfl rfl rfl (hQ _ _ ⟨rfl, e0, w1, fr⟩)
