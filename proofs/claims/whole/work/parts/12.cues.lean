theorem c_Q_after {E : qa_V} {σ : qa_S} {c : Nat} {t : Int} {src : Int → Int} {p : Int} (hc : σ.1 c = some (qa_CuF c t)) (hs : σ.1 (c + 1) = some (qa_ia 5 src)) (hp : qa_in p) : qa_T E qm_Q_after 0 0 [.ref c, .int (qa_i p)] σ (fun o9 τ => o9 = .inl (some (.int (qa_i (sp_af src p)))) ∧ τ = σ) := by
  refine qa_enterQ (by decide) rfl qm_Q_after_ok rfl rfl (fun Q9 hQ => ?_)
  refine qa_iload_n (pc' := 1) ⟨rfl, rfl⟩ rfl ?_
  refine qa_iconst (pc' := 2) ⟨rfl, rfl⟩ ?_
  refine qa_iconst (pc' := 3) ⟨rfl, rfl⟩ ?_
  refine qa_callS rfl qf_C_isWithin rfl ql_4_28 (c_C_isWithin (by omega) (by omega) (by omega)) rfl rfl (qa_lt9 rfl) (qa_le9 rfl) (qa_le9 rfl) (qa_le9 rfl) (fun o9 τ9 hq9 => ?_)
  obtain ⟨rfl, rfl⟩ := hq9
  refine qa_nx (pc' := 6) (st' := [_]) rfl rfl rfl rfl ?_
  by_cases hw : 0 ≤ p ∧ p ≤ 4
  · rw [if_pos hw]
    refine qa_if_eq (pc' := 9) (tgt := 18) ⟨rfl, rfl⟩ rfl (by omega) (fun hc1 => ?_) (fun hc1 => ?_)
    · exact absurd hc1 (by omega)
    · refine qa_aload_n (pc' := 10) ⟨rfl, rfl⟩ rfl ?_
      refine qa_getf (pc' := 13) ⟨rfl, rfl⟩ qg_4_9 (by assumption) rfl ?_
      refine qa_iload_n (pc' := 14) ⟨rfl, rfl⟩ rfl ?_
      refine qa_iaload (pc' := 15) ⟨rfl, rfl⟩ (by assumption) (by omega) ?_
      refine qa_goto (pc' := 18) (tgt := 19) ⟨rfl, rfl⟩ rfl ?_
      refine qa_ireturn rfl rfl rfl (hQ _ _ ⟨by unfold sp_af; rw [if_pos hw], rfl⟩)
  · rw [if_neg hw]
    refine qa_if_eq (pc' := 9) (tgt := 18) ⟨rfl, rfl⟩ rfl (by omega) (fun hc1 => ?_) (fun hc1 => ?_)
    · refine qa_iconst (pc' := 19) ⟨rfl, rfl⟩ ?_
      refine qa_ireturn rfl rfl rfl (hQ _ _ ⟨by unfold sp_af; rw [if_neg hw], rfl⟩)
    · exact absurd hc1 (by omega)
theorem c_Q_depthFrom {E : qa_V} {σ : qa_S} {c : Nat} {t : Int} {src : Int → Int} {p : Int} (hc : σ.1 c = some (qa_CuF c t)) (hs : σ.1 (c + 1) = some (qa_ia 5 src)) (hs9 : sp_S5 src) (hp : qa_in p) : qa_T E qm_Q_depthFrom 0 0 [.ref c, .int (qa_i p)] σ (fun o9 τ => o9 = .inl (some (.int (qa_i (sp_dp src 5 p 0)))) ∧ τ = σ) := by
  refine qa_enterQ (by decide) rfl qm_Q_depthFrom_ok rfl rfl (fun Q9 hQ => ?_)
  refine qa_iload_n (pc' := 1) ⟨rfl, rfl⟩ rfl ?_
  refine qa_istore_n (L' := [(0, _), (1, _), (2, _)]) (pc' := 2) ⟨rfl, rfl⟩ rfl rfl ?_
  refine qa_iconst (pc' := 3) ⟨rfl, rfl⟩ ?_
  refine qa_istore_n (L' := [(0, _), (1, _), (2, _), (3, _)]) (pc' := 4) ⟨rfl, rfl⟩ rfl rfl ?_
  have lp : ∀ (f : Nat) (k : Nat) (at9 : Int), (k : Int) + f = 5 ∧ qa_in at9 ∧ sp_dp src f at9 k = sp_dp src 5 p 0 → qa_W E qm_Q_depthFrom Q9 0 0 4 [(0, .ref c), (1, .int (qa_i p)), (2, .int (qa_i at9)), (3, .int (qa_i k))] [] σ := by
    intro f
    induction f with
    | zero =>
      intro k at9 ⟨hk, ha, hr⟩
      refine qa_iload_n (pc' := 5) ⟨rfl, rfl⟩ rfl ?_
      refine qa_iconst (pc' := 6) ⟨rfl, rfl⟩ ?_
      refine qa_icmp_ge (pc' := 9) (tgt := 28) ⟨rfl, rfl⟩ rfl (by omega) (by omega) (fun hc1 => ?_) (fun hc1 => ?_)
      · refine qa_iconst (pc' := 29) ⟨rfl, rfl⟩ ?_
        refine qa_ireturn rfl rfl rfl (hQ _ _ ⟨by rw [← hr]; rfl, rfl⟩)
      · exact absurd hc1 (by omega)
    | succ f ih =>
      intro k at9 ⟨hk, ha, hr⟩
      refine qa_iload_n (pc' := 5) ⟨rfl, rfl⟩ rfl ?_
      refine qa_iconst (pc' := 6) ⟨rfl, rfl⟩ ?_
      refine qa_icmp_ge (pc' := 9) (tgt := 28) ⟨rfl, rfl⟩ rfl (by omega) (by omega) (fun hc1 => ?_) (fun hc1 => ?_)
      · exact absurd hc1 (by omega)
      · refine qa_aload_n (pc' := 10) ⟨rfl, rfl⟩ rfl ?_
        refine qa_iload_n (pc' := 11) ⟨rfl, rfl⟩ rfl ?_
        refine qa_callV rfl qf_Q_after ql_4_32 (c_Q_after hc hs (by omega)) (by assumption) rfl rfl rfl (qa_lt9 rfl) (qa_le9 rfl) (qa_le9 rfl) (qa_le9 rfl) (fun o9 τ9 hq9 => ?_)
        obtain ⟨rfl, rfl⟩ := hq9
        refine qa_nx (pc' := 14) (st' := [_]) rfl rfl rfl rfl ?_
        obtain ⟨x, hx⟩ : ∃ x, x = sp_af src at9 := ⟨_, rfl⟩
        have bbx : -1 ≤ x ∧ x ≤ 4 := by rw [hx]; exact sp_af_b hs9 _
        rw [← hx]
        refine qa_istore_n (L' := [(0, _), (1, _), (2, _), (3, _)]) (pc' := 15) ⟨rfl, rfl⟩ rfl rfl ?_
        refine qa_iload_n (pc' := 16) ⟨rfl, rfl⟩ rfl ?_
        refine qa_iconst (pc' := 17) ⟨rfl, rfl⟩ ?_
        refine qa_icmp_ne (pc' := 20) (tgt := 22) ⟨rfl, rfl⟩ rfl (by omega) (by omega) (fun hc2 => ?_) (fun hc2 => ?_)
        · refine qa_iinc (L' := [(0, _), (1, _), (2, _), (3, _)]) (z := ((k + 1 : Nat) : Int)) (pc' := 25) ⟨rfl, rfl⟩ rfl (by omega) rfl rfl ?_
          refine qa_goto (pc' := 28) (tgt := 4) ⟨rfl, rfl⟩ rfl ?_
          refine ih (k + 1) x ⟨by omega, by omega, ?_⟩
          rw [← hr]; conv => rhs; unfold sp_dp
          rw [← hx, if_neg hc2]; rfl
        · refine qa_iload_n (pc' := 21) ⟨rfl, rfl⟩ rfl ?_
          refine qa_ireturn rfl rfl rfl (hQ _ _ ⟨by rw [← hr]; unfold sp_dp; rw [← hx, if_pos hc2], rfl⟩)
  exact lp 5 0 p ⟨by omega, hp, rfl⟩
theorem c_Q_roundFrom {E : qa_V} {σ : qa_S} {c : Nat} {t : Int} {src : Int → Int} {p : Int} (hc : σ.1 c = some (qa_CuF c t)) (hs : σ.1 (c + 1) = some (qa_ia 5 src)) (hs9 : sp_S5 src) (hp : qa_in p) : qa_T E qm_Q_roundFrom 0 0 [.ref c, .int (qa_i p)] σ (fun o9 τ => o9 = .inl (some (.int (qa_i (sp_rf src p 5 p 1)))) ∧ τ = σ) := by
  refine qa_enterQ (by decide) rfl qm_Q_roundFrom_ok rfl rfl (fun Q9 hQ => ?_)
  refine qa_iload_n (pc' := 1) ⟨rfl, rfl⟩ rfl ?_
  refine qa_istore_n (L' := [(0, _), (1, _), (2, _)]) (pc' := 2) ⟨rfl, rfl⟩ rfl rfl ?_
  refine qa_iconst (pc' := 3) ⟨rfl, rfl⟩ ?_
  refine qa_istore_n (L' := [(0, _), (1, _), (2, _), (3, _)]) (pc' := 4) ⟨rfl, rfl⟩ rfl rfl ?_
  have lp : ∀ (f : Nat) (k : Nat) (at9 : Int), (k : Int) + f = 6 ∧ 1 ≤ k ∧ qa_in at9 ∧ sp_rf src p f at9 k = sp_rf src p 5 p 1 → qa_W E qm_Q_roundFrom Q9 0 0 4 [(0, .ref c), (1, .int (qa_i p)), (2, .int (qa_i at9)), (3, .int (qa_i k))] [] σ := by
    intro f
    induction f with
    | zero =>
      intro k at9 ⟨hk, hk1, ha, hr⟩
      refine qa_iload_n (pc' := 5) ⟨rfl, rfl⟩ rfl ?_
      refine qa_iconst (pc' := 6) ⟨rfl, rfl⟩ ?_
      refine qa_icmp_gt (pc' := 9) (tgt := 28) ⟨rfl, rfl⟩ rfl (by omega) (by omega) (fun hc1 => ?_) (fun hc1 => ?_)
      · refine qa_iconst (pc' := 29) ⟨rfl, rfl⟩ ?_
        refine qa_ireturn rfl rfl rfl (hQ _ _ ⟨by rw [← hr]; rfl, rfl⟩)
      · exact absurd hc1 (by omega)
    | succ f ih =>
      intro k at9 ⟨hk, hk1, ha, hr⟩
      refine qa_iload_n (pc' := 5) ⟨rfl, rfl⟩ rfl ?_
      refine qa_iconst (pc' := 6) ⟨rfl, rfl⟩ ?_
      refine qa_icmp_gt (pc' := 9) (tgt := 28) ⟨rfl, rfl⟩ rfl (by omega) (by omega) (fun hc1 => ?_) (fun hc1 => ?_)
      · exact absurd hc1 (by omega)
      · refine qa_aload_n (pc' := 10) ⟨rfl, rfl⟩ rfl ?_
        refine qa_iload_n (pc' := 11) ⟨rfl, rfl⟩ rfl ?_
        refine qa_callV rfl qf_Q_after ql_4_32 (c_Q_after hc hs (by omega)) (by assumption) rfl rfl rfl (qa_lt9 rfl) (qa_le9 rfl) (qa_le9 rfl) (qa_le9 rfl) (fun o9 τ9 hq9 => ?_)
        obtain ⟨rfl, rfl⟩ := hq9
        refine qa_nx (pc' := 14) (st' := [_]) rfl rfl rfl rfl ?_
        obtain ⟨x, hx⟩ : ∃ x, x = sp_af src at9 := ⟨_, rfl⟩
        have bbx : -1 ≤ x ∧ x ≤ 4 := by rw [hx]; exact sp_af_b hs9 _
        rw [← hx]
        refine qa_istore_n (L' := [(0, _), (1, _), (2, _), (3, _)]) (pc' := 15) ⟨rfl, rfl⟩ rfl rfl ?_
        refine qa_iload_n (pc' := 16) ⟨rfl, rfl⟩ rfl ?_
        refine qa_iload_n (pc' := 17) ⟨rfl, rfl⟩ rfl ?_
        refine qa_icmp_ne (pc' := 20) (tgt := 22) ⟨rfl, rfl⟩ rfl (by omega) (by omega) (fun hc2 => ?_) (fun hc2 => ?_)
        · refine qa_iinc (L' := [(0, _), (1, _), (2, _), (3, _)]) (z := ((k + 1 : Nat) : Int)) (pc' := 25) ⟨rfl, rfl⟩ rfl (by omega) rfl rfl ?_
          refine qa_goto (pc' := 28) (tgt := 4) ⟨rfl, rfl⟩ rfl ?_
          refine ih (k + 1) x ⟨by omega, by omega, by omega, ?_⟩
          rw [← hr]; conv => rhs; unfold sp_rf
          rw [← hx, if_neg hc2]; rfl
        · refine qa_iload_n (pc' := 21) ⟨rfl, rfl⟩ rfl ?_
          refine qa_ireturn rfl rfl rfl (hQ _ _ ⟨by rw [← hr]; unfold sp_rf; rw [← hx, if_pos hc2], rfl⟩)
  exact lp 5 1 p ⟨by omega, by omega, hp, rfl⟩
theorem c_Q_circleByTwoSpeeds {E : qa_V} {σ : qa_S} {c : Nat} {t : Int} {src : Int → Int} {p : Int} (hc : σ.1 c = some (qa_CuF c t)) (hs : σ.1 (c + 1) = some (qa_ia 5 src)) (hs9 : sp_S5 src) (hp : qa_in p) : qa_T E qm_Q_circleByTwoSpeeds 0 0 [.ref c, .int (qa_i p)] σ (fun o9 τ => o9 = .inl (some (.int (qa_i (sp_ts src 10 p p)))) ∧ τ = σ) := by
  refine qa_enterQ (by decide) rfl qm_Q_circleByTwoSpeeds_ok rfl rfl (fun Q9 hQ => ?_)
  refine qa_iload_n (pc' := 1) ⟨rfl, rfl⟩ rfl ?_
  refine qa_istore_n (L' := [(0, _), (1, _), (2, _)]) (pc' := 2) ⟨rfl, rfl⟩ rfl rfl ?_
  refine qa_iload_n (pc' := 3) ⟨rfl, rfl⟩ rfl ?_
  refine qa_istore_n (L' := [(0, _), (1, _), (2, _), (3, _)]) (pc' := 4) ⟨rfl, rfl⟩ rfl rfl ?_
  refine qa_iconst (pc' := 5) ⟨rfl, rfl⟩ ?_
  refine qa_istore (L' := [(0, _), (1, _), (2, _), (3, _), (4, _)]) (pc' := 7) ⟨rfl, rfl⟩ rfl rfl ?_
  have lp : ∀ (f : Nat) (k : Nat) (sl fa : Int), (k : Int) + f = 10 ∧ qa_in sl ∧ qa_in fa ∧ sp_ts src f sl fa = sp_ts src 10 p p → qa_W E qm_Q_circleByTwoSpeeds Q9 0 0 7 [(0, .ref c), (1, .int (qa_i p)), (2, .int (qa_i sl)), (3, .int (qa_i fa)), (4, .int (qa_i k))] [] σ := by
    intro f
    induction f with
    | zero =>
      intro k sl fa ⟨hk, ha, hf, hr⟩
      refine qa_iload (pc' := 9) ⟨rfl, rfl⟩ rfl ?_
      refine qa_bipush (z := 10) (pc' := 11) ⟨rfl, rfl⟩ rfl ?_
      refine qa_icmp_ge (pc' := 14) (tgt := 54) ⟨rfl, rfl⟩ rfl (by omega) (by omega) (fun hc1 => ?_) (fun hc1 => ?_)
      · refine qa_iconst (pc' := 55) ⟨rfl, rfl⟩ ?_
        refine qa_ireturn rfl rfl rfl (hQ _ _ ⟨by rw [← hr]; rfl, rfl⟩)
      · exact absurd hc1 (by omega)
    | succ f ih =>
      intro k sl fa ⟨hk, ha, hf, hr⟩
      refine qa_iload (pc' := 9) ⟨rfl, rfl⟩ rfl ?_
      refine qa_bipush (z := 10) (pc' := 11) ⟨rfl, rfl⟩ rfl ?_
      refine qa_icmp_ge (pc' := 14) (tgt := 54) ⟨rfl, rfl⟩ rfl (by omega) (by omega) (fun hc1 => ?_) (fun hc1 => ?_)
      · exact absurd hc1 (by omega)
      · refine qa_aload_n (pc' := 15) ⟨rfl, rfl⟩ rfl ?_
        refine qa_iload_n (pc' := 16) ⟨rfl, rfl⟩ rfl ?_
        refine qa_callV rfl qf_Q_after ql_4_32 (c_Q_after hc hs (by omega)) (by assumption) rfl rfl rfl (qa_lt9 rfl) (qa_le9 rfl) (qa_le9 rfl) (qa_le9 rfl) (fun o9 τ9 hq9 => ?_)
        obtain ⟨rfl, rfl⟩ := hq9
        refine qa_nx (pc' := 19) (st' := [_]) rfl rfl rfl rfl ?_
        obtain ⟨x, hx⟩ : ∃ x, x = sp_af src sl := ⟨_, rfl⟩
        have bbx : -1 ≤ x ∧ x ≤ 4 := by rw [hx]; exact sp_af_b hs9 _
        rw [← hx]
        refine qa_istore_n (L' := [(0, _), (1, _), (2, _), (3, _), (4, _)]) (pc' := 20) ⟨rfl, rfl⟩ rfl rfl ?_
        refine qa_aload_n (pc' := 21) ⟨rfl, rfl⟩ rfl ?_
        refine qa_aload_n (pc' := 22) ⟨rfl, rfl⟩ rfl ?_
        refine qa_iload_n (pc' := 23) ⟨rfl, rfl⟩ rfl ?_
        refine qa_callV rfl qf_Q_after ql_4_32 (c_Q_after hc hs (by omega)) (by assumption) rfl rfl rfl (qa_lt9 rfl) (qa_le9 rfl) (qa_le9 rfl) (qa_le9 rfl) (fun o9 τ9 hq9 => ?_)
        obtain ⟨rfl, rfl⟩ := hq9
        refine qa_nx (pc' := 26) (st' := [_, _]) rfl rfl rfl rfl ?_
        obtain ⟨y, hy⟩ : ∃ y, y = sp_af src fa := ⟨_, rfl⟩
        have bby : -1 ≤ y ∧ y ≤ 4 := by rw [hy]; exact sp_af_b hs9 _
        rw [← hy]
        refine qa_callV rfl qf_Q_after ql_4_32 (c_Q_after hc hs (by omega)) (by assumption) rfl rfl rfl (qa_lt9 rfl) (qa_le9 rfl) (qa_le9 rfl) (qa_le9 rfl) (fun o9 τ9 hq9 => ?_)
        obtain ⟨rfl, rfl⟩ := hq9
        refine qa_nx (pc' := 29) (st' := [_]) rfl rfl rfl rfl ?_
        obtain ⟨z, hz⟩ : ∃ z, z = sp_af src y := ⟨_, rfl⟩
        have bbz : -1 ≤ z ∧ z ≤ 4 := by rw [hz]; exact sp_af_b hs9 _
        rw [← hz]
        refine qa_istore_n (L' := [(0, _), (1, _), (2, _), (3, _), (4, _)]) (pc' := 30) ⟨rfl, rfl⟩ rfl rfl ?_
        refine qa_iload_n (pc' := 31) ⟨rfl, rfl⟩ rfl ?_
        refine qa_iconst (pc' := 32) ⟨rfl, rfl⟩ ?_
        refine qa_icmp_ne (pc' := 35) (tgt := 37) ⟨rfl, rfl⟩ rfl (by omega) (by omega) (fun hc2 => ?_) (fun hc2 => ?_)
        · refine qa_iload_n (pc' := 38) ⟨rfl, rfl⟩ rfl ?_
          refine qa_iload_n (pc' := 39) ⟨rfl, rfl⟩ rfl ?_
          refine qa_icmp_ne (pc' := 42) (tgt := 48) ⟨rfl, rfl⟩ rfl (by omega) (by omega) (fun hc3 => ?_) (fun hc3 => ?_)
          · refine qa_iinc (L' := [(0, _), (1, _), (2, _), (3, _), (4, _)]) (z := ((k + 1 : Nat) : Int)) (pc' := 51) ⟨rfl, rfl⟩ rfl (by omega) rfl rfl ?_
            refine qa_goto (pc' := 54) (tgt := 7) ⟨rfl, rfl⟩ rfl ?_
            refine ih (k + 1) x z ⟨by omega, by omega, by omega, ?_⟩
            rw [← hr]; conv => rhs; unfold sp_ts
            rw [← hy, ← hz, ← hx, if_neg hc2, if_neg hc3]
          · refine qa_aload_n (pc' := 43) ⟨rfl, rfl⟩ rfl ?_
            refine qa_iload_n (pc' := 44) ⟨rfl, rfl⟩ rfl ?_
            refine qa_callV rfl qf_Q_roundFrom ql_4_36 (c_Q_roundFrom hc hs hs9 (by omega)) (by assumption) rfl rfl rfl (qa_lt9 rfl) (qa_le9 rfl) (qa_le9 rfl) (qa_le9 rfl) (fun o9 τ9 hq9 => ?_)
            obtain ⟨rfl, rfl⟩ := hq9
            refine qa_nx (pc' := 47) (st' := [_]) rfl rfl rfl rfl ?_
            refine qa_ireturn rfl rfl rfl (hQ _ _ ⟨by rw [← hr]; unfold sp_ts; rw [← hy, ← hz, ← hx, if_neg hc2, if_pos hc3], rfl⟩)
        · refine qa_iconst (pc' := 36) ⟨rfl, rfl⟩ ?_
          refine qa_ireturn rfl rfl rfl (hQ _ _ ⟨by rw [← hr]; unfold sp_ts; rw [← hy, ← hz, if_pos hc2], rfl⟩)
  exact lp 10 0 p p ⟨by omega, hp, hp, rfl⟩
theorem sp_mk_ext (src : Int → Int) : ∀ (f : Nat) (a k : Int) (m1 m2 : Int → Int), (∀ j : Int, 0 ≤ j → j ≤ 4 → m1 j = m2 j) → sp_mk src f a k m1 = sp_mk src f a k m2
  | 0, _, _, _, _, _ => rfl
  | f + 1, a, k, m1, m2, h => by
    unfold sp_mk
    by_cases hw : 0 ≤ a ∧ a ≤ 4
    · have e : ¬ ¬ (0 ≤ a ∧ a ≤ 4) := fun q => q hw
      simp only [if_neg e, h a hw.1 hw.2]
      split
      · rfl
      · exact sp_mk_ext src f _ _ _ _ (fun j h0 h1 => by unfold qa_up; split <;> first | rfl | exact h j h0 h1)
    · rw [if_pos hw, if_pos hw]
theorem c_Q_circleWithMarks {E : qa_V} {σ : qa_S} {c : Nat} {t : Int} {src : Int → Int} {mk : Int → Int} {p : Int} (hlo : E.1 ≤ c) (hc : σ.1 c = some (qa_CuF c t)) (hs : σ.1 (c + 1) = some (qa_ia 5 src)) (hm : σ.1 (c + 2) = some (qa_ia 5 mk)) (hs9 : sp_S5 src) (hp : qa_in p) : qa_T E qm_Q_circleWithMarks 0 0 [.ref c, .int (qa_i p)] σ (fun o9 τ => o9 = .inl (some (.int (qa_i (sp_mk src 6 p 0 (fun _ => -1))))) ∧ τ.2 = σ.2 ∧ (∃ mk2 : Int → Int, τ.1 (c + 2) = some (qa_ia 5 mk2)) ∧ ∀ q, q ≠ c + 2 → τ.1 q = σ.1 q) := by
  refine qa_enterQ (by decide) rfl qm_Q_circleWithMarks_ok rfl rfl (fun Q9 hQ => ?_)
  have hs0 := hs
  refine qa_iconst (pc' := 1) ⟨rfl, rfl⟩ ?_
  refine qa_istore_n (L' := [(0, _), (1, _), (2, _)]) (pc' := 2) ⟨rfl, rfl⟩ rfl rfl ?_
  have hc0 := hc
  have kk : ∀ (τ : qa_S) (mk1 : Int → Int), τ.2 = σ.2 → τ.1 (c + 2) = some (qa_ia 5 mk1) → (∀ j : Int, 0 ≤ j → j < 5 → mk1 j = -1) → (∀ q, q ≠ c + 2 → τ.1 q = σ.1 q) → qa_W E qm_Q_circleWithMarks Q9 0 0 20 [(0, .ref c), (1, .int (qa_i p)), (2, .int (qa_i 5))] [] τ := by
    intro τ mk1 he hm1 hmk hfr
    refine qa_iload_n (pc' := 21) ⟨rfl, rfl⟩ rfl ?_
    refine qa_istore_n (L' := [(0, _), (1, _), (2, _)]) (pc' := 22) ⟨rfl, rfl⟩ rfl rfl ?_
    refine qa_iconst (pc' := 23) ⟨rfl, rfl⟩ ?_
    refine qa_istore_n (L' := [(0, _), (1, _), (2, _), (3, _)]) (pc' := 24) ⟨rfl, rfl⟩ rfl rfl ?_
    have lp2 : ∀ (f : Nat) (τ : qa_S) (k : Nat) (at9 : Int) (mk2 : Int → Int), (k : Int) + f = 6 ∧ qa_in at9 ∧ τ.2 = σ.2 ∧ τ.1 (c + 2) = some (qa_ia 5 mk2) ∧ (∀ j : Int, 0 ≤ j → j < 5 → -1 ≤ mk2 j ∧ mk2 j ≤ k) ∧ (∀ q, q ≠ c + 2 → τ.1 q = σ.1 q) ∧ sp_mk src f at9 k mk2 = sp_mk src 6 p 0 (fun _ => -1) → qa_W E qm_Q_circleWithMarks Q9 0 0 24 [(0, .ref c), (1, .int (qa_i p)), (2, .int (qa_i at9)), (3, .int (qa_i k))] [] τ := by
      intro f
      induction f with
      | zero =>
        intro τ k at9 mk2 ⟨hk, ha, he, hm, hmk9, hfr, hr⟩
        refine qa_iload_n (pc' := 25) ⟨rfl, rfl⟩ rfl ?_
        refine qa_iconst (pc' := 26) ⟨rfl, rfl⟩ ?_
        refine qa_icmp_gt (pc' := 29) (tgt := 77) ⟨rfl, rfl⟩ rfl (by omega) (by omega) (fun hc1 => ?_) (fun hc1 => ?_)
        · refine qa_iconst (pc' := 78) ⟨rfl, rfl⟩ ?_
          refine qa_ireturn rfl rfl rfl (hQ _ _ ⟨by rw [← hr]; rfl, he, ⟨mk2, hm⟩, hfr⟩)
        · exact absurd hc1 (by omega)
      | succ f ih =>
        intro τ k at9 mk2 ⟨hk, ha, he, hm, hmk9, hfr, hr⟩
        have hc := (hfr c (by omega)).trans hc0
        have hs := (hfr (c + 1) (by omega)).trans hs0
        refine qa_iload_n (pc' := 25) ⟨rfl, rfl⟩ rfl ?_
        refine qa_iconst (pc' := 26) ⟨rfl, rfl⟩ ?_
        refine qa_icmp_gt (pc' := 29) (tgt := 77) ⟨rfl, rfl⟩ rfl (by omega) (by omega) (fun hc1 => ?_) (fun hc1 => ?_)
        · exact absurd hc1 (by omega)
        · refine qa_iload_n (pc' := 30) ⟨rfl, rfl⟩ rfl ?_
          refine qa_iconst (pc' := 31) ⟨rfl, rfl⟩ ?_
          refine qa_iconst (pc' := 32) ⟨rfl, rfl⟩ ?_
          refine qa_callS rfl qf_C_isWithin rfl ql_4_28 (c_C_isWithin (by omega) (by omega) (by omega)) rfl rfl (qa_lt9 rfl) (qa_le9 rfl) (qa_le9 rfl) (qa_le9 rfl) (fun o9 τ9 hq9 => ?_)
          obtain ⟨rfl, rfl⟩ := hq9
          refine qa_nx (pc' := 35) (st' := [_]) rfl rfl rfl rfl ?_
          by_cases hw : 0 ≤ at9 ∧ at9 ≤ 4
          · rw [if_pos hw]
            refine qa_if_eq (pc' := 38) (tgt := 77) ⟨rfl, rfl⟩ rfl (by omega) (fun hc2 => ?_) (fun hc2 => ?_)
            · exact absurd hc2 (by omega)
            · have hv := hmk9 at9 (by omega) (by omega)
              have hv2 := hs9 at9 (by omega) (by omega)
              refine qa_aload_n (pc' := 39) ⟨rfl, rfl⟩ rfl ?_
              refine qa_getf (pc' := 42) ⟨rfl, rfl⟩ qg_4_15 (by assumption) rfl ?_
              refine qa_iload_n (pc' := 43) ⟨rfl, rfl⟩ rfl ?_
              refine qa_iaload (pc' := 44) ⟨rfl, rfl⟩ (by assumption) (by omega) ?_
              refine qa_iconst (pc' := 45) ⟨rfl, rfl⟩ ?_
              refine qa_icmp_eq (pc' := 48) (tgt := 57) ⟨rfl, rfl⟩ rfl (by omega) (by omega) (fun hc3 => ?_) (fun hc3 => ?_)
              · refine qa_aload_n (pc' := 58) ⟨rfl, rfl⟩ rfl ?_
                refine qa_getf (pc' := 61) ⟨rfl, rfl⟩ qg_4_15 (by assumption) rfl ?_
                refine qa_iload_n (pc' := 62) ⟨rfl, rfl⟩ rfl ?_
                refine qa_iload_n (pc' := 63) ⟨rfl, rfl⟩ rfl ?_
                refine qa_iastore (pc' := 64) ⟨rfl, rfl⟩ hm (by omega) (by omega) ?_
                refine qa_gz (fun τ2 e2 w2 f2 => ?_)
                replace hc := (f2 c (by omega)).trans hc
                replace hs := (f2 (c + 1) (by omega)).trans hs
                refine qa_aload_n (pc' := 65) ⟨rfl, rfl⟩ rfl ?_
                refine qa_getf (pc' := 68) ⟨rfl, rfl⟩ qg_4_9 (by assumption) rfl ?_
                refine qa_iload_n (pc' := 69) ⟨rfl, rfl⟩ rfl ?_
                refine qa_iaload (pc' := 70) ⟨rfl, rfl⟩ (by assumption) (by omega) ?_
                refine qa_istore_n (L' := [(0, _), (1, _), (2, _), (3, _)]) (pc' := 71) ⟨rfl, rfl⟩ rfl rfl ?_
                refine qa_iinc (L' := [(0, _), (1, _), (2, _), (3, _)]) (z := ((k + 1 : Nat) : Int)) (pc' := 74) ⟨rfl, rfl⟩ rfl (by omega) rfl rfl ?_
                refine qa_goto (pc' := 77) (tgt := 24) ⟨rfl, rfl⟩ rfl ?_
                refine ih τ2 (k + 1) (src at9) (qa_up mk2 at9 k) ⟨by omega, by omega, e2.trans he, w2, ?_, fun q hq => (f2 q hq).trans (hfr q hq), ?_⟩
                · intro j h0 h1
                  by_cases hj : j = at9
                  · rw [hj, qa_up_eq]; omega
                  · rw [qa_up_ne hj]; have := hmk9 j h0 h1; omega
                · rw [← hr]; conv => rhs; unfold sp_mk
                  rw [if_neg (fun h => h hw), if_neg (fun h => h hc3)]; rfl
              · refine qa_iload_n (pc' := 49) ⟨rfl, rfl⟩ rfl ?_
                refine qa_aload_n (pc' := 50) ⟨rfl, rfl⟩ rfl ?_
                refine qa_getf (pc' := 53) ⟨rfl, rfl⟩ qg_4_15 (by assumption) rfl ?_
                refine qa_iload_n (pc' := 54) ⟨rfl, rfl⟩ rfl ?_
                refine qa_iaload (pc' := 55) ⟨rfl, rfl⟩ (by assumption) (by omega) ?_
                refine qa_isub (pc' := 56) ⟨rfl, rfl⟩ rfl ?_
                refine qa_ireturn rfl rfl rfl (hQ _ _ ⟨by rw [← hr]; unfold sp_mk; rw [if_neg (fun h => h hw), if_pos hc3], he, ⟨mk2, hm⟩, hfr⟩)
          · rw [if_neg hw]
            refine qa_if_eq (pc' := 38) (tgt := 77) ⟨rfl, rfl⟩ rfl (by omega) (fun hc2 => ?_) (fun hc2 => ?_)
            · refine qa_iconst (pc' := 78) ⟨rfl, rfl⟩ ?_
              refine qa_ireturn rfl rfl rfl (hQ _ _ ⟨by rw [← hr]; unfold sp_mk; rw [if_pos hw], he, ⟨mk2, hm⟩, hfr⟩)
            · exact absurd hc2 (by omega)
    exact lp2 6 τ 0 p mk1 ⟨by omega, hp, he, hm1, fun j h0 h1 => by rw [hmk j h0 h1]; omega, hfr, sp_mk_ext src 6 p 0 _ _ (fun j h0 h1 => hmk j h0 (by omega))⟩
  have lp : ∀ (f : Nat) (τ : qa_S) (k : Nat) (mk1 : Int → Int), (k : Int) + f = 5 ∧ τ.2 = σ.2 ∧ τ.1 (c + 2) = some (qa_ia 5 mk1) ∧ (∀ j : Int, 0 ≤ j → j < k → mk1 j = -1) ∧ (∀ q, q ≠ c + 2 → τ.1 q = σ.1 q) → qa_W E qm_Q_circleWithMarks Q9 0 0 2 [(0, .ref c), (1, .int (qa_i p)), (2, .int (qa_i k))] [] τ := by
    intro f
    induction f with
    | zero =>
      intro τ k mk1 ⟨hk, he, hm, hmk, hfr⟩
      have hk5 : k = 5 := by omega
      subst hk5
      have hc := (hfr c (by omega)).trans hc0
      refine qa_iload_n (pc' := 3) ⟨rfl, rfl⟩ rfl ?_
      refine qa_iconst (pc' := 4) ⟨rfl, rfl⟩ ?_
      refine qa_icmp_ge (pc' := 7) (tgt := 20) ⟨rfl, rfl⟩ rfl (by omega) (by omega) (fun hc1 => ?_) (fun hc1 => ?_)
      · exact kk τ mk1 he hm hmk hfr
      · exact absurd hc1 (by omega)
    | succ f ih =>
      intro τ k mk1 ⟨hk, he, hm, hmk, hfr⟩
      have hc := (hfr c (by omega)).trans hc0
      refine qa_iload_n (pc' := 3) ⟨rfl, rfl⟩ rfl ?_
      refine qa_iconst (pc' := 4) ⟨rfl, rfl⟩ ?_
      refine qa_icmp_ge (pc' := 7) (tgt := 20) ⟨rfl, rfl⟩ rfl (by omega) (by omega) (fun hc1 => ?_) (fun hc1 => ?_)
      · exact absurd hc1 (by omega)
      · refine qa_aload_n (pc' := 8) ⟨rfl, rfl⟩ rfl ?_
        refine qa_getf (pc' := 11) ⟨rfl, rfl⟩ qg_4_15 (by assumption) rfl ?_
        refine qa_iload_n (pc' := 12) ⟨rfl, rfl⟩ rfl ?_
        refine qa_iconst (pc' := 13) ⟨rfl, rfl⟩ ?_
        refine qa_iastore (pc' := 14) ⟨rfl, rfl⟩ hm (by omega) (by omega) ?_
        refine qa_gz (fun τ2 e2 w2 f2 => ?_)
        refine qa_iinc (L' := [(0, _), (1, _), (2, _)]) (z := ((k + 1 : Nat) : Int)) (pc' := 17) ⟨rfl, rfl⟩ rfl (by omega) rfl rfl ?_
        refine qa_goto (pc' := 20) (tgt := 2) ⟨rfl, rfl⟩ rfl ?_
        refine ih τ2 (k + 1) (qa_up mk1 k (-1)) ⟨by omega, e2.trans he, w2, ?_, fun q hq => (f2 q hq).trans (hfr q hq)⟩
        intro j h0 h1
        by_cases hj : j = k
        · rw [hj, qa_up_eq]
        · rw [qa_up_ne hj]; exact hmk j h0 (by omega)
  exact lp 5 σ 0 mk ⟨by omega, rfl, hm, fun j h0 h1 => absurd h1 (by omega), fun _ _ => rfl⟩
