theorem c_P_hasSameAt {E : qa_V} {σ : qa_S} {b : Nat} {n t u d s o : Int} {b2 : Nat} {n2 t2 u2 d2 s2 o2 i j : Int} {p l p2 l2 : Int → Int} (hb : σ.1 b = some (qa_PtF b n t u d s o)) (hp : σ.1 (b + 1) = some (qa_ia 10 p)) (hl : σ.1 (b + 2) = some (qa_ia 10 l)) (hb2 : σ.1 b2 = some (qa_PtF b2 n2 t2 u2 d2 s2 o2)) (hp2 : σ.1 (b2 + 1) = some (qa_ia 10 p2)) (hl2 : σ.1 (b2 + 2) = some (qa_ia 10 l2)) (hi : 0 ≤ i ∧ i < 10) (hj : 0 ≤ j ∧ j < 10) (hr : (-1 ≤ p i ∧ p i ≤ 35) ∧ (-1 ≤ p2 j ∧ p2 j ≤ 35) ∧ (0 ≤ l i ∧ l i ≤ 12) ∧ 0 ≤ l2 j ∧ l2 j ≤ 12) : qa_T E qm_P_hasSameAt 0 0 [.ref b, .int (qa_i i), .ref b2, .int (qa_i j)] σ (fun o9 τ => o9 = .inl (some (.int (qa_i (if p i = p2 j ∧ l i = l2 j then 1 else 0)))) ∧ τ = σ) := by
  refine qa_enterQ (by decide) rfl qm_P_hasSameAt_ok rfl rfl (fun Q9 hQ => ?_)
  refine qa_aload_n (pc' := 1) ⟨rfl, rfl⟩ rfl ?_
  refine qa_getf (pc' := 4) ⟨rfl, rfl⟩ qg_3_9 (by assumption) rfl ?_
  refine qa_iload_n (pc' := 5) ⟨rfl, rfl⟩ rfl ?_
  refine qa_iaload (pc' := 6) ⟨rfl, rfl⟩ (by assumption) (by omega) ?_
  refine qa_aload_n (pc' := 7) ⟨rfl, rfl⟩ rfl ?_
  refine qa_getf (pc' := 10) ⟨rfl, rfl⟩ qg_3_9 (by assumption) rfl ?_
  refine qa_iload_n (pc' := 11) ⟨rfl, rfl⟩ rfl ?_
  refine qa_iaload (pc' := 12) ⟨rfl, rfl⟩ (by assumption) (by omega) ?_
  refine qa_icmp_ne (pc' := 15) (tgt := 34) ⟨rfl, rfl⟩ rfl (by omega) (by omega) (fun hc1 => ?_) (fun hc1 => ?_)
  · refine qa_iconst (pc' := 35) ⟨rfl, rfl⟩ ?_
    refine qa_ireturn rfl rfl rfl (hQ _ _ ⟨by first | rfl | (repeat (first | rw [if_pos (by omega)] | rw [if_neg (by omega)])), rfl⟩)
  · refine qa_aload_n (pc' := 16) ⟨rfl, rfl⟩ rfl ?_
    refine qa_getf (pc' := 19) ⟨rfl, rfl⟩ qg_3_15 (by assumption) rfl ?_
    refine qa_iload_n (pc' := 20) ⟨rfl, rfl⟩ rfl ?_
    refine qa_iaload (pc' := 21) ⟨rfl, rfl⟩ (by assumption) (by omega) ?_
    refine qa_aload_n (pc' := 22) ⟨rfl, rfl⟩ rfl ?_
    refine qa_getf (pc' := 25) ⟨rfl, rfl⟩ qg_3_15 (by assumption) rfl ?_
    refine qa_iload_n (pc' := 26) ⟨rfl, rfl⟩ rfl ?_
    refine qa_iaload (pc' := 27) ⟨rfl, rfl⟩ (by assumption) (by omega) ?_
    refine qa_icmp_ne (pc' := 30) (tgt := 34) ⟨rfl, rfl⟩ rfl (by omega) (by omega) (fun hc2 => ?_) (fun hc2 => ?_)
    · refine qa_iconst (pc' := 35) ⟨rfl, rfl⟩ ?_
      refine qa_ireturn rfl rfl rfl (hQ _ _ ⟨by first | rfl | (repeat (first | rw [if_pos (by omega)] | rw [if_neg (by omega)])), rfl⟩)
    · refine qa_iconst (pc' := 31) ⟨rfl, rfl⟩ ?_
      refine qa_goto (pc' := 34) (tgt := 35) ⟨rfl, rfl⟩ rfl ?_
      refine qa_ireturn rfl rfl rfl (hQ _ _ ⟨by first | rfl | (repeat (first | rw [if_pos (by omega)] | rw [if_neg (by omega)])), rfl⟩)
theorem c_P_firstOutside {E : qa_V} {σ : qa_S} {b : Nat} {n t u d s o : Int} {by9 : Int} {p : Int → Int} (hb : σ.1 b = some (qa_PtF b n t u d s o)) (hp : σ.1 (b + 1) = some (qa_ia 10 p)) (hn : 0 ≤ n ∧ n ≤ 10) (hp9 : sp_P n p) (hy : -35 ≤ by9 ∧ by9 ≤ 35) : qa_T E qm_P_firstOutside 0 0 [.ref b, .int (qa_i by9)] σ (fun o9 τ => o9 = .inl (some (.int (qa_i (sp_fo p by9 n.toNat 0)))) ∧ τ = σ) := by
  refine qa_enterQ (by decide) rfl qm_P_firstOutside_ok rfl rfl (fun Q9 hQ => ?_)
  refine qa_iconst (pc' := 1) ⟨rfl, rfl⟩ ?_
  refine qa_istore_n (L' := [(0, _), (1, _), (2, _)]) (pc' := 2) ⟨rfl, rfl⟩ rfl rfl ?_
  have lp : ∀ (f : Nat) (k : Nat), (k : Int) + f = n ∧ sp_fo p by9 f k = sp_fo p by9 n.toNat 0 → qa_W E qm_P_firstOutside Q9 0 0 2 [(0, .ref b), (1, .int (qa_i by9)), (2, .int (qa_i k))] [] σ := by
    intro f
    induction f with
    | zero =>
      intro k ⟨hk, hr⟩
      refine qa_iload_n (pc' := 3) ⟨rfl, rfl⟩ rfl ?_
      refine qa_aload_n (pc' := 4) ⟨rfl, rfl⟩ rfl ?_
      refine qa_getf (pc' := 7) ⟨rfl, rfl⟩ qg_3_31 (by assumption) rfl ?_
      refine qa_icmp_ge (pc' := 10) (tgt := 45) ⟨rfl, rfl⟩ rfl (by omega) (by omega) (fun hc1 => ?_) (fun hc1 => ?_)
      · refine qa_iconst (pc' := 46) ⟨rfl, rfl⟩ ?_
        refine qa_ireturn rfl rfl rfl (hQ _ _ ⟨by rw [← hr]; rfl, rfl⟩)
      · exact absurd hc1 (by omega)
    | succ f ih =>
      intro k ⟨hk, hr⟩
      have hpk := hp9 k (by omega) (by omega)
      refine qa_iload_n (pc' := 3) ⟨rfl, rfl⟩ rfl ?_
      refine qa_aload_n (pc' := 4) ⟨rfl, rfl⟩ rfl ?_
      refine qa_getf (pc' := 7) ⟨rfl, rfl⟩ qg_3_31 (by assumption) rfl ?_
      refine qa_icmp_ge (pc' := 10) (tgt := 45) ⟨rfl, rfl⟩ rfl (by omega) (by omega) (fun hc1 => ?_) (fun hc1 => ?_)
      · exact absurd hc1 (by omega)
      · refine qa_aload_n (pc' := 11) ⟨rfl, rfl⟩ rfl ?_
        refine qa_getf (pc' := 14) ⟨rfl, rfl⟩ qg_3_9 (by assumption) rfl ?_
        refine qa_iload_n (pc' := 15) ⟨rfl, rfl⟩ rfl ?_
        refine qa_iaload (pc' := 16) ⟨rfl, rfl⟩ (by assumption) (by omega) ?_
        refine qa_iconst (pc' := 17) ⟨rfl, rfl⟩ ?_
        refine qa_icmp_eq (pc' := 20) (tgt := 39) ⟨rfl, rfl⟩ rfl (by omega) (by omega) (fun hc2 => ?_) (fun hc2 => ?_)
        · refine qa_iinc (L' := [(0, _), (1, _), (2, _)]) (z := ((k + 1 : Nat) : Int)) (pc' := 42) ⟨rfl, rfl⟩ rfl (by omega) rfl rfl ?_
          refine qa_goto (pc' := 45) (tgt := 2) ⟨rfl, rfl⟩ rfl ?_
          refine ih (k + 1) ⟨by omega, ?_⟩
          rw [← hr]; conv => rhs; unfold sp_fo
          rw [if_neg (fun h => h.1 hc2)]; rfl
        · refine qa_aload_n (pc' := 21) ⟨rfl, rfl⟩ rfl ?_
          refine qa_getf (pc' := 24) ⟨rfl, rfl⟩ qg_3_9 (by assumption) rfl ?_
          refine qa_iload_n (pc' := 25) ⟨rfl, rfl⟩ rfl ?_
          refine qa_iaload (pc' := 26) ⟨rfl, rfl⟩ (by assumption) (by omega) ?_
          refine qa_iload_n (pc' := 27) ⟨rfl, rfl⟩ rfl ?_
          refine qa_iadd (pc' := 28) ⟨rfl, rfl⟩ rfl ?_
          refine qa_iconst (pc' := 29) ⟨rfl, rfl⟩ ?_
          refine qa_bipush (z := 35) (pc' := 31) ⟨rfl, rfl⟩ rfl ?_
          refine qa_callS rfl qf_C_isWithin rfl ql_3_43 (c_C_isWithin (by omega) (by omega) (by omega)) rfl rfl (qa_lt9 rfl) (qa_le9 rfl) (qa_le9 rfl) (qa_le9 rfl) (fun o9 τ9 hq9 => ?_)
          obtain ⟨rfl, rfl⟩ := hq9
          refine qa_nx (pc' := 34) (st' := [_]) rfl rfl rfl rfl ?_
          by_cases hw : 0 ≤ p k + by9 ∧ p k + by9 ≤ 35
          · rw [if_pos hw]
            refine qa_if_ne (pc' := 37) (tgt := 39) ⟨rfl, rfl⟩ rfl (by omega) (fun hc3 => ?_) (fun hc3 => ?_)
            · refine qa_iinc (L' := [(0, _), (1, _), (2, _)]) (z := ((k + 1 : Nat) : Int)) (pc' := 42) ⟨rfl, rfl⟩ rfl (by omega) rfl rfl ?_
              refine qa_goto (pc' := 45) (tgt := 2) ⟨rfl, rfl⟩ rfl ?_
              refine ih (k + 1) ⟨by omega, ?_⟩
              rw [← hr]; conv => rhs; unfold sp_fo
              rw [if_neg (fun h => h.2 hw)]; rfl
            · exact absurd hc3 (by omega)
          · rw [if_neg hw]
            refine qa_if_ne (pc' := 37) (tgt := 39) ⟨rfl, rfl⟩ rfl (by omega) (fun hc3 => ?_) (fun hc3 => ?_)
            · exact absurd hc3 (by omega)
            · refine qa_iload_n (pc' := 38) ⟨rfl, rfl⟩ rfl ?_
              refine qa_ireturn rfl rfl rfl (hQ _ _ ⟨by rw [← hr]; unfold sp_fo; rw [if_pos ⟨hc2, hw⟩], rfl⟩)
  exact lp n.toNat 0 ⟨by omega, rfl⟩
def sp_sh (p : Int → Int) (by9 n : Int) : Int → Int := fun j => if 0 ≤ j ∧ j < n ∧ p j ≠ -1 then p j + by9 else p j
theorem c_P_shiftPitches {E : qa_V} {σ : qa_S} {b : Nat} {n t u d s o : Int} {by9 : Int} {p : Int → Int} (hlo : E.1 ≤ b) (hb : σ.1 b = some (qa_PtF b n t u d s o)) (hp : σ.1 (b + 1) = some (qa_ia 10 p)) (hn : 0 ≤ n ∧ n ≤ 10) (hp9 : sp_P n p) (hy : -35 ≤ by9 ∧ by9 ≤ 35) : qa_T E qm_P_shiftPitches 0 0 [.ref b, .int (qa_i by9)] σ (fun o9 τ => o9 = .inl none ∧ τ.2 = σ.2 ∧ (∃ p1 : Int → Int, τ.1 (b + 1) = some (qa_ia 10 p1) ∧ ∀ j : Int, 0 ≤ j → j < n → p1 j = sp_sh p by9 n j) ∧ ∀ q, q ≠ b + 1 → τ.1 q = σ.1 q) := by
  refine qa_enterQ (by decide) rfl qm_P_shiftPitches_ok rfl rfl (fun Q9 hQ => ?_)
  have hb0 := hb
  refine qa_iconst (pc' := 1) ⟨rfl, rfl⟩ ?_
  refine qa_istore_n (L' := [(0, _), (1, _), (2, _)]) (pc' := 2) ⟨rfl, rfl⟩ rfl rfl ?_
  have lp : ∀ (f : Nat) (τ : qa_S) (k : Nat) (p1 : Int → Int), (k : Int) + f = n ∧ τ.2 = σ.2 ∧ τ.1 (b + 1) = some (qa_ia 10 p1) ∧ (∀ q, q ≠ b + 1 → τ.1 q = σ.1 q) ∧ (∀ j : Int, 0 ≤ j → j < 10 → (j < k → p1 j = sp_sh p by9 n j) ∧ ((k : Int) ≤ j → p1 j = p j)) → qa_W E qm_P_shiftPitches Q9 0 0 2 [(0, .ref b), (1, .int (qa_i by9)), (2, .int (qa_i k))] [] τ := by
    intro f
    induction f with
    | zero =>
      intro τ k p1 ⟨hk, he, hp, hfr, hq⟩
      have hb := (hfr b (by omega)).trans hb0
      refine qa_iload_n (pc' := 3) ⟨rfl, rfl⟩ rfl ?_
      refine qa_aload_n (pc' := 4) ⟨rfl, rfl⟩ rfl ?_
      refine qa_getf (pc' := 7) ⟨rfl, rfl⟩ qg_3_31 (by assumption) rfl ?_
      refine qa_icmp_ge (pc' := 10) (tgt := 36) ⟨rfl, rfl⟩ rfl (by omega) (by omega) (fun hc1 => ?_) (fun hc1 => ?_)
      · refine qa_return rfl rfl (hQ _ _ ⟨rfl, he, ⟨p1, hp, fun j h0 h1 => (hq j h0 (by omega)).1 (by omega)⟩, hfr⟩)
      · exact absurd hc1 (by omega)
    | succ f ih =>
      intro τ k p1 ⟨hk, he, hp, hfr, hq⟩
      have hb := (hfr b (by omega)).trans hb0
      have hpk := hp9 k (by omega) (by omega)
      have hqk := (hq k (by omega) (by omega)).2 (by omega)
      refine qa_iload_n (pc' := 3) ⟨rfl, rfl⟩ rfl ?_
      refine qa_aload_n (pc' := 4) ⟨rfl, rfl⟩ rfl ?_
      refine qa_getf (pc' := 7) ⟨rfl, rfl⟩ qg_3_31 (by assumption) rfl ?_
      refine qa_icmp_ge (pc' := 10) (tgt := 36) ⟨rfl, rfl⟩ rfl (by omega) (by omega) (fun hc1 => ?_) (fun hc1 => ?_)
      · exact absurd hc1 (by omega)
      · refine qa_aload_n (pc' := 11) ⟨rfl, rfl⟩ rfl ?_
        refine qa_getf (pc' := 14) ⟨rfl, rfl⟩ qg_3_9 (by assumption) rfl ?_
        refine qa_iload_n (pc' := 15) ⟨rfl, rfl⟩ rfl ?_
        refine qa_iaload (pc' := 16) ⟨rfl, rfl⟩ (by assumption) (by omega) ?_
        refine qa_iconst (pc' := 17) ⟨rfl, rfl⟩ ?_
        refine qa_icmp_eq (pc' := 20) (tgt := 30) ⟨rfl, rfl⟩ rfl (by omega) (by omega) (fun hc2 => ?_) (fun hc2 => ?_)
        · refine qa_iinc (L' := [(0, _), (1, _), (2, _)]) (z := ((k + 1 : Nat) : Int)) (pc' := 33) ⟨rfl, rfl⟩ rfl (by omega) rfl rfl ?_
          refine qa_goto (pc' := 36) (tgt := 2) ⟨rfl, rfl⟩ rfl ?_
          refine ih τ (k + 1) p1 ⟨by omega, he, hp, hfr, fun j h0 h1 => ⟨fun h2 => ?_, fun h2 => (hq j h0 h1).2 (by omega)⟩⟩
          by_cases hj : j = k
          · subst hj; rw [hqk]; unfold sp_sh; rw [if_neg (fun h => h.2.2 (by omega))]
          · exact (hq j h0 h1).1 (by omega)
        · refine qa_aload_n (pc' := 21) ⟨rfl, rfl⟩ rfl ?_
          refine qa_getf (pc' := 24) ⟨rfl, rfl⟩ qg_3_9 (by assumption) rfl ?_
          refine qa_iload_n (pc' := 25) ⟨rfl, rfl⟩ rfl ?_
          refine qa_dup2 (pc' := 26) ⟨rfl, rfl⟩ rfl rfl ?_
          refine qa_iaload (pc' := 27) ⟨rfl, rfl⟩ (by assumption) (by omega) ?_
          refine qa_iload_n (pc' := 28) ⟨rfl, rfl⟩ rfl ?_
          refine qa_iadd (pc' := 29) ⟨rfl, rfl⟩ rfl ?_
          refine qa_iastore (pc' := 30) ⟨rfl, rfl⟩ hp (by omega) (by omega) ?_
          refine qa_gz (fun τ2 e2 w2 f2 => ?_)
          refine qa_iinc (L' := [(0, _), (1, _), (2, _)]) (z := ((k + 1 : Nat) : Int)) (pc' := 33) ⟨rfl, rfl⟩ rfl (by omega) rfl rfl ?_
          refine qa_goto (pc' := 36) (tgt := 2) ⟨rfl, rfl⟩ rfl ?_
          refine ih τ2 (k + 1) _ ⟨by omega, e2.trans he, w2, fun q hq => (f2 q hq).trans (hfr q hq), fun j h0 h1 => ⟨fun h2 => ?_, fun h2 => ?_⟩⟩
          · by_cases hj : j = k
            · subst hj; rw [qa_up_eq]; unfold sp_sh; rw [if_pos (by omega), hqk]
            · rw [qa_up_ne hj]; exact (hq j h0 h1).1 (by omega)
          · rw [qa_up_ne (by omega)]; exact (hq j h0 h1).2 (by omega)
  exact lp n.toNat σ 0 p ⟨by omega, rfl, hp, fun _ _ => rfl, fun j h0 h1 => ⟨fun h => absurd h (by omega), fun _ => rfl⟩⟩
theorem c_P_become {E : qa_V} {σ : qa_S} {b : Nat} {n t u d s o : Int} {b2 : Nat} {n2 t2 u2 d2 s2 o2 : Int} {p l p2 l2 : Int → Int} (hlo : E.1 ≤ b) (hlo2 : E.1 ≤ b2) (hdj : b + 3 ≤ b2 ∨ b2 + 3 ≤ b) (hb : σ.1 b = some (qa_PtF b n t u d s o)) (hp : σ.1 (b + 1) = some (qa_ia 10 p)) (hl : σ.1 (b + 2) = some (qa_ia 10 l)) (hb2 : σ.1 b2 = some (qa_PtF b2 n2 t2 u2 d2 s2 o2)) (hp2 : σ.1 (b2 + 1) = some (qa_ia 10 p2)) (hl2 : σ.1 (b2 + 2) = some (qa_ia 10 l2)) : qa_T E qm_P_become 0 0 [.ref b, .ref b2] σ (fun o9 τ => o9 = .inl none ∧ τ.2 = σ.2 ∧ τ.1 b = some (qa_PtF b n2 t2 u2 d2 s2 o2) ∧ τ.1 (b + 1) = some (qa_ia 10 (qa_cp p2 p 0 0 10)) ∧ τ.1 (b + 2) = some (qa_ia 10 (qa_cp l2 l 0 0 10)) ∧ ∀ q, (q < b ∨ b + 3 ≤ q) → τ.1 q = σ.1 q) := by
  refine qa_enterQ (by decide) rfl qm_P_become_ok rfl rfl (fun Q9 hQ => ?_)
  have e0 : σ.2 = σ.2 := rfl
  have fr : ∀ q, (q < b ∨ b + 3 ≤ q) → σ.1 q = σ.1 q := fun _ _ => rfl
  refine qa_aload_n (pc' := 1) ⟨rfl, rfl⟩ rfl ?_
  refine qa_getf (pc' := 4) ⟨rfl, rfl⟩ qg_3_9 (by assumption) rfl ?_
  refine qa_iconst (pc' := 5) ⟨rfl, rfl⟩ ?_
  refine qa_aload_n (pc' := 6) ⟨rfl, rfl⟩ rfl ?_
  refine qa_getf (pc' := 9) ⟨rfl, rfl⟩ qg_3_9 (by assumption) rfl ?_
  refine qa_iconst (pc' := 10) ⟨rfl, rfl⟩ ?_
  refine qa_bipush (z := 10) (pc' := 12) ⟨rfl, rfl⟩ rfl ?_
  refine qa_copy (pc' := 15) (t := 0) ⟨rfl, rfl⟩ qac_3_25 qa_acN qa_acS qa_acI rfl rfl hp2 hp (by omega) (by omega) (by omega) (fun _ => rfl) (qa_le9 rfl) ?_
  refine qa_gz (fun τ1 e1 w1 f1 => ?_)
  replace hb := (f1 _ (by omega)).trans hb
  replace hl := (f1 _ (by omega)).trans hl
  replace hb2 := (f1 _ (by omega)).trans hb2
  replace hp2 := (f1 _ (by omega)).trans hp2
  replace hl2 := (f1 _ (by omega)).trans hl2
  replace fr := fun q hq => (f1 q (by have := hq; omega)).trans (fr q hq)
  replace e0 := e1.trans e0
  replace w1 : _ = some (qa_ia 10 (qa_cp p2 p 0 0 10)) := w1
  refine qa_aload_n (pc' := 16) ⟨rfl, rfl⟩ rfl ?_
  refine qa_getf (pc' := 19) ⟨rfl, rfl⟩ qg_3_15 (by assumption) rfl ?_
  refine qa_iconst (pc' := 20) ⟨rfl, rfl⟩ ?_
  refine qa_aload_n (pc' := 21) ⟨rfl, rfl⟩ rfl ?_
  refine qa_getf (pc' := 24) ⟨rfl, rfl⟩ qg_3_15 (by assumption) rfl ?_
  refine qa_iconst (pc' := 25) ⟨rfl, rfl⟩ ?_
  refine qa_bipush (z := 10) (pc' := 27) ⟨rfl, rfl⟩ rfl ?_
  refine qa_copy (pc' := 30) (t := 0) ⟨rfl, rfl⟩ qac_3_25 qa_acN qa_acS qa_acI rfl rfl hl2 hl (by omega) (by omega) (by omega) (fun _ => rfl) (qa_le9 rfl) ?_
  refine qa_gz (fun τ2 e2 w2 f2 => ?_)
  replace hb := (f2 _ (by omega)).trans hb
  replace hb2 := (f2 _ (by omega)).trans hb2
  replace hp2 := (f2 _ (by omega)).trans hp2
  replace hl2 := (f2 _ (by omega)).trans hl2
  replace w1 := (f2 _ (by omega)).trans w1
  replace fr := fun q hq => (f2 q (by have := hq; omega)).trans (fr q hq)
  replace e0 := e2.trans e0
  replace w2 : _ = some (qa_ia 10 (qa_cp l2 l 0 0 10)) := w2
  refine qa_aload_n (pc' := 31) ⟨rfl, rfl⟩ rfl ?_
  refine qa_aload_n (pc' := 32) ⟨rfl, rfl⟩ rfl ?_
  refine qa_getf (pc' := 35) ⟨rfl, rfl⟩ qg_3_31 (by assumption) rfl ?_
  refine qa_putf (fs' := [_, _, _, _, _, _, _, _]) (pc' := 38) ⟨rfl, rfl⟩ qg_3_31 qw_2 (by assumption) (by omega) rfl (fun r hr => by cases hr; exact ⟨rfl, Or.inl rfl⟩) rfl rfl ?_
  refine qa_gz (fun τ3 e3 w3 f3 => ?_)
  replace hb2 := (f3 _ (by omega)).trans hb2
  replace hp2 := (f3 _ (by omega)).trans hp2
  replace hl2 := (f3 _ (by omega)).trans hl2
  replace w1 := (f3 _ (by omega)).trans w1
  replace w2 := (f3 _ (by omega)).trans w2
  replace fr := fun q hq => (f3 q (by have := hq; omega)).trans (fr q hq)
  replace e0 := e3.trans e0
  refine qa_aload_n (pc' := 39) ⟨rfl, rfl⟩ rfl ?_
  refine qa_aload_n (pc' := 40) ⟨rfl, rfl⟩ rfl ?_
  refine qa_getf (pc' := 43) ⟨rfl, rfl⟩ qg_3_34 (by assumption) rfl ?_
  refine qa_putf (fs' := [_, _, _, _, _, _, _, _]) (pc' := 46) ⟨rfl, rfl⟩ qg_3_34 qw_2 (by assumption) (by omega) rfl (fun r hr => by cases hr; exact ⟨rfl, Or.inl rfl⟩) rfl rfl ?_
  refine qa_gz (fun τ4 e4 w4 f4 => ?_)
  replace hb2 := (f4 _ (by omega)).trans hb2
  replace hp2 := (f4 _ (by omega)).trans hp2
  replace hl2 := (f4 _ (by omega)).trans hl2
  replace w1 := (f4 _ (by omega)).trans w1
  replace w2 := (f4 _ (by omega)).trans w2
  replace fr := fun q hq => (f4 q (by have := hq; omega)).trans (fr q hq)
  replace e0 := e4.trans e0
  refine qa_aload_n (pc' := 47) ⟨rfl, rfl⟩ rfl ?_
  refine qa_aload_n (pc' := 48) ⟨rfl, rfl⟩ rfl ?_
  refine qa_getf (pc' := 51) ⟨rfl, rfl⟩ qg_3_18 (by assumption) rfl ?_
  refine qa_putf (fs' := [_, _, _, _, _, _, _, _]) (pc' := 54) ⟨rfl, rfl⟩ qg_3_18 qw_2 (by assumption) (by omega) rfl (fun r hr => by cases hr; exact ⟨rfl, Or.inl rfl⟩) rfl rfl ?_
  refine qa_gz (fun τ5 e5 w5 f5 => ?_)
  replace hb2 := (f5 _ (by omega)).trans hb2
  replace hp2 := (f5 _ (by omega)).trans hp2
  replace hl2 := (f5 _ (by omega)).trans hl2
  replace w1 := (f5 _ (by omega)).trans w1
  replace w2 := (f5 _ (by omega)).trans w2
  replace fr := fun q hq => (f5 q (by have := hq; omega)).trans (fr q hq)
  replace e0 := e5.trans e0
  refine qa_aload_n (pc' := 55) ⟨rfl, rfl⟩ rfl ?_
  refine qa_aload_n (pc' := 56) ⟨rfl, rfl⟩ rfl ?_
  refine qa_getf (pc' := 59) ⟨rfl, rfl⟩ qg_3_22 (by assumption) rfl ?_
  refine qa_putf (fs' := [_, _, _, _, _, _, _, _]) (pc' := 62) ⟨rfl, rfl⟩ qg_3_22 qw_2 (by assumption) (by omega) rfl (fun r hr => by cases hr; exact ⟨rfl, Or.inl rfl⟩) rfl rfl ?_
  refine qa_gz (fun τ6 e6 w6 f6 => ?_)
  replace hb2 := (f6 _ (by omega)).trans hb2
  replace hp2 := (f6 _ (by omega)).trans hp2
  replace hl2 := (f6 _ (by omega)).trans hl2
  replace w1 := (f6 _ (by omega)).trans w1
  replace w2 := (f6 _ (by omega)).trans w2
  replace fr := fun q hq => (f6 q (by have := hq; omega)).trans (fr q hq)
  replace e0 := e6.trans e0
  refine qa_aload_n (pc' := 63) ⟨rfl, rfl⟩ rfl ?_
  refine qa_aload_n (pc' := 64) ⟨rfl, rfl⟩ rfl ?_
  refine qa_getf (pc' := 67) ⟨rfl, rfl⟩ qg_3_37 (by assumption) rfl ?_
  refine qa_putf (fs' := [_, _, _, _, _, _, _, _]) (pc' := 70) ⟨rfl, rfl⟩ qg_3_37 qw_2 (by assumption) (by omega) rfl (fun r hr => by cases hr; exact ⟨rfl, Or.inl rfl⟩) rfl rfl ?_
  refine qa_gz (fun τ7 e7 w7 f7 => ?_)
  replace hb2 := (f7 _ (by omega)).trans hb2
  replace hp2 := (f7 _ (by omega)).trans hp2
  replace hl2 := (f7 _ (by omega)).trans hl2
  replace w1 := (f7 _ (by omega)).trans w1
  replace w2 := (f7 _ (by omega)).trans w2
  replace fr := fun q hq => (f7 q (by have := hq; omega)).trans (fr q hq)
  replace e0 := e7.trans e0
  refine qa_aload_n (pc' := 71) ⟨rfl, rfl⟩ rfl ?_
  refine qa_aload_n (pc' := 72) ⟨rfl, rfl⟩ rfl ?_
  refine qa_getf (pc' := 75) ⟨rfl, rfl⟩ qg_3_40 (by assumption) rfl ?_
  refine qa_putf (fs' := [_, _, _, _, _, _, _, _]) (pc' := 78) ⟨rfl, rfl⟩ qg_3_40 qw_2 (by assumption) (by omega) rfl (fun r hr => by cases hr; exact ⟨rfl, Or.inl rfl⟩) rfl rfl ?_
  refine qa_gz (fun τ8 e8 w8 f8 => ?_)
  replace hb2 := (f8 _ (by omega)).trans hb2
  replace hp2 := (f8 _ (by omega)).trans hp2
  replace hl2 := (f8 _ (by omega)).trans hl2
  replace w1 := (f8 _ (by omega)).trans w1
  replace w2 := (f8 _ (by omega)).trans w2
  replace fr := fun q hq => (f8 q (by have := hq; omega)).trans (fr q hq)
  replace e0 := e8.trans e0
  refine qa_return rfl rfl (hQ _ _ ⟨rfl, e0, w8, w1, w2, fr⟩)
theorem c_P_init {E : qa_V} {σ : qa_S} {b : Nat} (hlo : E.1 ≤ b) (hn : σ.2 = b + 1) (hb : σ.1 b = some (.inl (2, [.null, .null, .int (qa_i 0), .int (qa_i 0), .int (qa_i 0), .int (qa_i 0), .int (qa_i 0), .int (qa_i 0)]))) : qa_T E qm_P_init 2 20 [.ref b] σ (fun o9 τ => o9 = .inl none ∧ τ.2 = b + 3 ∧ τ.1 b = some (qa_PtF b 0 0 1 1 0 0) ∧ τ.1 (b + 1) = some (qa_ia 10 (fun _ => 0)) ∧ τ.1 (b + 2) = some (qa_ia 10 (fun _ => 0)) ∧ ∀ q, (q < b ∨ b + 3 ≤ q) → τ.1 q = σ.1 q) := by
  refine qa_enterQ (by decide) rfl qm_P_init_ok rfl rfl (fun Q9 hQ => ?_)
  have e0 := hn
  have fr : ∀ q, (q < b ∨ b + 3 ≤ q) → σ.1 q = σ.1 q := fun _ _ => rfl
  refine qa_aload_n (pc' := 1) ⟨rfl, rfl⟩ rfl ?_
  refine qa_objI (pc' := 4) ⟨rfl, rfl⟩ qoi_3_3 qoi_i qoi_c (qa_le9 rfl) ?_
  refine qa_aload_n (pc' := 5) ⟨rfl, rfl⟩ rfl ?_
  refine qa_bipush (z := 10) (pc' := 7) ⟨rfl, rfl⟩ rfl ?_
  refine qa_newarr (pc' := 9) (t := 0) (N := 10) (y := (10, .inl (fun q => qa_i ((fun _ : Int => 0) q)))) ⟨rfl, rfl⟩ rfl rfl qa_ac_int rfl (by omega) (fun _ _ => rfl) (qa_le9 rfl) (fun _ _ => Iff.rfl) ?_
  refine qa_gn (fun τ1 e1 w1 f1 => ?_)
  replace w1 : _ = some (qa_ia 10 (fun _ => 0)) := w1
  rw [e0] at e1 w1 f1 ⊢
  replace hb := (f1 _ (by omega)).trans hb
  replace fr := fun q hq => (f1 q (by have := hq; omega)).trans (fr q hq)
  replace e0 := e1
  refine qa_putf (fs' := [_, _, _, _, _, _, _, _]) (pc' := 12) ⟨rfl, rfl⟩ qg_3_9 qw_2 (by assumption) (by omega) rfl (fun r hr => by cases hr; exact ⟨rfl, Or.inr ⟨rfl, rfl, rfl⟩⟩) rfl rfl ?_
  refine qa_gz (fun τ2 e2 w2 f2 => ?_)
  replace w1 := (f2 _ (by omega)).trans w1
  replace fr := fun q hq => (f2 q (by have := hq; omega)).trans (fr q hq)
  replace e0 := e2.trans e0
  refine qa_aload_n (pc' := 13) ⟨rfl, rfl⟩ rfl ?_
  refine qa_bipush (z := 10) (pc' := 15) ⟨rfl, rfl⟩ rfl ?_
  refine qa_newarr (pc' := 17) (t := 0) (N := 10) (y := (10, .inl (fun q => qa_i ((fun _ : Int => 0) q)))) ⟨rfl, rfl⟩ rfl rfl qa_ac_int rfl (by omega) (fun _ _ => rfl) (qa_le9 rfl) (fun _ _ => Iff.rfl) ?_
  refine qa_gn (fun τ3 e3 w3 f3 => ?_)
  replace w3 : _ = some (qa_ia 10 (fun _ => 0)) := w3
  rw [e0] at e3 w3 f3 ⊢
  replace w1 := (f3 _ (by omega)).trans w1
  replace w2 := (f3 _ (by omega)).trans w2
  replace fr := fun q hq => (f3 q (by have := hq; omega)).trans (fr q hq)
  replace e0 := e3
  refine qa_putf (fs' := [_, _, _, _, _, _, _, _]) (pc' := 20) ⟨rfl, rfl⟩ qg_3_15 qw_2 (by assumption) (by omega) rfl (fun r hr => by cases hr; exact ⟨rfl, Or.inr ⟨rfl, rfl, rfl⟩⟩) rfl rfl ?_
  refine qa_gz (fun τ4 e4 w4 f4 => ?_)
  replace w1 := (f4 _ (by omega)).trans w1
  replace w3 := (f4 _ (by omega)).trans w3
  replace fr := fun q hq => (f4 q (by have := hq; omega)).trans (fr q hq)
  replace e0 := e4.trans e0
  refine qa_aload_n (pc' := 21) ⟨rfl, rfl⟩ rfl ?_
  refine qa_iconst (pc' := 22) ⟨rfl, rfl⟩ ?_
  refine qa_putf (fs' := [_, _, _, _, _, _, _, _]) (pc' := 25) ⟨rfl, rfl⟩ qg_3_18 qw_2 (by assumption) (by omega) rfl (fun r hr => by cases hr; exact ⟨rfl, Or.inl rfl⟩) rfl rfl ?_
  refine qa_gz (fun τ5 e5 w5 f5 => ?_)
  replace w1 := (f5 _ (by omega)).trans w1
  replace w3 := (f5 _ (by omega)).trans w3
  replace fr := fun q hq => (f5 q (by have := hq; omega)).trans (fr q hq)
  replace e0 := e5.trans e0
  refine qa_aload_n (pc' := 26) ⟨rfl, rfl⟩ rfl ?_
  refine qa_iconst (pc' := 27) ⟨rfl, rfl⟩ ?_
  refine qa_putf (fs' := [_, _, _, _, _, _, _, _]) (pc' := 30) ⟨rfl, rfl⟩ qg_3_22 qw_2 (by assumption) (by omega) rfl (fun r hr => by cases hr; exact ⟨rfl, Or.inl rfl⟩) rfl rfl ?_
  refine qa_gz (fun τ6 e6 w6 f6 => ?_)
  replace w1 := (f6 _ (by omega)).trans w1
  replace w3 := (f6 _ (by omega)).trans w3
  replace fr := fun q hq => (f6 q (by have := hq; omega)).trans (fr q hq)
  replace e0 := e6.trans e0
  refine qa_return rfl rfl (hQ _ _ ⟨rfl, e0, w6, w1, w3, fr⟩)
