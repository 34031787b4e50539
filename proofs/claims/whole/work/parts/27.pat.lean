/-- a note as one number -/
def sm_c (m : Int → Int) (i j : Int) : Int := 13 * sm_pf m i j + sm_lf m i j
def sp_ca (s : Int → Int) (p : Int) : Nat → Int → Int
  | 0, _ => 1
  | f + 1, i => if s (i - p) = s i then sp_ca s p f (i + 1) else 0
theorem sp_ca_b (s : Int → Int) (p : Int) : ∀ (f : Nat) (i : Int), sp_ca s p f i = 0 ∨ sp_ca s p f i = 1
  | 0, _ => Or.inr rfl
  | f + 1, i => by
    unfold sp_ca
    split
    · exact sp_ca_b s p f _
    · exact Or.inl rfl
def sp_pt (s : Int → Int) (n : Int) : Nat → Int → Int
  | 0, _ => n
  | f + 1, p => if sp_ca s p (n - p).toNat p = 0 then sp_pt s n f (p + 1) else p
def sp_kb (s g : Int → Int) (i : Int) : Nat → Int → Int
  | 0, a => a
  | f + 1, a => if a ≤ 0 then a else if s a = s i then a else sp_kb s g i f (g (a - 1))
def sp_k1 (s g : Int → Int) (i a : Int) : Int := if s a = s i then a + 1 else a
def sp_kw (s g : Int → Int) : Nat → Int × (Int → Int)
  | 0 => (0, g)
  | k + 1 => (sp_k1 s (sp_kw s g k).2 (k + 1) (sp_kb s (sp_kw s g k).2 (k + 1) (k + 1) (sp_kw s g k).1), qa_up (sp_kw s g k).2 (k + 1) (sp_k1 s (sp_kw s g k).2 (k + 1) (sp_kb s (sp_kw s g k).2 (k + 1) (k + 1) (sp_kw s g k).1)))
/-- the longest common theme of the first i and the first j notes -/
def sp_lr (s t : Int → Int) (u : Nat → Int) (i : Nat) : Nat → Int
  | 0 => 0
  | j + 1 => if s i = t j then u j + 1 else if sp_lr s t u i j ≤ u (j + 1) then u (j + 1) else sp_lr s t u i j
def sp_lc (s t : Int → Int) : Nat → Nat → Int
  | 0 => fun _ => 0
  | i + 1 => sp_lr s t (sp_lc s t i) i
theorem sp_lc_0 (s t : Int → Int) (i : Nat) : sp_lc s t i 0 = 0 := by cases i <;> rfl
theorem sp_lc_s (s t : Int → Int) (i j : Nat) : sp_lc s t (i + 1) (j + 1) = if s i = t j then sp_lc s t i j + 1 else if sp_lc s t (i + 1) j ≤ sp_lc s t i (j + 1) then sp_lc s t i (j + 1) else sp_lc s t (i + 1) j := rfl
theorem sp_lc_b (s t : Int → Int) : ∀ i j : Nat, 0 ≤ sp_lc s t i j ∧ sp_lc s t i j ≤ i := by
  intro i
  induction i with
  | zero => exact fun _ => ⟨Int.le_refl _, Int.le_refl _⟩
  | succ i ih =>
    intro j
    induction j with
    | zero => rw [sp_lc_0]; omega
    | succ j ih2 =>
      have h1 := ih j
      have h2 := ih (j + 1)
      rw [sp_lc_s]
      split
      · omega
      · split <;> omega
def sX_q (c : Nat) : Int → Option Nat := fun i => if 0 ≤ i ∧ i < 11 then some (c + 3 + i.toNat) else none
theorem sX_q_at {c : Nat} {i : Int} (h : 0 ≤ i ∧ i < 11) : sX_q c i = some (c + 3 + i.toNat) := if_pos h
/-- the rows of the patterns at c -/
def sR_X (h : qa_H) (c : Nat) : Prop := ∃ (g : Int → Int) (T : Int → Int → Int), h c = some (.inl (6, [.ref (c + 1), .ref (c + 2)])) ∧ h (c + 1) = some (qa_ia 10 g) ∧ g 0 = 0 ∧ h (c + 2) = some (qa_ra 8 11 (sX_q c)) ∧
  (∀ r : Nat, r < 11 → h (c + 3 + r) = some (qa_ia 11 (T r))) ∧ (∀ j : Int, T 0 j = 0) ∧ ∀ r : Int, T r 0 = 0
theorem sR_X.fr {h h' : qa_H} {c : Nat} (H : sR_X h c) (hh : ∀ q, c ≤ q → q < c + 14 → h' q = h q) : sR_X h' c := by
  obtain ⟨g, T, x1, x2, x3, x4, x5, x6⟩ := H
  exact ⟨g, T, (hh _ (by omega) (by omega)).trans x1, (hh _ (by omega) (by omega)).trans x2, x3, (hh _ (by omega) (by omega)).trans x4, fun r hr => (hh _ (by omega) (by omega)).trans (x5 r hr), x6⟩
theorem sR_P.fr {h h' : qa_H} {b : Nat} {m : Int → Int} {i : Int} (H : sR_P h b m i) (hh : ∀ q, b ≤ q → q < b + 3 → h' q = h q) : sR_P h' b m i := by
  obtain ⟨p, l, u, d, q1, q2, q3, q4, q5, q6⟩ := H
  exact ⟨p, l, u, d, (hh _ (by omega) (by omega)).trans q1, (hh _ (by omega) (by omega)).trans q2, (hh _ (by omega) (by omega)).trans q3, q4, q5, q6⟩
theorem dC_P_same {E : qa_V} {σ : qa_S} {b b2 : Nat} {m : Int → Int} {i i2 x y : Int} (hP : sR_P σ.1 b m i) (hk : sm_okp m i) (hP2 : sR_P σ.1 b2 m i2) (hk2 : sm_okp m i2) (hx : 0 ≤ x ∧ x < sm_n m i) (hy : 0 ≤ y ∧ y < sm_n m i2) : qa_T E qm_P_hasSameAt 0 0 [.ref b, .int (qa_i x), .ref b2, .int (qa_i y)] σ (fun o9 τ => ∃ v : Int, o9 = .inl (some (.int (qa_i v))) ∧ (v = 1 ∧ sm_c m i x = sm_c m i2 y ∨ v = 0 ∧ sm_c m i x ≠ sm_c m i2 y) ∧ τ = σ) := by
  refine (d_P_hasSameAt hP hk hP2 hk2 hx hy).mono fun o t hq => ⟨_, hq.1, ?_, hq.2⟩
  have r1 := hk.2.2 x hx.1 hx.2
  have r2 := hk2.2.2 y hy.1 hy.2
  unfold sm_c
  split <;> omega
theorem c_X_comesAgainAfter {E : qa_V} {σ : qa_S} {b : Nat} {m : Int → Int} {i : Int} {p : Int} (hP : sR_P σ.1 b m i) (hk : sm_okp m i) (hp : 1 ≤ p ∧ p ≤ 10) : qa_T E qm_X_comesAgainAfter 0 0 [.ref b, .int (qa_i p)] σ (fun o9 τ => o9 = .inl (some (.int (qa_i (sp_ca (sm_c m i) p (sm_n m i - p).toNat p)))) ∧ τ = σ) := by
  refine qa_enterQ (by decide) rfl qm_X_comesAgainAfter_ok rfl rfl (fun Q9 hQ => ?_)
  have hn := hk.1
  have hP9 := hP
  obtain ⟨p5, l5, u5, d5, q1, q2, q3, q4, q5, q6⟩ := hP
  refine qa_iload_n (pc' := 1) ⟨rfl, rfl⟩ rfl ?_
  refine qa_istore_n (L' := [(0, _), (1, _), (2, _)]) (pc' := 2) ⟨rfl, rfl⟩ rfl rfl ?_
  have lp : ∀ (f : Nat) (k : Int), (k + f = sm_n m i ∨ (f = 0 ∧ sm_n m i ≤ k)) ∧ (p ≤ k ∧ k ≤ 10) ∧ sp_ca (sm_c m i) p f k = sp_ca (sm_c m i) p (sm_n m i - p).toNat p → qa_W E qm_X_comesAgainAfter Q9 0 0 2 [(0, .ref b), (1, .int (qa_i p)), (2, .int (qa_i k))] [] σ := by
    intro f
    induction f with
    | zero =>
      intro k ⟨hkf, hk9, hr⟩
      refine qa_iload_n (pc' := 3) ⟨rfl, rfl⟩ rfl ?_
      refine qa_aload_n (pc' := 4) ⟨rfl, rfl⟩ rfl ?_
      refine qa_getf (pc' := 7) ⟨rfl, rfl⟩ qg_7_20 (by assumption) rfl ?_
      refine qa_icmp_ge (pc' := 10) (tgt := 30) ⟨rfl, rfl⟩ rfl (by omega) (by omega) (fun hc1 => ?_) (fun hc1 => ?_)
      · refine qa_iconst (pc' := 31) ⟨rfl, rfl⟩ ?_
        refine qa_ireturn rfl rfl rfl (hQ _ _ ⟨by rw [← hr]; rfl, rfl⟩)
      · exact absurd hc1 (by omega)
    | succ f ih =>
      intro k ⟨hkf, hk9, hr⟩
      refine qa_iload_n (pc' := 3) ⟨rfl, rfl⟩ rfl ?_
      refine qa_aload_n (pc' := 4) ⟨rfl, rfl⟩ rfl ?_
      refine qa_getf (pc' := 7) ⟨rfl, rfl⟩ qg_7_20 (by assumption) rfl ?_
      refine qa_icmp_ge (pc' := 10) (tgt := 30) ⟨rfl, rfl⟩ rfl (by omega) (by omega) (fun hc1 => ?_) (fun hc1 => ?_)
      · exact absurd hc1 (by omega)
      · refine qa_aload_n (pc' := 11) ⟨rfl, rfl⟩ rfl ?_
        refine qa_iload_n (pc' := 12) ⟨rfl, rfl⟩ rfl ?_
        refine qa_iload_n (pc' := 13) ⟨rfl, rfl⟩ rfl ?_
        refine qa_isub (pc' := 14) ⟨rfl, rfl⟩ rfl ?_
        refine qa_aload_n (pc' := 15) ⟨rfl, rfl⟩ rfl ?_
        refine qa_iload_n (pc' := 16) ⟨rfl, rfl⟩ rfl ?_
        refine qa_callV rfl qf_P_hasSameAt ql_7_26 (dC_P_same (E := E) hP9 hk hP9 hk (by omega) (by omega)) q1 rfl rfl rfl (qa_lt9 rfl) (qa_le9 rfl) (qa_le9 rfl) (qa_le9 rfl) (fun o9 τ9 hq9 => ?_)
        obtain ⟨v9, rfl, hv9, hq9⟩ := hq9
        refine qa_nx (pc' := 19) (st' := [_]) rfl rfl rfl rfl ?_
        replace hq9 := hq9.symm
        subst hq9
        refine qa_if_ne (pc' := 22) (tgt := 24) ⟨rfl, rfl⟩ rfl (by omega) (fun hc2 => ?_) (fun hc2 => ?_)
        · refine qa_iinc (L' := [(0, _), (1, _), (2, _)]) (z := k + 1) (pc' := 27) ⟨rfl, rfl⟩ rfl (by omega) rfl rfl ?_
          refine qa_goto (pc' := 30) (tgt := 2) ⟨rfl, rfl⟩ rfl ?_
          refine ih (k + 1) ⟨by omega, by omega, ?_⟩
          rw [← hr]; conv => rhs; unfold sp_ca
          rw [if_pos (by omega)]
        · refine qa_iconst (pc' := 23) ⟨rfl, rfl⟩ ?_
          refine qa_ireturn rfl rfl rfl (hQ _ _ ⟨by rw [← hr]; unfold sp_ca; rw [if_neg (by omega)], rfl⟩)
  exact lp (sm_n m i - p).toNat p ⟨by omega, by omega, rfl⟩
theorem c_X_periodByTrial {E : qa_V} {σ : qa_S} {b : Nat} {m : Int → Int} {i : Int} {c : Nat} (hX : sR_X σ.1 c) (hP : sR_P σ.1 b m i) (hk : sm_okp m i) : qa_T E qm_X_periodByTrial 0 0 [.ref c, .ref b] σ (fun o9 τ => o9 = .inl (some (.int (qa_i (sp_pt (sm_c m i) (sm_n m i) (sm_n m i - 1).toNat 1)))) ∧ τ = σ) := by
  refine qa_enterQ (by decide) rfl qm_X_periodByTrial_ok rfl rfl (fun Q9 hQ => ?_)
  have hn := hk.1
  have hP9 := hP
  obtain ⟨p5, l5, u5, d5, q1, q2, q3, q4, q5, q6⟩ := hP
  refine qa_iconst (pc' := 1) ⟨rfl, rfl⟩ ?_
  refine qa_istore_n (L' := [(0, _), (1, _), (2, _)]) (pc' := 2) ⟨rfl, rfl⟩ rfl rfl ?_
  have lp : ∀ (f : Nat) (k : Int), (k + f = sm_n m i ∨ (f = 0 ∧ sm_n m i ≤ k)) ∧ (1 ≤ k ∧ k ≤ 10) ∧ sp_pt (sm_c m i) (sm_n m i) f k = sp_pt (sm_c m i) (sm_n m i) (sm_n m i - 1).toNat 1 → qa_W E qm_X_periodByTrial Q9 0 0 2 [(0, .ref c), (1, .ref b), (2, .int (qa_i k))] [] σ := by
    intro f
    induction f with
    | zero =>
      intro k ⟨hkf, hk9, hr⟩
      refine qa_iload_n (pc' := 3) ⟨rfl, rfl⟩ rfl ?_
      refine qa_aload_n (pc' := 4) ⟨rfl, rfl⟩ rfl ?_
      refine qa_getf (pc' := 7) ⟨rfl, rfl⟩ qg_7_20 (by assumption) rfl ?_
      refine qa_icmp_ge (pc' := 10) (tgt := 26) ⟨rfl, rfl⟩ rfl (by omega) (by omega) (fun hc1 => ?_) (fun hc1 => ?_)
      · refine qa_aload_n (pc' := 27) ⟨rfl, rfl⟩ rfl ?_
        refine qa_getf (pc' := 30) ⟨rfl, rfl⟩ qg_7_20 (by assumption) rfl ?_
        refine qa_ireturn rfl rfl rfl (hQ _ _ ⟨by rw [← hr]; rfl, rfl⟩)
      · exact absurd hc1 (by omega)
    | succ f ih =>
      intro k ⟨hkf, hk9, hr⟩
      refine qa_iload_n (pc' := 3) ⟨rfl, rfl⟩ rfl ?_
      refine qa_aload_n (pc' := 4) ⟨rfl, rfl⟩ rfl ?_
      refine qa_getf (pc' := 7) ⟨rfl, rfl⟩ qg_7_20 (by assumption) rfl ?_
      refine qa_icmp_ge (pc' := 10) (tgt := 26) ⟨rfl, rfl⟩ rfl (by omega) (by omega) (fun hc1 => ?_) (fun hc1 => ?_)
      · exact absurd hc1 (by omega)
      · refine qa_aload_n (pc' := 11) ⟨rfl, rfl⟩ rfl ?_
        refine qa_iload_n (pc' := 12) ⟨rfl, rfl⟩ rfl ?_
        refine qa_callS rfl qf_X_comesAgainAfter rfl ql_7_30 (c_X_comesAgainAfter (E := E) hP9 hk (by omega)) rfl rfl (qa_lt9 rfl) (qa_le9 rfl) (qa_le9 rfl) (qa_le9 rfl) (fun o9 τ9 hq9 => ?_)
        obtain ⟨rfl, hq9⟩ := hq9
        replace hq9 := hq9.symm; subst hq9
        refine qa_nx (pc' := 15) (st' := [_]) rfl rfl rfl rfl ?_
        have hb9 := sp_ca_b (sm_c m i) k (sm_n m i - k).toNat k
        refine qa_if_eq (pc' := 18) (tgt := 20) ⟨rfl, rfl⟩ rfl (by omega) (fun hc2 => ?_) (fun hc2 => ?_)
        · refine qa_iinc (L' := [(0, _), (1, _), (2, _)]) (z := k + 1) (pc' := 23) ⟨rfl, rfl⟩ rfl (by omega) rfl rfl ?_
          refine qa_goto (pc' := 26) (tgt := 2) ⟨rfl, rfl⟩ rfl ?_
          refine ih (k + 1) ⟨by omega, by omega, ?_⟩
          rw [← hr]; conv => rhs; unfold sp_pt
          rw [if_pos (by omega)]
        · refine qa_iload_n (pc' := 19) ⟨rfl, rfl⟩ rfl ?_
          refine qa_ireturn rfl rfl rfl (hQ _ _ ⟨by rw [← hr]; unfold sp_pt; rw [if_neg (by omega)], rfl⟩)
  exact lp (sm_n m i - 1).toNat 1 ⟨by omega, by omega, rfl⟩
theorem c_X_periodByWalk {E : qa_V} {σ : qa_S} {b : Nat} {m : Int → Int} {i : Int} {c : Nat} (hlo : E.1 ≤ c) (hd : b + 3 ≤ c) (hX : sR_X σ.1 c) (hP : sR_P σ.1 b m i) (hk : sm_okp m i) : qa_T E qm_X_periodByWalk 0 0 [.ref c, .ref b] σ (fun o9 τ => (∃ g : Int → Int, g 0 = 0 ∧ o9 = .inl (some (.int (qa_i (sm_n m i - (sp_kw (sm_c m i) g (sm_n m i - 1).toNat).1))))) ∧ τ.2 = σ.2 ∧ (∀ q, (q < c ∨ c + 14 ≤ q) → τ.1 q = σ.1 q) ∧ sR_X τ.1 c) := by
  refine qa_enterQ (by decide) rfl qm_X_periodByWalk_ok rfl rfl (fun Q9 hQ => ?_)
  have hn := hk.1
  obtain ⟨g0, T, x1, x2, x3, x4, x5, x6, x7⟩ := hX
  refine qa_iconst (pc' := 1) ⟨rfl, rfl⟩ ?_
  refine qa_istore_n (L' := [(0, _), (1, _), (2, _)]) (pc' := 2) ⟨rfl, rfl⟩ rfl rfl ?_
  refine qa_iconst (pc' := 3) ⟨rfl, rfl⟩ ?_
  refine qa_istore_n (L' := [(0, _), (1, _), (2, _), (3, _)]) (pc' := 4) ⟨rfl, rfl⟩ rfl rfl ?_
  have lp : ∀ (f : Nat) (τ : qa_S) (k : Nat) (ag : Int) (g : Int → Int), ((k : Int) + f = sm_n m i ∨ (f = 0 ∧ sm_n m i ≤ k ∧ k = 1)) ∧ (1 ≤ k ∧ k ≤ 10) ∧ τ.2 = σ.2 ∧ (∀ q, q ≠ c + 1 → τ.1 q = σ.1 q) ∧ τ.1 (c + 1) = some (qa_ia 10 g) ∧ g 0 = 0 ∧ (∀ j : Int, 0 ≤ j → j < k → 0 ≤ g j ∧ g j ≤ j) ∧ (0 ≤ ag ∧ ag < k) ∧ (ag, g) = sp_kw (sm_c m i) g0 (k - 1) → qa_W E qm_X_periodByWalk Q9 0 0 4 [(0, .ref c), (1, .ref b), (2, .int (qa_i ag)), (3, .int (qa_i k))] [] τ := by
    intro f
    induction f with
    | zero =>
      intro τ k ag g ⟨hkf, hk9, he, hfr, hg, hg0, hgb, hag, hkw⟩
      have hPt := hP.fr (fun q a0 a1 => hfr q (by omega))
      obtain ⟨p5, l5, u5, d5, q1, q2, q3, q4, q5, q6⟩ := hPt
      refine qa_iload_n (pc' := 5) ⟨rfl, rfl⟩ rfl ?_
      refine qa_aload_n (pc' := 6) ⟨rfl, rfl⟩ rfl ?_
      refine qa_getf (pc' := 9) ⟨rfl, rfl⟩ qg_7_20 (by assumption) rfl ?_
      refine qa_icmp_ge (pc' := 12) (tgt := 76) ⟨rfl, rfl⟩ rfl (by omega) (by omega) (fun hc1 => ?_) (fun hc1 => ?_)
      · refine qa_aload_n (pc' := 77) ⟨rfl, rfl⟩ rfl ?_
        refine qa_getf (pc' := 80) ⟨rfl, rfl⟩ qg_7_20 (by assumption) rfl ?_
        refine qa_iload_n (pc' := 81) ⟨rfl, rfl⟩ rfl ?_
        refine qa_isub (pc' := 82) ⟨rfl, rfl⟩ rfl ?_
        refine qa_ireturn rfl rfl rfl (hQ _ _ ⟨⟨g0, x3, ?_⟩, he, fun q hq => hfr q (by omega), g, T, (hfr _ (by omega)).trans x1, hg, hg0, (hfr _ (by omega)).trans x4, fun r hr => (hfr _ (by omega)).trans (x5 r hr), x6, x7⟩)
        rw [show (sm_n m i - 1).toNat = k - 1 by omega, ← hkw]
      · exact absurd hc1 (by omega)
    | succ f ih =>
      intro τ k ag g ⟨hkf, hk9, he, hfr, hg, hg0, hgb, hag, hkw⟩
      have hPt := hP.fr (fun q a0 a1 => hfr q (by omega))
      have hP9 := hPt
      obtain ⟨p5, l5, u5, d5, q1, q2, q3, q4, q5, q6⟩ := hPt
      have x1t := (hfr c (by omega)).trans x1
      refine qa_iload_n (pc' := 5) ⟨rfl, rfl⟩ rfl ?_
      refine qa_aload_n (pc' := 6) ⟨rfl, rfl⟩ rfl ?_
      refine qa_getf (pc' := 9) ⟨rfl, rfl⟩ qg_7_20 (by assumption) rfl ?_
      refine qa_icmp_ge (pc' := 12) (tgt := 76) ⟨rfl, rfl⟩ rfl (by omega) (by omega) (fun hc1 => ?_) (fun hc1 => ?_)
      · exact absurd hc1 (by omega)
      · have ct : ∀ A : Int, (0 ≤ A ∧ A < k) → A = sp_kb (sm_c m i) g k k ag → qa_W E qm_X_periodByWalk Q9 0 0 50 [(0, .ref c), (1, .ref b), (2, .int (qa_i A)), (3, .int (qa_i k))] [] τ := by
          intro A hA hA2
          refine qa_aload_n (pc' := 51) ⟨rfl, rfl⟩ rfl ?_
          refine qa_iload_n (pc' := 52) ⟨rfl, rfl⟩ rfl ?_
          refine qa_aload_n (pc' := 53) ⟨rfl, rfl⟩ rfl ?_
          refine qa_iload_n (pc' := 54) ⟨rfl, rfl⟩ rfl ?_
          refine qa_callV rfl qf_P_hasSameAt ql_7_26 (dC_P_same (E := E) hP9 hk hP9 hk (by omega) (by omega)) q1 rfl rfl rfl (qa_lt9 rfl) (qa_le9 rfl) (qa_le9 rfl) (qa_le9 rfl) (fun o9 τ9 hq9 => ?_)
          obtain ⟨v9, rfl, hv9, hq9⟩ := hq9
          refine qa_nx (pc' := 57) (st' := [_]) rfl rfl rfl rfl ?_
          replace hq9 := hq9.symm
          subst hq9
          refine qa_if_eq (pc' := 60) (tgt := 63) ⟨rfl, rfl⟩ rfl (by omega) (fun hc3 => ?_) (fun hc3 => ?_)
          · have h1 : sp_k1 (sm_c m i) g k A = A := by unfold sp_k1; rw [if_neg (by omega)]
            have e0 : τ.2 = σ.2 := he
            refine qa_aload_n (pc' := 64) ⟨rfl, rfl⟩ rfl ?_
            refine qa_getf (pc' := 67) ⟨rfl, rfl⟩ qg_7_9 (by assumption) rfl ?_
            refine qa_iload_n (pc' := 68) ⟨rfl, rfl⟩ rfl ?_
            refine qa_iload_n (pc' := 69) ⟨rfl, rfl⟩ rfl ?_
            refine qa_iastore (pc' := 70) ⟨rfl, rfl⟩ hg (by omega) (by omega) ?_
            refine qa_gz (fun τ21 e21 w21 f21 => ?_)
            replace e0 := e21.trans e0
            refine qa_iinc (L' := [(0, _), (1, _), (2, _), (3, _)]) (z := ((k + 1 : Nat) : Int)) (pc' := 73) ⟨rfl, rfl⟩ rfl (by omega) rfl rfl ?_
            refine qa_goto (pc' := 76) (tgt := 4) ⟨rfl, rfl⟩ rfl ?_
            refine ih τ21 (k + 1) A _ ⟨by omega, by omega, e0, fun q hq => (f21 q hq).trans (hfr q hq), w21, ?_, fun j j0 j1 => ?_, by omega, ?_⟩
            · rw [qa_up_ne (by omega)]; exact hg0
            · by_cases hj : j = k
              · rw [hj, qa_up_eq]; omega
              · rw [qa_up_ne hj]; exact hgb j j0 (by omega)
            · obtain ⟨k9, rfl⟩ : ∃ k9, k = k9 + 1 := ⟨k - 1, by omega⟩
              rw [show k9 + 1 + 1 - 1 = k9 + 1 by omega]; unfold sp_kw; rw [show k9 + 1 - 1 = k9 by omega] at hkw; rw [← hkw]
              simp only []
              have e9 : ((k9 + 1 : Nat) : Int) = (k9 : Int) + 1 := by omega
              rw [e9] at hA2 h1 ⊢
              rw [← hA2, h1]
          · have h1 : sp_k1 (sm_c m i) g k A = A + 1 := by unfold sp_k1; rw [if_pos (by omega)]
            have e0 : τ.2 = σ.2 := he
            refine qa_iinc (L' := [(0, _), (1, _), (2, _), (3, _)]) (z := A + 1) (pc' := 63) ⟨rfl, rfl⟩ rfl (by omega) rfl rfl ?_
            refine qa_aload_n (pc' := 64) ⟨rfl, rfl⟩ rfl ?_
            refine qa_getf (pc' := 67) ⟨rfl, rfl⟩ qg_7_9 (by assumption) rfl ?_
            refine qa_iload_n (pc' := 68) ⟨rfl, rfl⟩ rfl ?_
            refine qa_iload_n (pc' := 69) ⟨rfl, rfl⟩ rfl ?_
            refine qa_iastore (pc' := 70) ⟨rfl, rfl⟩ hg (by omega) (by omega) ?_
            refine qa_gz (fun τ21 e21 w21 f21 => ?_)
            replace e0 := e21.trans e0
            refine qa_iinc (L' := [(0, _), (1, _), (2, _), (3, _)]) (z := ((k + 1 : Nat) : Int)) (pc' := 73) ⟨rfl, rfl⟩ rfl (by omega) rfl rfl ?_
            refine qa_goto (pc' := 76) (tgt := 4) ⟨rfl, rfl⟩ rfl ?_
            refine ih τ21 (k + 1) (A + 1) _ ⟨by omega, by omega, e0, fun q hq => (f21 q hq).trans (hfr q hq), w21, ?_, fun j j0 j1 => ?_, by omega, ?_⟩
            · rw [qa_up_ne (by omega)]; exact hg0
            · by_cases hj : j = k
              · rw [hj, qa_up_eq]; omega
              · rw [qa_up_ne hj]; exact hgb j j0 (by omega)
            · obtain ⟨k9, rfl⟩ : ∃ k9, k = k9 + 1 := ⟨k - 1, by omega⟩
              rw [show k9 + 1 + 1 - 1 = k9 + 1 by omega]; unfold sp_kw; rw [show k9 + 1 - 1 = k9 by omega] at hkw; rw [← hkw]
              simp only []
              have e9 : ((k9 + 1 : Nat) : Int) = (k9 : Int) + 1 := by omega
              rw [e9] at hA2 h1 ⊢
              rw [← hA2, h1]
        refine qa_iconst (pc' := 13) ⟨rfl, rfl⟩ ?_
        refine qa_istore (L' := [(0, _), (1, _), (2, _), (3, _), (4, _)]) (pc' := 15) ⟨rfl, rfl⟩ rfl rfl ?_
        have lq : ∀ (f2 : Nat) (j : Nat) (a : Int), (j : Int) + f2 = k ∧ (0 ≤ a ∧ a < k ∧ a + j < k ∨ a = 0) ∧ sp_kb (sm_c m i) g k f2 a = sp_kb (sm_c m i) g k k ag → qa_W E qm_X_periodByWalk Q9 0 0 15 [(0, .ref c), (1, .ref b), (2, .int (qa_i a)), (3, .int (qa_i k)), (4, .int (qa_i j))] [] τ := by
          intro f2
          induction f2 with
          | zero =>
            intro j a ⟨hjf, ha, hr⟩
            refine qa_iload (pc' := 17) ⟨rfl, rfl⟩ rfl ?_
            refine qa_iload_n (pc' := 18) ⟨rfl, rfl⟩ rfl ?_
            refine qa_icmp_ge (pc' := 21) (tgt := 50) ⟨rfl, rfl⟩ rfl (by omega) (by omega) (fun hc2 => ?_) (fun hc2 => ?_)
            · refine qa_sub (ks' := [0, 1, 2, 3]) (L' := [(0, _), (1, _), (2, _), (3, _)]) rfl ?_
              exact ct a (by omega) (by rw [← hr]; rfl)
            · exact absurd hc2 (by omega)
          | succ f2 ih2 =>
            intro j a ⟨hjf, ha, hr⟩
            refine qa_iload (pc' := 17) ⟨rfl, rfl⟩ rfl ?_
            refine qa_iload_n (pc' := 18) ⟨rfl, rfl⟩ rfl ?_
            refine qa_icmp_ge (pc' := 21) (tgt := 50) ⟨rfl, rfl⟩ rfl (by omega) (by omega) (fun hc2 => ?_) (fun hc2 => ?_)
            · exact absurd hc2 (by omega)
            · refine qa_iload_n (pc' := 22) ⟨rfl, rfl⟩ rfl ?_
              refine qa_if_le (pc' := 25) (tgt := 50) ⟨rfl, rfl⟩ rfl (by omega) (fun hc3 => ?_) (fun hc3 => ?_)
              · refine qa_sub (ks' := [0, 1, 2, 3]) (L' := [(0, _), (1, _), (2, _), (3, _)]) rfl ?_
                exact ct a (by omega) (by rw [← hr]; unfold sp_kb; rw [if_pos (by omega)])
              · refine qa_aload_n (pc' := 26) ⟨rfl, rfl⟩ rfl ?_
                refine qa_iload_n (pc' := 27) ⟨rfl, rfl⟩ rfl ?_
                refine qa_aload_n (pc' := 28) ⟨rfl, rfl⟩ rfl ?_
                refine qa_iload_n (pc' := 29) ⟨rfl, rfl⟩ rfl ?_
                refine qa_callV rfl qf_P_hasSameAt ql_7_26 (dC_P_same (E := E) hP9 hk hP9 hk (by omega) (by omega)) q1 rfl rfl rfl (qa_lt9 rfl) (qa_le9 rfl) (qa_le9 rfl) (qa_le9 rfl) (fun o9 τ9 hq9 => ?_)
                obtain ⟨v9, rfl, hv9, hq9⟩ := hq9
                refine qa_nx (pc' := 32) (st' := [_]) rfl rfl rfl rfl ?_
                replace hq9 := hq9.symm
                subst hq9
                refine qa_if_ne (pc' := 35) (tgt := 50) ⟨rfl, rfl⟩ rfl (by omega) (fun hc4 => ?_) (fun hc4 => ?_)
                · refine qa_sub (ks' := [0, 1, 2, 3]) (L' := [(0, _), (1, _), (2, _), (3, _)]) rfl ?_
                  exact ct a (by omega) (by rw [← hr]; unfold sp_kb; rw [if_neg (by omega), if_pos (by omega)])
                · have hga := hgb (a - 1) (by omega) (by omega)
                  refine qa_aload_n (pc' := 36) ⟨rfl, rfl⟩ rfl ?_
                  refine qa_getf (pc' := 39) ⟨rfl, rfl⟩ qg_7_9 (by assumption) rfl ?_
                  refine qa_iload_n (pc' := 40) ⟨rfl, rfl⟩ rfl ?_
                  refine qa_iconst (pc' := 41) ⟨rfl, rfl⟩ ?_
                  refine qa_isub (z := a - 1) (pc' := 42) ⟨rfl, rfl⟩ (by omega) ?_
                  refine qa_iaload (pc' := 43) ⟨rfl, rfl⟩ hg (by omega) ?_
                  refine qa_istore_n (L' := [(0, _), (1, _), (2, _), (3, _), (4, _)]) (pc' := 44) ⟨rfl, rfl⟩ rfl rfl ?_
                  refine qa_iinc (L' := [(0, _), (1, _), (2, _), (3, _), (4, _)]) (z := ((j + 1 : Nat) : Int)) (pc' := 47) ⟨rfl, rfl⟩ rfl (by omega) rfl rfl ?_
                  refine qa_goto (pc' := 50) (tgt := 15) ⟨rfl, rfl⟩ rfl ?_
                  refine ih2 (j + 1) _ ⟨by omega, by omega, ?_⟩
                  rw [← hr]; conv => rhs; unfold sp_kb
                  rw [if_neg (by omega), if_neg (by omega)]
        exact lq k 0 ag ⟨by omega, by omega, rfl⟩
  exact lp (sm_n m i - 1).toNat σ 1 0 g0 ⟨by omega, by omega, rfl, fun _ _ => rfl, x2, x3, fun j j0 j1 => by rw [show j = 0 by omega, x3]; omega, by omega, rfl⟩
