/-! the model reads commands: words -/
def qz_kw (k : Nat) : Nat := match k with | 0 => 4 | 1 => 5 | 2 => 5 | 3 => 5 | 4 => 5 | 5 => 5 | 6 => 4 | 7 => 6 | 8 => 4 | 9 => 6 | 10 => 5 | _ => 0
def pm_ln (t : List Int) (F : Int → Int) (o : Int) : Nat → Nat → Nat
  | 0, n => n
  | f + 1, n => if o + n < t.length ∧ sc_at t (o + n) = F n then pm_ln t F o f (n + 1) else n
def pm_lk (t : List Int) (o : Int) (k : Nat) : Nat := pm_ln t (qz_frm k) o (qz_kw k) 0
theorem pm_tb : ∀ k : Fin 11, (qM_beg ((k.val : Int) + 1) - qM_beg (k.val : Int) = (qz_kw k.val : Int) ∧ 0 ≤ qM_beg (k.val : Int) ∧ qM_beg (k.val : Int) + (qz_kw k.val : Int) ≤ 54) ∧ (4 ≤ qz_kw k.val ∧ qz_kw k.val ≤ 6 ∧ qz_kw k.val ≤ qz_len k.val) ∧ 0 ≤ qM_beg ((k.val : Int) + 1) ∧ qM_beg ((k.val : Int) + 1) ≤ 54 := by decide +kernel
theorem pm_tc : ∀ k : Fin 11, ∀ j : Fin 6, j.val < qz_kw k.val → qM_let (qM_beg (k.val : Int) + (j.val : Int)) = qz_frm k.val (j.val : Int) ∧ ¬ (qz_frm k.val (j.val : Int) = 68 ∨ qz_frm k.val (j.val : Int) = 78 ∨ qz_frm k.val (j.val : Int) = 83) ∧ 0 ≤ qz_frm k.val (j.val : Int) ∧ qz_frm k.val (j.val : Int) ≤ 127 := by decide +kernel
theorem pm_td : ∀ k w : Fin 11, k ≠ w → ∃ j : Fin 6, j.val < qz_kw k.val ∧ j.val < qz_kw w.val ∧ qz_frm k.val (j.val : Int) ≠ qz_frm w.val (j.val : Int) := by decide +kernel
theorem pm_tb' {k : Nat} (hk : k < 11) : (qM_beg ((k : Int) + 1) - qM_beg (k : Int) = (qz_kw k : Int) ∧ 0 ≤ qM_beg (k : Int) ∧ qM_beg (k : Int) + (qz_kw k : Int) ≤ 54) ∧ (4 ≤ qz_kw k ∧ qz_kw k ≤ 6 ∧ qz_kw k ≤ qz_len k) ∧ 0 ≤ qM_beg ((k : Int) + 1) ∧ qM_beg ((k : Int) + 1) ≤ 54 := pm_tb ⟨k, hk⟩
theorem pm_tc' {k j : Nat} (hk : k < 11) (hj : j < qz_kw k) : qM_let (qM_beg (k : Int) + (j : Int)) = qz_frm k (j : Int) ∧ ¬ (qz_frm k (j : Int) = 68 ∨ qz_frm k (j : Int) = 78 ∨ qz_frm k (j : Int) = 83) ∧ 0 ≤ qz_frm k (j : Int) ∧ qz_frm k (j : Int) ≤ 127 := pm_tc ⟨k, hk⟩ ⟨j, by have := (pm_tb' hk).2.1; omega⟩ hj
theorem pm_ln_b (t : List Int) (F : Int → Int) (o : Int) : ∀ (f n : Nat), n ≤ pm_ln t F o f n ∧ pm_ln t F o f n ≤ n + f ∧ (∀ j : Nat, n ≤ j → j < pm_ln t F o f n → o + j < t.length ∧ sc_at t (o + j) = F j) ∧ (pm_ln t F o f n < n + f → ¬ (o + (pm_ln t F o f n : Int) < t.length ∧ sc_at t (o + (pm_ln t F o f n : Int)) = F (pm_ln t F o f n)))
  | 0, n => ⟨Nat.le_refl _, Nat.le_refl _, fun j a b => absurd b (by show ¬ j < n; omega), fun h => absurd h (by show ¬ n < n + 0; omega)⟩
  | f + 1, n => by
    have es : pm_ln t F o (f + 1) n = if o + n < t.length ∧ sc_at t (o + n) = F n then pm_ln t F o f (n + 1) else n := rfl
    rw [es]
    by_cases h : o + n < t.length ∧ sc_at t (o + n) = F n
    · rw [if_pos h]
      obtain ⟨h1, h2, h3, h4⟩ := pm_ln_b t F o f (n + 1)
      refine ⟨by omega, by omega, fun j a b => ?_, fun h5 => h4 (by omega)⟩
      by_cases e : j = n
      · subst e; exact h
      · exact h3 j (by omega) b
    · rw [if_neg h]
      exact ⟨Nat.le_refl _, by omega, fun j a b => absurd b (by omega), fun _ => h⟩
theorem pm_lk_b (t : List Int) (o : Int) (k : Nat) : pm_lk t o k ≤ qz_kw k ∧ (∀ j : Nat, j < pm_lk t o k → o + j < t.length ∧ sc_at t (o + j) = qz_frm k j) ∧ (pm_lk t o k < qz_kw k → ¬ (o + (pm_lk t o k : Int) < t.length ∧ sc_at t (o + (pm_lk t o k : Int)) = qz_frm k (pm_lk t o k))) := by
  obtain ⟨h1, h2, h3, h4⟩ := pm_ln_b t (qz_frm k) o (qz_kw k) 0
  exact ⟨by show pm_ln t (qz_frm k) o (qz_kw k) 0 ≤ _; omega, fun j hj => h3 j (Nat.zero_le _) hj, fun h => h4 (by show pm_ln t (qz_frm k) o (qz_kw k) 0 < 0 + qz_kw k; have : pm_ln t (qz_frm k) o (qz_kw k) 0 < qz_kw k := h; omega)⟩
/-- two words never both lie there -/
theorem pm_one {t : List Int} {o : Int} {k w : Nat} (hk : k < 11) (hw : w < 11) (h : pm_lk t o k = qz_kw k) (hl : qz_kw k ≤ pm_lk t o w ∨ pm_lk t o w = qz_kw w) : k = w := by
  refine Decidable.byContradiction fun hne => ?_
  obtain ⟨j, h1, h2, h3⟩ := pm_td ⟨k, hk⟩ ⟨w, hw⟩ (fun e => hne (congrArg Fin.val e))
  replace h1 : j.val < qz_kw k := h1
  replace h2 : j.val < qz_kw w := h2
  replace h3 : qz_frm k (j.val : Int) ≠ qz_frm w (j.val : Int) := h3
  have a := ((pm_lk_b t o k).2.1 j.val (by omega)).2
  have b := ((pm_lk_b t o w).2.1 j.val (by rcases hl with hl | hl <;> omega)).2
  exact h3 (a.symm.trans b)
theorem sc_fm_s (t : List Int) (F : Int → Int) (k : Nat) (s : sc_R) : sc_fm t F (k + 1) s = sc_st t (F k) (sc_fm t F k s) := rfl
theorem pm_fm {t : List Int} {o : Int} {k : Nat} (hk : k < 11) : ∀ j : Nat, j ≤ qz_kw k → sc_fm t (qz_frm k) j (1, o, []) = if j ≤ pm_lk t o k then (1, o + j, []) else (0, o + pm_lk t o k, [])
  | 0, _ => by rw [if_pos (Nat.zero_le _)]; show (1, o, []) = (1, o + ((0 : Nat) : Int), []); rw [show o + ((0 : Nat) : Int) = o by omega]
  | j + 1, hj => by
    have ih := pm_fm (t := t) (o := o) hk j (by omega)
    have tc := pm_tc' hk (show j < qz_kw k by omega)
    obtain ⟨b1, b2, b3⟩ := pm_lk_b t o k
    rw [sc_fm_s, ih]
    by_cases h : j ≤ pm_lk t o k
    · rw [if_pos h, sc_st_p rfl tc.2.1]
      by_cases h2 : j + 1 ≤ pm_lk t o k
      · rw [if_pos (b2 j (by omega)), if_pos h2]
        show (1, o + (j : Int) + 1, []) = (1, o + ((j + 1 : Nat) : Int), [])
        rw [show o + (j : Int) + 1 = o + ((j + 1 : Nat) : Int) by omega]
      · have e : pm_lk t o k = j := by omega
        have h3 := b3 (by omega)
        rw [e] at h3
        rw [if_neg h3, if_neg h2, e]
    · rw [if_neg h, sc_st_0 rfl, if_neg (by omega)]
theorem sc_fm_mono {t : List Int} {F : Int → Int} {o : Int} (ho : 0 ≤ o ∧ o ≤ t.length) (k : Nat) : ∀ d : Nat, (sc_fm t F k (1, o, [])).2.1 ≤ (sc_fm t F (k + d) (1, o, [])).2.1
  | 0 => Int.le_refl _
  | d + 1 => by
    have ih := sc_fm_mono (t := t) (F := F) ho k d
    have hb := sc_fm_b (t := t) (F := F) ho (k + d)
    show _ ≤ (sc_st t (F ((k + d : Nat) : Int)) (sc_fm t F (k + d) (1, o, []))).2.1
    unfold sc_st
    split
    · exact ih
    · have := (sc_sg_b (t := t) (x := F ((k + d : Nat) : Int)) (o := (sc_fm t F (k + d) (1, o, [])).2.1) ⟨by omega, hb.2.2.1⟩).2.1
      show _ ≤ (sc_sg t (F ((k + d : Nat) : Int)) (sc_fm t F (k + d) (1, o, [])).2.1).2.1
      omega
theorem pm_k_no {t : List Int} {o : Int} {k : Nat} (hk : k < 11) (h : pm_lk t o k < qz_kw k) : sc_k t o k = (0, o + pm_lk t o k, []) := by
  have e := pm_fm (t := t) (o := o) hk (qz_kw k) (Nat.le_refl _)
  rw [if_neg (by omega)] at e
  have tb := (pm_tb' hk).2.1
  unfold sc_k
  rw [show qz_len k = qz_kw k + (qz_len k - qz_kw k) by omega, sc_fm_stop (by rw [e]) _, e]
theorem pm_k_yes {t : List Int} {o : Int} {k : Nat} (hk : k < 11) (h : pm_lk t o k = qz_kw k) : sc_fm t (qz_frm k) (qz_kw k) (1, o, []) = (1, o + qz_kw k, []) := by
  have e := pm_fm (t := t) (o := o) hk (qz_kw k) (Nat.le_refl _)
  rw [if_pos (by omega)] at e
  exact e
theorem sc_tr_s (t : List Int) (o : Int) (f k : Nat) (far : Int) : sc_tr t o (f + 1) k far = if (sc_k t o k).1 = 0 then sc_tr t o f (k + 1) (if (sc_k t o k).2.1 ≤ far then far else (sc_k t o k).2.1) else (1, (sc_k t o k).2.1, k, (sc_k t o k).2.2) := rfl
theorem sc_tr_no {t : List Int} {o M : Int} : ∀ (f k : Nat) (far : Int), far ≤ M → (∀ j : Nat, k ≤ j → j < k + f → (sc_k t o j).1 = 0 ∧ (sc_k t o j).2.1 ≤ M) → (far = M ∨ ∃ j : Nat, k ≤ j ∧ j < k + f ∧ (sc_k t o j).2.1 = M) → (sc_tr t o f k far).1 = 0 ∧ (sc_tr t o f k far).2.1 = M
  | 0, k, far, h1, h2, h3 => by
    rcases h3 with h3 | ⟨j, a, b, -⟩
    · exact ⟨rfl, h3⟩
    · omega
  | f + 1, k, far, h1, h2, h3 => by
    obtain ⟨a1, a2⟩ := h2 k (Nat.le_refl _) (by omega)
    rw [sc_tr_s, if_pos a1]
    refine sc_tr_no f (k + 1) _ (by split <;> omega) (fun j a b => h2 j (by omega) (by omega)) ?_
    rcases h3 with h3 | ⟨j, a, b, c⟩
    · left; split <;> omega
    · by_cases e : j = k
      · subst e; left; split <;> omega
      · exact Or.inr ⟨j, by omega, by omega, c⟩
theorem sc_tr_yes {t : List Int} {o : Int} {w : Nat} (hw : (sc_k t o w).1 ≠ 0) : ∀ (f k : Nat) (far : Int), k ≤ w → w < k + f → (∀ j : Nat, k ≤ j → j < w → (sc_k t o j).1 = 0) → sc_tr t o f k far = (1, (sc_k t o w).2.1, w, (sc_k t o w).2.2)
  | 0, k, far, h1, h2, h3 => by omega
  | f + 1, k, far, h1, h2, h3 => by
    rw [sc_tr_s]
    by_cases e : k = w
    · subst e
      rw [if_neg hw]
    · rw [if_pos (h3 k (Nat.le_refl _) (by omega))]
      exact sc_tr_yes hw f (k + 1) _ (by omega) (by omega) fun j a b => h3 j (by omega) b
/-- the word that the model takes -/
def pm_w (t : List Int) (o : Int) : Nat → Nat
  | 0 => 0
  | k + 1 => if pm_lk t o (pm_w t o k) < pm_lk t o (k + 1) then k + 1 else pm_w t o k
theorem pm_w_b (t : List Int) (o : Int) : ∀ k : Nat, pm_w t o k ≤ k ∧ ∀ j : Nat, j ≤ k → pm_lk t o j ≤ pm_lk t o (pm_w t o k)
  | 0 => ⟨Nat.le_refl _, fun j hj => by rw [show j = 0 by omega]; exact Nat.le_refl _⟩
  | k + 1 => by
    obtain ⟨h1, h2⟩ := pm_w_b t o k
    have es : pm_w t o (k + 1) = if pm_lk t o (pm_w t o k) < pm_lk t o (k + 1) then k + 1 else pm_w t o k := rfl
    rw [es]
    split
    · refine ⟨Nat.le_refl _, fun j hj => ?_⟩
      by_cases e : j = k + 1
      · subst e; exact Nat.le_refl _
      · have := h2 j (by omega); omega
    · refine ⟨by omega, fun j hj => ?_⟩
      by_cases e : j = k + 1
      · subst e; omega
      · exact h2 j (by omega)
/-- what all forms come to, by that word -/
theorem pm_tr {t : List Int} {o : Int} (ho : 0 ≤ o ∧ o ≤ t.length) : (pm_lk t o (pm_w t o 10) < qz_kw (pm_w t o 10) → (sc_tr t o 11 0 o).1 = 0 ∧ (sc_tr t o 11 0 o).2.1 = o + pm_lk t o (pm_w t o 10)) ∧
    (pm_lk t o (pm_w t o 10) = qz_kw (pm_w t o 10) → (sc_tr t o 11 0 o).1 = (sc_k t o (pm_w t o 10)).1 ∧ (sc_tr t o 11 0 o).2.1 = (sc_k t o (pm_w t o 10)).2.1 ∧ ((sc_k t o (pm_w t o 10)).1 = 1 → (sc_tr t o 11 0 o).2.2 = (pm_w t o 10, (sc_k t o (pm_w t o 10)).2.2))) := by
  obtain ⟨w1, w2⟩ := pm_w_b t o 10
  generalize pm_w t o 10 = w at *
  have no : ∀ j : Nat, j < 11 → j ≠ w → pm_lk t o j < qz_kw j := by
    intro j hj hne
    have b := (pm_lk_b t o j).1
    have b2 := w2 j (by omega)
    refine Nat.lt_of_le_of_ne b fun e => hne ?_
    exact pm_one hj (by omega) e (Or.inl (by omega))
  constructor
  · intro h
    refine sc_tr_no 11 0 o (by omega) (fun j _ hj => ?_) (Or.inr ⟨w, Nat.zero_le _, by omega, ?_⟩)
    · have hlt : pm_lk t o j < qz_kw j := by
        by_cases e : j = w
        · subst e; exact h
        · exact no j (by omega) e
      rw [pm_k_no (by omega) hlt]
      exact ⟨rfl, by show o + (pm_lk t o j : Int) ≤ _; have := w2 j (by omega); omega⟩
    · rw [pm_k_no (by omega) h]
  · intro h
    have hm := sc_fm_mono (t := t) (F := qz_frm w) ho (qz_kw w) (qz_len w - qz_kw w)
    rw [pm_k_yes (by omega) h] at hm
    have hl := (pm_tb' (show w < 11 by omega)).2.1
    rw [show qz_kw w + (qz_len w - qz_kw w) = qz_len w by omega] at hm
    have hm2 : o + (qz_kw w : Int) ≤ (sc_k t o w).2.1 := hm
    by_cases h0 : (sc_k t o w).1 = 0
    · have := sc_tr_no (t := t) (o := o) (M := (sc_k t o w).2.1) 11 0 o (by omega) (fun j _ hj => by
        by_cases e : j = w
        · subst e; exact ⟨h0, Int.le_refl _⟩
        · rw [pm_k_no (by omega) (no j (by omega) e)]
          exact ⟨rfl, by show o + (pm_lk t o j : Int) ≤ _; have := w2 j (by omega); omega⟩) (Or.inr ⟨w, Nat.zero_le _, by omega, rfl⟩)
      exact ⟨this.1.trans h0.symm, this.2, fun h1 => absurd (h0.symm.trans h1) (by decide)⟩
    · have := sc_tr_yes (t := t) (o := o) h0 11 0 o (Nat.zero_le _) (by omega) (fun j _ hj => by rw [pm_k_no (by omega) (no j (by omega) (by omega))])
      have hb := sc_fm_b (t := t) (F := qz_frm w) ho (qz_len w)
      have h1 : (sc_k t o w).1 = 1 := hb.1.resolve_left h0
      rw [this]
      exact ⟨h1.symm, rfl, fun _ => rfl⟩
/-- the rest of each form -/
def pm_ra (t : List Int) (k : Nat) (R : sc_R) : sc_R := match k with
  | 1 => sc_st t 78 (sc_st t 32 (sc_st t 78 (sc_st t 32 (sc_st t 68 R))))
  | 2 => sc_st t 78 (sc_st t 32 (sc_st t 68 R))
  | 3 => sc_st t 68 R
  | 4 => sc_st t 83 (sc_st t 32 (sc_st t 68 R))
  | 5 => sc_st t 78 (sc_st t 47 (sc_st t 78 (sc_st t 32 (sc_st t 68 R))))
  | 6 => sc_st t 68 (sc_st t 62 (sc_st t 68 R))
  | 7 => sc_st t 68 R
  | 8 => sc_st t 78 R
  | 9 => sc_st t 78 (sc_st t 32 (sc_st t 78 R))
  | 10 => sc_st t 78 R
  | _ => R
theorem pm_ra_k {t : List Int} {o : Int} {k : Nat} (hk : k < 11) : sc_k t o k = pm_ra t k (sc_fm t (qz_frm k) (qz_kw k) (1, o, [])) := by
  obtain rfl | rfl | rfl | rfl | rfl | rfl | rfl | rfl | rfl | rfl | rfl : k = 0 ∨ k = 1 ∨ k = 2 ∨ k = 3 ∨ k = 4 ∨ k = 5 ∨ k = 6 ∨ k = 7 ∨ k = 8 ∨ k = 9 ∨ k = 10 := by omega
  all_goals rfl
theorem sc_st_1 {t : List Int} {x : Int} {R : sc_R} (h : (sc_st t x R).1 = 1) : R.1 ≠ 0 := fun h0 => by rw [sc_st_0 h0, h0] at h; exact absurd h (by decide)
theorem sc_st_l {t : List Int} {x : Int} {R : sc_R} (h : R.1 = 1) (hx : ¬ (x = 68 ∨ x = 78 ∨ x = 83)) : (sc_st t x R).2.2 = R.2.2 := by
  rw [sc_st_p h hx]
  split <;> rfl
theorem c_M_shiftBehind {E : qa_V} {σ : qa_S} {μ : Nat} {F : Nat → Int} {t : List Int} {ip : Int → Int} {R : sc_R} (hlo : E.1 ≤ μ) (hM : σ.1 μ = some (qa_MoF μ (pm_F F R))) (hi : σ.1 (μ + 5) = some (qa_ia 60 ip)) (hg : ∀ j : Nat, j < t.length → t[j]? = some (ip j)) (hch : ∀ j : Int, 0 ≤ j → j < t.length → 0 ≤ sc_at t j ∧ sc_at t j ≤ 127) (hl : t.length ≤ 60) (h25 : F 25 = (t.length : Int)) (hB : pm_B t R) : qa_T E qm_M_shiftBehind 0 0 [.ref μ] σ (qa_Mz σ μ F (sc_st t 83 (sc_st t 32 R)) (fun v => (sc_st t 83 (sc_st t 32 R)).1 = 1 → (sc_st t 83 (sc_st t 32 R)).2.2 = (sc_st t 32 R).2.2 ++ [v])) := by
  refine qa_enterQ (by decide) rfl qm_M_shiftBehind_ok rfl rfl (fun Q9 hQ => ?_)
  refine qa_aload_n (pc' := 1) ⟨rfl, rfl⟩ rfl ?_
  refine qa_bipush (z := 32) (pc' := 3) ⟨rfl, rfl⟩ rfl ?_
  refine qa_callV rfl qf_M_expects ql_10_280 (c_M_expects (E := E) hlo hM hi hg hch hl h25 hB (by omega)) hM rfl rfl rfl (qa_lt9 rfl) (qa_le9 rfl) (qa_le9 rfl) (qa_le9 rfl) (fun o9 τ9 hq9 => ?_)
  obtain ⟨rfl, e0, hM, fr⟩ := hq9
  refine qa_nx (pc' := 6) (st' := []) rfl rfl rfl rfl ?_
  replace hi := (fr (μ + 5) (by omega)).trans hi
  have hB1 := sc_st_B (x := 32) hB
  obtain ⟨P, hP⟩ : ∃ P, P = sc_st t 32 R := ⟨_, rfl⟩
  rw [← hP] at hM hB1 hQ
  obtain ⟨hb1, hb2⟩ := id hB1
  have hM9 : τ9.1 μ = some (qa_MoF μ (sN_put (sN_put F 26 (1 - P.1)) 24 P.2.1)) := hM
  clear hM
  have hM := hM9
  clear hM9
  refine qa_aload_n (pc' := 7) ⟨rfl, rfl⟩ rfl ?_
  refine qa_getf (v := .int (qa_i (1 - P.1))) (pc' := 10) ⟨rfl, rfl⟩ qg_10_268 hM rfl ?_
  refine qa_if_ne (pc' := 13) (tgt := 26) ⟨rfl, rfl⟩ rfl (by omega) (fun hc1 => ?_) (fun hc1 => ?_)
  · refine qa_iconst (pc' := 27) ⟨rfl, rfl⟩ ?_
    refine qa_istore_n (L' := [(0, _), (1, _)]) (pc' := 28) ⟨rfl, rfl⟩ rfl rfl ?_
    refine qa_aload_n (pc' := 29) ⟨rfl, rfl⟩ rfl ?_
    refine qa_dup (pc' := 30) ⟨rfl, rfl⟩ rfl ?_
    refine qa_getf (v := .int (qa_i P.2.1)) (pc' := 33) ⟨rfl, rfl⟩ qg_10_262 hM rfl ?_
    refine qa_iload_n (pc' := 34) ⟨rfl, rfl⟩ rfl ?_
    refine qa_if_eq (pc' := 37) (tgt := 41) ⟨rfl, rfl⟩ rfl (by omega) (fun hc8 => ?_) (fun hc8 => ?_)
    · refine qa_iconst (pc' := 42) ⟨rfl, rfl⟩ ?_
      refine qa_iadd (z := P.2.1) (pc' := 43) ⟨rfl, rfl⟩ (by omega) ?_
      refine qa_putf (fs' := [_, _, _, _, _, _, _, _, _, _, _, _, _, _, _, _, _, _, _, _, _, _, _, _, _, _, _]) (pc' := 46) ⟨rfl, rfl⟩ qg_10_262 qw_9 hM (by omega) rfl (fun r hr => by cases hr; exact ⟨rfl, Or.inl rfl⟩) rfl rfl ?_
      refine qa_gz (fun τ1 e1 w1 f1 => ?_)
      replace hi := (f1 _ (by omega)).trans hi
      replace fr := fun q hq => (f1 q (by have := hq; omega)).trans (fr q hq)
      replace e0 := e1.trans e0
      have hM : τ1.1 μ = some (qa_MoF μ (sN_put (sN_put (sN_put F 26 (1 - P.1)) 24 P.2.1) 24 P.2.1)) := w1
      rw [sN_3, pm_F_of (R := (P.1, P.2.1, P.2.2)) rfl rfl] at hM
      refine qa_aload_n (pc' := 47) ⟨rfl, rfl⟩ rfl ?_
      refine qa_callV rfl qf_M_number ql_10_283 (c_M_number (E := E) (R := (P.1, P.2.1, P.2.2)) hlo hM hi hg hch hl h25 ⟨hb1, by show 0 ≤ P.2.1 ∧ P.2.1 ≤ _; omega⟩) hM rfl rfl rfl (qa_lt9 rfl) (qa_le9 rfl) (qa_le9 rfl) (qa_le9 rfl) (fun o9 τ9 hq9 => ?_)
      obtain ⟨⟨v, rfl, hv, hvv⟩, e1, hM1, f1⟩ := hq9
      refine qa_nx (pc' := 50) (st' := [_]) rfl rfl rfl rfl ?_
      refine qa_istore_n (L' := [(0, _), (1, _), (2, _)]) (pc' := 51) ⟨rfl, rfl⟩ rfl rfl ?_
      refine qa_iload_n (pc' := 52) ⟨rfl, rfl⟩ rfl ?_
      have hst : sc_st t 83 P = sc_st t 78 (P.1, P.2.1, P.2.2) := by rw [sc_st_0 (show P.1 = 0 by omega), sc_st_0 (show ((P.1, P.2.1, P.2.2) : sc_R).1 = 0 by show P.1 = 0; omega)]
      refine qa_if_eq (pc' := 55) (tgt := 60) ⟨rfl, rfl⟩ rfl (by omega) (fun hc9 => ?_) (fun hc9 => ?_)
      · refine qa_iload_n (pc' := 61) ⟨rfl, rfl⟩ rfl ?_
        rw [← hst] at hvv hM1
        refine qa_ireturn rfl rfl rfl (hQ _ _ ⟨⟨v, rfl, hv, hvv⟩, e1.trans e0, hM1, fun q hq => (f1 q hq).trans (fr q hq)⟩)
      · exact absurd hc9 (by decide)
    · exact absurd hc8 (by decide)
  · refine qa_aload_n (pc' := 14) ⟨rfl, rfl⟩ rfl ?_
    refine qa_callV rfl qf_M_here ql_10_272 (c_M_here (E := E) hM hi hg hch hl (o := P.2.1) rfl h25 hb2) hM rfl rfl rfl (qa_lt9 rfl) (qa_le9 rfl) (qa_le9 rfl) (qa_le9 rfl) (fun o9 τ9 hq9 => ?_)
    obtain ⟨rfl, hq9⟩ := hq9
    replace hq9 := hq9.symm; subst hq9
    refine qa_nx (pc' := 17) (st' := [_]) rfl rfl rfl rfl ?_
    have hph : pm_h t P.2.1 = if P.2.1 < t.length then sc_at t P.2.1 else -1 := rfl
    have hcx : P.2.1 < t.length → 0 ≤ sc_at t P.2.1 ∧ sc_at t P.2.1 ≤ 127 := fun h => hch _ (by omega) h
    have hpb : -1 ≤ pm_h t P.2.1 ∧ pm_h t P.2.1 ≤ 127 := by rw [hph]; split; (have := hcx (by assumption); omega); omega
    refine qa_bipush (z := 45) (pc' := 19) ⟨rfl, rfl⟩ rfl ?_
    refine qa_icmp_ne (pc' := 22) (tgt := 26) ⟨rfl, rfl⟩ rfl (by omega) (by omega) (fun hc2 => ?_) (fun hc2 => ?_)
    · have hno : ¬ (P.2.1 < t.length ∧ sc_at t P.2.1 = 45) := fun h => hc2 (by rw [hph, if_pos h.1]; exact h.2)
      refine qa_iconst (pc' := 27) ⟨rfl, rfl⟩ ?_
      refine qa_istore_n (L' := [(0, _), (1, _)]) (pc' := 28) ⟨rfl, rfl⟩ rfl rfl ?_
      refine qa_aload_n (pc' := 29) ⟨rfl, rfl⟩ rfl ?_
      refine qa_dup (pc' := 30) ⟨rfl, rfl⟩ rfl ?_
      refine qa_getf (v := .int (qa_i P.2.1)) (pc' := 33) ⟨rfl, rfl⟩ qg_10_262 hM rfl ?_
      refine qa_iload_n (pc' := 34) ⟨rfl, rfl⟩ rfl ?_
      refine qa_if_eq (pc' := 37) (tgt := 41) ⟨rfl, rfl⟩ rfl (by omega) (fun hc8 => ?_) (fun hc8 => ?_)
      · refine qa_iconst (pc' := 42) ⟨rfl, rfl⟩ ?_
        refine qa_iadd (z := P.2.1) (pc' := 43) ⟨rfl, rfl⟩ (by omega) ?_
        refine qa_putf (fs' := [_, _, _, _, _, _, _, _, _, _, _, _, _, _, _, _, _, _, _, _, _, _, _, _, _, _, _]) (pc' := 46) ⟨rfl, rfl⟩ qg_10_262 qw_9 hM (by omega) rfl (fun r hr => by cases hr; exact ⟨rfl, Or.inl rfl⟩) rfl rfl ?_
        refine qa_gz (fun τ1 e1 w1 f1 => ?_)
        replace hi := (f1 _ (by omega)).trans hi
        replace fr := fun q hq => (f1 q (by have := hq; omega)).trans (fr q hq)
        replace e0 := e1.trans e0
        have hM : τ1.1 μ = some (qa_MoF μ (sN_put (sN_put (sN_put F 26 (1 - P.1)) 24 P.2.1) 24 P.2.1)) := w1
        rw [sN_3, pm_F_of (R := (P.1, P.2.1, P.2.2)) rfl rfl] at hM
        refine qa_aload_n (pc' := 47) ⟨rfl, rfl⟩ rfl ?_
        refine qa_callV rfl qf_M_number ql_10_283 (c_M_number (E := E) (R := (P.1, P.2.1, P.2.2)) hlo hM hi hg hch hl h25 ⟨hb1, by show 0 ≤ P.2.1 ∧ P.2.1 ≤ _; omega⟩) hM rfl rfl rfl (qa_lt9 rfl) (qa_le9 rfl) (qa_le9 rfl) (qa_le9 rfl) (fun o9 τ9 hq9 => ?_)
        obtain ⟨⟨v, rfl, hv, hvv⟩, e1, hM1, f1⟩ := hq9
        refine qa_nx (pc' := 50) (st' := [_]) rfl rfl rfl rfl ?_
        refine qa_istore_n (L' := [(0, _), (1, _), (2, _)]) (pc' := 51) ⟨rfl, rfl⟩ rfl rfl ?_
        refine qa_iload_n (pc' := 52) ⟨rfl, rfl⟩ rfl ?_
        have h1 : P.1 = 1 := by omega
        have hst : sc_st t 83 P = sc_st t 78 (P.1, P.2.1, P.2.2) := by
          rw [sc_st_S h1, if_neg hno]
          show _ = sc_st t 78 P
          unfold sc_st
          rw [if_neg (by omega)]
          unfold sc_sg
          rw [if_neg (by omega), if_pos rfl]
        refine qa_if_eq (pc' := 55) (tgt := 60) ⟨rfl, rfl⟩ rfl (by omega) (fun hc9 => ?_) (fun hc9 => ?_)
        · refine qa_iload_n (pc' := 61) ⟨rfl, rfl⟩ rfl ?_
          rw [← hst] at hvv hM1
          refine qa_ireturn rfl rfl rfl (hQ _ _ ⟨⟨v, rfl, hv, hvv⟩, e1.trans e0, hM1, fun q hq => (f1 q hq).trans (fr q hq)⟩)
        · exact absurd hc9 (by decide)
      · exact absurd hc8 (by decide)
    · have hyes : P.2.1 < t.length ∧ sc_at t P.2.1 = 45 := by rw [hph] at hc2; split at hc2; exact ⟨by assumption, hc2⟩; omega
      refine qa_iconst (pc' := 23) ⟨rfl, rfl⟩ ?_
      refine qa_goto (pc' := 26) (tgt := 27) ⟨rfl, rfl⟩ rfl ?_
      refine qa_istore_n (L' := [(0, _), (1, _)]) (pc' := 28) ⟨rfl, rfl⟩ rfl rfl ?_
      refine qa_aload_n (pc' := 29) ⟨rfl, rfl⟩ rfl ?_
      refine qa_dup (pc' := 30) ⟨rfl, rfl⟩ rfl ?_
      refine qa_getf (v := .int (qa_i P.2.1)) (pc' := 33) ⟨rfl, rfl⟩ qg_10_262 hM rfl ?_
      refine qa_iload_n (pc' := 34) ⟨rfl, rfl⟩ rfl ?_
      refine qa_if_eq (pc' := 37) (tgt := 41) ⟨rfl, rfl⟩ rfl (by omega) (fun hc8 => ?_) (fun hc8 => ?_)
      · exact absurd hc8 (by decide)
      · refine qa_iconst (pc' := 38) ⟨rfl, rfl⟩ ?_
        refine qa_goto (pc' := 41) (tgt := 42) ⟨rfl, rfl⟩ rfl ?_
        refine qa_iadd (z := (P.2.1 + 1)) (pc' := 43) ⟨rfl, rfl⟩ (by omega) ?_
        refine qa_putf (fs' := [_, _, _, _, _, _, _, _, _, _, _, _, _, _, _, _, _, _, _, _, _, _, _, _, _, _, _]) (pc' := 46) ⟨rfl, rfl⟩ qg_10_262 qw_9 hM (by omega) rfl (fun r hr => by cases hr; exact ⟨rfl, Or.inl rfl⟩) rfl rfl ?_
        refine qa_gz (fun τ1 e1 w1 f1 => ?_)
        replace hi := (f1 _ (by omega)).trans hi
        replace fr := fun q hq => (f1 q (by have := hq; omega)).trans (fr q hq)
        replace e0 := e1.trans e0
        have hM : τ1.1 μ = some (qa_MoF μ (sN_put (sN_put (sN_put F 26 (1 - P.1)) 24 P.2.1) 24 (P.2.1 + 1))) := w1
        rw [sN_3, pm_F_of (R := (P.1, (P.2.1 + 1), P.2.2)) rfl rfl] at hM
        refine qa_aload_n (pc' := 47) ⟨rfl, rfl⟩ rfl ?_
        refine qa_callV rfl qf_M_number ql_10_283 (c_M_number (E := E) (R := (P.1, (P.2.1 + 1), P.2.2)) hlo hM hi hg hch hl h25 ⟨hb1, by show 0 ≤ (P.2.1 + 1) ∧ (P.2.1 + 1) ≤ _; omega⟩) hM rfl rfl rfl (qa_lt9 rfl) (qa_le9 rfl) (qa_le9 rfl) (qa_le9 rfl) (fun o9 τ9 hq9 => ?_)
        obtain ⟨⟨v, rfl, hv, hvv⟩, e1, hM1, f1⟩ := hq9
        refine qa_nx (pc' := 50) (st' := [_]) rfl rfl rfl rfl ?_
        refine qa_istore_n (L' := [(0, _), (1, _), (2, _)]) (pc' := 51) ⟨rfl, rfl⟩ rfl rfl ?_
        refine qa_iload_n (pc' := 52) ⟨rfl, rfl⟩ rfl ?_
        refine qa_if_eq (pc' := 55) (tgt := 60) ⟨rfl, rfl⟩ rfl (by omega) (fun hc9 => ?_) (fun hc9 => ?_)
        · exact absurd hc9 (by decide)
        · have h1 : P.1 = 1 := by omega
          have h78 := sc_st_N (t := t) (R := (P.1, P.2.1 + 1, P.2.2)) h1
          have h83 := sc_st_S (t := t) h1
          rw [if_pos hyes, sc_nm_s] at h83
          have hq : (sc_st t 83 P).1 = (sc_st t 78 (P.1, P.2.1 + 1, P.2.2)).1 ∧ (sc_st t 83 P).2.1 = (sc_st t 78 (P.1, P.2.1 + 1, P.2.2)).2.1 ∧ ((sc_st t 83 P).1 = 1 → (sc_st t 83 P).2.2 = P.2.2 ++ [-v]) := by
            by_cases h9 : P.2.1 + 1 < t.length ∧ 48 ≤ sc_at t (P.2.1 + 1) ∧ sc_at t (P.2.1 + 1) ≤ 57
            · rw [if_pos h9] at h83
              rw [if_pos (show ((P.1, P.2.1 + 1, P.2.2) : sc_R).2.1 < t.length ∧ 48 ≤ sc_at t ((P.1, P.2.1 + 1, P.2.2) : sc_R).2.1 ∧ sc_at t ((P.1, P.2.1 + 1, P.2.2) : sc_R).2.1 ≤ 57 from h9)] at h78
              have h7 := hvv (by rw [h78])
              rw [h78] at h7
              have h6 := (List.cons.inj (List.append_cancel_left (as := P.2.2) h7)).1
              rw [h83, h78]
              refine ⟨rfl, rfl, fun _ => ?_⟩
              rw [← h6]
              show P.2.2 ++ [_ * (-1)] = P.2.2 ++ [-_]
              rw [Int.mul_neg, Int.mul_one]
            · rw [if_neg h9] at h83
              rw [if_neg (show ¬ (((P.1, P.2.1 + 1, P.2.2) : sc_R).2.1 < t.length ∧ 48 ≤ sc_at t ((P.1, P.2.1 + 1, P.2.2) : sc_R).2.1 ∧ sc_at t ((P.1, P.2.1 + 1, P.2.2) : sc_R).2.1 ≤ 57) from h9)] at h78
              rw [h83, h78]
              exact ⟨rfl, rfl, fun h => absurd (show (0 : Int) = 1 from h) (by decide)⟩
          rw [show pm_F F (sc_st t 78 (P.1, P.2.1 + 1, P.2.2)) = pm_F F (sc_st t 83 P) by unfold pm_F; rw [hq.1, hq.2.1]] at hM1
          refine qa_iload_n (pc' := 56) ⟨rfl, rfl⟩ rfl ?_
          refine qa_ineg (pc' := 57) ⟨rfl, rfl⟩ rfl ?_
          refine qa_goto (pc' := 60) (tgt := 61) ⟨rfl, rfl⟩ rfl ?_
          refine qa_ireturn rfl rfl rfl (hQ _ _ ⟨⟨-v, rfl, by omega, hq.2.2⟩, e1.trans e0, hM1, fun q hq9 => (f1 q hq9).trans (fr q hq9)⟩)
theorem c_M_likeness {E : qa_V} {σ : qa_S} {μ : Nat} {f : Nat → Int} {t : List Int} {ip : Int → Int} {o : Int} {k : Nat} (hM : σ.1 μ = some (qa_MoF μ f)) (hi : σ.1 (μ + 5) = some (qa_ia 60 ip)) (hg : ∀ j : Nat, j < t.length → t[j]? = some (ip j)) (hch : ∀ j : Int, 0 ≤ j → j < t.length → 0 ≤ sc_at t j ∧ sc_at t j ≤ 127) (hl : t.length ≤ 60) (hlt : σ.1 (μ + 8) = some (qa_ca 54 qM_let)) (hbg : σ.1 (μ + 9) = some (qa_ia 12 qM_beg)) (h24 : f 24 = o) (h25 : f 25 = (t.length : Int)) (ho : 0 ≤ o ∧ o ≤ t.length) (hk : k < 11) : qa_T E qm_M_likeness 0 0 [.ref μ, .int (qa_i (k : Int))] σ (fun o9 τ => o9 = .inl (some (.int (qa_i (((pm_lk t o k : Nat) : Int))))) ∧ τ = σ) := by
  refine qa_enterQ (by decide) rfl qm_M_likeness_ok rfl rfl (fun Q9 hQ => ?_)
  obtain ⟨⟨tb1, tb2, tb3⟩, tb4, tb5⟩ := pm_tb' hk
  refine qa_iconst (pc' := 1) ⟨rfl, rfl⟩ ?_
  refine qa_istore_n (L' := [(0, _), (1, _), (2, _)]) (pc' := 2) ⟨rfl, rfl⟩ rfl rfl ?_
  refine qa_aload_n (pc' := 3) ⟨rfl, rfl⟩ rfl ?_
  refine qa_getf (pc' := 6) ⟨rfl, rfl⟩ qg_10_45 (by assumption) rfl ?_
  refine qa_iload_n (pc' := 7) ⟨rfl, rfl⟩ rfl ?_
  refine qa_iconst (pc' := 8) ⟨rfl, rfl⟩ ?_
  refine qa_iadd (z := (k : Int) + 1) (pc' := 9) ⟨rfl, rfl⟩ (by omega) ?_
  refine qa_iaload (pc' := 10) ⟨rfl, rfl⟩ (by assumption) (by omega) ?_
  refine qa_aload_n (pc' := 11) ⟨rfl, rfl⟩ rfl ?_
  refine qa_getf (pc' := 14) ⟨rfl, rfl⟩ qg_10_45 (by assumption) rfl ?_
  refine qa_iload_n (pc' := 15) ⟨rfl, rfl⟩ rfl ?_
  refine qa_iaload (pc' := 16) ⟨rfl, rfl⟩ (by assumption) (by omega) ?_
  refine qa_isub (z := (qz_kw k : Int)) (pc' := 17) ⟨rfl, rfl⟩ tb1 ?_
  refine qa_istore_n (L' := [(0, _), (1, _), (2, _), (3, _)]) (pc' := 18) ⟨rfl, rfl⟩ rfl rfl ?_
  have lp : ∀ (f9 : Nat) (n : Nat), (n + f9 = qz_kw k ∧ pm_ln t (qz_frm k) o f9 n = pm_lk t o k) → qa_W E qm_M_likeness Q9 0 0 18 [(0, .ref μ), (1, .int (qa_i (k : Int))), (2, .int (qa_i (n : Int))), (3, .int (qa_i (qz_kw k : Int)))] [] σ := by
    intro f9
    induction f9 with
    | zero =>
      intro n ⟨hnf, hp⟩
      refine qa_iload_n (pc' := 19) ⟨rfl, rfl⟩ rfl ?_
      refine qa_iload_n (pc' := 20) ⟨rfl, rfl⟩ rfl ?_
      refine qa_icmp_ge (pc' := 23) (tgt := 69) ⟨rfl, rfl⟩ rfl (by omega) (by omega) (fun hc1 => ?_) (fun hc1 => ?_)
      · refine qa_iload_n (pc' := 70) ⟨rfl, rfl⟩ rfl ?_
        refine qa_ireturn rfl rfl rfl (hQ _ _ ⟨by rw [show pm_lk t o k = n from hp.symm], rfl⟩)
      · exact absurd hc1 (by omega)
    | succ f9 ih =>
      intro n ⟨hnf, hp⟩
      refine qa_iload_n (pc' := 19) ⟨rfl, rfl⟩ rfl ?_
      refine qa_iload_n (pc' := 20) ⟨rfl, rfl⟩ rfl ?_
      refine qa_icmp_ge (pc' := 23) (tgt := 69) ⟨rfl, rfl⟩ rfl (by omega) (by omega) (fun hc1 => ?_) (fun hc1 => ?_)
      · exact absurd hc1 (by omega)
      · refine qa_aload_n (pc' := 24) ⟨rfl, rfl⟩ rfl ?_
        refine qa_getf (v := .int (qa_i (f 24))) (pc' := 27) ⟨rfl, rfl⟩ qg_10_262 (by assumption) rfl ?_
        refine qa_iload_n (pc' := 28) ⟨rfl, rfl⟩ rfl ?_
        refine qa_iadd (z := o + (n : Int)) (pc' := 29) ⟨rfl, rfl⟩ (by omega) ?_
        refine qa_aload_n (pc' := 30) ⟨rfl, rfl⟩ rfl ?_
        refine qa_getf (v := .int (qa_i (f 25))) (pc' := 33) ⟨rfl, rfl⟩ qg_10_265 (by assumption) rfl ?_
        refine qa_icmp_ge (pc' := 36) (tgt := 69) ⟨rfl, rfl⟩ rfl (by omega) (by omega) (fun hc2 => ?_) (fun hc2 => ?_)
        · refine qa_iload_n (pc' := 70) ⟨rfl, rfl⟩ rfl ?_
          have hp2 : pm_lk t o k = n := by rw [show pm_lk t o k = pm_ln t (qz_frm k) o (f9 + 1) n from hp.symm]; exact if_neg (by omega)
          refine qa_ireturn rfl rfl rfl (hQ _ _ ⟨by rw [hp2], rfl⟩)
        · have tc := pm_tc' hk (show n < qz_kw k by omega)
          have hcx := hch (o + n) (by omega) (by omega)
          have hix : sc_at t (o + n) = ip (o + n) := sB_get hg (by omega) (by omega)
          rw [hix] at hcx
          refine qa_aload_n (pc' := 37) ⟨rfl, rfl⟩ rfl ?_
          refine qa_getf (pc' := 40) ⟨rfl, rfl⟩ qg_10_32 (by assumption) rfl ?_
          refine qa_aload_n (pc' := 41) ⟨rfl, rfl⟩ rfl ?_
          refine qa_getf (v := .int (qa_i (f 24))) (pc' := 44) ⟨rfl, rfl⟩ qg_10_262 (by assumption) rfl ?_
          refine qa_iload_n (pc' := 45) ⟨rfl, rfl⟩ rfl ?_
          refine qa_iadd (z := o + (n : Int)) (pc' := 46) ⟨rfl, rfl⟩ (by omega) ?_
          refine qa_iaload (pc' := 47) ⟨rfl, rfl⟩ hi (by omega) ?_
          refine qa_aload_n (pc' := 48) ⟨rfl, rfl⟩ rfl ?_
          refine qa_getf (pc' := 51) ⟨rfl, rfl⟩ qg_10_41 (by assumption) rfl ?_
          refine qa_aload_n (pc' := 52) ⟨rfl, rfl⟩ rfl ?_
          refine qa_getf (pc' := 55) ⟨rfl, rfl⟩ qg_10_45 (by assumption) rfl ?_
          refine qa_iload_n (pc' := 56) ⟨rfl, rfl⟩ rfl ?_
          refine qa_iaload (pc' := 57) ⟨rfl, rfl⟩ (by assumption) (by omega) ?_
          refine qa_iload_n (pc' := 58) ⟨rfl, rfl⟩ rfl ?_
          refine qa_iadd (pc' := 59) ⟨rfl, rfl⟩ rfl ?_
          refine qa_caload (pc' := 60) ⟨rfl, rfl⟩ hlt (by omega) ?_
          rw [tc.1]
          refine qa_icmp_ne (pc' := 63) (tgt := 69) ⟨rfl, rfl⟩ rfl (by omega) (by omega) (fun hc3 => ?_) (fun hc3 => ?_)
          · refine qa_iload_n (pc' := 70) ⟨rfl, rfl⟩ rfl ?_
            have hp2 : pm_lk t o k = n := by rw [show pm_lk t o k = pm_ln t (qz_frm k) o (f9 + 1) n from hp.symm]; exact if_neg (fun h => hc3 (by rw [← hix]; exact h.2))
            refine qa_ireturn rfl rfl rfl (hQ _ _ ⟨by rw [hp2], rfl⟩)
          · refine qa_iinc (L' := [(0, _), (1, _), (2, _), (3, _)]) (z := ((n + 1 : Nat) : Int)) (pc' := 66) ⟨rfl, rfl⟩ rfl (by omega) rfl rfl ?_
            refine qa_goto (pc' := 69) (tgt := 18) ⟨rfl, rfl⟩ rfl ?_
            exact ih (n + 1) ⟨by omega, by rw [← hp]; exact (if_pos ⟨by omega, by rw [hix]; omega⟩).symm⟩
  exact lp (qz_kw k) 0 ⟨by omega, rfl⟩
