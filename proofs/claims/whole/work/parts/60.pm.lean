/-! the model reads commands: leaves -/
theorem sN_4 (F : Nat → Int) (a b c d : Int) : sN_put (sN_put (sN_put (sN_put F 26 a) 24 b) 26 c) 24 d = sN_put (sN_put F 26 c) 24 d := by
  funext k
  unfold sN_put
  by_cases h : k = 24 <;> by_cases h2 : k = 26 <;> simp [h, h2]
theorem sN_3 (F : Nat → Int) (a b d : Int) : sN_put (sN_put (sN_put F 26 a) 24 b) 24 d = sN_put (sN_put F 26 a) 24 d := sN_pp _ _ _ _
def pm_h (t : List Int) (o : Int) : Int := if o < t.length then sc_at t o else -1
/-- the state of reading, as the class's result tells it -/
def pm_F (F : Nat → Int) (R : sc_R) : Nat → Int := sN_put (sN_put F 26 (1 - R.1)) 24 R.2.1
theorem pm_F_of {F : Nat → Int} {R : sc_R} {w o : Int} (hw : w = 1 - R.1) (ho : o = R.2.1) : sN_put (sN_put F 26 w) 24 o = pm_F F R := by
  subst hw; subst ho; rfl
abbrev pm_B (t : List Int) (R : sc_R) : Prop := (R.1 = 0 ∨ R.1 = 1) ∧ 0 ≤ R.2.1 ∧ R.2.1 ≤ t.length
def qa_Mz (σ : qa_S) (μ : Nat) (F : Nat → Int) (R : sc_R) (Q : Int → Prop) : qa_O → qa_S → Prop := fun o9 τ => (∃ v : Int, o9 = .inl (some (.int (qa_i v))) ∧ (-999 ≤ v ∧ v ≤ 999) ∧ Q v) ∧ τ.2 = σ.2 ∧ τ.1 μ = some (qa_MoF μ (pm_F F R)) ∧ ∀ q, q ≠ μ → τ.1 q = σ.1 q
theorem sc_st_0 {t : List Int} {x : Int} {R : sc_R} (h : R.1 = 0) : sc_st t x R = R := if_pos h
theorem sc_st_p {t : List Int} {x : Int} {R : sc_R} (h : R.1 = 1) (hx : ¬ (x = 68 ∨ x = 78 ∨ x = 83)) : sc_st t x R = if R.2.1 < t.length ∧ sc_at t R.2.1 = x then (1, R.2.1 + 1, R.2.2) else (0, R.2.1, R.2.2) := by
  unfold sc_st
  rw [if_neg (by omega)]
  unfold sc_sg
  rw [if_neg (by omega), if_neg (by omega), if_neg (by omega)]
  split <;> simp
theorem sc_dg_s (t : List Int) (f : Nat) (o v : Int) : sc_dg t (f + 1) o v = if o < t.length ∧ 48 ≤ sc_at t o ∧ sc_at t o ≤ 57 then sc_dg t f (o + 1) (v * 10 + sc_at t o - 48) else (v, o) := rfl
theorem sc_nm_s (t : List Int) (f : Nat) (fac o : Int) : sc_nm t (f + 1) fac o = if o < t.length ∧ 48 ≤ sc_at t o ∧ sc_at t o ≤ 57 then (1, (sc_dg t f (o + 1) (sc_at t o - 48)).2, [(sc_dg t f (o + 1) (sc_at t o - 48)).1 * fac]) else (0, o, []) := by
  unfold sc_nm
  rw [sc_dg_s]
  by_cases h : o < t.length ∧ 48 ≤ sc_at t o ∧ sc_at t o ≤ 57
  · rw [if_pos h, if_pos h, show (0 : Int) * 10 + sc_at t o - 48 = sc_at t o - 48 by omega]
    have := (sc_dg_o t f (o + 1) (sc_at t o - 48)).1
    rw [if_neg (by omega)]
  · rw [if_neg h, if_neg h, if_pos rfl]
theorem sc_st_D {t : List Int} {R : sc_R} (h : R.1 = 1) : sc_st t 68 R = if R.2.1 < t.length ∧ 48 ≤ sc_at t R.2.1 ∧ sc_at t R.2.1 ≤ 57 then (1, R.2.1 + 1, R.2.2 ++ [sc_at t R.2.1 - 48]) else (0, R.2.1, R.2.2) := by
  unfold sc_st
  rw [if_neg (by omega)]
  unfold sc_sg
  rw [if_pos rfl, sc_nm_s]
  split
  · show (1, R.2.1 + 1, R.2.2 ++ [(sc_at t R.2.1 - 48) * 1]) = _
    rw [Int.mul_one]
  · simp
theorem sc_st_N {t : List Int} {R : sc_R} (h : R.1 = 1) : sc_st t 78 R = if R.2.1 < t.length ∧ 48 ≤ sc_at t R.2.1 ∧ sc_at t R.2.1 ≤ 57 then (1, (sc_dg t 2 (R.2.1 + 1) (sc_at t R.2.1 - 48)).2, R.2.2 ++ [(sc_dg t 2 (R.2.1 + 1) (sc_at t R.2.1 - 48)).1]) else (0, R.2.1, R.2.2) := by
  unfold sc_st
  rw [if_neg (by omega)]
  unfold sc_sg
  rw [if_neg (by omega), if_pos rfl, sc_nm_s]
  split
  · show (1, (sc_dg t 2 (R.2.1 + 1) (sc_at t R.2.1 - 48)).2, R.2.2 ++ [(sc_dg t 2 (R.2.1 + 1) (sc_at t R.2.1 - 48)).1 * 1]) = _
    rw [Int.mul_one]
  · simp
theorem sc_st_S {t : List Int} {R : sc_R} (h : R.1 = 1) : sc_st t 83 R = if R.2.1 < t.length ∧ sc_at t R.2.1 = 45 then ((sc_nm t 3 (-1) (R.2.1 + 1)).1, (sc_nm t 3 (-1) (R.2.1 + 1)).2.1, R.2.2 ++ (sc_nm t 3 (-1) (R.2.1 + 1)).2.2) else ((sc_nm t 3 1 R.2.1).1, (sc_nm t 3 1 R.2.1).2.1, R.2.2 ++ (sc_nm t 3 1 R.2.1).2.2) := by
  unfold sc_st
  rw [if_neg (by omega)]
  unfold sc_sg
  rw [if_neg (by omega), if_neg (by omega), if_pos rfl]
  split <;> rfl
theorem sc_st_B {t : List Int} {x : Int} {R : sc_R} (h : pm_B t R) : pm_B t (sc_st t x R) := by
  rcases h.1 with h0 | h1
  · rw [sc_st_0 h0]; exact h
  · unfold sc_st
    rw [if_neg (by omega)]
    have := sc_sg_b (t := t) (x := x) (o := R.2.1) h.2
    exact ⟨this.1, by show 0 ≤ (sc_sg t x R.2.1).2.1; omega, this.2.2.1⟩
theorem c_M_here {E : qa_V} {σ : qa_S} {μ : Nat} {f : Nat → Int} {t : List Int} {ip : Int → Int} {o : Int} (hM : σ.1 μ = some (qa_MoF μ f)) (hi : σ.1 (μ + 5) = some (qa_ia 60 ip)) (hg : ∀ j : Nat, j < t.length → t[j]? = some (ip j)) (hch : ∀ j : Int, 0 ≤ j → j < t.length → 0 ≤ sc_at t j ∧ sc_at t j ≤ 127) (hl : t.length ≤ 60) (h24 : f 24 = o) (h25 : f 25 = (t.length : Int)) (ho : 0 ≤ o ∧ o ≤ t.length) : qa_T E qm_M_here 0 0 [.ref μ] σ (fun o9 τ => o9 = .inl (some (.int (qa_i (pm_h t o)))) ∧ τ = σ) := by
  refine qa_enterQ (by decide) rfl qm_M_here_ok rfl rfl (fun Q9 hQ => ?_)
  refine qa_aload_n (pc' := 1) ⟨rfl, rfl⟩ rfl ?_
  refine qa_getf (v := .int (qa_i (f 24))) (pc' := 4) ⟨rfl, rfl⟩ qg_10_262 (by assumption) rfl ?_
  refine qa_aload_n (pc' := 5) ⟨rfl, rfl⟩ rfl ?_
  refine qa_getf (v := .int (qa_i (f 25))) (pc' := 8) ⟨rfl, rfl⟩ qg_10_265 (by assumption) rfl ?_
  refine qa_icmp_ge (pc' := 11) (tgt := 23) ⟨rfl, rfl⟩ rfl (by omega) (by omega) (fun hc1 => ?_) (fun hc1 => ?_)
  · refine qa_iconst (pc' := 24) ⟨rfl, rfl⟩ ?_
    refine qa_ireturn rfl rfl rfl (hQ _ _ ⟨by unfold pm_h; rw [if_neg (by omega)], rfl⟩)
  · refine qa_aload_n (pc' := 12) ⟨rfl, rfl⟩ rfl ?_
    refine qa_getf (pc' := 15) ⟨rfl, rfl⟩ qg_10_32 (by assumption) rfl ?_
    refine qa_aload_n (pc' := 16) ⟨rfl, rfl⟩ rfl ?_
    refine qa_getf (v := .int (qa_i (f 24))) (pc' := 19) ⟨rfl, rfl⟩ qg_10_262 (by assumption) rfl ?_
    refine qa_iaload (pc' := 20) ⟨rfl, rfl⟩ (by assumption) (by omega) ?_
    refine qa_goto (pc' := 23) (tgt := 24) ⟨rfl, rfl⟩ rfl ?_
    refine qa_ireturn rfl rfl rfl (hQ _ _ ⟨by unfold pm_h; rw [if_pos (by omega), h24]; rw [show sc_at t o = ip o from sB_get hg ho.1 (by omega)], rfl⟩)
theorem c_M_expects {E : qa_V} {σ : qa_S} {μ : Nat} {F : Nat → Int} {t : List Int} {ip : Int → Int} {R : sc_R} {x : Int} (hlo : E.1 ≤ μ) (hM : σ.1 μ = some (qa_MoF μ (pm_F F R))) (hi : σ.1 (μ + 5) = some (qa_ia 60 ip)) (hg : ∀ j : Nat, j < t.length → t[j]? = some (ip j)) (hch : ∀ j : Int, 0 ≤ j → j < t.length → 0 ≤ sc_at t j ∧ sc_at t j ≤ 127) (hl : t.length ≤ 60) (h25 : F 25 = (t.length : Int)) (hB : pm_B t R) (hx : ¬ (x = 68 ∨ x = 78 ∨ x = 83) ∧ 0 ≤ x ∧ x ≤ 127) : qa_T E qm_M_expects 0 0 [.ref μ, .int (qa_i x)] σ (fun o9 τ => o9 = .inl none ∧ τ.2 = σ.2 ∧ τ.1 μ = some (qa_MoF μ (pm_F F (sc_st t x R))) ∧ ∀ q, q ≠ μ → τ.1 q = σ.1 q) := by
  refine qa_enterQ (by decide) rfl qm_M_expects_ok rfl rfl (fun Q9 hQ => ?_)
  obtain ⟨hb1, hb2⟩ := id hB
  have hM9 : σ.1 μ = some (qa_MoF μ (sN_put (sN_put F 26 (1 - R.1)) 24 R.2.1)) := hM
  clear hM
  have e0 : σ.2 = σ.2 := rfl
  have fr : ∀ q, q ≠ μ → σ.1 q = σ.1 q := fun _ _ => rfl
  have hM := hM9
  clear hM9
  refine qa_aload_n (pc' := 1) ⟨rfl, rfl⟩ rfl ?_
  refine qa_aload_n (pc' := 2) ⟨rfl, rfl⟩ rfl ?_
  refine qa_getf (v := .int (qa_i (1 - R.1))) (pc' := 5) ⟨rfl, rfl⟩ qg_10_268 (by assumption) rfl ?_
  refine qa_if_ne (pc' := 8) (tgt := 16) ⟨rfl, rfl⟩ rfl (by omega) (fun hc1 => ?_) (fun hc1 => ?_)
  · refine qa_iconst (pc' := 17) ⟨rfl, rfl⟩ ?_
    refine qa_goto (pc' := 20) (tgt := 21) ⟨rfl, rfl⟩ rfl ?_
    refine qa_putf (fs' := [_, _, _, _, _, _, _, _, _, _, _, _, _, _, _, _, _, _, _, _, _, _, _, _, _, _, _]) (pc' := 24) ⟨rfl, rfl⟩ qg_10_268 qw_9 hM (by omega) rfl (fun r hr => by cases hr; exact ⟨rfl, Or.inl rfl⟩) rfl rfl ?_
    refine qa_gz (fun τ1 e1 w1 f1 => ?_)
    replace hi := (f1 _ (by omega)).trans hi
    replace fr := fun q hq => (f1 q (by have := hq; omega)).trans (fr q hq)
    replace e0 := e1.trans e0
    have hM : τ1.1 μ = some (qa_MoF μ (sN_put (sN_put (sN_put F 26 (1 - R.1)) 24 R.2.1) 26 1)) := w1
    refine qa_aload_n (pc' := 25) ⟨rfl, rfl⟩ rfl ?_
    refine qa_dup (pc' := 26) ⟨rfl, rfl⟩ rfl ?_
    refine qa_getf (v := .int (qa_i R.2.1)) (pc' := 29) ⟨rfl, rfl⟩ qg_10_262 hM rfl ?_
    refine qa_aload_n (pc' := 30) ⟨rfl, rfl⟩ rfl ?_
    refine qa_getf (v := .int (qa_i (1))) (pc' := 33) ⟨rfl, rfl⟩ qg_10_268 hM rfl ?_
    refine qa_if_eq (pc' := 36) (tgt := 40) ⟨rfl, rfl⟩ rfl (by omega) (fun hc8 => ?_) (fun hc8 => ?_)
    · exact absurd hc8 (by decide)
    · refine qa_iconst (pc' := 37) ⟨rfl, rfl⟩ ?_
      refine qa_goto (pc' := 40) (tgt := 41) ⟨rfl, rfl⟩ rfl ?_
      refine qa_iadd (z := R.2.1) (pc' := 42) ⟨rfl, rfl⟩ (by omega) ?_
      refine qa_putf (fs' := [_, _, _, _, _, _, _, _, _, _, _, _, _, _, _, _, _, _, _, _, _, _, _, _, _, _, _]) (pc' := 45) ⟨rfl, rfl⟩ qg_10_262 qw_9 hM (by omega) rfl (fun r hr => by cases hr; exact ⟨rfl, Or.inl rfl⟩) rfl rfl ?_
      refine qa_gz (fun τ2 e2 w2 f2 => ?_)
      replace hi := (f2 _ (by omega)).trans hi
      replace fr := fun q hq => (f2 q (by have := hq; omega)).trans (fr q hq)
      replace e0 := e2.trans e0
      have hM : τ2.1 μ = some (qa_MoF μ (sN_put (sN_put (sN_put (sN_put F 26 (1 - R.1)) 24 R.2.1) 26 1) 24 R.2.1)) := w2
      rw [sN_4, pm_F_of (R := sc_st t x R) (by rw [sc_st_0 (show R.1 = 0 by omega)]; show 1 = (1 : Int) - _; first | rfl | omega) (by rw [sc_st_0 (show R.1 = 0 by omega)])] at hM
      refine qa_return rfl rfl (hQ _ _ ⟨rfl, e0, hM, fr⟩)
  · refine qa_aload_n (pc' := 9) ⟨rfl, rfl⟩ rfl ?_
    refine qa_callV rfl qf_M_here ql_10_272 (c_M_here (E := E) hM hi hg hch hl (o := R.2.1) rfl h25 hb2) hM rfl rfl rfl (qa_lt9 rfl) (qa_le9 rfl) (qa_le9 rfl) (qa_le9 rfl) (fun o9 τ9 hq9 => ?_)
    obtain ⟨rfl, hq9⟩ := hq9
    replace hq9 := hq9.symm; subst hq9
    refine qa_nx (pc' := 12) (st' := [_, _]) rfl rfl rfl rfl ?_
    have hph : pm_h t R.2.1 = if R.2.1 < t.length then sc_at t R.2.1 else -1 := rfl
    have hcx : R.2.1 < t.length → 0 ≤ sc_at t R.2.1 ∧ sc_at t R.2.1 ≤ 127 := fun h => hch _ hb2.1 h
    have hpb : -1 ≤ pm_h t R.2.1 ∧ pm_h t R.2.1 ≤ 127 := by rw [hph]; split; (have := hcx (by assumption); omega); omega
    refine qa_iload_n (pc' := 13) ⟨rfl, rfl⟩ rfl ?_
    refine qa_icmp_eq (pc' := 16) (tgt := 20) ⟨rfl, rfl⟩ rfl (by omega) (by omega) (fun hc2 => ?_) (fun hc2 => ?_)
    · have hyes : R.2.1 < t.length ∧ sc_at t R.2.1 = x := by rw [hph] at hc2; split at hc2; exact ⟨by assumption, hc2⟩; omega
      refine qa_iconst (pc' := 21) ⟨rfl, rfl⟩ ?_
      refine qa_putf (fs' := [_, _, _, _, _, _, _, _, _, _, _, _, _, _, _, _, _, _, _, _, _, _, _, _, _, _, _]) (pc' := 24) ⟨rfl, rfl⟩ qg_10_268 qw_9 hM (by omega) rfl (fun r hr => by cases hr; exact ⟨rfl, Or.inl rfl⟩) rfl rfl ?_
      refine qa_gz (fun τ1 e1 w1 f1 => ?_)
      replace hi := (f1 _ (by omega)).trans hi
      replace fr := fun q hq => (f1 q (by have := hq; omega)).trans (fr q hq)
      replace e0 := e1.trans e0
      have hM : τ1.1 μ = some (qa_MoF μ (sN_put (sN_put (sN_put F 26 (1 - R.1)) 24 R.2.1) 26 0)) := w1
      refine qa_aload_n (pc' := 25) ⟨rfl, rfl⟩ rfl ?_
      refine qa_dup (pc' := 26) ⟨rfl, rfl⟩ rfl ?_
      refine qa_getf (v := .int (qa_i R.2.1)) (pc' := 29) ⟨rfl, rfl⟩ qg_10_262 hM rfl ?_
      refine qa_aload_n (pc' := 30) ⟨rfl, rfl⟩ rfl ?_
      refine qa_getf (v := .int (qa_i (0))) (pc' := 33) ⟨rfl, rfl⟩ qg_10_268 hM rfl ?_
      refine qa_if_eq (pc' := 36) (tgt := 40) ⟨rfl, rfl⟩ rfl (by omega) (fun hc8 => ?_) (fun hc8 => ?_)
      · refine qa_iconst (pc' := 41) ⟨rfl, rfl⟩ ?_
        refine qa_iadd (z := (R.2.1 + 1)) (pc' := 42) ⟨rfl, rfl⟩ (by omega) ?_
        refine qa_putf (fs' := [_, _, _, _, _, _, _, _, _, _, _, _, _, _, _, _, _, _, _, _, _, _, _, _, _, _, _]) (pc' := 45) ⟨rfl, rfl⟩ qg_10_262 qw_9 hM (by omega) rfl (fun r hr => by cases hr; exact ⟨rfl, Or.inl rfl⟩) rfl rfl ?_
        refine qa_gz (fun τ2 e2 w2 f2 => ?_)
        replace hi := (f2 _ (by omega)).trans hi
        replace fr := fun q hq => (f2 q (by have := hq; omega)).trans (fr q hq)
        replace e0 := e2.trans e0
        have hM : τ2.1 μ = some (qa_MoF μ (sN_put (sN_put (sN_put (sN_put F 26 (1 - R.1)) 24 R.2.1) 26 0) 24 (R.2.1 + 1))) := w2
        rw [sN_4, pm_F_of (R := sc_st t x R) (by rw [sc_st_p (show R.1 = 1 by omega) hx.1, if_pos hyes]; show 0 = (1 : Int) - _; first | rfl | omega) (by rw [sc_st_p (show R.1 = 1 by omega) hx.1, if_pos hyes])] at hM
        refine qa_return rfl rfl (hQ _ _ ⟨rfl, e0, hM, fr⟩)
      · exact absurd hc8 (by decide)
    · have hno : ¬ (R.2.1 < t.length ∧ sc_at t R.2.1 = x) := fun h => hc2 (by rw [hph, if_pos h.1]; exact h.2)
      refine qa_iconst (pc' := 17) ⟨rfl, rfl⟩ ?_
      refine qa_goto (pc' := 20) (tgt := 21) ⟨rfl, rfl⟩ rfl ?_
      refine qa_putf (fs' := [_, _, _, _, _, _, _, _, _, _, _, _, _, _, _, _, _, _, _, _, _, _, _, _, _, _, _]) (pc' := 24) ⟨rfl, rfl⟩ qg_10_268 qw_9 hM (by omega) rfl (fun r hr => by cases hr; exact ⟨rfl, Or.inl rfl⟩) rfl rfl ?_
      refine qa_gz (fun τ1 e1 w1 f1 => ?_)
      replace hi := (f1 _ (by omega)).trans hi
      replace fr := fun q hq => (f1 q (by have := hq; omega)).trans (fr q hq)
      replace e0 := e1.trans e0
      have hM : τ1.1 μ = some (qa_MoF μ (sN_put (sN_put (sN_put F 26 (1 - R.1)) 24 R.2.1) 26 1)) := w1
      refine qa_aload_n (pc' := 25) ⟨rfl, rfl⟩ rfl ?_
      refine qa_dup (pc' := 26) ⟨rfl, rfl⟩ rfl ?_
      refine qa_getf (v := .int (qa_i R.2.1)) (pc' := 29) ⟨rfl, rfl⟩ qg_10_262 hM rfl ?_
      refine qa_aload_n (pc' := 30) ⟨rfl, rfl⟩ rfl ?_
      refine qa_getf (v := .int (qa_i (1))) (pc' := 33) ⟨rfl, rfl⟩ qg_10_268 hM rfl ?_
      refine qa_if_eq (pc' := 36) (tgt := 40) ⟨rfl, rfl⟩ rfl (by omega) (fun hc8 => ?_) (fun hc8 => ?_)
      · exact absurd hc8 (by decide)
      · refine qa_iconst (pc' := 37) ⟨rfl, rfl⟩ ?_
        refine qa_goto (pc' := 40) (tgt := 41) ⟨rfl, rfl⟩ rfl ?_
        refine qa_iadd (z := R.2.1) (pc' := 42) ⟨rfl, rfl⟩ (by omega) ?_
        refine qa_putf (fs' := [_, _, _, _, _, _, _, _, _, _, _, _, _, _, _, _, _, _, _, _, _, _, _, _, _, _, _]) (pc' := 45) ⟨rfl, rfl⟩ qg_10_262 qw_9 hM (by omega) rfl (fun r hr => by cases hr; exact ⟨rfl, Or.inl rfl⟩) rfl rfl ?_
        refine qa_gz (fun τ2 e2 w2 f2 => ?_)
        replace hi := (f2 _ (by omega)).trans hi
        replace fr := fun q hq => (f2 q (by have := hq; omega)).trans (fr q hq)
        replace e0 := e2.trans e0
        have hM : τ2.1 μ = some (qa_MoF μ (sN_put (sN_put (sN_put (sN_put F 26 (1 - R.1)) 24 R.2.1) 26 1) 24 R.2.1)) := w2
        rw [sN_4, pm_F_of (R := sc_st t x R) (by rw [sc_st_p (show R.1 = 1 by omega) hx.1, if_neg hno]; show 1 = (1 : Int) - _; first | rfl | omega) (by rw [sc_st_p (show R.1 = 1 by omega) hx.1, if_neg hno])] at hM
        refine qa_return rfl rfl (hQ _ _ ⟨rfl, e0, hM, fr⟩)
theorem c_M_digit {E : qa_V} {σ : qa_S} {μ : Nat} {F : Nat → Int} {t : List Int} {ip : Int → Int} {R : sc_R} (hlo : E.1 ≤ μ) (hM : σ.1 μ = some (qa_MoF μ (pm_F F R))) (hi : σ.1 (μ + 5) = some (qa_ia 60 ip)) (hg : ∀ j : Nat, j < t.length → t[j]? = some (ip j)) (hch : ∀ j : Int, 0 ≤ j → j < t.length → 0 ≤ sc_at t j ∧ sc_at t j ≤ 127) (hl : t.length ≤ 60) (h25 : F 25 = (t.length : Int)) (hB : pm_B t R) : qa_T E qm_M_digit 0 0 [.ref μ] σ (qa_Mz σ μ F (sc_st t 68 R) (fun v => (sc_st t 68 R).1 = 1 → (sc_st t 68 R).2.2 = R.2.2 ++ [v])) := by
  refine qa_enterQ (by decide) rfl qm_M_digit_ok rfl rfl (fun Q9 hQ => ?_)
  obtain ⟨hb1, hb2⟩ := id hB
  have hM9 : σ.1 μ = some (qa_MoF μ (sN_put (sN_put F 26 (1 - R.1)) 24 R.2.1)) := hM
  clear hM
  have e0 : σ.2 = σ.2 := rfl
  have fr : ∀ q, q ≠ μ → σ.1 q = σ.1 q := fun _ _ => rfl
  have hM := hM9
  clear hM9
  refine qa_aload_n (pc' := 1) ⟨rfl, rfl⟩ rfl ?_
  refine qa_aload_n (pc' := 2) ⟨rfl, rfl⟩ rfl ?_
  refine qa_getf (v := .int (qa_i (1 - R.1))) (pc' := 5) ⟨rfl, rfl⟩ qg_10_268 (by assumption) rfl ?_
  refine qa_if_ne (pc' := 8) (tgt := 25) ⟨rfl, rfl⟩ rfl (by omega) (fun hc1 => ?_) (fun hc1 => ?_)
  · refine qa_iconst (pc' := 26) ⟨rfl, rfl⟩ ?_
    refine qa_goto (pc' := 29) (tgt := 30) ⟨rfl, rfl⟩ rfl ?_
    refine qa_putf (fs' := [_, _, _, _, _, _, _, _, _, _, _, _, _, _, _, _, _, _, _, _, _, _, _, _, _, _, _]) (pc' := 33) ⟨rfl, rfl⟩ qg_10_268 qw_9 hM (by omega) rfl (fun r hr => by cases hr; exact ⟨rfl, Or.inl rfl⟩) rfl rfl ?_
    refine qa_gz (fun τ1 e1 w1 f1 => ?_)
    replace hi := (f1 _ (by omega)).trans hi
    replace fr := fun q hq => (f1 q (by have := hq; omega)).trans (fr q hq)
    replace e0 := e1.trans e0
    have hM : τ1.1 μ = some (qa_MoF μ (sN_put (sN_put (sN_put F 26 (1 - R.1)) 24 R.2.1) 26 1)) := w1
    refine qa_aload_n (pc' := 34) ⟨rfl, rfl⟩ rfl ?_
    refine qa_getf (v := .int (qa_i (1))) (pc' := 37) ⟨rfl, rfl⟩ qg_10_268 hM rfl ?_
    refine qa_if_eq (pc' := 40) (tgt := 44) ⟨rfl, rfl⟩ rfl (by omega) (fun hc8 => ?_) (fun hc8 => ?_)
    · exact absurd hc8 (by decide)
    · refine qa_iconst (pc' := 41) ⟨rfl, rfl⟩ ?_
      refine qa_goto (pc' := 44) (tgt := 51) ⟨rfl, rfl⟩ rfl ?_
      refine qa_istore_n (L' := [(0, _), (1, _)]) (pc' := 52) ⟨rfl, rfl⟩ rfl rfl ?_
      refine qa_aload_n (pc' := 53) ⟨rfl, rfl⟩ rfl ?_
      refine qa_dup (pc' := 54) ⟨rfl, rfl⟩ rfl ?_
      refine qa_getf (v := .int (qa_i R.2.1)) (pc' := 57) ⟨rfl, rfl⟩ qg_10_262 hM rfl ?_
      refine qa_aload_n (pc' := 58) ⟨rfl, rfl⟩ rfl ?_
      refine qa_getf (v := .int (qa_i (1))) (pc' := 61) ⟨rfl, rfl⟩ qg_10_268 hM rfl ?_
      refine qa_if_eq (pc' := 64) (tgt := 68) ⟨rfl, rfl⟩ rfl (by omega) (fun hc9 => ?_) (fun hc9 => ?_)
      · exact absurd hc9 (by decide)
      · refine qa_iconst (pc' := 65) ⟨rfl, rfl⟩ ?_
        refine qa_goto (pc' := 68) (tgt := 69) ⟨rfl, rfl⟩ rfl ?_
        refine qa_iadd (z := R.2.1) (pc' := 70) ⟨rfl, rfl⟩ (by omega) ?_
        refine qa_putf (fs' := [_, _, _, _, _, _, _, _, _, _, _, _, _, _, _, _, _, _, _, _, _, _, _, _, _, _, _]) (pc' := 73) ⟨rfl, rfl⟩ qg_10_262 qw_9 hM (by omega) rfl (fun r hr => by cases hr; exact ⟨rfl, Or.inl rfl⟩) rfl rfl ?_
        refine qa_gz (fun τ2 e2 w2 f2 => ?_)
        replace hi := (f2 _ (by omega)).trans hi
        replace fr := fun q hq => (f2 q (by have := hq; omega)).trans (fr q hq)
        replace e0 := e2.trans e0
        have hM : τ2.1 μ = some (qa_MoF μ (sN_put (sN_put (sN_put (sN_put F 26 (1 - R.1)) 24 R.2.1) 26 1) 24 R.2.1)) := w2
        refine qa_iload_n (pc' := 74) ⟨rfl, rfl⟩ rfl ?_
        have hst : sc_st t 68 R = R := sc_st_0 (by omega)
        rw [sN_4, pm_F_of (R := sc_st t 68 R) (by rw [hst]; show 1 = (1 : Int) - _; first | rfl | omega) (by rw [hst])] at hM
        refine qa_ireturn rfl rfl rfl (hQ _ _ ⟨⟨_, rfl, by omega, fun h9 => absurd h9 (by rw [hst]; omega)⟩, e0, hM, fr⟩)
  · refine qa_aload_n (pc' := 9) ⟨rfl, rfl⟩ rfl ?_
    refine qa_callV rfl qf_M_here ql_10_272 (c_M_here (E := E) hM hi hg hch hl (o := R.2.1) rfl h25 hb2) hM rfl rfl rfl (qa_lt9 rfl) (qa_le9 rfl) (qa_le9 rfl) (qa_le9 rfl) (fun o9 τ9 hq9 => ?_)
    obtain ⟨rfl, hq9⟩ := hq9
    replace hq9 := hq9.symm; subst hq9
    refine qa_nx (pc' := 12) (st' := [_, _]) rfl rfl rfl rfl ?_
    have hph : pm_h t R.2.1 = if R.2.1 < t.length then sc_at t R.2.1 else -1 := rfl
    have hcx : R.2.1 < t.length → 0 ≤ sc_at t R.2.1 ∧ sc_at t R.2.1 ≤ 127 := fun h => hch _ (by omega) h
    have hpb : -1 ≤ pm_h t R.2.1 ∧ pm_h t R.2.1 ≤ 127 := by rw [hph]; split; (have := hcx (by assumption); omega); omega
    refine qa_i2l (pc' := 13) ⟨rfl, rfl⟩ (by omega) ?_
    refine qa_ldc2 (z := 48) (pc' := 16) ⟨rfl, rfl⟩ qk_10_149 ?_
    refine qa_ldc2 (z := 57) (pc' := 19) ⟨rfl, rfl⟩ qk_10_275 ?_
    refine qa_callS rfl qf_M_in rfl ql_10_70 (c_M_in (E := E) (by omega) (by omega) (by omega)) rfl rfl (qa_lt9 rfl) (qa_le9 rfl) (qa_le9 rfl) (qa_le9 rfl) (fun o9 τ9 hq9 => ?_)
    obtain ⟨rfl, hq9⟩ := hq9
    replace hq9 := hq9.symm; subst hq9
    refine qa_nx (pc' := 22) (st' := [_, _]) rfl rfl rfl rfl ?_
    by_cases hw : 48 ≤ pm_h t R.2.1 ∧ pm_h t R.2.1 ≤ 57
    · rw [if_pos hw]
      refine qa_if_ne (pc' := 25) (tgt := 29) ⟨rfl, rfl⟩ rfl (by omega) (fun hw9 => ?_) (fun hw9 => ?_)
      · have hyes : (R.2.1 < t.length ∧ 48 ≤ sc_at t R.2.1 ∧ sc_at t R.2.1 ≤ 57) := by rw [hph] at hw; split at hw; exact ⟨by assumption, hw.1, hw.2⟩; omega
        refine qa_iconst (pc' := 30) ⟨rfl, rfl⟩ ?_
        refine qa_putf (fs' := [_, _, _, _, _, _, _, _, _, _, _, _, _, _, _, _, _, _, _, _, _, _, _, _, _, _, _]) (pc' := 33) ⟨rfl, rfl⟩ qg_10_268 qw_9 hM (by omega) rfl (fun r hr => by cases hr; exact ⟨rfl, Or.inl rfl⟩) rfl rfl ?_
        refine qa_gz (fun τ1 e1 w1 f1 => ?_)
        replace hi := (f1 _ (by omega)).trans hi
        replace fr := fun q hq => (f1 q (by have := hq; omega)).trans (fr q hq)
        replace e0 := e1.trans e0
        have hM : τ1.1 μ = some (qa_MoF μ (sN_put (sN_put (sN_put F 26 (1 - R.1)) 24 R.2.1) 26 0)) := w1
        refine qa_aload_n (pc' := 34) ⟨rfl, rfl⟩ rfl ?_
        refine qa_getf (v := .int (qa_i (0))) (pc' := 37) ⟨rfl, rfl⟩ qg_10_268 hM rfl ?_
        refine qa_if_eq (pc' := 40) (tgt := 44) ⟨rfl, rfl⟩ rfl (by omega) (fun hc8 => ?_) (fun hc8 => ?_)
        · refine qa_aload_n (pc' := 45) ⟨rfl, rfl⟩ rfl ?_
          refine qa_callV rfl qf_M_here ql_10_272 (c_M_here (E := E) hM hi hg hch hl (o := R.2.1) rfl h25 hb2) hM rfl rfl rfl (qa_lt9 rfl) (qa_le9 rfl) (qa_le9 rfl) (qa_le9 rfl) (fun o9 τ9 hq9 => ?_)
          obtain ⟨rfl, hq9⟩ := hq9
          replace hq9 := hq9.symm; subst hq9
          refine qa_nx (pc' := 48) (st' := [_]) rfl rfl rfl rfl ?_
          rw [show pm_h t R.2.1 = sc_at t R.2.1 from if_pos hyes.1]
          refine qa_bipush (z := 48) (pc' := 50) ⟨rfl, rfl⟩ rfl ?_
          refine qa_isub (pc' := 51) ⟨rfl, rfl⟩ rfl ?_
          refine qa_istore_n (L' := [(0, _), (1, _)]) (pc' := 52) ⟨rfl, rfl⟩ rfl rfl ?_
          refine qa_aload_n (pc' := 53) ⟨rfl, rfl⟩ rfl ?_
          refine qa_dup (pc' := 54) ⟨rfl, rfl⟩ rfl ?_
          refine qa_getf (v := .int (qa_i R.2.1)) (pc' := 57) ⟨rfl, rfl⟩ qg_10_262 hM rfl ?_
          refine qa_aload_n (pc' := 58) ⟨rfl, rfl⟩ rfl ?_
          refine qa_getf (v := .int (qa_i (0))) (pc' := 61) ⟨rfl, rfl⟩ qg_10_268 hM rfl ?_
          refine qa_if_eq (pc' := 64) (tgt := 68) ⟨rfl, rfl⟩ rfl (by omega) (fun hc9 => ?_) (fun hc9 => ?_)
          · refine qa_iconst (pc' := 69) ⟨rfl, rfl⟩ ?_
            refine qa_iadd (z := (R.2.1 + 1)) (pc' := 70) ⟨rfl, rfl⟩ (by omega) ?_
            refine qa_putf (fs' := [_, _, _, _, _, _, _, _, _, _, _, _, _, _, _, _, _, _, _, _, _, _, _, _, _, _, _]) (pc' := 73) ⟨rfl, rfl⟩ qg_10_262 qw_9 hM (by omega) rfl (fun r hr => by cases hr; exact ⟨rfl, Or.inl rfl⟩) rfl rfl ?_
            refine qa_gz (fun τ2 e2 w2 f2 => ?_)
            replace hi := (f2 _ (by omega)).trans hi
            replace fr := fun q hq => (f2 q (by have := hq; omega)).trans (fr q hq)
            replace e0 := e2.trans e0
            have hM : τ2.1 μ = some (qa_MoF μ (sN_put (sN_put (sN_put (sN_put F 26 (1 - R.1)) 24 R.2.1) 26 0) 24 (R.2.1 + 1))) := w2
            refine qa_iload_n (pc' := 74) ⟨rfl, rfl⟩ rfl ?_
            have hst : sc_st t 68 R = (1, R.2.1 + 1, R.2.2 ++ [sc_at t R.2.1 - 48]) := by rw [sc_st_D (show R.1 = 1 by omega), if_pos hyes]
            rw [sN_4, pm_F_of (R := sc_st t 68 R) (by rw [hst]; show 0 = (1 : Int) - _; first | rfl | omega) (by rw [hst])] at hM
            refine qa_ireturn rfl rfl rfl (hQ _ _ ⟨⟨_, rfl, by omega, fun h9 => by rw [hst]⟩, e0, hM, fr⟩)
          · exact absurd hc9 (by decide)
        · exact absurd hc8 (by decide)
      · exact absurd hw9 (by omega)
    · rw [if_neg hw]
      refine qa_if_ne (pc' := 25) (tgt := 29) ⟨rfl, rfl⟩ rfl (by omega) (fun hw9 => ?_) (fun hw9 => ?_)
      · exact absurd hw9 (by omega)
      · have hno : ¬ (R.2.1 < t.length ∧ 48 ≤ sc_at t R.2.1 ∧ sc_at t R.2.1 ≤ 57) := fun h => hw (by rw [hph, if_pos h.1]; exact ⟨h.2.1, h.2.2⟩)
        refine qa_iconst (pc' := 26) ⟨rfl, rfl⟩ ?_
        refine qa_goto (pc' := 29) (tgt := 30) ⟨rfl, rfl⟩ rfl ?_
        refine qa_putf (fs' := [_, _, _, _, _, _, _, _, _, _, _, _, _, _, _, _, _, _, _, _, _, _, _, _, _, _, _]) (pc' := 33) ⟨rfl, rfl⟩ qg_10_268 qw_9 hM (by omega) rfl (fun r hr => by cases hr; exact ⟨rfl, Or.inl rfl⟩) rfl rfl ?_
        refine qa_gz (fun τ1 e1 w1 f1 => ?_)
        replace hi := (f1 _ (by omega)).trans hi
        replace fr := fun q hq => (f1 q (by have := hq; omega)).trans (fr q hq)
        replace e0 := e1.trans e0
        have hM : τ1.1 μ = some (qa_MoF μ (sN_put (sN_put (sN_put F 26 (1 - R.1)) 24 R.2.1) 26 1)) := w1
        refine qa_aload_n (pc' := 34) ⟨rfl, rfl⟩ rfl ?_
        refine qa_getf (v := .int (qa_i (1))) (pc' := 37) ⟨rfl, rfl⟩ qg_10_268 hM rfl ?_
        refine qa_if_eq (pc' := 40) (tgt := 44) ⟨rfl, rfl⟩ rfl (by omega) (fun hc8 => ?_) (fun hc8 => ?_)
        · exact absurd hc8 (by decide)
        · refine qa_iconst (pc' := 41) ⟨rfl, rfl⟩ ?_
          refine qa_goto (pc' := 44) (tgt := 51) ⟨rfl, rfl⟩ rfl ?_
          refine qa_istore_n (L' := [(0, _), (1, _)]) (pc' := 52) ⟨rfl, rfl⟩ rfl rfl ?_
          refine qa_aload_n (pc' := 53) ⟨rfl, rfl⟩ rfl ?_
          refine qa_dup (pc' := 54) ⟨rfl, rfl⟩ rfl ?_
          refine qa_getf (v := .int (qa_i R.2.1)) (pc' := 57) ⟨rfl, rfl⟩ qg_10_262 hM rfl ?_
          refine qa_aload_n (pc' := 58) ⟨rfl, rfl⟩ rfl ?_
          refine qa_getf (v := .int (qa_i (1))) (pc' := 61) ⟨rfl, rfl⟩ qg_10_268 hM rfl ?_
          refine qa_if_eq (pc' := 64) (tgt := 68) ⟨rfl, rfl⟩ rfl (by omega) (fun hc9 => ?_) (fun hc9 => ?_)
          · exact absurd hc9 (by decide)
          · refine qa_iconst (pc' := 65) ⟨rfl, rfl⟩ ?_
            refine qa_goto (pc' := 68) (tgt := 69) ⟨rfl, rfl⟩ rfl ?_
            refine qa_iadd (z := R.2.1) (pc' := 70) ⟨rfl, rfl⟩ (by omega) ?_
            refine qa_putf (fs' := [_, _, _, _, _, _, _, _, _, _, _, _, _, _, _, _, _, _, _, _, _, _, _, _, _, _, _]) (pc' := 73) ⟨rfl, rfl⟩ qg_10_262 qw_9 hM (by omega) rfl (fun r hr => by cases hr; exact ⟨rfl, Or.inl rfl⟩) rfl rfl ?_
            refine qa_gz (fun τ2 e2 w2 f2 => ?_)
            replace hi := (f2 _ (by omega)).trans hi
            replace fr := fun q hq => (f2 q (by have := hq; omega)).trans (fr q hq)
            replace e0 := e2.trans e0
            have hM : τ2.1 μ = some (qa_MoF μ (sN_put (sN_put (sN_put (sN_put F 26 (1 - R.1)) 24 R.2.1) 26 1) 24 R.2.1)) := w2
            refine qa_iload_n (pc' := 74) ⟨rfl, rfl⟩ rfl ?_
            have hst : sc_st t 68 R = (0, R.2.1, R.2.2) := by rw [sc_st_D (show R.1 = 1 by omega), if_neg hno]
            rw [sN_4, pm_F_of (R := sc_st t 68 R) (by rw [hst]; show 1 = (1 : Int) - _; first | rfl | omega) (by rw [hst])] at hM
            refine qa_ireturn rfl rfl rfl (hQ _ _ ⟨⟨_, rfl, by omega, fun h9 => absurd h9 (by rw [hst]; show ¬ (0 : Int) = 1; decide)⟩, e0, hM, fr⟩)
theorem c_M_number {E : qa_V} {σ : qa_S} {μ : Nat} {F : Nat → Int} {t : List Int} {ip : Int → Int} {R : sc_R} (hlo : E.1 ≤ μ) (hM : σ.1 μ = some (qa_MoF μ (pm_F F R))) (hi : σ.1 (μ + 5) = some (qa_ia 60 ip)) (hg : ∀ j : Nat, j < t.length → t[j]? = some (ip j)) (hch : ∀ j : Int, 0 ≤ j → j < t.length → 0 ≤ sc_at t j ∧ sc_at t j ≤ 127) (hl : t.length ≤ 60) (h25 : F 25 = (t.length : Int)) (hB : pm_B t R) : qa_T E qm_M_number 0 0 [.ref μ] σ (qa_Mz σ μ F (sc_st t 78 R) (fun v => (sc_st t 78 R).1 = 1 → (sc_st t 78 R).2.2 = R.2.2 ++ [v])) := by
  refine qa_enterQ (by decide) rfl qm_M_number_ok rfl rfl (fun Q9 hQ => ?_)
  obtain ⟨hb1, hb2⟩ := id hB
  have hB1 := sc_st_B (x := 68) hB
  refine qa_aload_n (pc' := 1) ⟨rfl, rfl⟩ rfl ?_
  refine qa_callV rfl qf_M_digit ql_10_277 (c_M_digit (E := E) hlo hM hi hg hch hl h25 hB) hM rfl rfl rfl (qa_lt9 rfl) (qa_le9 rfl) (qa_le9 rfl) (qa_le9 rfl) (fun o9 τ9 hq9 => ?_)
  obtain ⟨⟨v, rfl, hv, hvv⟩, e0, hM, fr⟩ := hq9
  refine qa_nx (pc' := 4) (st' := [_]) rfl rfl rfl rfl ?_
  replace hi := (fr (μ + 5) (by omega)).trans hi
  refine qa_istore_n (L' := [(0, _), (1, _)]) (pc' := 5) ⟨rfl, rfl⟩ rfl rfl ?_
  refine qa_iconst (pc' := 6) ⟨rfl, rfl⟩ ?_
  refine qa_istore_n (L' := [(0, _), (1, _), (2, _)]) (pc' := 7) ⟨rfl, rfl⟩ rfl rfl ?_
  by_cases hz0 : (sc_st t 68 R).1 = 0
  · have hst : sc_st t 78 R = sc_st t 68 R := by
      rcases hb1 with h0 | h1
      · rw [sc_st_0 h0, sc_st_0 h0]
      · have h3 := sc_st_D (t := t) h1
        have h4 := sc_st_N (t := t) h1
        by_cases h5 : R.2.1 < t.length ∧ 48 ≤ sc_at t R.2.1 ∧ sc_at t R.2.1 ≤ 57
        · rw [if_pos h5] at h3
          rw [h3] at hz0
          exact absurd hz0 (by show ¬ (1 : Int) = 0; decide)
        · rw [if_neg h5] at h3 h4
          rw [h3, h4]
    refine qa_iload_n (pc' := 8) ⟨rfl, rfl⟩ rfl ?_
    refine qa_iconst (pc' := 9) ⟨rfl, rfl⟩ ?_
    refine qa_icmp_ge (pc' := 12) (tgt := 52) ⟨rfl, rfl⟩ rfl (by omega) (by omega) (fun hc1 => ?_) (fun hc1 => ?_)
    · exact absurd hc1 (by omega)
    · refine qa_aload_n (pc' := 13) ⟨rfl, rfl⟩ rfl ?_
      refine qa_getf (v := .int (qa_i (1 - (sc_st t 68 R).1))) (pc' := 16) ⟨rfl, rfl⟩ qg_10_268 hM rfl ?_
      refine qa_if_ne (pc' := 19) (tgt := 52) ⟨rfl, rfl⟩ rfl (by omega) (fun hc2 => ?_) (fun hc2 => ?_)
      · refine qa_iload_n (pc' := 53) ⟨rfl, rfl⟩ rfl ?_
        refine qa_ireturn rfl rfl rfl (hQ _ _ ⟨⟨_, rfl, hv, fun h9 => absurd h9 (by rw [hst]; omega)⟩, e0, by rw [hst]; exact hM, fr⟩)
      · exact absurd hc2 (by omega)
  · have hr1 : R.1 = 1 := by
      rcases hb1 with h0 | h1
      · rw [sc_st_0 h0] at hz0; omega
      · exact h1
    have h3 := sc_st_D (t := t) hr1
    have h4 := sc_st_N (t := t) hr1
    have hyes : (R.2.1 < t.length ∧ 48 ≤ sc_at t R.2.1 ∧ sc_at t R.2.1 ≤ 57) := Decidable.byContradiction fun h5 => hz0 (by rw [h3, if_neg h5])
    rw [if_pos hyes] at h3 h4
    have hv2 : v = sc_at t R.2.1 - 48 := by
      have h6 := hvv (by rw [h3])
      rw [h3] at h6
      have h7 := List.append_cancel_left (as := R.2.2) h6
      exact (List.cons.inj h7).1.symm
    rw [h3] at hM
    have hV := sc_sg_b (t := t) (x := 78) (o := R.2.1) hb2
    have hVb : -999 ≤ (sc_dg t 2 (R.2.1 + 1) (sc_at t R.2.1 - 48)).1 ∧ (sc_dg t 2 (R.2.1 + 1) (sc_at t R.2.1 - 48)).1 ≤ 999 := by
      refine hV.2.2.2.2.1 _ ?_
      unfold sc_sg
      rw [if_neg (by omega), if_pos rfl, sc_nm_s, if_pos hyes, Int.mul_one]
      exact List.mem_singleton.mpr rfl
    have hOb := sc_dg_o t 2 (R.2.1 + 1) (sc_at t R.2.1 - 48)
    have T1 : ∀ (f9 : Nat) (τ : qa_S) (k : Nat) (o w : Int), (k + f9 = 2 ∧ sc_dg t f9 o w = sc_dg t 2 (R.2.1 + 1) (sc_at t R.2.1 - 48) ∧ (0 ≤ o ∧ o ≤ t.length) ∧ τ.2 = σ.2 ∧ τ.1 μ = some (qa_MoF μ (pm_F F (1, o, []))) ∧ τ.1 (μ + 5) = some (qa_ia 60 ip) ∧ (∀ q, q ≠ μ → τ.1 q = σ.1 q)) → qa_W E qm_M_number Q9 0 0 7 [(0, .ref μ), (1, .int (qa_i w)), (2, .int (qa_i k))] [] τ := by
      clear hM hi e0 fr
      intro f9
      induction f9 with
      | zero =>
        intro τ k o w ⟨hkf, hgo, ho, e0, hM, hi, fr⟩
        have hwb : -999 ≤ w ∧ w ≤ 999 := by have := congrArg Prod.fst hgo; have h8 : w = (sc_dg t 2 (R.2.1 + 1) (sc_at t R.2.1 - 48)).1 := this; omega
        refine qa_iload_n (pc' := 8) ⟨rfl, rfl⟩ rfl ?_
        refine qa_iconst (pc' := 9) ⟨rfl, rfl⟩ ?_
        refine qa_icmp_ge (pc' := 12) (tgt := 52) ⟨rfl, rfl⟩ rfl (by omega) (by omega) (fun hc1 => ?_) (fun hc1 => ?_)
        · refine qa_iload_n (pc' := 53) ⟨rfl, rfl⟩ rfl ?_
          have hst : sc_st t 78 R = (1, o, R.2.2 ++ [w]) := by rw [h4, ← hgo]; rfl
          refine qa_ireturn rfl rfl rfl (hQ _ _ ⟨⟨w, rfl, hwb, fun _ => by rw [hst]⟩, e0, by rw [hst]; exact hM, fr⟩)
        · exact absurd hc1 (by omega)
      | succ f9 iT1 =>
        intro τ k o w ⟨hkf, hgo, ho, e0, hM, hi, fr⟩
        refine qa_iload_n (pc' := 8) ⟨rfl, rfl⟩ rfl ?_
        refine qa_iconst (pc' := 9) ⟨rfl, rfl⟩ ?_
        refine qa_icmp_ge (pc' := 12) (tgt := 52) ⟨rfl, rfl⟩ rfl (by omega) (by omega) (fun hc1 => ?_) (fun hc1 => ?_)
        · exact absurd hc1 (by omega)
        · refine qa_aload_n (pc' := 13) ⟨rfl, rfl⟩ rfl ?_
          refine qa_getf (v := .int (qa_i (1 - (1 : Int)))) (pc' := 16) ⟨rfl, rfl⟩ qg_10_268 hM rfl ?_
          refine qa_if_ne (pc' := 19) (tgt := 52) ⟨rfl, rfl⟩ rfl (by omega) (fun hc2 => ?_) (fun hc2 => ?_)
          · exact absurd rfl hc2
          · refine qa_aload_n (pc' := 20) ⟨rfl, rfl⟩ rfl ?_
            refine qa_callV rfl qf_M_here ql_10_272 (c_M_here (E := E) hM hi hg hch hl (o := o) rfl h25 ho) hM rfl rfl rfl (qa_lt9 rfl) (qa_le9 rfl) (qa_le9 rfl) (qa_le9 rfl) (fun o9 τ9 hq9 => ?_)
            obtain ⟨rfl, hq9⟩ := hq9
            replace hq9 := hq9.symm; subst hq9
            refine qa_nx (pc' := 23) (st' := [_]) rfl rfl rfl rfl ?_
            have hph2 : pm_h t o = if o < t.length then sc_at t o else -1 := rfl
            have hcx2 : o < t.length → 0 ≤ sc_at t o ∧ sc_at t o ≤ 127 := fun h => hch _ (by omega) h
            have hpb2 : -1 ≤ pm_h t o ∧ pm_h t o ≤ 127 := by rw [hph2]; split; (have := hcx2 (by assumption); omega); omega
            refine qa_i2l (pc' := 24) ⟨rfl, rfl⟩ (by omega) ?_
            refine qa_ldc2 (z := 48) (pc' := 27) ⟨rfl, rfl⟩ qk_10_149 ?_
            refine qa_ldc2 (z := 57) (pc' := 30) ⟨rfl, rfl⟩ qk_10_275 ?_
            refine qa_callS rfl qf_M_in rfl ql_10_70 (c_M_in (E := E) (by omega) (by omega) (by omega)) rfl rfl (qa_lt9 rfl) (qa_le9 rfl) (qa_le9 rfl) (qa_le9 rfl) (fun o9 τ9 hq9 => ?_)
            obtain ⟨rfl, hq9⟩ := hq9
            replace hq9 := hq9.symm; subst hq9
            refine qa_nx (pc' := 33) (st' := [_]) rfl rfl rfl rfl ?_
            by_cases hw : 48 ≤ pm_h t o ∧ pm_h t o ≤ 57
            · rw [if_pos hw]
              refine qa_if_eq (pc' := 36) (tgt := 52) ⟨rfl, rfl⟩ rfl (by omega) (fun hw9 => ?_) (fun hw9 => ?_)
              · exact absurd hw9 (by omega)
              · have hyes2 : (o < t.length ∧ 48 ≤ sc_at t o ∧ sc_at t o ≤ 57) := by rw [hph2] at hw; split at hw; exact ⟨by assumption, hw.1, hw.2⟩; omega
                rw [sc_dg_s, if_pos hyes2] at hgo
                have hD := sc_st_D (t := t) (R := (1, o, [])) rfl
                rw [if_pos (show (1, o, ([] : List Int)).2.1 < t.length ∧ 48 ≤ sc_at t (1, o, ([] : List Int)).2.1 ∧ sc_at t (1, o, ([] : List Int)).2.1 ≤ 57 from hyes2)] at hD
                refine qa_bipush (z := 10) (pc' := 38) ⟨rfl, rfl⟩ rfl ?_
                refine qa_iload_n (pc' := 39) ⟨rfl, rfl⟩ rfl ?_
                refine qa_imul (pc' := 40) ⟨rfl, rfl⟩ rfl ?_
                refine qa_aload_n (pc' := 41) ⟨rfl, rfl⟩ rfl ?_
                refine qa_callV rfl qf_M_digit ql_10_277 (c_M_digit (E := E) (R := (1, o, [])) hlo hM hi hg hch hl h25 ⟨Or.inr rfl, ho⟩) hM rfl rfl rfl (qa_lt9 rfl) (qa_le9 rfl) (qa_le9 rfl) (qa_le9 rfl) (fun o9 τ9 hq9 => ?_)
                obtain ⟨⟨x9, rfl, hx9, hxx⟩, e1, hM1, f1⟩ := hq9
                refine qa_nx (pc' := 44) (st' := [_, _]) rfl rfl rfl rfl ?_
                have hx8 : x9 = sc_at t o - 48 := by
                  have h6 := hxx (by rw [hD])
                  rw [hD] at h6
                  exact (List.cons.inj h6).1.symm
                rw [hD] at hM1
                refine qa_iadd (z := w * 10 + sc_at t o - 48) (pc' := 45) ⟨rfl, rfl⟩ (by omega) ?_
                refine qa_istore_n (L' := [(0, _), (1, _), (2, _)]) (pc' := 46) ⟨rfl, rfl⟩ rfl rfl ?_
                refine qa_iinc (L' := [(0, _), (1, _), (2, _)]) (z := ((k + 1 : Nat) : Int)) (pc' := 49) ⟨rfl, rfl⟩ rfl (by omega) rfl rfl ?_
                refine qa_goto (pc' := 52) (tgt := 7) ⟨rfl, rfl⟩ rfl ?_
                exact iT1 _ (k + 1) (o + 1) _ ⟨by omega, hgo, by omega, e1.trans e0, hM1, (f1 (μ + 5) (by omega)).trans hi, fun q hq => (f1 q hq).trans (fr q hq)⟩
            · rw [if_neg hw]
              refine qa_if_eq (pc' := 36) (tgt := 52) ⟨rfl, rfl⟩ rfl (by omega) (fun hw9 => ?_) (fun hw9 => ?_)
              · have hno2 : ¬ (o < t.length ∧ 48 ≤ sc_at t o ∧ sc_at t o ≤ 57) := fun h => hw (by rw [hph2, if_pos h.1]; exact ⟨h.2.1, h.2.2⟩)
                rw [sc_dg_s, if_neg hno2] at hgo
                have hwb : -999 ≤ w ∧ w ≤ 999 := by have := congrArg Prod.fst hgo; have h8 : w = (sc_dg t 2 (R.2.1 + 1) (sc_at t R.2.1 - 48)).1 := this; omega
                refine qa_iload_n (pc' := 53) ⟨rfl, rfl⟩ rfl ?_
                have hst : sc_st t 78 R = (1, o, R.2.2 ++ [w]) := by rw [h4, ← hgo]
                refine qa_ireturn rfl rfl rfl (hQ _ _ ⟨⟨w, rfl, hwb, fun _ => by rw [hst]⟩, e0, by rw [hst]; exact hM, fr⟩)
              · exact absurd hw9 (by omega)
    rw [hv2]
    exact T1 2 _ 0 (R.2.1 + 1) _ ⟨rfl, rfl, by omega, e0, hM, hi, fr⟩
theorem c_M_numberBehind {E : qa_V} {σ : qa_S} {μ : Nat} {F : Nat → Int} {t : List Int} {ip : Int → Int} {R : sc_R} {x : Int} (hlo : E.1 ≤ μ) (hM : σ.1 μ = some (qa_MoF μ (pm_F F R))) (hi : σ.1 (μ + 5) = some (qa_ia 60 ip)) (hg : ∀ j : Nat, j < t.length → t[j]? = some (ip j)) (hch : ∀ j : Int, 0 ≤ j → j < t.length → 0 ≤ sc_at t j ∧ sc_at t j ≤ 127) (hl : t.length ≤ 60) (h25 : F 25 = (t.length : Int)) (hB : pm_B t R) (hx : ¬ (x = 68 ∨ x = 78 ∨ x = 83) ∧ 0 ≤ x ∧ x ≤ 127) : qa_T E qm_M_numberBehind 0 0 [.ref μ, .int (qa_i x)] σ (qa_Mz σ μ F (sc_st t 78 (sc_st t x R)) (fun v => (sc_st t 78 (sc_st t x R)).1 = 1 → (sc_st t 78 (sc_st t x R)).2.2 = (sc_st t x R).2.2 ++ [v])) := by
  refine qa_enterQ (by decide) rfl qm_M_numberBehind_ok rfl rfl (fun Q9 hQ => ?_)
  refine qa_aload_n (pc' := 1) ⟨rfl, rfl⟩ rfl ?_
  refine qa_iload_n (pc' := 2) ⟨rfl, rfl⟩ rfl ?_
  refine qa_callV rfl qf_M_expects ql_10_280 (c_M_expects (E := E) hlo hM hi hg hch hl h25 hB hx) hM rfl rfl rfl (qa_lt9 rfl) (qa_le9 rfl) (qa_le9 rfl) (qa_le9 rfl) (fun o9 τ9 hq9 => ?_)
  obtain ⟨rfl, e0, hM, fr⟩ := hq9
  refine qa_nx (pc' := 5) (st' := []) rfl rfl rfl rfl ?_
  replace hi := (fr (μ + 5) (by omega)).trans hi
  refine qa_aload_n (pc' := 6) ⟨rfl, rfl⟩ rfl ?_
  refine qa_callV rfl qf_M_number ql_10_283 (c_M_number (E := E) hlo hM hi hg hch hl h25 (sc_st_B hB)) hM rfl rfl rfl (qa_lt9 rfl) (qa_le9 rfl) (qa_le9 rfl) (qa_le9 rfl) (fun o9 τ9 hq9 => ?_)
  obtain ⟨⟨v, rfl, hv, hvv⟩, e1, hM1, f1⟩ := hq9
  refine qa_nx (pc' := 9) (st' := [_]) rfl rfl rfl rfl ?_
  refine qa_ireturn rfl rfl rfl (hQ _ _ ⟨⟨v, rfl, hv, hvv⟩, e1.trans e0, hM1, fun q hq => (f1 q hq).trans (fr q hq)⟩)
