/-! the model reads commands: arguments, a command -/
theorem pm_c1 {t : List Int} {x : Int} {R : sc_R} (hB : pm_B t R) (h : (sc_st t x R).1 = 1) : R.1 = 1 := hB.1.resolve_left (sc_st_1 h)
theorem pm_l1 {l : List Int} {cm : Int → Int} {to v0 : Int} (h : l = [v0]) : ∀ j : Nat, j < l.length → l[j]? = some (qa_up cm to v0 (to + j)) := by
  subst h
  intro j hj
  have hj1 : j < 1 := hj
  obtain rfl : j = 0 := by omega
  rw [show to + ((0 : Nat) : Int) = to by omega, qa_up_eq]; rfl
theorem pm_l2 {l : List Int} {cm : Int → Int} {to v0 v1 : Int} (h : l = [v0, v1]) : ∀ j : Nat, j < l.length → l[j]? = some (qa_up (qa_up cm to v0) (to + 1) v1 (to + j)) := by
  subst h
  intro j hj
  have hj1 : j < 2 := hj
  rcases (show j = 0 ∨ j = 1 by omega) with rfl | rfl
  · rw [qa_up_ne (by omega), show to + ((0 : Nat) : Int) = to by omega, qa_up_eq]; rfl
  · rw [show to + ((1 : Nat) : Int) = to + 1 by omega, qa_up_eq]; rfl
theorem pm_l3 {l : List Int} {cm : Int → Int} {to v0 v1 v2 : Int} (h : l = [v0, v1, v2]) : ∀ j : Nat, j < l.length → l[j]? = some (qa_up (qa_up (qa_up cm to v0) (to + 1) v1) (to + 2) v2 (to + j)) := by
  subst h
  intro j hj
  have hj1 : j < 3 := hj
  rcases (show j = 0 ∨ j = 1 ∨ j = 2 by omega) with rfl | rfl | rfl
  · rw [qa_up_ne (by omega), qa_up_ne (by omega), show to + ((0 : Nat) : Int) = to by omega, qa_up_eq]; rfl
  · rw [qa_up_ne (by omega), show to + ((1 : Nat) : Int) = to + 1 by omega, qa_up_eq]; rfl
  · rw [show to + ((2 : Nat) : Int) = to + 2 by omega, qa_up_eq]; rfl
theorem sN_5 (F : Nat → Int) (a b c d : Int) : sN_put (sN_put (sN_put (sN_put F 26 a) 24 b) 24 c) 26 d = sN_put (sN_put F 26 d) 24 c := by
  funext k
  unfold sN_put
  by_cases h : k = 24 <;> by_cases h2 : k = 26 <;> simp [h, h2]
theorem sN_6 (F : Nat → Int) (a b c : Int) : sN_put (sN_put (sN_put F 26 a) 24 b) 23 c = sN_put (sN_put (sN_put F 23 c) 26 a) 24 b := by
  funext k
  unfold sN_put
  by_cases h : k = 24 <;> by_cases h2 : k = 26 <;> by_cases h3 : k = 23 <;> simp [h, h2, h3]
theorem sN_id {F : Nat → Int} {j : Nat} {c : Int} (h : F j = c) : sN_put F j c = F := by
  funext k
  unfold sN_put
  by_cases h2 : k = j
  · rw [if_pos h2, h2, h]
  · rw [if_neg h2]
theorem c_M_readArguments {E : qa_V} {σ : qa_S} {μ : Nat} {F : Nat → Int} {t : List Int} {ip : Int → Int} {R : sc_R} {cm : Int → Int} {k : Nat} {to : Int} (hlo : E.1 ≤ μ) (hM : σ.1 μ = some (qa_MoF μ (pm_F F R))) (hi : σ.1 (μ + 5) = some (qa_ia 60 ip)) (hg : ∀ j : Nat, j < t.length → t[j]? = some (ip j)) (hch : ∀ j : Int, 0 ≤ j → j < t.length → 0 ≤ sc_at t j ∧ sc_at t j ≤ 127) (hl : t.length ≤ 60) (h25 : F 25 = (t.length : Int)) (hB : pm_B t R) (hcm : σ.1 (μ + 10) = some (qa_ia 244 cm)) (hk : k < 11) (hto : 0 ≤ to ∧ to ≤ 240) (h1 : R.1 = 1) (h0 : R.2.2 = []) : qa_T E qm_M_readArguments 0 0 [.ref μ, .int (qa_i (k : Int)), .int (qa_i to)] σ (fun o9 τ => o9 = .inl none ∧ τ.2 = σ.2 ∧ τ.1 μ = some (qa_MoF μ (pm_F F (pm_ra t k R))) ∧ (∃ cm1 : Int → Int, τ.1 (μ + 10) = some (qa_ia 244 cm1) ∧ (∀ q : Int, q < to → cm1 q = cm q) ∧ ((pm_ra t k R).1 = 1 → ∀ j : Nat, j < (pm_ra t k R).2.2.length → (pm_ra t k R).2.2[j]? = some (cm1 (to + j)))) ∧ ∀ q, (q ≠ μ ∧ q ≠ μ + 10) → τ.1 q = σ.1 q) := by
  refine qa_enterQ (by decide) rfl qm_M_readArguments_ok rfl rfl (fun Q9 hQ => ?_)
  have e0 : σ.2 = σ.2 := rfl
  have fr : ∀ q, (q ≠ μ ∧ q ≠ μ + 10) → σ.1 q = σ.1 q := fun _ _ => rfl
  obtain rfl | rfl | rfl | rfl | rfl | rfl | rfl | rfl | rfl | rfl | rfl : k = 0 ∨ k = 1 ∨ k = 2 ∨ k = 3 ∨ k = 4 ∨ k = 5 ∨ k = 6 ∨ k = 7 ∨ k = 8 ∨ k = 9 ∨ k = 10 := by omega
  · refine qa_aload_n (pc' := 1) ⟨rfl, rfl⟩ rfl ?_
    refine qa_getf (pc' := 4) ⟨rfl, rfl⟩ qg_10_48 (by assumption) rfl ?_
    refine qa_iload_n (pc' := 5) ⟨rfl, rfl⟩ rfl ?_
    refine qa_iload_n (pc' := 6) ⟨rfl, rfl⟩ rfl ?_
    refine qa_if_ne (pc' := 9) (tgt := 13) ⟨rfl, rfl⟩ rfl (by omega) (fun hc1 => ?_) (fun hc1 => ?_)
    · exact absurd hc1 (by omega)
    · refine qa_iconst (pc' := 10) ⟨rfl, rfl⟩ ?_
      refine qa_goto (pc' := 13) (tgt := 30) ⟨rfl, rfl⟩ rfl ?_
      refine qa_iastore (pc' := 31) ⟨rfl, rfl⟩ hcm (by omega) (by omega) ?_
      refine qa_gz (fun τ1 e1 w1 f1 => ?_)
      replace hM := (f1 _ (by omega)).trans hM
      replace hi := (f1 _ (by omega)).trans hi
      replace fr := fun q hq => (f1 q (by have := hq; omega)).trans (fr q hq)
      replace e0 := e1.trans e0
      have hcm := w1
      refine qa_iload_n (pc' := 32) ⟨rfl, rfl⟩ rfl ?_
      refine qa_tabOut (tgt := 199) rfl (by omega) (by omega) rfl ?_
      refine qa_return rfl rfl (hQ _ _ ⟨rfl, e0, hM, ⟨_, hcm, fun q hq => by repeat rw [qa_up_ne (by omega)], fun h9 => ?_⟩, fr⟩)
      show ∀ j : Nat, j < R.2.2.length → _
      rw [h0]
      exact fun j hj => absurd hj (Nat.not_lt_zero _)
  · refine qa_aload_n (pc' := 1) ⟨rfl, rfl⟩ rfl ?_
    refine qa_getf (pc' := 4) ⟨rfl, rfl⟩ qg_10_48 (by assumption) rfl ?_
    refine qa_iload_n (pc' := 5) ⟨rfl, rfl⟩ rfl ?_
    refine qa_iload_n (pc' := 6) ⟨rfl, rfl⟩ rfl ?_
    refine qa_if_ne (pc' := 9) (tgt := 13) ⟨rfl, rfl⟩ rfl (by omega) (fun hc1 => ?_) (fun hc1 => ?_)
    · refine qa_iload_n (pc' := 14) ⟨rfl, rfl⟩ rfl ?_
      refine qa_bipush (z := 7) (pc' := 16) ⟨rfl, rfl⟩ rfl ?_
      refine qa_icmp_le (pc' := 19) (tgt := 26) ⟨rfl, rfl⟩ rfl (by omega) (by omega) (fun hc2 => ?_) (fun hc2 => ?_)
      · refine qa_aload_n (pc' := 27) ⟨rfl, rfl⟩ rfl ?_
        refine qa_callV rfl qf_M_digit ql_10_277 (c_M_digit (E := E) (R := R) hlo hM hi hg hch hl h25 hB) hM rfl rfl rfl (qa_lt9 rfl) (qa_le9 rfl) (qa_le9 rfl) (qa_le9 rfl) (fun o9 τ9 hq9 => ?_)
        obtain ⟨⟨v0, rfl, hvb0, hv0⟩, e9, hM9, f9⟩ := hq9
        refine qa_nx (pc' := 30) (st' := [_, _, _]) rfl rfl rfl rfl ?_
        replace hi := (f9 _ (by omega)).trans hi
        replace hcm := (f9 _ (by omega)).trans hcm
        replace fr := fun q hq => (f9 q (by have := hq; omega)).trans (fr q hq)
        replace e0 := e9.trans e0
        replace hM := hM9
        refine qa_iastore (pc' := 31) ⟨rfl, rfl⟩ hcm (by omega) (by omega) ?_
        refine qa_gz (fun τ1 e1 w1 f1 => ?_)
        replace hM := (f1 _ (by omega)).trans hM
        replace hi := (f1 _ (by omega)).trans hi
        replace fr := fun q hq => (f1 q (by have := hq; omega)).trans (fr q hq)
        replace e0 := e1.trans e0
        have hcm := w1
        refine qa_iload_n (pc' := 32) ⟨rfl, rfl⟩ rfl ?_
        refine qa_tabIn (off := 52) (tgt := 84) rfl (by omega) (by omega) (by omega) rfl rfl ?_
        refine qa_aload_n (pc' := 85) ⟨rfl, rfl⟩ rfl ?_
        refine qa_getf (pc' := 88) ⟨rfl, rfl⟩ qg_10_48 (by assumption) rfl ?_
        refine qa_iload_n (pc' := 89) ⟨rfl, rfl⟩ rfl ?_
        refine qa_iconst (pc' := 90) ⟨rfl, rfl⟩ ?_
        refine qa_iadd (pc' := 91) ⟨rfl, rfl⟩ rfl ?_
        refine qa_aload_n (pc' := 92) ⟨rfl, rfl⟩ rfl ?_
        refine qa_bipush (z := 32) (pc' := 94) ⟨rfl, rfl⟩ rfl ?_
        refine qa_callV rfl qf_M_numberBehind ql_10_286 (c_M_numberBehind (E := E) (R := (sc_st t 68 R)) hlo hM hi hg hch hl h25 (sc_st_B (x := 68) hB) (by omega)) hM rfl rfl rfl (qa_lt9 rfl) (qa_le9 rfl) (qa_le9 rfl) (qa_le9 rfl) (fun o9 τ9 hq9 => ?_)
        obtain ⟨⟨v1, rfl, hvb1, hv1⟩, e9, hM9, f9⟩ := hq9
        refine qa_nx (pc' := 97) (st' := [_, _, _]) rfl rfl rfl rfl ?_
        replace hi := (f9 _ (by omega)).trans hi
        replace hcm := (f9 _ (by omega)).trans hcm
        replace fr := fun q hq => (f9 q (by have := hq; omega)).trans (fr q hq)
        replace e0 := e9.trans e0
        replace hM := hM9
        refine qa_iastore (pc' := 98) ⟨rfl, rfl⟩ hcm (by omega) (by omega) ?_
        refine qa_gz (fun τ2 e2 w2 f2 => ?_)
        replace hM := (f2 _ (by omega)).trans hM
        replace hi := (f2 _ (by omega)).trans hi
        replace fr := fun q hq => (f2 q (by have := hq; omega)).trans (fr q hq)
        replace e0 := e2.trans e0
        have hcm := w2
        refine qa_aload_n (pc' := 99) ⟨rfl, rfl⟩ rfl ?_
        refine qa_getf (pc' := 102) ⟨rfl, rfl⟩ qg_10_48 (by assumption) rfl ?_
        refine qa_iload_n (pc' := 103) ⟨rfl, rfl⟩ rfl ?_
        refine qa_iconst (pc' := 104) ⟨rfl, rfl⟩ ?_
        refine qa_iadd (pc' := 105) ⟨rfl, rfl⟩ rfl ?_
        refine qa_aload_n (pc' := 106) ⟨rfl, rfl⟩ rfl ?_
        refine qa_bipush (z := 32) (pc' := 108) ⟨rfl, rfl⟩ rfl ?_
        refine qa_callV rfl qf_M_numberBehind ql_10_286 (c_M_numberBehind (E := E) (R := (sc_st t 78 (sc_st t 32 (sc_st t 68 R)))) hlo hM hi hg hch hl h25 (sc_st_B (x := 78) (sc_st_B (x := 32) (sc_st_B (x := 68) hB))) (by omega)) hM rfl rfl rfl (qa_lt9 rfl) (qa_le9 rfl) (qa_le9 rfl) (qa_le9 rfl) (fun o9 τ9 hq9 => ?_)
        obtain ⟨⟨v2, rfl, hvb2, hv2⟩, e9, hM9, f9⟩ := hq9
        refine qa_nx (pc' := 111) (st' := [_, _, _]) rfl rfl rfl rfl ?_
        replace hi := (f9 _ (by omega)).trans hi
        replace hcm := (f9 _ (by omega)).trans hcm
        replace fr := fun q hq => (f9 q (by have := hq; omega)).trans (fr q hq)
        replace e0 := e9.trans e0
        replace hM := hM9
        refine qa_iastore (pc' := 112) ⟨rfl, rfl⟩ hcm (by omega) (by omega) ?_
        refine qa_gz (fun τ3 e3 w3 f3 => ?_)
        replace hM := (f3 _ (by omega)).trans hM
        replace hi := (f3 _ (by omega)).trans hi
        replace fr := fun q hq => (f3 q (by have := hq; omega)).trans (fr q hq)
        replace e0 := e3.trans e0
        have hcm := w3
        refine qa_goto (pc' := 115) (tgt := 199) ⟨rfl, rfl⟩ rfl ?_
        refine qa_return rfl rfl (hQ _ _ ⟨rfl, e0, hM, ⟨_, hcm, fun q hq => by repeat rw [qa_up_ne (by omega)], fun h9 => ?_⟩, fr⟩)
        have q9 : (sc_st t 78 (sc_st t 32 (sc_st t 78 (sc_st t 32 (sc_st t 68 R))))).1 = 1 := h9
        have p2 := pm_c1 (sc_st_B (x := 32) (sc_st_B (x := 78) (sc_st_B (x := 32) (sc_st_B (x := 68) hB)))) q9
        have q2 := pm_c1 (sc_st_B (x := 78) (sc_st_B (x := 32) (sc_st_B (x := 68) hB))) p2
        have l2 := hv2 q9
        have m2 := sc_st_l (t := t) (x := 32) q2 (by omega)
        have p1 := pm_c1 (sc_st_B (x := 32) (sc_st_B (x := 68) hB)) q2
        have q1 := pm_c1 (sc_st_B (x := 68) hB) p1
        have l1 := hv1 q2
        have m1 := sc_st_l (t := t) (x := 32) q1 (by omega)
        have l0 := hv0 q1
        have q0 := pm_c1 hB q1
        exact pm_l3 (show (sc_st t 78 (sc_st t 32 (sc_st t 78 (sc_st t 32 (sc_st t 68 R))))).2.2 = [v0, v1, v2] by rw [l2, m2, l1, m1, l0, h0]; rfl)
      · exact absurd hc2 (by omega)
    · exact absurd hc1 (by omega)
  · refine qa_aload_n (pc' := 1) ⟨rfl, rfl⟩ rfl ?_
    refine qa_getf (pc' := 4) ⟨rfl, rfl⟩ qg_10_48 (by assumption) rfl ?_
    refine qa_iload_n (pc' := 5) ⟨rfl, rfl⟩ rfl ?_
    refine qa_iload_n (pc' := 6) ⟨rfl, rfl⟩ rfl ?_
    refine qa_if_ne (pc' := 9) (tgt := 13) ⟨rfl, rfl⟩ rfl (by omega) (fun hc1 => ?_) (fun hc1 => ?_)
    · refine qa_iload_n (pc' := 14) ⟨rfl, rfl⟩ rfl ?_
      refine qa_bipush (z := 7) (pc' := 16) ⟨rfl, rfl⟩ rfl ?_
      refine qa_icmp_le (pc' := 19) (tgt := 26) ⟨rfl, rfl⟩ rfl (by omega) (by omega) (fun hc2 => ?_) (fun hc2 => ?_)
      · refine qa_aload_n (pc' := 27) ⟨rfl, rfl⟩ rfl ?_
        refine qa_callV rfl qf_M_digit ql_10_277 (c_M_digit (E := E) (R := R) hlo hM hi hg hch hl h25 hB) hM rfl rfl rfl (qa_lt9 rfl) (qa_le9 rfl) (qa_le9 rfl) (qa_le9 rfl) (fun o9 τ9 hq9 => ?_)
        obtain ⟨⟨v0, rfl, hvb0, hv0⟩, e9, hM9, f9⟩ := hq9
        refine qa_nx (pc' := 30) (st' := [_, _, _]) rfl rfl rfl rfl ?_
        replace hi := (f9 _ (by omega)).trans hi
        replace hcm := (f9 _ (by omega)).trans hcm
        replace fr := fun q hq => (f9 q (by have := hq; omega)).trans (fr q hq)
        replace e0 := e9.trans e0
        replace hM := hM9
        refine qa_iastore (pc' := 31) ⟨rfl, rfl⟩ hcm (by omega) (by omega) ?_
        refine qa_gz (fun τ1 e1 w1 f1 => ?_)
        replace hM := (f1 _ (by omega)).trans hM
        replace hi := (f1 _ (by omega)).trans hi
        replace fr := fun q hq => (f1 q (by have := hq; omega)).trans (fr q hq)
        replace e0 := e1.trans e0
        have hcm := w1
        refine qa_iload_n (pc' := 32) ⟨rfl, rfl⟩ rfl ?_
        refine qa_tabIn (off := 83) (tgt := 115) rfl (by omega) (by omega) (by omega) rfl rfl ?_
        refine qa_aload_n (pc' := 116) ⟨rfl, rfl⟩ rfl ?_
        refine qa_getf (pc' := 119) ⟨rfl, rfl⟩ qg_10_48 (by assumption) rfl ?_
        refine qa_iload_n (pc' := 120) ⟨rfl, rfl⟩ rfl ?_
        refine qa_iconst (pc' := 121) ⟨rfl, rfl⟩ ?_
        refine qa_iadd (pc' := 122) ⟨rfl, rfl⟩ rfl ?_
        refine qa_aload_n (pc' := 123) ⟨rfl, rfl⟩ rfl ?_
        refine qa_bipush (z := 32) (pc' := 125) ⟨rfl, rfl⟩ rfl ?_
        refine qa_callV rfl qf_M_numberBehind ql_10_286 (c_M_numberBehind (E := E) (R := (sc_st t 68 R)) hlo hM hi hg hch hl h25 (sc_st_B (x := 68) hB) (by omega)) hM rfl rfl rfl (qa_lt9 rfl) (qa_le9 rfl) (qa_le9 rfl) (qa_le9 rfl) (fun o9 τ9 hq9 => ?_)
        obtain ⟨⟨v1, rfl, hvb1, hv1⟩, e9, hM9, f9⟩ := hq9
        refine qa_nx (pc' := 128) (st' := [_, _, _]) rfl rfl rfl rfl ?_
        replace hi := (f9 _ (by omega)).trans hi
        replace hcm := (f9 _ (by omega)).trans hcm
        replace fr := fun q hq => (f9 q (by have := hq; omega)).trans (fr q hq)
        replace e0 := e9.trans e0
        replace hM := hM9
        refine qa_iastore (pc' := 129) ⟨rfl, rfl⟩ hcm (by omega) (by omega) ?_
        refine qa_gz (fun τ2 e2 w2 f2 => ?_)
        replace hM := (f2 _ (by omega)).trans hM
        replace hi := (f2 _ (by omega)).trans hi
        replace fr := fun q hq => (f2 q (by have := hq; omega)).trans (fr q hq)
        replace e0 := e2.trans e0
        have hcm := w2
        refine qa_goto (pc' := 132) (tgt := 199) ⟨rfl, rfl⟩ rfl ?_
        refine qa_return rfl rfl (hQ _ _ ⟨rfl, e0, hM, ⟨_, hcm, fun q hq => by repeat rw [qa_up_ne (by omega)], fun h9 => ?_⟩, fr⟩)
        have q9 : (sc_st t 78 (sc_st t 32 (sc_st t 68 R))).1 = 1 := h9
        have p1 := pm_c1 (sc_st_B (x := 32) (sc_st_B (x := 68) hB)) q9
        have q1 := pm_c1 (sc_st_B (x := 68) hB) p1
        have l1 := hv1 q9
        have m1 := sc_st_l (t := t) (x := 32) q1 (by omega)
        have l0 := hv0 q1
        have q0 := pm_c1 hB q1
        exact pm_l2 (show (sc_st t 78 (sc_st t 32 (sc_st t 68 R))).2.2 = [v0, v1] by rw [l1, m1, l0, h0]; rfl)
      · exact absurd hc2 (by omega)
    · exact absurd hc1 (by omega)
  · refine qa_aload_n (pc' := 1) ⟨rfl, rfl⟩ rfl ?_
    refine qa_getf (pc' := 4) ⟨rfl, rfl⟩ qg_10_48 (by assumption) rfl ?_
    refine qa_iload_n (pc' := 5) ⟨rfl, rfl⟩ rfl ?_
    refine qa_iload_n (pc' := 6) ⟨rfl, rfl⟩ rfl ?_
    refine qa_if_ne (pc' := 9) (tgt := 13) ⟨rfl, rfl⟩ rfl (by omega) (fun hc1 => ?_) (fun hc1 => ?_)
    · refine qa_iload_n (pc' := 14) ⟨rfl, rfl⟩ rfl ?_
      refine qa_bipush (z := 7) (pc' := 16) ⟨rfl, rfl⟩ rfl ?_
      refine qa_icmp_le (pc' := 19) (tgt := 26) ⟨rfl, rfl⟩ rfl (by omega) (by omega) (fun hc2 => ?_) (fun hc2 => ?_)
      · refine qa_aload_n (pc' := 27) ⟨rfl, rfl⟩ rfl ?_
        refine qa_callV rfl qf_M_digit ql_10_277 (c_M_digit (E := E) (R := R) hlo hM hi hg hch hl h25 hB) hM rfl rfl rfl (qa_lt9 rfl) (qa_le9 rfl) (qa_le9 rfl) (qa_le9 rfl) (fun o9 τ9 hq9 => ?_)
        obtain ⟨⟨v0, rfl, hvb0, hv0⟩, e9, hM9, f9⟩ := hq9
        refine qa_nx (pc' := 30) (st' := [_, _, _]) rfl rfl rfl rfl ?_
        replace hi := (f9 _ (by omega)).trans hi
        replace hcm := (f9 _ (by omega)).trans hcm
        replace fr := fun q hq => (f9 q (by have := hq; omega)).trans (fr q hq)
        replace e0 := e9.trans e0
        replace hM := hM9
        refine qa_iastore (pc' := 31) ⟨rfl, rfl⟩ hcm (by omega) (by omega) ?_
        refine qa_gz (fun τ1 e1 w1 f1 => ?_)
        replace hM := (f1 _ (by omega)).trans hM
        replace hi := (f1 _ (by omega)).trans hi
        replace fr := fun q hq => (f1 q (by have := hq; omega)).trans (fr q hq)
        replace e0 := e1.trans e0
        have hcm := w1
        refine qa_iload_n (pc' := 32) ⟨rfl, rfl⟩ rfl ?_
        refine qa_tabIn (off := 167) (tgt := 199) rfl (by omega) (by omega) (by omega) rfl rfl ?_
        refine qa_return rfl rfl (hQ _ _ ⟨rfl, e0, hM, ⟨_, hcm, fun q hq => by repeat rw [qa_up_ne (by omega)], fun h9 => ?_⟩, fr⟩)
        have q9 : (sc_st t 68 R).1 = 1 := h9
        have l0 := hv0 q9
        have q0 := pm_c1 hB q9
        exact pm_l1 (show (sc_st t 68 R).2.2 = [v0] by rw [l0, h0]; rfl)
      · exact absurd hc2 (by omega)
    · exact absurd hc1 (by omega)
  · refine qa_aload_n (pc' := 1) ⟨rfl, rfl⟩ rfl ?_
    refine qa_getf (pc' := 4) ⟨rfl, rfl⟩ qg_10_48 (by assumption) rfl ?_
    refine qa_iload_n (pc' := 5) ⟨rfl, rfl⟩ rfl ?_
    refine qa_iload_n (pc' := 6) ⟨rfl, rfl⟩ rfl ?_
    refine qa_if_ne (pc' := 9) (tgt := 13) ⟨rfl, rfl⟩ rfl (by omega) (fun hc1 => ?_) (fun hc1 => ?_)
    · refine qa_iload_n (pc' := 14) ⟨rfl, rfl⟩ rfl ?_
      refine qa_bipush (z := 7) (pc' := 16) ⟨rfl, rfl⟩ rfl ?_
      refine qa_icmp_le (pc' := 19) (tgt := 26) ⟨rfl, rfl⟩ rfl (by omega) (by omega) (fun hc2 => ?_) (fun hc2 => ?_)
      · refine qa_aload_n (pc' := 27) ⟨rfl, rfl⟩ rfl ?_
        refine qa_callV rfl qf_M_digit ql_10_277 (c_M_digit (E := E) (R := R) hlo hM hi hg hch hl h25 hB) hM rfl rfl rfl (qa_lt9 rfl) (qa_le9 rfl) (qa_le9 rfl) (qa_le9 rfl) (fun o9 τ9 hq9 => ?_)
        obtain ⟨⟨v0, rfl, hvb0, hv0⟩, e9, hM9, f9⟩ := hq9
        refine qa_nx (pc' := 30) (st' := [_, _, _]) rfl rfl rfl rfl ?_
        replace hi := (f9 _ (by omega)).trans hi
        replace hcm := (f9 _ (by omega)).trans hcm
        replace fr := fun q hq => (f9 q (by have := hq; omega)).trans (fr q hq)
        replace e0 := e9.trans e0
        replace hM := hM9
        refine qa_iastore (pc' := 31) ⟨rfl, rfl⟩ hcm (by omega) (by omega) ?_
        refine qa_gz (fun τ1 e1 w1 f1 => ?_)
        replace hM := (f1 _ (by omega)).trans hM
        replace hi := (f1 _ (by omega)).trans hi
        replace fr := fun q hq => (f1 q (by have := hq; omega)).trans (fr q hq)
        replace e0 := e1.trans e0
        have hcm := w1
        refine qa_iload_n (pc' := 32) ⟨rfl, rfl⟩ rfl ?_
        refine qa_tabIn (off := 100) (tgt := 132) rfl (by omega) (by omega) (by omega) rfl rfl ?_
        refine qa_aload_n (pc' := 133) ⟨rfl, rfl⟩ rfl ?_
        refine qa_getf (pc' := 136) ⟨rfl, rfl⟩ qg_10_48 (by assumption) rfl ?_
        refine qa_iload_n (pc' := 137) ⟨rfl, rfl⟩ rfl ?_
        refine qa_iconst (pc' := 138) ⟨rfl, rfl⟩ ?_
        refine qa_iadd (pc' := 139) ⟨rfl, rfl⟩ rfl ?_
        refine qa_aload_n (pc' := 140) ⟨rfl, rfl⟩ rfl ?_
        refine qa_callV rfl qf_M_shiftBehind ql_10_289 (c_M_shiftBehind (E := E) (R := (sc_st t 68 R)) hlo hM hi hg hch hl h25 (sc_st_B (x := 68) hB)) hM rfl rfl rfl (qa_lt9 rfl) (qa_le9 rfl) (qa_le9 rfl) (qa_le9 rfl) (fun o9 τ9 hq9 => ?_)
        obtain ⟨⟨v1, rfl, hvb1, hv1⟩, e9, hM9, f9⟩ := hq9
        refine qa_nx (pc' := 143) (st' := [_, _, _]) rfl rfl rfl rfl ?_
        replace hi := (f9 _ (by omega)).trans hi
        replace hcm := (f9 _ (by omega)).trans hcm
        replace fr := fun q hq => (f9 q (by have := hq; omega)).trans (fr q hq)
        replace e0 := e9.trans e0
        replace hM := hM9
        refine qa_iastore (pc' := 144) ⟨rfl, rfl⟩ hcm (by omega) (by omega) ?_
        refine qa_gz (fun τ2 e2 w2 f2 => ?_)
        replace hM := (f2 _ (by omega)).trans hM
        replace hi := (f2 _ (by omega)).trans hi
        replace fr := fun q hq => (f2 q (by have := hq; omega)).trans (fr q hq)
        replace e0 := e2.trans e0
        have hcm := w2
        refine qa_goto (pc' := 147) (tgt := 199) ⟨rfl, rfl⟩ rfl ?_
        refine qa_return rfl rfl (hQ _ _ ⟨rfl, e0, hM, ⟨_, hcm, fun q hq => by repeat rw [qa_up_ne (by omega)], fun h9 => ?_⟩, fr⟩)
        have q9 : (sc_st t 83 (sc_st t 32 (sc_st t 68 R))).1 = 1 := h9
        have p1 := pm_c1 (sc_st_B (x := 32) (sc_st_B (x := 68) hB)) q9
        have q1 := pm_c1 (sc_st_B (x := 68) hB) p1
        have l1 := hv1 q9
        have m1 := sc_st_l (t := t) (x := 32) q1 (by omega)
        have l0 := hv0 q1
        have q0 := pm_c1 hB q1
        exact pm_l2 (show (sc_st t 83 (sc_st t 32 (sc_st t 68 R))).2.2 = [v0, v1] by rw [l1, m1, l0, h0]; rfl)
      · exact absurd hc2 (by omega)
    · exact absurd hc1 (by omega)
  · refine qa_aload_n (pc' := 1) ⟨rfl, rfl⟩ rfl ?_
    refine qa_getf (pc' := 4) ⟨rfl, rfl⟩ qg_10_48 (by assumption) rfl ?_
    refine qa_iload_n (pc' := 5) ⟨rfl, rfl⟩ rfl ?_
    refine qa_iload_n (pc' := 6) ⟨rfl, rfl⟩ rfl ?_
    refine qa_if_ne (pc' := 9) (tgt := 13) ⟨rfl, rfl⟩ rfl (by omega) (fun hc1 => ?_) (fun hc1 => ?_)
    · refine qa_iload_n (pc' := 14) ⟨rfl, rfl⟩ rfl ?_
      refine qa_bipush (z := 7) (pc' := 16) ⟨rfl, rfl⟩ rfl ?_
      refine qa_icmp_le (pc' := 19) (tgt := 26) ⟨rfl, rfl⟩ rfl (by omega) (by omega) (fun hc2 => ?_) (fun hc2 => ?_)
      · refine qa_aload_n (pc' := 27) ⟨rfl, rfl⟩ rfl ?_
        refine qa_callV rfl qf_M_digit ql_10_277 (c_M_digit (E := E) (R := R) hlo hM hi hg hch hl h25 hB) hM rfl rfl rfl (qa_lt9 rfl) (qa_le9 rfl) (qa_le9 rfl) (qa_le9 rfl) (fun o9 τ9 hq9 => ?_)
        obtain ⟨⟨v0, rfl, hvb0, hv0⟩, e9, hM9, f9⟩ := hq9
        refine qa_nx (pc' := 30) (st' := [_, _, _]) rfl rfl rfl rfl ?_
        replace hi := (f9 _ (by omega)).trans hi
        replace hcm := (f9 _ (by omega)).trans hcm
        replace fr := fun q hq => (f9 q (by have := hq; omega)).trans (fr q hq)
        replace e0 := e9.trans e0
        replace hM := hM9
        refine qa_iastore (pc' := 31) ⟨rfl, rfl⟩ hcm (by omega) (by omega) ?_
        refine qa_gz (fun τ1 e1 w1 f1 => ?_)
        replace hM := (f1 _ (by omega)).trans hM
        replace hi := (f1 _ (by omega)).trans hi
        replace fr := fun q hq => (f1 q (by have := hq; omega)).trans (fr q hq)
        replace e0 := e1.trans e0
        have hcm := w1
        refine qa_iload_n (pc' := 32) ⟨rfl, rfl⟩ rfl ?_
        refine qa_tabIn (off := 115) (tgt := 147) rfl (by omega) (by omega) (by omega) rfl rfl ?_
        refine qa_aload_n (pc' := 148) ⟨rfl, rfl⟩ rfl ?_
        refine qa_getf (pc' := 151) ⟨rfl, rfl⟩ qg_10_48 (by assumption) rfl ?_
        refine qa_iload_n (pc' := 152) ⟨rfl, rfl⟩ rfl ?_
        refine qa_iconst (pc' := 153) ⟨rfl, rfl⟩ ?_
        refine qa_iadd (pc' := 154) ⟨rfl, rfl⟩ rfl ?_
        refine qa_aload_n (pc' := 155) ⟨rfl, rfl⟩ rfl ?_
        refine qa_bipush (z := 32) (pc' := 157) ⟨rfl, rfl⟩ rfl ?_
        refine qa_callV rfl qf_M_numberBehind ql_10_286 (c_M_numberBehind (E := E) (R := (sc_st t 68 R)) hlo hM hi hg hch hl h25 (sc_st_B (x := 68) hB) (by omega)) hM rfl rfl rfl (qa_lt9 rfl) (qa_le9 rfl) (qa_le9 rfl) (qa_le9 rfl) (fun o9 τ9 hq9 => ?_)
        obtain ⟨⟨v1, rfl, hvb1, hv1⟩, e9, hM9, f9⟩ := hq9
        refine qa_nx (pc' := 160) (st' := [_, _, _]) rfl rfl rfl rfl ?_
        replace hi := (f9 _ (by omega)).trans hi
        replace hcm := (f9 _ (by omega)).trans hcm
        replace fr := fun q hq => (f9 q (by have := hq; omega)).trans (fr q hq)
        replace e0 := e9.trans e0
        replace hM := hM9
        refine qa_iastore (pc' := 161) ⟨rfl, rfl⟩ hcm (by omega) (by omega) ?_
        refine qa_gz (fun τ2 e2 w2 f2 => ?_)
        replace hM := (f2 _ (by omega)).trans hM
        replace hi := (f2 _ (by omega)).trans hi
        replace fr := fun q hq => (f2 q (by have := hq; omega)).trans (fr q hq)
        replace e0 := e2.trans e0
        have hcm := w2
        refine qa_aload_n (pc' := 162) ⟨rfl, rfl⟩ rfl ?_
        refine qa_getf (pc' := 165) ⟨rfl, rfl⟩ qg_10_48 (by assumption) rfl ?_
        refine qa_iload_n (pc' := 166) ⟨rfl, rfl⟩ rfl ?_
        refine qa_iconst (pc' := 167) ⟨rfl, rfl⟩ ?_
        refine qa_iadd (pc' := 168) ⟨rfl, rfl⟩ rfl ?_
        refine qa_aload_n (pc' := 169) ⟨rfl, rfl⟩ rfl ?_
        refine qa_bipush (z := 47) (pc' := 171) ⟨rfl, rfl⟩ rfl ?_
        refine qa_callV rfl qf_M_numberBehind ql_10_286 (c_M_numberBehind (E := E) (R := (sc_st t 78 (sc_st t 32 (sc_st t 68 R)))) hlo hM hi hg hch hl h25 (sc_st_B (x := 78) (sc_st_B (x := 32) (sc_st_B (x := 68) hB))) (by omega)) hM rfl rfl rfl (qa_lt9 rfl) (qa_le9 rfl) (qa_le9 rfl) (qa_le9 rfl) (fun o9 τ9 hq9 => ?_)
        obtain ⟨⟨v2, rfl, hvb2, hv2⟩, e9, hM9, f9⟩ := hq9
        refine qa_nx (pc' := 174) (st' := [_, _, _]) rfl rfl rfl rfl ?_
        replace hi := (f9 _ (by omega)).trans hi
        replace hcm := (f9 _ (by omega)).trans hcm
        replace fr := fun q hq => (f9 q (by have := hq; omega)).trans (fr q hq)
        replace e0 := e9.trans e0
        replace hM := hM9
        refine qa_iastore (pc' := 175) ⟨rfl, rfl⟩ hcm (by omega) (by omega) ?_
        refine qa_gz (fun τ3 e3 w3 f3 => ?_)
        replace hM := (f3 _ (by omega)).trans hM
        replace hi := (f3 _ (by omega)).trans hi
        replace fr := fun q hq => (f3 q (by have := hq; omega)).trans (fr q hq)
        replace e0 := e3.trans e0
        have hcm := w3
        refine qa_goto (pc' := 178) (tgt := 199) ⟨rfl, rfl⟩ rfl ?_
        refine qa_return rfl rfl (hQ _ _ ⟨rfl, e0, hM, ⟨_, hcm, fun q hq => by repeat rw [qa_up_ne (by omega)], fun h9 => ?_⟩, fr⟩)
        have q9 : (sc_st t 78 (sc_st t 47 (sc_st t 78 (sc_st t 32 (sc_st t 68 R))))).1 = 1 := h9
        have p2 := pm_c1 (sc_st_B (x := 47) (sc_st_B (x := 78) (sc_st_B (x := 32) (sc_st_B (x := 68) hB)))) q9
        have q2 := pm_c1 (sc_st_B (x := 78) (sc_st_B (x := 32) (sc_st_B (x := 68) hB))) p2
        have l2 := hv2 q9
        have m2 := sc_st_l (t := t) (x := 47) q2 (by omega)
        have p1 := pm_c1 (sc_st_B (x := 32) (sc_st_B (x := 68) hB)) q2
        have q1 := pm_c1 (sc_st_B (x := 68) hB) p1
        have l1 := hv1 q2
        have m1 := sc_st_l (t := t) (x := 32) q1 (by omega)
        have l0 := hv0 q1
        have q0 := pm_c1 hB q1
        exact pm_l3 (show (sc_st t 78 (sc_st t 47 (sc_st t 78 (sc_st t 32 (sc_st t 68 R))))).2.2 = [v0, v1, v2] by rw [l2, m2, l1, m1, l0, h0]; rfl)
      · exact absurd hc2 (by omega)
    · exact absurd hc1 (by omega)
  · refine qa_aload_n (pc' := 1) ⟨rfl, rfl⟩ rfl ?_
    refine qa_getf (pc' := 4) ⟨rfl, rfl⟩ qg_10_48 (by assumption) rfl ?_
    refine qa_iload_n (pc' := 5) ⟨rfl, rfl⟩ rfl ?_
    refine qa_iload_n (pc' := 6) ⟨rfl, rfl⟩ rfl ?_
    refine qa_if_ne (pc' := 9) (tgt := 13) ⟨rfl, rfl⟩ rfl (by omega) (fun hc1 => ?_) (fun hc1 => ?_)
    · refine qa_iload_n (pc' := 14) ⟨rfl, rfl⟩ rfl ?_
      refine qa_bipush (z := 7) (pc' := 16) ⟨rfl, rfl⟩ rfl ?_
      refine qa_icmp_le (pc' := 19) (tgt := 26) ⟨rfl, rfl⟩ rfl (by omega) (by omega) (fun hc2 => ?_) (fun hc2 => ?_)
      · refine qa_aload_n (pc' := 27) ⟨rfl, rfl⟩ rfl ?_
        refine qa_callV rfl qf_M_digit ql_10_277 (c_M_digit (E := E) (R := R) hlo hM hi hg hch hl h25 hB) hM rfl rfl rfl (qa_lt9 rfl) (qa_le9 rfl) (qa_le9 rfl) (qa_le9 rfl) (fun o9 τ9 hq9 => ?_)
        obtain ⟨⟨v0, rfl, hvb0, hv0⟩, e9, hM9, f9⟩ := hq9
        refine qa_nx (pc' := 30) (st' := [_, _, _]) rfl rfl rfl rfl ?_
        replace hi := (f9 _ (by omega)).trans hi
        replace hcm := (f9 _ (by omega)).trans hcm
        replace fr := fun q hq => (f9 q (by have := hq; omega)).trans (fr q hq)
        replace e0 := e9.trans e0
        replace hM := hM9
        refine qa_iastore (pc' := 31) ⟨rfl, rfl⟩ hcm (by omega) (by omega) ?_
        refine qa_gz (fun τ1 e1 w1 f1 => ?_)
        replace hM := (f1 _ (by omega)).trans hM
        replace hi := (f1 _ (by omega)).trans hi
        replace fr := fun q hq => (f1 q (by have := hq; omega)).trans (fr q hq)
        replace e0 := e1.trans e0
        have hcm := w1
        refine qa_iload_n (pc' := 32) ⟨rfl, rfl⟩ rfl ?_
        refine qa_tabIn (off := 146) (tgt := 178) rfl (by omega) (by omega) (by omega) rfl rfl ?_
        refine qa_aload_n (pc' := 179) ⟨rfl, rfl⟩ rfl ?_
        refine qa_bipush (z := 62) (pc' := 181) ⟨rfl, rfl⟩ rfl ?_
        refine qa_callV rfl qf_M_expects ql_10_280 (c_M_expects (E := E) (R := (sc_st t 68 R)) hlo hM hi hg hch hl h25 (sc_st_B (x := 68) hB) (by omega)) hM rfl rfl rfl (qa_lt9 rfl) (qa_le9 rfl) (qa_le9 rfl) (qa_le9 rfl) (fun o9 τ9 hq9 => ?_)
        obtain ⟨rfl, e9, hM9, f9⟩ := hq9
        refine qa_nx (pc' := 184) (st' := []) rfl rfl rfl rfl ?_
        replace hi := (f9 _ (by omega)).trans hi
        replace hcm := (f9 _ (by omega)).trans hcm
        replace fr := fun q hq => (f9 q (by have := hq; omega)).trans (fr q hq)
        replace e0 := e9.trans e0
        replace hM := hM9
        refine qa_aload_n (pc' := 185) ⟨rfl, rfl⟩ rfl ?_
        refine qa_getf (pc' := 188) ⟨rfl, rfl⟩ qg_10_48 (by assumption) rfl ?_
        refine qa_iload_n (pc' := 189) ⟨rfl, rfl⟩ rfl ?_
        refine qa_iconst (pc' := 190) ⟨rfl, rfl⟩ ?_
        refine qa_iadd (pc' := 191) ⟨rfl, rfl⟩ rfl ?_
        refine qa_aload_n (pc' := 192) ⟨rfl, rfl⟩ rfl ?_
        refine qa_callV rfl qf_M_digit ql_10_277 (c_M_digit (E := E) (R := (sc_st t 62 (sc_st t 68 R))) hlo hM hi hg hch hl h25 (sc_st_B (x := 62) (sc_st_B (x := 68) hB))) hM rfl rfl rfl (qa_lt9 rfl) (qa_le9 rfl) (qa_le9 rfl) (qa_le9 rfl) (fun o9 τ9 hq9 => ?_)
        obtain ⟨⟨v2, rfl, hvb2, hv2⟩, e9, hM9, f9⟩ := hq9
        refine qa_nx (pc' := 195) (st' := [_, _, _]) rfl rfl rfl rfl ?_
        replace hi := (f9 _ (by omega)).trans hi
        replace hcm := (f9 _ (by omega)).trans hcm
        replace fr := fun q hq => (f9 q (by have := hq; omega)).trans (fr q hq)
        replace e0 := e9.trans e0
        replace hM := hM9
        refine qa_iastore (pc' := 196) ⟨rfl, rfl⟩ hcm (by omega) (by omega) ?_
        refine qa_gz (fun τ2 e2 w2 f2 => ?_)
        replace hM := (f2 _ (by omega)).trans hM
        replace hi := (f2 _ (by omega)).trans hi
        replace fr := fun q hq => (f2 q (by have := hq; omega)).trans (fr q hq)
        replace e0 := e2.trans e0
        have hcm := w2
        refine qa_goto (pc' := 199) (tgt := 199) ⟨rfl, rfl⟩ rfl ?_
        refine qa_return rfl rfl (hQ _ _ ⟨rfl, e0, hM, ⟨_, hcm, fun q hq => by repeat rw [qa_up_ne (by omega)], fun h9 => ?_⟩, fr⟩)
        have q9 : (sc_st t 68 (sc_st t 62 (sc_st t 68 R))).1 = 1 := h9
        have l2 := hv2 q9
        have q2 := pm_c1 (sc_st_B (x := 62) (sc_st_B (x := 68) hB)) q9
        have q1 := pm_c1 (sc_st_B (x := 68) hB) q2
        have l1 := sc_st_l (t := t) (x := 62) q1 (by omega)
        have l0 := hv0 q1
        have q0 := pm_c1 hB q1
        exact pm_l2 (show (sc_st t 68 (sc_st t 62 (sc_st t 68 R))).2.2 = [v0, v2] by rw [l2, l1, l0, h0]; rfl)
      · exact absurd hc2 (by omega)
    · exact absurd hc1 (by omega)
  · refine qa_aload_n (pc' := 1) ⟨rfl, rfl⟩ rfl ?_
    refine qa_getf (pc' := 4) ⟨rfl, rfl⟩ qg_10_48 (by assumption) rfl ?_
    refine qa_iload_n (pc' := 5) ⟨rfl, rfl⟩ rfl ?_
    refine qa_iload_n (pc' := 6) ⟨rfl, rfl⟩ rfl ?_
    refine qa_if_ne (pc' := 9) (tgt := 13) ⟨rfl, rfl⟩ rfl (by omega) (fun hc1 => ?_) (fun hc1 => ?_)
    · refine qa_iload_n (pc' := 14) ⟨rfl, rfl⟩ rfl ?_
      refine qa_bipush (z := 7) (pc' := 16) ⟨rfl, rfl⟩ rfl ?_
      refine qa_icmp_le (pc' := 19) (tgt := 26) ⟨rfl, rfl⟩ rfl (by omega) (by omega) (fun hc2 => ?_) (fun hc2 => ?_)
      · refine qa_aload_n (pc' := 27) ⟨rfl, rfl⟩ rfl ?_
        refine qa_callV rfl qf_M_digit ql_10_277 (c_M_digit (E := E) (R := R) hlo hM hi hg hch hl h25 hB) hM rfl rfl rfl (qa_lt9 rfl) (qa_le9 rfl) (qa_le9 rfl) (qa_le9 rfl) (fun o9 τ9 hq9 => ?_)
        obtain ⟨⟨v0, rfl, hvb0, hv0⟩, e9, hM9, f9⟩ := hq9
        refine qa_nx (pc' := 30) (st' := [_, _, _]) rfl rfl rfl rfl ?_
        replace hi := (f9 _ (by omega)).trans hi
        replace hcm := (f9 _ (by omega)).trans hcm
        replace fr := fun q hq => (f9 q (by have := hq; omega)).trans (fr q hq)
        replace e0 := e9.trans e0
        replace hM := hM9
        refine qa_iastore (pc' := 31) ⟨rfl, rfl⟩ hcm (by omega) (by omega) ?_
        refine qa_gz (fun τ1 e1 w1 f1 => ?_)
        replace hM := (f1 _ (by omega)).trans hM
        replace hi := (f1 _ (by omega)).trans hi
        replace fr := fun q hq => (f1 q (by have := hq; omega)).trans (fr q hq)
        replace e0 := e1.trans e0
        have hcm := w1
        refine qa_iload_n (pc' := 32) ⟨rfl, rfl⟩ rfl ?_
        refine qa_tabIn (off := 167) (tgt := 199) rfl (by omega) (by omega) (by omega) rfl rfl ?_
        refine qa_return rfl rfl (hQ _ _ ⟨rfl, e0, hM, ⟨_, hcm, fun q hq => by repeat rw [qa_up_ne (by omega)], fun h9 => ?_⟩, fr⟩)
        have q9 : (sc_st t 68 R).1 = 1 := h9
        have l0 := hv0 q9
        have q0 := pm_c1 hB q9
        exact pm_l1 (show (sc_st t 68 R).2.2 = [v0] by rw [l0, h0]; rfl)
      · exact absurd hc2 (by omega)
    · exact absurd hc1 (by omega)
  · refine qa_aload_n (pc' := 1) ⟨rfl, rfl⟩ rfl ?_
    refine qa_getf (pc' := 4) ⟨rfl, rfl⟩ qg_10_48 (by assumption) rfl ?_
    refine qa_iload_n (pc' := 5) ⟨rfl, rfl⟩ rfl ?_
    refine qa_iload_n (pc' := 6) ⟨rfl, rfl⟩ rfl ?_
    refine qa_if_ne (pc' := 9) (tgt := 13) ⟨rfl, rfl⟩ rfl (by omega) (fun hc1 => ?_) (fun hc1 => ?_)
    · refine qa_iload_n (pc' := 14) ⟨rfl, rfl⟩ rfl ?_
      refine qa_bipush (z := 7) (pc' := 16) ⟨rfl, rfl⟩ rfl ?_
      refine qa_icmp_le (pc' := 19) (tgt := 26) ⟨rfl, rfl⟩ rfl (by omega) (by omega) (fun hc2 => ?_) (fun hc2 => ?_)
      · exact absurd hc2 (by omega)
      · refine qa_aload_n (pc' := 20) ⟨rfl, rfl⟩ rfl ?_
        refine qa_callV rfl qf_M_number ql_10_283 (c_M_number (E := E) (R := R) hlo hM hi hg hch hl h25 hB) hM rfl rfl rfl (qa_lt9 rfl) (qa_le9 rfl) (qa_le9 rfl) (qa_le9 rfl) (fun o9 τ9 hq9 => ?_)
        obtain ⟨⟨v0, rfl, hvb0, hv0⟩, e9, hM9, f9⟩ := hq9
        refine qa_nx (pc' := 23) (st' := [_, _, _]) rfl rfl rfl rfl ?_
        replace hi := (f9 _ (by omega)).trans hi
        replace hcm := (f9 _ (by omega)).trans hcm
        replace fr := fun q hq => (f9 q (by have := hq; omega)).trans (fr q hq)
        replace e0 := e9.trans e0
        replace hM := hM9
        refine qa_goto (pc' := 26) (tgt := 30) ⟨rfl, rfl⟩ rfl ?_
        refine qa_iastore (pc' := 31) ⟨rfl, rfl⟩ hcm (by omega) (by omega) ?_
        refine qa_gz (fun τ1 e1 w1 f1 => ?_)
        replace hM := (f1 _ (by omega)).trans hM
        replace hi := (f1 _ (by omega)).trans hi
        replace fr := fun q hq => (f1 q (by have := hq; omega)).trans (fr q hq)
        replace e0 := e1.trans e0
        have hcm := w1
        refine qa_iload_n (pc' := 32) ⟨rfl, rfl⟩ rfl ?_
        refine qa_tabIn (off := 167) (tgt := 199) rfl (by omega) (by omega) (by omega) rfl rfl ?_
        refine qa_return rfl rfl (hQ _ _ ⟨rfl, e0, hM, ⟨_, hcm, fun q hq => by repeat rw [qa_up_ne (by omega)], fun h9 => ?_⟩, fr⟩)
        have q9 : (sc_st t 78 R).1 = 1 := h9
        have l0 := hv0 q9
        have q0 := pm_c1 hB q9
        exact pm_l1 (show (sc_st t 78 R).2.2 = [v0] by rw [l0, h0]; rfl)
    · exact absurd hc1 (by omega)
  · refine qa_aload_n (pc' := 1) ⟨rfl, rfl⟩ rfl ?_
    refine qa_getf (pc' := 4) ⟨rfl, rfl⟩ qg_10_48 (by assumption) rfl ?_
    refine qa_iload_n (pc' := 5) ⟨rfl, rfl⟩ rfl ?_
    refine qa_iload_n (pc' := 6) ⟨rfl, rfl⟩ rfl ?_
    refine qa_if_ne (pc' := 9) (tgt := 13) ⟨rfl, rfl⟩ rfl (by omega) (fun hc1 => ?_) (fun hc1 => ?_)
    · refine qa_iload_n (pc' := 14) ⟨rfl, rfl⟩ rfl ?_
      refine qa_bipush (z := 7) (pc' := 16) ⟨rfl, rfl⟩ rfl ?_
      refine qa_icmp_le (pc' := 19) (tgt := 26) ⟨rfl, rfl⟩ rfl (by omega) (by omega) (fun hc2 => ?_) (fun hc2 => ?_)
      · exact absurd hc2 (by omega)
      · refine qa_aload_n (pc' := 20) ⟨rfl, rfl⟩ rfl ?_
        refine qa_callV rfl qf_M_number ql_10_283 (c_M_number (E := E) (R := R) hlo hM hi hg hch hl h25 hB) hM rfl rfl rfl (qa_lt9 rfl) (qa_le9 rfl) (qa_le9 rfl) (qa_le9 rfl) (fun o9 τ9 hq9 => ?_)
        obtain ⟨⟨v0, rfl, hvb0, hv0⟩, e9, hM9, f9⟩ := hq9
        refine qa_nx (pc' := 23) (st' := [_, _, _]) rfl rfl rfl rfl ?_
        replace hi := (f9 _ (by omega)).trans hi
        replace hcm := (f9 _ (by omega)).trans hcm
        replace fr := fun q hq => (f9 q (by have := hq; omega)).trans (fr q hq)
        replace e0 := e9.trans e0
        replace hM := hM9
        refine qa_goto (pc' := 26) (tgt := 30) ⟨rfl, rfl⟩ rfl ?_
        refine qa_iastore (pc' := 31) ⟨rfl, rfl⟩ hcm (by omega) (by omega) ?_
        refine qa_gz (fun τ1 e1 w1 f1 => ?_)
        replace hM := (f1 _ (by omega)).trans hM
        replace hi := (f1 _ (by omega)).trans hi
        replace fr := fun q hq => (f1 q (by have := hq; omega)).trans (fr q hq)
        replace e0 := e1.trans e0
        have hcm := w1
        refine qa_iload_n (pc' := 32) ⟨rfl, rfl⟩ rfl ?_
        refine qa_tabIn (off := 83) (tgt := 115) rfl (by omega) (by omega) (by omega) rfl rfl ?_
        refine qa_aload_n (pc' := 116) ⟨rfl, rfl⟩ rfl ?_
        refine qa_getf (pc' := 119) ⟨rfl, rfl⟩ qg_10_48 (by assumption) rfl ?_
        refine qa_iload_n (pc' := 120) ⟨rfl, rfl⟩ rfl ?_
        refine qa_iconst (pc' := 121) ⟨rfl, rfl⟩ ?_
        refine qa_iadd (pc' := 122) ⟨rfl, rfl⟩ rfl ?_
        refine qa_aload_n (pc' := 123) ⟨rfl, rfl⟩ rfl ?_
        refine qa_bipush (z := 32) (pc' := 125) ⟨rfl, rfl⟩ rfl ?_
        refine qa_callV rfl qf_M_numberBehind ql_10_286 (c_M_numberBehind (E := E) (R := (sc_st t 78 R)) hlo hM hi hg hch hl h25 (sc_st_B (x := 78) hB) (by omega)) hM rfl rfl rfl (qa_lt9 rfl) (qa_le9 rfl) (qa_le9 rfl) (qa_le9 rfl) (fun o9 τ9 hq9 => ?_)
        obtain ⟨⟨v1, rfl, hvb1, hv1⟩, e9, hM9, f9⟩ := hq9
        refine qa_nx (pc' := 128) (st' := [_, _, _]) rfl rfl rfl rfl ?_
        replace hi := (f9 _ (by omega)).trans hi
        replace hcm := (f9 _ (by omega)).trans hcm
        replace fr := fun q hq => (f9 q (by have := hq; omega)).trans (fr q hq)
        replace e0 := e9.trans e0
        replace hM := hM9
        refine qa_iastore (pc' := 129) ⟨rfl, rfl⟩ hcm (by omega) (by omega) ?_
        refine qa_gz (fun τ2 e2 w2 f2 => ?_)
        replace hM := (f2 _ (by omega)).trans hM
        replace hi := (f2 _ (by omega)).trans hi
        replace fr := fun q hq => (f2 q (by have := hq; omega)).trans (fr q hq)
        replace e0 := e2.trans e0
        have hcm := w2
        refine qa_goto (pc' := 132) (tgt := 199) ⟨rfl, rfl⟩ rfl ?_
        refine qa_return rfl rfl (hQ _ _ ⟨rfl, e0, hM, ⟨_, hcm, fun q hq => by repeat rw [qa_up_ne (by omega)], fun h9 => ?_⟩, fr⟩)
        have q9 : (sc_st t 78 (sc_st t 32 (sc_st t 78 R))).1 = 1 := h9
        have p1 := pm_c1 (sc_st_B (x := 32) (sc_st_B (x := 78) hB)) q9
        have q1 := pm_c1 (sc_st_B (x := 78) hB) p1
        have l1 := hv1 q9
        have m1 := sc_st_l (t := t) (x := 32) q1 (by omega)
        have l0 := hv0 q1
        have q0 := pm_c1 hB q1
        exact pm_l2 (show (sc_st t 78 (sc_st t 32 (sc_st t 78 R))).2.2 = [v0, v1] by rw [l1, m1, l0, h0]; rfl)
    · exact absurd hc1 (by omega)
  · refine qa_aload_n (pc' := 1) ⟨rfl, rfl⟩ rfl ?_
    refine qa_getf (pc' := 4) ⟨rfl, rfl⟩ qg_10_48 (by assumption) rfl ?_
    refine qa_iload_n (pc' := 5) ⟨rfl, rfl⟩ rfl ?_
    refine qa_iload_n (pc' := 6) ⟨rfl, rfl⟩ rfl ?_
    refine qa_if_ne (pc' := 9) (tgt := 13) ⟨rfl, rfl⟩ rfl (by omega) (fun hc1 => ?_) (fun hc1 => ?_)
    · refine qa_iload_n (pc' := 14) ⟨rfl, rfl⟩ rfl ?_
      refine qa_bipush (z := 7) (pc' := 16) ⟨rfl, rfl⟩ rfl ?_
      refine qa_icmp_le (pc' := 19) (tgt := 26) ⟨rfl, rfl⟩ rfl (by omega) (by omega) (fun hc2 => ?_) (fun hc2 => ?_)
      · exact absurd hc2 (by omega)
      · refine qa_aload_n (pc' := 20) ⟨rfl, rfl⟩ rfl ?_
        refine qa_callV rfl qf_M_number ql_10_283 (c_M_number (E := E) (R := R) hlo hM hi hg hch hl h25 hB) hM rfl rfl rfl (qa_lt9 rfl) (qa_le9 rfl) (qa_le9 rfl) (qa_le9 rfl) (fun o9 τ9 hq9 => ?_)
        obtain ⟨⟨v0, rfl, hvb0, hv0⟩, e9, hM9, f9⟩ := hq9
        refine qa_nx (pc' := 23) (st' := [_, _, _]) rfl rfl rfl rfl ?_
        replace hi := (f9 _ (by omega)).trans hi
        replace hcm := (f9 _ (by omega)).trans hcm
        replace fr := fun q hq => (f9 q (by have := hq; omega)).trans (fr q hq)
        replace e0 := e9.trans e0
        replace hM := hM9
        refine qa_goto (pc' := 26) (tgt := 30) ⟨rfl, rfl⟩ rfl ?_
        refine qa_iastore (pc' := 31) ⟨rfl, rfl⟩ hcm (by omega) (by omega) ?_
        refine qa_gz (fun τ1 e1 w1 f1 => ?_)
        replace hM := (f1 _ (by omega)).trans hM
        replace hi := (f1 _ (by omega)).trans hi
        replace fr := fun q hq => (f1 q (by have := hq; omega)).trans (fr q hq)
        replace e0 := e1.trans e0
        have hcm := w1
        refine qa_iload_n (pc' := 32) ⟨rfl, rfl⟩ rfl ?_
        refine qa_tabOut (tgt := 199) rfl (by omega) (by omega) rfl ?_
        refine qa_return rfl rfl (hQ _ _ ⟨rfl, e0, hM, ⟨_, hcm, fun q hq => by repeat rw [qa_up_ne (by omega)], fun h9 => ?_⟩, fr⟩)
        have q9 : (sc_st t 78 R).1 = 1 := h9
        have l0 := hv0 q9
        have q0 := pm_c1 hB q9
        exact pm_l1 (show (sc_st t 78 R).2.2 = [v0] by rw [l0, h0]; rfl)
    · exact absurd hc1 (by omega)
theorem c_M_readCommand {E : qa_V} {σ : qa_S} {μ : Nat} {F : Nat → Int} {t : List Int} {ip cm : Int → Int} {o cn : Int} (hlo : E.1 ≤ μ) (hM : σ.1 μ = some (qa_MoF μ (pm_F F (1, o, [])))) (hi : σ.1 (μ + 5) = some (qa_ia 60 ip)) (hg : ∀ j : Nat, j < t.length → t[j]? = some (ip j)) (hch : ∀ j : Int, 0 ≤ j → j < t.length → 0 ≤ sc_at t j ∧ sc_at t j ≤ 127) (hl : t.length ≤ 60) (hlt : σ.1 (μ + 8) = some (qa_ca 54 qM_let)) (hbg : σ.1 (μ + 9) = some (qa_ia 12 qM_beg)) (hcm : σ.1 (μ + 10) = some (qa_ia 244 cm)) (h25 : F 25 = (t.length : Int)) (h23 : F 23 = cn) (hcn : 0 ≤ cn ∧ cn ≤ 20) (ho : 0 ≤ o ∧ o ≤ t.length) : qa_T E qm_M_readCommand 0 0 [.ref μ] σ (fun o9 τ => o9 = .inl none ∧ τ.2 = σ.2 ∧ (∃ n1 : Int, τ.1 μ = some (qa_MoF μ (pm_F (sN_put F 23 n1) ((sc_tr t o 11 0 o).1, (sc_tr t o 11 0 o).2.1, []))) ∧ ((sc_tr t o 11 0 o).1 = 1 → n1 = cn + 1)) ∧ (∃ cm1 : Int → Int, τ.1 (μ + 10) = some (qa_ia 244 cm1) ∧ (∀ q : Int, q < 4 * cn → cm1 q = cm q) ∧ ((sc_tr t o 11 0 o).1 = 1 → cm1 (4 * cn) = ((sc_tr t o 11 0 o).2.2.1 : Int) ∧ ∀ j : Nat, j < (sc_tr t o 11 0 o).2.2.2.length → (sc_tr t o 11 0 o).2.2.2[j]? = some (cm1 (4 * cn + 1 + j)))) ∧ ∀ q, (q ≠ μ ∧ q ≠ μ + 10) → τ.1 q = σ.1 q) := by
  refine qa_enterQ (by decide) rfl qm_M_readCommand_ok rfl rfl (fun Q9 hQ => ?_)
  have e0 : σ.2 = σ.2 := rfl
  have fr : ∀ q, (q ≠ μ ∧ q ≠ μ + 10) → σ.1 q = σ.1 q := fun _ _ => rfl
  obtain ⟨wb1, wb2⟩ := pm_w_b t o 10
  have hT := pm_tr (t := t) ho
  refine qa_iconst (pc' := 1) ⟨rfl, rfl⟩ ?_
  refine qa_aload_n (pc' := 2) ⟨rfl, rfl⟩ rfl ?_
  refine qa_getf (v := .int (qa_i (F 23))) (pc' := 5) ⟨rfl, rfl⟩ qg_10_292 hM rfl ?_
  refine qa_imul (z := 4 * cn) (pc' := 6) ⟨rfl, rfl⟩ (by omega) ?_
  refine qa_istore_n (L' := [(0, _), (1, _)]) (pc' := 7) ⟨rfl, rfl⟩ rfl rfl ?_
  refine qa_iconst (pc' := 8) ⟨rfl, rfl⟩ ?_
  refine qa_istore_n (L' := [(0, _), (1, _), (2, _)]) (pc' := 9) ⟨rfl, rfl⟩ rfl rfl ?_
  refine qa_iconst (pc' := 10) ⟨rfl, rfl⟩ ?_
  refine qa_istore_n (L' := [(0, _), (1, _), (2, _), (3, _)]) (pc' := 11) ⟨rfl, rfl⟩ rfl rfl ?_
  have lp : ∀ (f9 : Nat) (k : Nat), (k + f9 = 10) → qa_W E qm_M_readCommand Q9 0 0 11 [(0, .ref μ), (1, .int (qa_i (4 * cn))), (2, .int (qa_i (pm_w t o k : Int))), (3, .int (qa_i ((k : Int) + 1)))] [] σ := by
    intro f9
    induction f9 with
    | zero =>
      intro k hkf
      refine qa_iload_n (pc' := 12) ⟨rfl, rfl⟩ rfl ?_
      refine qa_bipush (z := 11) (pc' := 14) ⟨rfl, rfl⟩ rfl ?_
      refine qa_icmp_ge (pc' := 17) (tgt := 42) ⟨rfl, rfl⟩ rfl (by omega) (by omega) (fun hc1 => ?_) (fun hc1 => ?_)
      · obtain rfl : k = 10 := by omega
        generalize hw : pm_w t o 10 = w at *
        obtain ⟨⟨tb1, tb2, tb3⟩, tb4, tb5⟩ := pm_tb' (show w < 11 by omega)
        obtain ⟨lb1, lb2, lb3⟩ := pm_lk_b t o w
        refine qa_aload_n (pc' := 43) ⟨rfl, rfl⟩ rfl ?_
        refine qa_iload_n (pc' := 44) ⟨rfl, rfl⟩ rfl ?_
        refine qa_callV rfl qf_M_likeness ql_10_295 (c_M_likeness (E := E) (o := o) (k := w) hM hi hg hch hl hlt hbg rfl h25 ho (by omega)) hM rfl rfl rfl (qa_lt9 rfl) (qa_le9 rfl) (qa_le9 rfl) (qa_le9 rfl) (fun o9 τ9 hq9 => ?_)
        obtain ⟨rfl, hq9⟩ := hq9
        replace hq9 := hq9.symm; subst hq9
        refine qa_nx (pc' := 47) (st' := [_]) rfl rfl rfl rfl ?_
        have hM9 : σ.1 μ = some (qa_MoF μ (sN_put (sN_put F 26 (1 - 1)) 24 o)) := hM
        clear hM
        have hM := hM9
        clear hM9
        refine qa_istore_n (L' := [(0, _), (1, _), (2, _), (3, _)]) (pc' := 48) ⟨rfl, rfl⟩ rfl rfl ?_
        refine qa_aload_n (pc' := 49) ⟨rfl, rfl⟩ rfl ?_
        refine qa_dup (pc' := 50) ⟨rfl, rfl⟩ rfl ?_
        refine qa_getf (v := .int (qa_i o)) (pc' := 53) ⟨rfl, rfl⟩ qg_10_262 hM rfl ?_
        refine qa_iload_n (pc' := 54) ⟨rfl, rfl⟩ rfl ?_
        refine qa_iadd (z := o + (pm_lk t o w : Int)) (pc' := 55) ⟨rfl, rfl⟩ (by omega) ?_
        refine qa_putf (fs' := [_, _, _, _, _, _, _, _, _, _, _, _, _, _, _, _, _, _, _, _, _, _, _, _, _, _, _]) (pc' := 58) ⟨rfl, rfl⟩ qg_10_262 qw_9 hM (by omega) rfl (fun r hr => by cases hr; exact ⟨rfl, Or.inl rfl⟩) rfl rfl ?_
        refine qa_gz (fun τ1 e1 w1 f1 => ?_)
        replace hi := (f1 _ (by omega)).trans hi
        replace hlt := (f1 _ (by omega)).trans hlt
        replace hbg := (f1 _ (by omega)).trans hbg
        replace hcm := (f1 _ (by omega)).trans hcm
        replace fr := fun q hq => (f1 q (by have := hq; omega)).trans (fr q hq)
        replace e0 := e1.trans e0
        have hM : τ1.1 μ = some (qa_MoF μ (sN_put (sN_put (sN_put F 26 (1 - 1)) 24 o) 24 (o + (pm_lk t o w : Int)))) := w1
        refine qa_aload_n (pc' := 59) ⟨rfl, rfl⟩ rfl ?_
        refine qa_iload_n (pc' := 60) ⟨rfl, rfl⟩ rfl ?_
        refine qa_aload_n (pc' := 61) ⟨rfl, rfl⟩ rfl ?_
        refine qa_getf (pc' := 64) ⟨rfl, rfl⟩ qg_10_45 (by assumption) rfl ?_
        refine qa_iload_n (pc' := 65) ⟨rfl, rfl⟩ rfl ?_
        refine qa_iconst (pc' := 66) ⟨rfl, rfl⟩ ?_
        refine qa_iadd (pc' := 67) ⟨rfl, rfl⟩ rfl ?_
        refine qa_iaload (pc' := 68) ⟨rfl, rfl⟩ hbg (by omega) ?_
        refine qa_aload_n (pc' := 69) ⟨rfl, rfl⟩ rfl ?_
        refine qa_getf (pc' := 72) ⟨rfl, rfl⟩ qg_10_45 (by assumption) rfl ?_
        refine qa_iload_n (pc' := 73) ⟨rfl, rfl⟩ rfl ?_
        refine qa_iaload (pc' := 74) ⟨rfl, rfl⟩ hbg (by omega) ?_
        refine qa_isub (z := (qz_kw w : Int)) (pc' := 75) ⟨rfl, rfl⟩ tb1 ?_
        refine qa_icmp_ge (pc' := 78) (tgt := 82) ⟨rfl, rfl⟩ rfl (by omega) (by omega) (fun hc3 => ?_) (fun hc3 => ?_)
        · have elk : pm_lk t o w = qz_kw w := by omega
          refine qa_iconst (pc' := 83) ⟨rfl, rfl⟩ ?_
          refine qa_putf (fs' := [_, _, _, _, _, _, _, _, _, _, _, _, _, _, _, _, _, _, _, _, _, _, _, _, _, _, _]) (pc' := 86) ⟨rfl, rfl⟩ qg_10_268 qw_9 hM (by omega) rfl (fun r hr => by cases hr; exact ⟨rfl, Or.inl rfl⟩) rfl rfl ?_
          refine qa_gz (fun τ2 e2 w2 f2 => ?_)
          replace hi := (f2 _ (by omega)).trans hi
          replace hlt := (f2 _ (by omega)).trans hlt
          replace hbg := (f2 _ (by omega)).trans hbg
          replace hcm := (f2 _ (by omega)).trans hcm
          replace fr := fun q hq => (f2 q (by have := hq; omega)).trans (fr q hq)
          replace e0 := e2.trans e0
          have hM : τ2.1 μ = some (qa_MoF μ (sN_put (sN_put (sN_put (sN_put F 26 (1 - 1)) 24 o) 24 (o + (pm_lk t o w : Int))) 26 0)) := w2
          rw [sN_5, pm_F_of (w := 0) (o := o + (pm_lk t o w : Int)) (R := (1, o + (pm_lk t o w : Int), [])) rfl rfl] at hM
          refine qa_aload_n (pc' := 87) ⟨rfl, rfl⟩ rfl ?_
          refine qa_getf (v := .int (qa_i (1 - 1))) (pc' := 90) ⟨rfl, rfl⟩ qg_10_268 hM rfl ?_
          refine qa_if_ne (pc' := 93) (tgt := 118) ⟨rfl, rfl⟩ rfl (by omega) (fun hc4 => ?_) (fun hc4 => ?_)
          · exact absurd rfl hc4
          · refine qa_aload_n (pc' := 94) ⟨rfl, rfl⟩ rfl ?_
            refine qa_getf (pc' := 97) ⟨rfl, rfl⟩ qg_10_48 (by assumption) rfl ?_
            refine qa_iload_n (pc' := 98) ⟨rfl, rfl⟩ rfl ?_
            refine qa_iload_n (pc' := 99) ⟨rfl, rfl⟩ rfl ?_
            refine qa_iastore (pc' := 100) ⟨rfl, rfl⟩ hcm (by omega) (by omega) ?_
            refine qa_gz (fun τ3 e3 w3 f3 => ?_)
            replace hi := (f3 _ (by omega)).trans hi
            replace hlt := (f3 _ (by omega)).trans hlt
            replace hbg := (f3 _ (by omega)).trans hbg
            replace hM := (f3 _ (by omega)).trans hM
            replace fr := fun q hq => (f3 q (by have := hq; omega)).trans (fr q hq)
            replace e0 := e3.trans e0
            have hcm := w3
            refine qa_aload_n (pc' := 101) ⟨rfl, rfl⟩ rfl ?_
            refine qa_dup (pc' := 102) ⟨rfl, rfl⟩ rfl ?_
            refine qa_getf (v := .int (qa_i (F 23))) (pc' := 105) ⟨rfl, rfl⟩ qg_10_292 hM rfl ?_
            refine qa_iconst (pc' := 106) ⟨rfl, rfl⟩ ?_
            refine qa_iadd (z := cn + 1) (pc' := 107) ⟨rfl, rfl⟩ (by omega) ?_
            refine qa_putf (fs' := [_, _, _, _, _, _, _, _, _, _, _, _, _, _, _, _, _, _, _, _, _, _, _, _, _, _, _]) (pc' := 110) ⟨rfl, rfl⟩ qg_10_292 qw_9 hM (by omega) rfl (fun r hr => by cases hr; exact ⟨rfl, Or.inl rfl⟩) rfl rfl ?_
            refine qa_gz (fun τ4 e4 w4 f4 => ?_)
            replace hi := (f4 _ (by omega)).trans hi
            replace hlt := (f4 _ (by omega)).trans hlt
            replace hbg := (f4 _ (by omega)).trans hbg
            replace hcm := (f4 _ (by omega)).trans hcm
            replace fr := fun q hq => (f4 q (by have := hq; omega)).trans (fr q hq)
            replace e0 := e4.trans e0
            have hM : τ4.1 μ = some (qa_MoF μ (sN_put (pm_F F (1, o + (pm_lk t o w : Int), [])) 23 (cn + 1))) := w4
            rw [show sN_put (pm_F F (1, o + (pm_lk t o w : Int), [])) 23 (cn + 1) = pm_F (sN_put F 23 (cn + 1)) (1, o + (pm_lk t o w : Int), []) from sN_6 _ _ _ _] at hM
            refine qa_aload_n (pc' := 111) ⟨rfl, rfl⟩ rfl ?_
            refine qa_iload_n (pc' := 112) ⟨rfl, rfl⟩ rfl ?_
            refine qa_iload_n (pc' := 113) ⟨rfl, rfl⟩ rfl ?_
            refine qa_iconst (pc' := 114) ⟨rfl, rfl⟩ ?_
            refine qa_iadd (z := 4 * cn + 1) (pc' := 115) ⟨rfl, rfl⟩ (by omega) ?_
            have hle : o + (pm_lk t o w : Int) ≤ t.length := by have := (lb2 (pm_lk t o w - 1) (by omega)).1; omega
            refine qa_callV rfl qf_M_readArguments ql_10_298 (c_M_readArguments (E := E) (k := w) (R := (1, o + (pm_lk t o w : Int), [])) hlo hM hi hg hch hl (show sN_put F 23 (cn + 1) 25 = _ from h25) ⟨Or.inr rfl, by show 0 ≤ o + (pm_lk t o w : Int); omega, hle⟩ hcm (by omega) (by omega) rfl rfl) hM rfl rfl rfl (qa_lt9 rfl) (qa_le9 rfl) (qa_le9 rfl) (qa_le9 rfl) (fun o9 τ9 hq9 => ?_)
            obtain ⟨rfl, e9, hM9, ⟨cm1, hcm1, hq1, hl1⟩, f9⟩ := hq9
            refine qa_nx (pc' := 118) (st' := []) rfl rfl rfl rfl ?_
            have eR : pm_ra t w (1, o + (pm_lk t o w : Int), []) = sc_k t o w := by rw [pm_ra_k (show w < 11 by omega), pm_k_yes (by omega) elk, elk]
            rw [eR] at hM9 hl1
            obtain ⟨t1, t2, t3⟩ := hT.2 elk
            rw [show pm_F (sN_put F 23 (cn + 1)) (sc_k t o w) = pm_F (sN_put F 23 (cn + 1)) ((sc_tr t o 11 0 o).1, (sc_tr t o 11 0 o).2.1, []) by unfold pm_F; rw [t1, t2]] at hM9
            refine qa_return rfl rfl (hQ _ _ ⟨rfl, e9.trans e0, ⟨_, hM9, fun _ => rfl⟩, ⟨cm1, hcm1, fun q hq => by rw [hq1 q (by omega), qa_up_ne (by omega)], fun h9 => ?_⟩, fun q hq => (f9 q hq).trans (fr q hq)⟩)
            rw [t3 (t1.symm.trans h9)]
            exact ⟨by rw [hq1 _ (by omega), qa_up_eq], hl1 (t1.symm.trans h9)⟩
        · have elk : pm_lk t o w < qz_kw w := by omega
          refine qa_iconst (pc' := 79) ⟨rfl, rfl⟩ ?_
          refine qa_goto (pc' := 82) (tgt := 83) ⟨rfl, rfl⟩ rfl ?_
          refine qa_putf (fs' := [_, _, _, _, _, _, _, _, _, _, _, _, _, _, _, _, _, _, _, _, _, _, _, _, _, _, _]) (pc' := 86) ⟨rfl, rfl⟩ qg_10_268 qw_9 hM (by omega) rfl (fun r hr => by cases hr; exact ⟨rfl, Or.inl rfl⟩) rfl rfl ?_
          refine qa_gz (fun τ2 e2 w2 f2 => ?_)
          replace hi := (f2 _ (by omega)).trans hi
          replace hlt := (f2 _ (by omega)).trans hlt
          replace hbg := (f2 _ (by omega)).trans hbg
          replace hcm := (f2 _ (by omega)).trans hcm
          replace fr := fun q hq => (f2 q (by have := hq; omega)).trans (fr q hq)
          replace e0 := e2.trans e0
          have hM : τ2.1 μ = some (qa_MoF μ (sN_put (sN_put (sN_put (sN_put F 26 (1 - 1)) 24 o) 24 (o + (pm_lk t o w : Int))) 26 1)) := w2
          obtain ⟨t1, t2⟩ := hT.1 elk
          rw [sN_5, pm_F_of (w := 1) (o := o + (pm_lk t o w : Int)) (R := ((sc_tr t o 11 0 o).1, (sc_tr t o 11 0 o).2.1, [])) (by rw [t1]; rfl) t2.symm] at hM
          have hM7 := hM
          have t1b := t1
          refine qa_aload_n (pc' := 87) ⟨rfl, rfl⟩ rfl ?_
          refine qa_getf (v := .int (qa_i (1 - (sc_tr t o 11 0 o).1))) (pc' := 90) ⟨rfl, rfl⟩ qg_10_268 hM rfl ?_
          refine qa_if_ne (pc' := 93) (tgt := 118) ⟨rfl, rfl⟩ rfl (by omega) (fun hc4 => ?_) (fun hc4 => ?_)
          · refine qa_return rfl rfl (hQ _ _ ⟨rfl, e0, ⟨cn, by rw [sN_id h23]; exact hM, fun h9 => absurd (t1.symm.trans h9) (by decide)⟩, ⟨cm, hcm, fun _ _ => rfl, fun h9 => absurd (t1.symm.trans h9) (by decide)⟩, fr⟩)
          · exact absurd hc4 (by omega)
      · exact absurd hc1 (by omega)
    | succ f9 ih =>
      intro k hkf
      have wk := pm_w_b t o k
      refine qa_iload_n (pc' := 12) ⟨rfl, rfl⟩ rfl ?_
      refine qa_bipush (z := 11) (pc' := 14) ⟨rfl, rfl⟩ rfl ?_
      refine qa_icmp_ge (pc' := 17) (tgt := 42) ⟨rfl, rfl⟩ rfl (by omega) (by omega) (fun hc1 => ?_) (fun hc1 => ?_)
      · exact absurd hc1 (by omega)
      · refine qa_aload_n (pc' := 18) ⟨rfl, rfl⟩ rfl ?_
        refine qa_iload_n (pc' := 19) ⟨rfl, rfl⟩ rfl ?_
        rw [show ((k : Int) + 1) = ((k + 1 : Nat) : Int) by omega]
        refine qa_callV rfl qf_M_likeness ql_10_295 (c_M_likeness (E := E) (o := o) (k := k + 1) hM hi hg hch hl hlt hbg rfl h25 ho (by omega)) hM rfl rfl rfl (qa_lt9 rfl) (qa_le9 rfl) (qa_le9 rfl) (qa_le9 rfl) (fun o9 τ9 hq9 => ?_)
        obtain ⟨rfl, hq9⟩ := hq9
        replace hq9 := hq9.symm; subst hq9
        refine qa_nx (pc' := 22) (st' := [_]) rfl rfl rfl rfl ?_
        refine qa_aload_n (pc' := 23) ⟨rfl, rfl⟩ rfl ?_
        refine qa_iload_n (pc' := 24) ⟨rfl, rfl⟩ rfl ?_
        refine qa_callV rfl qf_M_likeness ql_10_295 (c_M_likeness (E := E) (o := o) (k := pm_w t o k) hM hi hg hch hl hlt hbg rfl h25 ho (by omega)) hM rfl rfl rfl (qa_lt9 rfl) (qa_le9 rfl) (qa_le9 rfl) (qa_le9 rfl) (fun o9 τ9 hq9 => ?_)
        obtain ⟨rfl, hq9⟩ := hq9
        replace hq9 := hq9.symm; subst hq9
        refine qa_nx (pc' := 27) (st' := [_, _]) rfl rfl rfl rfl ?_
        have b1 := (pm_lk_b t o (k + 1)).1
        have b2 := (pm_lk_b t o (pm_w t o k)).1
        have b3 := (pm_tb' (show k + 1 < 11 by omega)).2.1
        have b4 := (pm_tb' (show pm_w t o k < 11 by omega)).2.1
        refine qa_icmp_le (pc' := 30) (tgt := 34) ⟨rfl, rfl⟩ rfl (by omega) (by omega) (fun hc2 => ?_) (fun hc2 => ?_)
        · refine qa_iload_n (pc' := 35) ⟨rfl, rfl⟩ rfl ?_
          refine qa_istore_n (L' := [(0, _), (1, _), (2, _), (3, _)]) (pc' := 36) ⟨rfl, rfl⟩ rfl rfl ?_
          refine qa_iinc (L' := [(0, _), (1, _), (2, _), (3, _)]) (z := ((k + 1 : Nat) : Int) + 1) (pc' := 39) ⟨rfl, rfl⟩ rfl (by omega) rfl rfl ?_
          refine qa_goto (pc' := 42) (tgt := 11) ⟨rfl, rfl⟩ rfl ?_
          have ew : pm_w t o (k + 1) = pm_w t o k := if_neg (by omega)
          have hih := ih (k + 1) (by omega)
          rw [ew] at hih
          exact hih
        · refine qa_iload_n (pc' := 31) ⟨rfl, rfl⟩ rfl ?_
          refine qa_goto (pc' := 34) (tgt := 35) ⟨rfl, rfl⟩ rfl ?_
          refine qa_istore_n (L' := [(0, _), (1, _), (2, _), (3, _)]) (pc' := 36) ⟨rfl, rfl⟩ rfl rfl ?_
          refine qa_iinc (L' := [(0, _), (1, _), (2, _), (3, _)]) (z := ((k + 1 : Nat) : Int) + 1) (pc' := 39) ⟨rfl, rfl⟩ rfl (by omega) rfl rfl ?_
          refine qa_goto (pc' := 42) (tgt := 11) ⟨rfl, rfl⟩ rfl ?_
          have ew : pm_w t o (k + 1) = k + 1 := if_pos (by omega)
          have hih := ih (k + 1) (by omega)
          rw [ew] at hih
          exact hih
  exact lp 10 0 rfl
