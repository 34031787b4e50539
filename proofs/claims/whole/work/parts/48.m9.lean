theorem qa_cp_s (f g : Int → Int) (sp dp : Int) (k : Nat) : qa_up (qa_cp f g sp dp k) (dp + k) (f (sp + k)) = qa_cp f g sp dp ((k + 1 : Nat) : Int) := by
  funext q
  unfold qa_up qa_cp
  by_cases h : q = dp + k
  · rw [if_pos h, h, if_pos (by omega)]
    congr 1
    omega
  · rw [if_neg h]
    by_cases h2 : dp ≤ q ∧ q < dp + k
    · rw [if_pos h2, if_pos (by omega)]
    · rw [if_neg h2, if_neg (by omega)]
theorem qa_cp_z (f g : Int → Int) (sp dp : Int) : qa_cp f g sp dp ((0 : Nat) : Int) = g := by
  funext q
  exact if_neg (by omega)
theorem qa_cp_out {f g : Int → Int} {sp dp n q : Int} (h : q < dp ∨ dp + n ≤ q) : qa_cp f g sp dp n q = g q := if_neg (by omega)
theorem qa_cp_in {f g : Int → Int} {sp dp n q : Int} (h : dp ≤ q ∧ q < dp + n) : qa_cp f g sp dp n q = f (sp + (q - dp)) := if_pos h
def sN_ch (f : Nat → Int) : Nat → Int := if 0 < f 12 then (if 0 < f 10 then sN_put (sN_put (sN_put f 7 (f 10)) 8 (f 11)) 9 (-1) else f) else sN_put f 5 (if f 5 = 8 then 8 else f 5 + 1)
def sm_ph (f : Nat → Int) (as ps : Int → Int) : Int → Int := if 0 < f 12 then ps else if f 5 = 8 then qa_cp as (qa_cp ps ps 146 0 1022) 0 1022 146 else qa_cp as ps 0 (146 * f 5) 146
theorem c_M_starts {E : qa_V} {σ : qa_S} {μ : Nat} {f : Nat → Int} {m as : Int → Int} (hlo : E.1 ≤ μ) (hM : σ.1 μ = some (qa_MoF μ f)) (hm : σ.1 (μ + 1) = some (qa_ia 146 m)) (ha : σ.1 (μ + 2) = some (qa_ia 146 as)) : qa_T E qm_M_starts 0 0 [.ref μ] σ (fun o9 τ => o9 = .inl none ∧ τ.2 = σ.2 ∧ τ.1 μ = some (qa_MoF μ (sN_put (sN_put f 12 0) 10 0)) ∧ τ.1 (μ + 2) = some (qa_ia 146 (qa_cp m as 0 0 146)) ∧ ∀ q, (q ≠ μ ∧ q ≠ μ + 2) → τ.1 q = σ.1 q) := by
  refine qa_enterQ (by decide) rfl qm_M_starts_ok rfl rfl (fun Q9 hQ => ?_)
  have e0 : σ.2 = σ.2 := rfl
  have fr : ∀ q, (q ≠ μ ∧ q ≠ μ + 2) → σ.1 q = σ.1 q := fun _ _ => rfl
  refine qa_aload_n (pc' := 1) ⟨rfl, rfl⟩ rfl ?_
  refine qa_iconst (pc' := 2) ⟨rfl, rfl⟩ ?_
  refine qa_putf (fs' := [_, _, _, _, _, _, _, _, _, _, _, _, _, _, _, _, _, _, _, _, _, _, _, _, _, _, _]) (pc' := 5) ⟨rfl, rfl⟩ qg_10_51 qw_9 hM (by omega) rfl (fun r hr => by cases hr; exact ⟨rfl, Or.inl rfl⟩) rfl rfl ?_
  refine qa_gz (fun τ1 e1 w1 f1 => ?_)
  replace hm := (f1 _ (by omega)).trans hm
  replace ha := (f1 _ (by omega)).trans ha
  replace fr := fun q hq => (f1 q (by have := hq; omega)).trans (fr q hq)
  replace e0 := e1.trans e0
  have hM : τ1.1 μ = some (qa_MoF μ (sN_put f 12 0)) := w1
  refine qa_aload_n (pc' := 6) ⟨rfl, rfl⟩ rfl ?_
  refine qa_iconst (pc' := 7) ⟨rfl, rfl⟩ ?_
  refine qa_putf (fs' := [_, _, _, _, _, _, _, _, _, _, _, _, _, _, _, _, _, _, _, _, _, _, _, _, _, _, _]) (pc' := 10) ⟨rfl, rfl⟩ qg_10_54 qw_9 hM (by omega) rfl (fun r hr => by cases hr; exact ⟨rfl, Or.inl rfl⟩) rfl rfl ?_
  refine qa_gz (fun τ2 e2 w2 f2 => ?_)
  replace hm := (f2 _ (by omega)).trans hm
  replace ha := (f2 _ (by omega)).trans ha
  replace fr := fun q hq => (f2 q (by have := hq; omega)).trans (fr q hq)
  replace e0 := e2.trans e0
  have hM : τ2.1 μ = some (qa_MoF μ (sN_put (sN_put f 12 0) 10 0)) := w2
  refine qa_iconst (pc' := 11) ⟨rfl, rfl⟩ ?_
  refine qa_istore_n (L' := [(0, _), (1, _)]) (pc' := 12) ⟨rfl, rfl⟩ rfl rfl ?_
  have T1 : ∀ (f9 : Nat) (τ : qa_S) (k : Nat), ((k : Int) + f9 = 146 ∧ τ.2 = σ.2 ∧ τ.1 μ = some (qa_MoF μ (sN_put (sN_put f 12 0) 10 0)) ∧ τ.1 (μ + 1) = some (qa_ia 146 m) ∧ τ.1 (μ + 2) = some (qa_ia 146 (qa_cp m as 0 0 k)) ∧ (∀ q, (q ≠ μ ∧ q ≠ μ + 2) → τ.1 q = σ.1 q)) → qa_W E qm_M_starts Q9 0 0 12 [(0, .ref μ), (1, .int (qa_i k))] [] τ := by
    clear hM hm ha e0 fr
    intro f9
    induction f9 with
    | zero =>
      intro τ k ⟨hkf, e0, hM, hm, ha, fr⟩
      refine qa_iload_n (pc' := 13) ⟨rfl, rfl⟩ rfl ?_
      refine qa_sipush (z := 146) (pc' := 16) ⟨rfl, rfl⟩ rfl ?_
      refine qa_icmp_ge (pc' := 19) (tgt := 37) ⟨rfl, rfl⟩ rfl (by omega) (by omega) (fun hc1 => ?_) (fun hc1 => ?_)
      · refine qa_return rfl rfl (hQ _ _ ⟨rfl, e0, hM, by rw [show (146 : Int) = ((k : Nat) : Int) by omega]; exact ha, fr⟩)
      · exact absurd hc1 (by omega)
    | succ f9 iT1 =>
      intro τ k ⟨hkf, e0, hM, hm, ha, fr⟩
      refine qa_iload_n (pc' := 13) ⟨rfl, rfl⟩ rfl ?_
      refine qa_sipush (z := 146) (pc' := 16) ⟨rfl, rfl⟩ rfl ?_
      refine qa_icmp_ge (pc' := 19) (tgt := 37) ⟨rfl, rfl⟩ rfl (by omega) (by omega) (fun hc1 => ?_) (fun hc1 => ?_)
      · exact absurd hc1 (by omega)
      · refine qa_aload_n (pc' := 20) ⟨rfl, rfl⟩ rfl ?_
        refine qa_getf (pc' := 23) ⟨rfl, rfl⟩ qg_10_13 (by assumption) rfl ?_
        refine qa_iload_n (pc' := 24) ⟨rfl, rfl⟩ rfl ?_
        refine qa_aload_n (pc' := 25) ⟨rfl, rfl⟩ rfl ?_
        refine qa_getf (pc' := 28) ⟨rfl, rfl⟩ qg_10_9 (by assumption) rfl ?_
        refine qa_iload_n (pc' := 29) ⟨rfl, rfl⟩ rfl ?_
        refine qa_iaload (pc' := 30) ⟨rfl, rfl⟩ (by assumption) (by omega) ?_
        refine qa_iastore (pc' := 31) ⟨rfl, rfl⟩ ha (by omega) (by omega) ?_
        refine qa_gz (fun τ61 e61 w61 f61 => ?_)
        replace hM := (f61 _ (by omega)).trans hM
        replace hm := (f61 _ (by omega)).trans hm
        replace fr := fun q hq => (f61 q (by have := hq; omega)).trans (fr q hq)
        replace e0 := e61.trans e0
        have ha : τ61.1 (μ + 2) = some (qa_ia 146 (qa_cp m as 0 0 ((k + 1 : Nat) : Int))) := by rw [← qa_cp_s, Int.zero_add]; exact w61
        refine qa_iinc (L' := [(0, _), (1, _)]) (z := ((k + 1 : Nat) : Int)) (pc' := 34) ⟨rfl, rfl⟩ rfl (by omega) rfl rfl ?_
        refine qa_goto (pc' := 37) (tgt := 12) ⟨rfl, rfl⟩ rfl ?_
        exact iT1 _ (k + 1) ⟨by omega, e0, hM, hm, ha, fr⟩
  exact T1 146 _ 0 ⟨by omega, e0, hM, hm, by rw [qa_cp_z]; exact ha, fr⟩
theorem c_M_changed {E : qa_V} {σ : qa_S} {μ : Nat} {f : Nat → Int} {as ps : Int → Int} {v : Int} (hlo : E.1 ≤ μ) (hM : σ.1 μ = some (qa_MoF μ f)) (ha : σ.1 (μ + 2) = some (qa_ia 146 as)) (hp : σ.1 (μ + 4) = some (qa_ia 1168 ps)) (h5 : 0 ≤ f 5 ∧ f 5 ≤ 8) (h12 : qa_in (f 12) ∧ qa_in (f 10)) : qa_T E qm_M_changed 0 0 [.ref μ, .int (qa_i v)] σ (fun o9 τ => o9 = .inl (some (.int (qa_i v))) ∧ τ.2 = σ.2 ∧ τ.1 μ = some (qa_MoF μ (sN_ch f)) ∧ τ.1 (μ + 4) = some (qa_ia 1168 (sm_ph f as ps)) ∧ ∀ q, (q ≠ μ ∧ q ≠ μ + 4) → τ.1 q = σ.1 q) := by
  refine qa_enterQ (by decide) rfl qm_M_changed_ok rfl rfl (fun Q9 hQ => ?_)
  have e0 : σ.2 = σ.2 := rfl
  have fr : ∀ q, (q ≠ μ ∧ q ≠ μ + 4) → σ.1 q = σ.1 q := fun _ _ => rfl
  refine qa_aload_n (pc' := 1) ⟨rfl, rfl⟩ rfl ?_
  refine qa_getf (pc' := 4) ⟨rfl, rfl⟩ qg_10_51 (by assumption) rfl ?_
  refine qa_if_le (pc' := 7) (tgt := 37) ⟨rfl, rfl⟩ rfl (by omega) (fun hc1 => ?_) (fun hc1 => ?_)
  · have T2 : ∀ (g : Nat → Int) (p9 : Int → Int) (ch : Int), (0 ≤ ch ∧ ch ≤ 7) → g 5 = ch → sN_put g 5 (ch + 1) = sN_ch f → qa_cp as p9 0 (146 * ch) 146 = sm_ph f as ps → ∀ (f9 : Nat) (τ : qa_S) (k : Nat), ((k : Int) + f9 = 146 ∧ τ.2 = σ.2 ∧ τ.1 μ = some (qa_MoF μ g) ∧ τ.1 (μ + 2) = some (qa_ia 146 as) ∧ τ.1 (μ + 4) = some (qa_ia 1168 (qa_cp as p9 0 (146 * ch) k)) ∧ (∀ q, (q ≠ μ ∧ q ≠ μ + 4) → τ.1 q = σ.1 q)) → qa_W E qm_M_changed Q9 0 0 89 [(0, .ref μ), (1, .int (qa_i v)), (2, .int (qa_i k))] [] τ := by
      clear hM ha hp e0 fr
      intro g p9 ch hch hg5 hgf hpf f9
      induction f9 with
      | zero =>
        intro τ k ⟨hkf, e0, hM, ha, hp, fr⟩
        refine qa_iload_n (pc' := 90) ⟨rfl, rfl⟩ rfl ?_
        refine qa_sipush (z := 146) (pc' := 93) ⟨rfl, rfl⟩ rfl ?_
        refine qa_icmp_ge (pc' := 96) (tgt := 123) ⟨rfl, rfl⟩ rfl (by omega) (by omega) (fun hc3 => ?_) (fun hc3 => ?_)
        · refine qa_aload_n (pc' := 124) ⟨rfl, rfl⟩ rfl ?_
          refine qa_dup (pc' := 125) ⟨rfl, rfl⟩ rfl ?_
          refine qa_getf (v := .int (qa_i (g 5))) (pc' := 128) ⟨rfl, rfl⟩ qg_10_67 (by assumption) rfl ?_
          refine qa_iconst (pc' := 129) ⟨rfl, rfl⟩ ?_
          refine qa_iadd (z := ch + 1) (pc' := 130) ⟨rfl, rfl⟩ (by rw [hg5]) ?_
          refine qa_putf (fs' := [_, _, _, _, _, _, _, _, _, _, _, _, _, _, _, _, _, _, _, _, _, _, _, _, _, _, _]) (pc' := 133) ⟨rfl, rfl⟩ qg_10_67 qw_9 hM (by omega) rfl (fun r hr => by cases hr; exact ⟨rfl, Or.inl rfl⟩) rfl rfl ?_
          refine qa_gz (fun τ61 e61 w61 f61 => ?_)
          replace ha := (f61 _ (by omega)).trans ha
          replace hp := (f61 _ (by omega)).trans hp
          replace fr := fun q hq => (f61 q (by have := hq; omega)).trans (fr q hq)
          replace e0 := e61.trans e0
          have hM : τ61.1 μ = some (qa_MoF μ (sN_put g 5 (ch + 1))) := w61
          refine qa_iload_n (pc' := 134) ⟨rfl, rfl⟩ rfl ?_
          refine qa_ireturn rfl rfl rfl (hQ _ _ ⟨rfl, e0, by rw [hgf] at hM; exact hM, by rw [show ((k : Nat) : Int) = 146 by omega, hpf] at hp; exact hp, fr⟩)
        · exact absurd hc3 (by omega)
      | succ f9 iT2 =>
        intro τ k ⟨hkf, e0, hM, ha, hp, fr⟩
        refine qa_iload_n (pc' := 90) ⟨rfl, rfl⟩ rfl ?_
        refine qa_sipush (z := 146) (pc' := 93) ⟨rfl, rfl⟩ rfl ?_
        refine qa_icmp_ge (pc' := 96) (tgt := 123) ⟨rfl, rfl⟩ rfl (by omega) (by omega) (fun hc3 => ?_) (fun hc3 => ?_)
        · exact absurd hc3 (by omega)
        · refine qa_aload_n (pc' := 97) ⟨rfl, rfl⟩ rfl ?_
          refine qa_getf (pc' := 100) ⟨rfl, rfl⟩ qg_10_19 (by assumption) rfl ?_
          refine qa_sipush (z := 146) (pc' := 103) ⟨rfl, rfl⟩ rfl ?_
          refine qa_aload_n (pc' := 104) ⟨rfl, rfl⟩ rfl ?_
          refine qa_getf (v := .int (qa_i (g 5))) (pc' := 107) ⟨rfl, rfl⟩ qg_10_67 (by assumption) rfl ?_
          refine qa_imul (z := 146 * ch) (pc' := 108) ⟨rfl, rfl⟩ (by rw [hg5]) ?_
          refine qa_iload_n (pc' := 109) ⟨rfl, rfl⟩ rfl ?_
          refine qa_iadd (z := 146 * ch + k) (pc' := 110) ⟨rfl, rfl⟩ (by omega) ?_
          refine qa_aload_n (pc' := 111) ⟨rfl, rfl⟩ rfl ?_
          refine qa_getf (pc' := 114) ⟨rfl, rfl⟩ qg_10_13 (by assumption) rfl ?_
          refine qa_iload_n (pc' := 115) ⟨rfl, rfl⟩ rfl ?_
          refine qa_iaload (pc' := 116) ⟨rfl, rfl⟩ ha (by omega) ?_
          refine qa_iastore (pc' := 117) ⟨rfl, rfl⟩ hp (by omega) (by omega) ?_
          refine qa_gz (fun τ61 e61 w61 f61 => ?_)
          replace hM := (f61 _ (by omega)).trans hM
          replace ha := (f61 _ (by omega)).trans ha
          replace fr := fun q hq => (f61 q (by have := hq; omega)).trans (fr q hq)
          replace e0 := e61.trans e0
          have hp : τ61.1 (μ + 4) = some (qa_ia 1168 (qa_cp as p9 0 (146 * ch) ((k + 1 : Nat) : Int))) := by rw [← qa_cp_s, Int.zero_add]; exact w61
          refine qa_iinc (L' := [(0, _), (1, _), (2, _)]) (z := ((k + 1 : Nat) : Int)) (pc' := 120) ⟨rfl, rfl⟩ rfl (by omega) rfl rfl ?_
          refine qa_goto (pc' := 123) (tgt := 89) ⟨rfl, rfl⟩ rfl ?_
          exact iT2 _ (k + 1) ⟨by omega, e0, hM, ha, hp, fr⟩
    refine qa_aload_n (pc' := 38) ⟨rfl, rfl⟩ rfl ?_
    refine qa_getf (pc' := 41) ⟨rfl, rfl⟩ qg_10_67 (by assumption) rfl ?_
    refine qa_bipush (z := 8) (pc' := 43) ⟨rfl, rfl⟩ rfl ?_
    refine qa_icmp_ne (pc' := 46) (tgt := 87) ⟨rfl, rfl⟩ rfl (by omega) (by omega) (fun hc2 => ?_) (fun hc2 => ?_)
    · refine qa_iconst (pc' := 88) ⟨rfl, rfl⟩ ?_
      refine qa_istore_n (L' := [(0, _), (1, _), (2, _)]) (pc' := 89) ⟨rfl, rfl⟩ rfl rfl ?_
      refine T2 f ps (f 5) (by omega) rfl ?_ ?_ 146 _ 0 ⟨by omega, e0, hM, ha, by rw [qa_cp_z]; exact hp, fr⟩
      · unfold sN_ch; rw [if_neg (by omega), if_neg (by omega)]
      · unfold sm_ph; rw [if_neg (by omega), if_neg (by omega)]
    · refine qa_iconst (pc' := 47) ⟨rfl, rfl⟩ ?_
      refine qa_istore_n (L' := [(0, _), (1, _), (2, _)]) (pc' := 48) ⟨rfl, rfl⟩ rfl rfl ?_
      have T1 : ∀ (f9 : Nat) (τ : qa_S) (k : Nat), ((k : Int) + f9 = 1022 ∧ τ.2 = σ.2 ∧ τ.1 μ = some (qa_MoF μ f) ∧ τ.1 (μ + 2) = some (qa_ia 146 as) ∧ τ.1 (μ + 4) = some (qa_ia 1168 (qa_cp ps ps 146 0 k)) ∧ (∀ q, (q ≠ μ ∧ q ≠ μ + 4) → τ.1 q = σ.1 q)) → qa_W E qm_M_changed Q9 0 0 48 [(0, .ref μ), (1, .int (qa_i v)), (2, .int (qa_i k))] [] τ := by
        clear hM ha hp e0 fr
        intro f9
        induction f9 with
        | zero =>
          intro τ k ⟨hkf, e0, hM, ha, hp, fr⟩
          refine qa_iload_n (pc' := 49) ⟨rfl, rfl⟩ rfl ?_
          refine qa_sipush (z := 1022) (pc' := 52) ⟨rfl, rfl⟩ rfl ?_
          refine qa_icmp_ge (pc' := 55) (tgt := 77) ⟨rfl, rfl⟩ rfl (by omega) (by omega) (fun hc4 => ?_) (fun hc4 => ?_)
          · refine qa_aload_n (pc' := 78) ⟨rfl, rfl⟩ rfl ?_
            refine qa_dup (pc' := 79) ⟨rfl, rfl⟩ rfl ?_
            refine qa_getf (v := .int (qa_i (f 5))) (pc' := 82) ⟨rfl, rfl⟩ qg_10_67 (by assumption) rfl ?_
            refine qa_iconst (pc' := 83) ⟨rfl, rfl⟩ ?_
            refine qa_isub (z := 7) (pc' := 84) ⟨rfl, rfl⟩ (by omega) ?_
            refine qa_putf (fs' := [_, _, _, _, _, _, _, _, _, _, _, _, _, _, _, _, _, _, _, _, _, _, _, _, _, _, _]) (pc' := 87) ⟨rfl, rfl⟩ qg_10_67 qw_9 hM (by omega) rfl (fun r hr => by cases hr; exact ⟨rfl, Or.inl rfl⟩) rfl rfl ?_
            refine qa_gz (fun τ61 e61 w61 f61 => ?_)
            replace ha := (f61 _ (by omega)).trans ha
            replace hp := (f61 _ (by omega)).trans hp
            replace fr := fun q hq => (f61 q (by have := hq; omega)).trans (fr q hq)
            replace e0 := e61.trans e0
            have hM : τ61.1 μ = some (qa_MoF μ (sN_put f 5 7)) := w61
            refine qa_iconst (pc' := 88) ⟨rfl, rfl⟩ ?_
            refine qa_istore_n (L' := [(0, _), (1, _), (2, _)]) (pc' := 89) ⟨rfl, rfl⟩ rfl rfl ?_
            refine T2 (sN_put f 5 7) (qa_cp ps ps 146 0 1022) 7 (by omega) rfl ?_ ?_ 146 _ 0 ⟨by omega, e0, hM, ha, ?_, fr⟩
            · rw [sN_pp]; unfold sN_ch; rw [if_neg (by omega), if_pos (by omega)]; rfl
            · unfold sm_ph; rw [if_neg (by omega), if_pos (by omega)]; rfl
            · rw [qa_cp_z, show (1022 : Int) = ((k : Nat) : Int) by omega]; exact hp
          · exact absurd hc4 (by omega)
        | succ f9 iT1 =>
          intro τ k ⟨hkf, e0, hM, ha, hp, fr⟩
          refine qa_iload_n (pc' := 49) ⟨rfl, rfl⟩ rfl ?_
          refine qa_sipush (z := 1022) (pc' := 52) ⟨rfl, rfl⟩ rfl ?_
          refine qa_icmp_ge (pc' := 55) (tgt := 77) ⟨rfl, rfl⟩ rfl (by omega) (by omega) (fun hc4 => ?_) (fun hc4 => ?_)
          · exact absurd hc4 (by omega)
          · refine qa_aload_n (pc' := 56) ⟨rfl, rfl⟩ rfl ?_
            refine qa_getf (pc' := 59) ⟨rfl, rfl⟩ qg_10_19 (by assumption) rfl ?_
            refine qa_iload_n (pc' := 60) ⟨rfl, rfl⟩ rfl ?_
            refine qa_aload_n (pc' := 61) ⟨rfl, rfl⟩ rfl ?_
            refine qa_getf (pc' := 64) ⟨rfl, rfl⟩ qg_10_19 (by assumption) rfl ?_
            refine qa_iload_n (pc' := 65) ⟨rfl, rfl⟩ rfl ?_
            refine qa_sipush (z := 146) (pc' := 68) ⟨rfl, rfl⟩ rfl ?_
            refine qa_iadd (z := 146 + (k : Int)) (pc' := 69) ⟨rfl, rfl⟩ (by omega) ?_
            refine qa_iaload (pc' := 70) ⟨rfl, rfl⟩ hp (by omega) ?_
            refine qa_iastore (pc' := 71) ⟨rfl, rfl⟩ hp (by omega) (by omega) ?_
            refine qa_gz (fun τ61 e61 w61 f61 => ?_)
            replace hM := (f61 _ (by omega)).trans hM
            replace ha := (f61 _ (by omega)).trans ha
            replace fr := fun q hq => (f61 q (by have := hq; omega)).trans (fr q hq)
            replace e0 := e61.trans e0
            have hp : τ61.1 (μ + 4) = some (qa_ia 1168 (qa_cp ps ps 146 0 ((k + 1 : Nat) : Int))) := by
              have h9 := w61
              rw [qa_cp_out (q := 146 + (k : Int)) (by omega)] at h9
              rw [← qa_cp_s, Int.zero_add]; exact h9
            refine qa_iinc (L' := [(0, _), (1, _), (2, _)]) (z := ((k + 1 : Nat) : Int)) (pc' := 74) ⟨rfl, rfl⟩ rfl (by omega) rfl rfl ?_
            refine qa_goto (pc' := 77) (tgt := 48) ⟨rfl, rfl⟩ rfl ?_
            exact iT1 _ (k + 1) ⟨by omega, e0, hM, ha, hp, fr⟩
      exact T1 1022 _ 0 ⟨by omega, e0, hM, ha, by rw [qa_cp_z]; exact hp, fr⟩
  · refine qa_aload_n (pc' := 8) ⟨rfl, rfl⟩ rfl ?_
    refine qa_getf (pc' := 11) ⟨rfl, rfl⟩ qg_10_54 (by assumption) rfl ?_
    refine qa_if_le (pc' := 14) (tgt := 35) ⟨rfl, rfl⟩ rfl (by omega) (fun hc2 => ?_) (fun hc2 => ?_)
    · refine qa_iload_n (pc' := 36) ⟨rfl, rfl⟩ rfl ?_
      refine qa_ireturn rfl rfl rfl (hQ _ _ ⟨rfl, e0, by unfold sN_ch; rw [if_pos hc1, if_neg (by omega)]; exact hM, by unfold sm_ph; rw [if_pos hc1]; exact hp, fr⟩)
    · refine qa_aload_n (pc' := 15) ⟨rfl, rfl⟩ rfl ?_
      refine qa_aload_n (pc' := 16) ⟨rfl, rfl⟩ rfl ?_
      refine qa_getf (pc' := 19) ⟨rfl, rfl⟩ qg_10_54 (by assumption) rfl ?_
      refine qa_putf (fs' := [_, _, _, _, _, _, _, _, _, _, _, _, _, _, _, _, _, _, _, _, _, _, _, _, _, _, _]) (pc' := 22) ⟨rfl, rfl⟩ qg_10_26 qw_9 hM (by omega) rfl (fun r hr => by cases hr; exact ⟨rfl, Or.inl rfl⟩) rfl rfl ?_
      refine qa_gz (fun τ1 e1 w1 f1 => ?_)
      replace ha := (f1 _ (by omega)).trans ha
      replace hp := (f1 _ (by omega)).trans hp
      replace fr := fun q hq => (f1 q (by have := hq; omega)).trans (fr q hq)
      replace e0 := e1.trans e0
      have hM : τ1.1 μ = some (qa_MoF μ (sN_put f 7 (f 10))) := w1
      refine qa_aload_n (pc' := 23) ⟨rfl, rfl⟩ rfl ?_
      refine qa_aload_n (pc' := 24) ⟨rfl, rfl⟩ rfl ?_
      refine qa_getf (v := .int (qa_i (f 11))) (pc' := 27) ⟨rfl, rfl⟩ qg_10_57 (by assumption) rfl ?_
      refine qa_putf (fs' := [_, _, _, _, _, _, _, _, _, _, _, _, _, _, _, _, _, _, _, _, _, _, _, _, _, _, _]) (pc' := 30) ⟨rfl, rfl⟩ qg_10_64 qw_9 hM (by omega) rfl (fun r hr => by cases hr; exact ⟨rfl, Or.inl rfl⟩) rfl rfl ?_
      refine qa_gz (fun τ2 e2 w2 f2 => ?_)
      replace ha := (f2 _ (by omega)).trans ha
      replace hp := (f2 _ (by omega)).trans hp
      replace fr := fun q hq => (f2 q (by have := hq; omega)).trans (fr q hq)
      replace e0 := e2.trans e0
      have hM : τ2.1 μ = some (qa_MoF μ (sN_put (sN_put f 7 (f 10)) 8 (f 11))) := w2
      refine qa_aload_n (pc' := 31) ⟨rfl, rfl⟩ rfl ?_
      refine qa_iconst (pc' := 32) ⟨rfl, rfl⟩ ?_
      refine qa_putf (fs' := [_, _, _, _, _, _, _, _, _, _, _, _, _, _, _, _, _, _, _, _, _, _, _, _, _, _, _]) (pc' := 35) ⟨rfl, rfl⟩ qg_10_29 qw_9 hM (by omega) rfl (fun r hr => by cases hr; exact ⟨rfl, Or.inl rfl⟩) rfl rfl ?_
      refine qa_gz (fun τ3 e3 w3 f3 => ?_)
      replace ha := (f3 _ (by omega)).trans ha
      replace hp := (f3 _ (by omega)).trans hp
      replace fr := fun q hq => (f3 q (by have := hq; omega)).trans (fr q hq)
      replace e0 := e3.trans e0
      have hM : τ3.1 μ = some (qa_MoF μ (sN_put (sN_put (sN_put f 7 (f 10)) 8 (f 11)) 9 (-1))) := w3
      refine qa_iload_n (pc' := 36) ⟨rfl, rfl⟩ rfl ?_
      refine qa_ireturn rfl rfl rfl (hQ _ _ ⟨rfl, e0, by unfold sN_ch; rw [if_pos hc1, if_pos hc2]; exact hM, by unfold sm_ph; rw [if_pos hc1]; exact hp, fr⟩)
