theorem c_C_isWithin {E : qa_V} {σ : qa_S} {v lo hi : Int} (hv : qa_in v) (hlo : qa_in lo) (hhi : qa_in hi) : qa_T E qm_C_isWithin 0 0 [.int (qa_i v), .int (qa_i lo), .int (qa_i hi)] σ (fun o9 τ => o9 = .inl (some (.int (qa_i (if lo ≤ v ∧ v ≤ hi then 1 else 0)))) ∧ τ = σ) := by
  refine qa_enterQ (by decide) rfl qm_C_isWithin_ok rfl rfl (fun Q9 hQ => ?_)
  refine qa_iload_n (pc' := 1) ⟨rfl, rfl⟩ rfl ?_
  refine qa_iload_n (pc' := 2) ⟨rfl, rfl⟩ rfl ?_
  refine qa_icmp_lt (pc' := 5) (tgt := 14) ⟨rfl, rfl⟩ rfl (by omega) (by omega) (fun hc => ?_) (fun hc => ?_)
  · refine qa_iconst (pc' := 15) ⟨rfl, rfl⟩ ?_
    refine qa_ireturn rfl rfl rfl (hQ _ _ ⟨by rw [if_neg (by omega)], rfl⟩)
  · refine qa_iload_n (pc' := 6) ⟨rfl, rfl⟩ rfl ?_
    refine qa_iload_n (pc' := 7) ⟨rfl, rfl⟩ rfl ?_
    refine qa_icmp_gt (pc' := 10) (tgt := 14) ⟨rfl, rfl⟩ rfl (by omega) (by omega) (fun hc => ?_) (fun hc => ?_)
    · refine qa_iconst (pc' := 15) ⟨rfl, rfl⟩ ?_
      refine qa_ireturn rfl rfl rfl (hQ _ _ ⟨by rw [if_neg (by omega)], rfl⟩)
    · refine qa_iconst (pc' := 11) ⟨rfl, rfl⟩ ?_
      refine qa_goto (pc' := 14) (tgt := 15) ⟨rfl, rfl⟩ rfl ?_
      refine qa_ireturn rfl rfl rfl (hQ _ _ ⟨by rw [if_pos (by omega)], rfl⟩)
theorem c_P_endsAfter {E : qa_V} {σ : qa_S} {b : Nat} {n t u d s o : Int} {af : Int} (hb : σ.1 b = some (qa_PtF b n t u d s o)) (ht : 0 ≤ t ∧ t ≤ 1000) (ha : 0 ≤ af ∧ af ≤ 2147483647) : qa_T E qm_P_endsAfter 0 0 [.ref b, .int (qa_i af)] σ (fun o9 τ => o9 = .inl (some (.int (qa_i (if t < 1 ∨ af % t = 0 then 1 else 0)))) ∧ τ = σ) := by
  refine qa_enterQ (by decide) rfl qm_P_endsAfter_ok rfl rfl (fun Q9 hQ => ?_)
  refine qa_aload_n (pc' := 1) ⟨rfl, rfl⟩ rfl ?_
  refine qa_getf (pc' := 4) ⟨rfl, rfl⟩ qg_3_34 (by assumption) rfl ?_
  refine qa_iconst (pc' := 5) ⟨rfl, rfl⟩ ?_
  refine qa_icmp_lt (pc' := 8) (tgt := 17) ⟨rfl, rfl⟩ rfl (by omega) (by omega) (fun hc => ?_) (fun hc => ?_)
  · refine qa_iconst (pc' := 18) ⟨rfl, rfl⟩ ?_
    refine qa_goto (pc' := 21) (tgt := 22) ⟨rfl, rfl⟩ rfl ?_
    refine qa_ireturn rfl rfl rfl (hQ _ _ ⟨by rw [if_pos (by omega)], rfl⟩)
  · refine qa_iload_n (pc' := 9) ⟨rfl, rfl⟩ rfl ?_
    refine qa_aload_n (pc' := 10) ⟨rfl, rfl⟩ rfl ?_
    refine qa_getf (pc' := 13) ⟨rfl, rfl⟩ qg_3_34 (by assumption) rfl ?_
    refine qa_irem (pc' := 14) ⟨rfl, rfl⟩ (by omega) (by omega) (by omega) (by omega) rfl ?_
    refine qa_if_ne (pc' := 17) (tgt := 21) ⟨rfl, rfl⟩ rfl (by constructor <;> first | omega | (have := Int.emod_nonneg af (by omega : t ≠ 0); have := Int.emod_lt_of_pos af (by omega : 0 < t); omega)) (fun hc => ?_) (fun hc => ?_)
    · refine qa_iconst (pc' := 22) ⟨rfl, rfl⟩ ?_
      refine qa_ireturn rfl rfl rfl (hQ _ _ ⟨by rw [if_neg (by omega)], rfl⟩)
    · refine qa_iconst (pc' := 18) ⟨rfl, rfl⟩ ?_
      refine qa_goto (pc' := 21) (tgt := 22) ⟨rfl, rfl⟩ rfl ?_
      refine qa_ireturn rfl rfl rfl (hQ _ _ ⟨by rw [if_pos (by omega)], rfl⟩)
theorem c_P_append {E : qa_V} {σ : qa_S} {b : Nat} {n t u d s o : Int} {x y : Int} {p l : Int → Int} (hlo : E.1 ≤ b) (hb : σ.1 b = some (qa_PtF b n t u d s o)) (hp : σ.1 (b + 1) = some (qa_ia 10 p)) (hl : σ.1 (b + 2) = some (qa_ia 10 l)) (hn : 0 ≤ n ∧ n < 10) : qa_T E qm_P_append 0 0 [.ref b, .int (qa_i x), .int (qa_i y)] σ (fun o9 τ => o9 = .inl none ∧ τ.2 = σ.2 ∧ τ.1 b = some (qa_PtF b (n + 1) (t + y) u d s o) ∧ τ.1 (b + 1) = some (qa_ia 10 (qa_up p n x)) ∧ τ.1 (b + 2) = some (qa_ia 10 (qa_up l n y)) ∧ ∀ q, (q < b ∨ b + 3 ≤ q) → τ.1 q = σ.1 q) := by
  refine qa_enterQ (by decide) rfl qm_P_append_ok rfl rfl (fun Q9 hQ => ?_)
  have e0 : σ.2 = σ.2 := rfl
  have fr : ∀ q, (q < b ∨ b + 3 ≤ q) → σ.1 q = σ.1 q := fun _ _ => rfl
  refine qa_aload_n (pc' := 1) ⟨rfl, rfl⟩ rfl ?_
  refine qa_getf (pc' := 4) ⟨rfl, rfl⟩ qg_3_31 (by assumption) rfl ?_
  refine qa_bipush (z := 10) (pc' := 6) ⟨rfl, rfl⟩ rfl ?_
  refine qa_icmp_ge (pc' := 9) (tgt := 49) ⟨rfl, rfl⟩ rfl (by omega) (by omega) (fun hc => ?_) (fun hc => ?_)
  · exact absurd hc (by omega)
  · refine qa_aload_n (pc' := 10) ⟨rfl, rfl⟩ rfl ?_
    refine qa_getf (pc' := 13) ⟨rfl, rfl⟩ qg_3_9 (by assumption) rfl ?_
    refine qa_aload_n (pc' := 14) ⟨rfl, rfl⟩ rfl ?_
    refine qa_getf (pc' := 17) ⟨rfl, rfl⟩ qg_3_31 (by assumption) rfl ?_
    refine qa_iload_n (pc' := 18) ⟨rfl, rfl⟩ rfl ?_
    refine qa_iastore (pc' := 19) ⟨rfl, rfl⟩ (by assumption) (by omega) (by omega) ?_
    refine qa_gz (fun τ1 e1 w1 f1 => ?_)
    replace hb := (f1 _ (by omega)).trans hb
    replace hl := (f1 _ (by omega)).trans hl
    replace fr := fun q hq => (f1 q (by have := hq; omega)).trans (fr q hq)
    replace e0 := e1.trans e0
    refine qa_aload_n (pc' := 20) ⟨rfl, rfl⟩ rfl ?_
    refine qa_getf (pc' := 23) ⟨rfl, rfl⟩ qg_3_15 (by assumption) rfl ?_
    refine qa_aload_n (pc' := 24) ⟨rfl, rfl⟩ rfl ?_
    refine qa_getf (pc' := 27) ⟨rfl, rfl⟩ qg_3_31 (by assumption) rfl ?_
    refine qa_iload_n (pc' := 28) ⟨rfl, rfl⟩ rfl ?_
    refine qa_iastore (pc' := 29) ⟨rfl, rfl⟩ (by assumption) (by omega) (by omega) ?_
    refine qa_gz (fun τ2 e2 w2 f2 => ?_)
    replace hb := (f2 _ (by omega)).trans hb
    replace w1 := (f2 _ (by omega)).trans w1
    replace fr := fun q hq => (f2 q (by have := hq; omega)).trans (fr q hq)
    replace e0 := e2.trans e0
    refine qa_aload_n (pc' := 30) ⟨rfl, rfl⟩ rfl ?_
    refine qa_dup (pc' := 31) ⟨rfl, rfl⟩ rfl ?_
    refine qa_getf (pc' := 34) ⟨rfl, rfl⟩ qg_3_31 (by assumption) rfl ?_
    refine qa_iconst (pc' := 35) ⟨rfl, rfl⟩ ?_
    refine qa_iadd (pc' := 36) ⟨rfl, rfl⟩ rfl ?_
    refine qa_putf (fs' := [_, _, _, _, _, _, _, _]) (pc' := 39) ⟨rfl, rfl⟩ qg_3_31 qw_2 (by assumption) (by omega) rfl (fun r hr => by cases hr; exact ⟨rfl, Or.inl rfl⟩) rfl rfl ?_
    refine qa_gz (fun τ3 e3 w3 f3 => ?_)
    replace w1 := (f3 _ (by omega)).trans w1
    replace w2 := (f3 _ (by omega)).trans w2
    replace fr := fun q hq => (f3 q (by have := hq; omega)).trans (fr q hq)
    replace e0 := e3.trans e0
    refine qa_aload_n (pc' := 40) ⟨rfl, rfl⟩ rfl ?_
    refine qa_dup (pc' := 41) ⟨rfl, rfl⟩ rfl ?_
    refine qa_getf (pc' := 44) ⟨rfl, rfl⟩ qg_3_34 (by assumption) rfl ?_
    refine qa_iload_n (pc' := 45) ⟨rfl, rfl⟩ rfl ?_
    refine qa_iadd (pc' := 46) ⟨rfl, rfl⟩ rfl ?_
    refine qa_putf (fs' := [_, _, _, _, _, _, _, _]) (pc' := 49) ⟨rfl, rfl⟩ qg_3_34 qw_2 (by assumption) (by omega) rfl (fun r hr => by cases hr; exact ⟨rfl, Or.inl rfl⟩) rfl rfl ?_
    refine qa_gz (fun τ4 e4 w4 f4 => ?_)
    replace w1 := (f4 _ (by omega)).trans w1
    replace w2 := (f4 _ (by omega)).trans w2
    replace fr := fun q hq => (f4 q (by have := hq; omega)).trans (fr q hq)
    replace e0 := e4.trans e0
    refine qa_return rfl rfl (hQ _ _ ⟨rfl, e0, w4, w1, w2, fr⟩)
theorem c_P_dropLast {E : qa_V} {σ : qa_S} {b : Nat} {n t u d s o : Int} {p l : Int → Int} (hlo : E.1 ≤ b) (hb : σ.1 b = some (qa_PtF b n t u d s o)) (hp : σ.1 (b + 1) = some (qa_ia 10 p)) (hl : σ.1 (b + 2) = some (qa_ia 10 l)) (hn : 0 < n ∧ n ≤ 10) : qa_T E qm_P_dropLast 0 0 [.ref b] σ (fun o9 τ => o9 = .inl none ∧ τ.2 = σ.2 ∧ τ.1 b = some (qa_PtF b (n - 1) (t - l (n - 1)) u d s o) ∧ (∀ q, (q < b ∨ b + 3 ≤ q) → τ.1 q = σ.1 q) ∧ τ.1 (b + 1) = some (qa_ia 10 p) ∧ τ.1 (b + 2) = some (qa_ia 10 l)) := by
  refine qa_enterQ (by decide) rfl qm_P_dropLast_ok rfl rfl (fun Q9 hQ => ?_)
  have e0 : σ.2 = σ.2 := rfl
  have fr : ∀ q, (q < b ∨ b + 3 ≤ q) → σ.1 q = σ.1 q := fun _ _ => rfl
  refine qa_aload_n (pc' := 1) ⟨rfl, rfl⟩ rfl ?_
  refine qa_getf (pc' := 4) ⟨rfl, rfl⟩ qg_3_31 (by assumption) rfl ?_
  refine qa_if_le (pc' := 7) (tgt := 35) ⟨rfl, rfl⟩ rfl (by omega) (fun hc => ?_) (fun hc => ?_)
  · exact absurd hc (by omega)
  · refine qa_aload_n (pc' := 8) ⟨rfl, rfl⟩ rfl ?_
    refine qa_dup (pc' := 9) ⟨rfl, rfl⟩ rfl ?_
    refine qa_getf (pc' := 12) ⟨rfl, rfl⟩ qg_3_31 (by assumption) rfl ?_
    refine qa_iconst (pc' := 13) ⟨rfl, rfl⟩ ?_
    refine qa_isub (pc' := 14) ⟨rfl, rfl⟩ rfl ?_
    refine qa_putf (fs' := [_, _, _, _, _, _, _, _]) (pc' := 17) ⟨rfl, rfl⟩ qg_3_31 qw_2 (by assumption) (by omega) rfl (fun r hr => by cases hr; exact ⟨rfl, Or.inl rfl⟩) rfl rfl ?_
    refine qa_gz (fun τ1 e1 w1 f1 => ?_)
    replace hl := (f1 _ (by omega)).trans hl
    replace hp := (f1 _ (by omega)).trans hp
    replace fr := fun q hq => (f1 q (by have := hq; omega)).trans (fr q hq)
    replace e0 := e1.trans e0
    refine qa_aload_n (pc' := 18) ⟨rfl, rfl⟩ rfl ?_
    refine qa_dup (pc' := 19) ⟨rfl, rfl⟩ rfl ?_
    refine qa_getf (pc' := 22) ⟨rfl, rfl⟩ qg_3_34 (by assumption) rfl ?_
    refine qa_aload_n (pc' := 23) ⟨rfl, rfl⟩ rfl ?_
    refine qa_getf (pc' := 26) ⟨rfl, rfl⟩ qg_3_15 (by assumption) rfl ?_
    refine qa_aload_n (pc' := 27) ⟨rfl, rfl⟩ rfl ?_
    refine qa_getf (pc' := 30) ⟨rfl, rfl⟩ qg_3_31 (by assumption) rfl ?_
    refine qa_iaload (pc' := 31) ⟨rfl, rfl⟩ (by assumption) (by omega) ?_
    refine qa_isub (pc' := 32) ⟨rfl, rfl⟩ rfl ?_
    refine qa_putf (fs' := [_, _, _, _, _, _, _, _]) (pc' := 35) ⟨rfl, rfl⟩ qg_3_34 qw_2 (by assumption) (by omega) rfl (fun r hr => by cases hr; exact ⟨rfl, Or.inl rfl⟩) rfl rfl ?_
    refine qa_gz (fun τ2 e2 w2 f2 => ?_)
    replace hl := (f2 _ (by omega)).trans hl
    replace hp := (f2 _ (by omega)).trans hp
    replace fr := fun q hq => (f2 q (by have := hq; omega)).trans (fr q hq)
    replace e0 := e2.trans e0
    refine qa_return rfl rfl (hQ _ _ ⟨rfl, e0, w2, fr, hp, hl⟩)
theorem c_P_noteIn {E : qa_V} {σ : qa_S} {b : Nat} {n t u d s o : Int} {tick : Int} {l : Int → Int} (hb : σ.1 b = some (qa_PtF b n t u d s o)) (hl : σ.1 (b + 2) = some (qa_ia 10 l)) (ht : 0 ≤ t ∧ t ≤ 1000) (hn : 0 ≤ n ∧ n ≤ 10) (hl9 : sp_Ln n l) (hk9 : 0 ≤ tick ∧ tick ≤ 2147483647) : qa_T E qm_P_noteIn 0 0 [.ref b, .int (qa_i tick)] σ (fun o9 τ => o9 = .inl (some (.int (qa_i (if t < 1 then -1 else sp_nI l n.toNat 0 (tick % t))))) ∧ τ = σ) := by
  refine qa_enterQ (by decide) rfl qm_P_noteIn_ok rfl rfl (fun Q9 hQ => ?_)
  refine qa_aload_n (pc' := 1) ⟨rfl, rfl⟩ rfl ?_
  refine qa_getf (pc' := 4) ⟨rfl, rfl⟩ qg_3_34 (by assumption) rfl ?_
  refine qa_iconst (pc' := 5) ⟨rfl, rfl⟩ ?_
  refine qa_icmp_ge (pc' := 8) (tgt := 10) ⟨rfl, rfl⟩ rfl (by omega) (by omega) (fun hc => ?_) (fun hc => ?_)
  · refine qa_iload_n (pc' := 11) ⟨rfl, rfl⟩ rfl ?_
    refine qa_aload_n (pc' := 12) ⟨rfl, rfl⟩ rfl ?_
    refine qa_getf (pc' := 15) ⟨rfl, rfl⟩ qg_3_34 (by assumption) rfl ?_
    refine qa_irem (pc' := 16) ⟨rfl, rfl⟩ (by omega) (by omega) (by omega) (by omega) rfl ?_
    refine qa_istore_n (L' := [(0, _), (1, _), (2, _)]) (pc' := 17) ⟨rfl, rfl⟩ rfl rfl ?_
    refine qa_iconst (pc' := 18) ⟨rfl, rfl⟩ ?_
    refine qa_istore_n (L' := [(0, _), (1, _), (2, _), (3, _)]) (pc' := 19) ⟨rfl, rfl⟩ rfl rfl ?_
    have lp : ∀ (f : Nat) (k : Nat) (r : Int), (k : Int) + f = n ∧ (0 ≤ r ∧ r ≤ 2000) ∧ sp_nI l f k r = sp_nI l n.toNat 0 (tick % t) → qa_W E qm_P_noteIn Q9 0 0 19 [(0, .ref b), (1, .int (qa_i tick)), (2, .int (qa_i r)), (3, .int (qa_i k))] [] σ := by
      intro f
      induction f with
      | zero =>
        intro k r ⟨hk, hr0, hr⟩
        refine qa_iload_n (pc' := 20) ⟨rfl, rfl⟩ rfl ?_
        refine qa_aload_n (pc' := 21) ⟨rfl, rfl⟩ rfl ?_
        refine qa_getf (pc' := 24) ⟨rfl, rfl⟩ qg_3_31 (by assumption) rfl ?_
        refine qa_icmp_ge (pc' := 27) (tgt := 54) ⟨rfl, rfl⟩ rfl (by omega) (by omega) (fun hc1 => ?_) (fun hc1 => ?_)
        · refine qa_iconst (pc' := 55) ⟨rfl, rfl⟩ ?_
          refine qa_ireturn rfl rfl rfl (hQ _ _ ⟨by rw [if_neg (by omega), ← hr]; rfl, rfl⟩)
        · exact absurd hc1 (by omega)
      | succ f ih =>
        intro k r ⟨hk, hr0, hr⟩
        have hlk := hl9 k (by omega) (by omega)
        refine qa_iload_n (pc' := 20) ⟨rfl, rfl⟩ rfl ?_
        refine qa_aload_n (pc' := 21) ⟨rfl, rfl⟩ rfl ?_
        refine qa_getf (pc' := 24) ⟨rfl, rfl⟩ qg_3_31 (by assumption) rfl ?_
        refine qa_icmp_ge (pc' := 27) (tgt := 54) ⟨rfl, rfl⟩ rfl (by omega) (by omega) (fun hc1 => ?_) (fun hc1 => ?_)
        · exact absurd hc1 (by omega)
        · refine qa_iload_n (pc' := 28) ⟨rfl, rfl⟩ rfl ?_
          refine qa_aload_n (pc' := 29) ⟨rfl, rfl⟩ rfl ?_
          refine qa_getf (pc' := 32) ⟨rfl, rfl⟩ qg_3_15 (by assumption) rfl ?_
          refine qa_iload_n (pc' := 33) ⟨rfl, rfl⟩ rfl ?_
          refine qa_iaload (pc' := 34) ⟨rfl, rfl⟩ (by assumption) (by omega) ?_
          refine qa_icmp_ge (pc' := 37) (tgt := 39) ⟨rfl, rfl⟩ rfl (by omega) (by omega) (fun hc2 => ?_) (fun hc2 => ?_)
          · refine qa_iload_n (pc' := 40) ⟨rfl, rfl⟩ rfl ?_
            refine qa_aload_n (pc' := 41) ⟨rfl, rfl⟩ rfl ?_
            refine qa_getf (pc' := 44) ⟨rfl, rfl⟩ qg_3_15 (by assumption) rfl ?_
            refine qa_iload_n (pc' := 45) ⟨rfl, rfl⟩ rfl ?_
            refine qa_iaload (pc' := 46) ⟨rfl, rfl⟩ (by assumption) (by omega) ?_
            refine qa_isub (pc' := 47) ⟨rfl, rfl⟩ rfl ?_
            refine qa_istore_n (L' := [(0, _), (1, _), (2, _), (3, _)]) (pc' := 48) ⟨rfl, rfl⟩ rfl rfl ?_
            refine qa_iinc (L' := [(0, _), (1, _), (2, _), (3, _)]) (z := ((k + 1 : Nat) : Int)) (pc' := 51) ⟨rfl, rfl⟩ rfl (by omega) rfl rfl ?_
            refine qa_goto (pc' := 54) (tgt := 19) ⟨rfl, rfl⟩ rfl ?_
            refine ih (k + 1) _ ⟨by omega, by omega, ?_⟩
            rw [← hr]; conv => rhs; unfold sp_nI
            rw [if_neg (by omega)]; rfl
          · refine qa_iload_n (pc' := 38) ⟨rfl, rfl⟩ rfl ?_
            refine qa_ireturn rfl rfl rfl (hQ _ _ ⟨by rw [if_neg (by omega), ← hr]; unfold sp_nI; rw [if_pos hc2], rfl⟩)
    have q1 := Int.emod_nonneg tick (by omega : t ≠ 0)
    have q2 := Int.emod_lt_of_pos tick (by omega : 0 < t)
    exact lp n.toNat 0 _ ⟨by omega, by omega, rfl⟩
  · refine qa_iconst (pc' := 9) ⟨rfl, rfl⟩ ?_
    refine qa_ireturn rfl rfl rfl (hQ _ _ ⟨by rw [if_pos (by omega)], rfl⟩)
def sp_pI (p : Int → Int) (x : Int) : Int := if x = -1 then -1 else p x
theorem c_P_pitchIn {E : qa_V} {σ : qa_S} {b : Nat} {n t u d s o : Int} {tick : Int} {p l : Int → Int} (hb : σ.1 b = some (qa_PtF b n t u d s o)) (hp : σ.1 (b + 1) = some (qa_ia 10 p)) (hl : σ.1 (b + 2) = some (qa_ia 10 l)) (ht : 0 ≤ t ∧ t ≤ 1000) (hn : 0 ≤ n ∧ n ≤ 10) (hl9 : sp_Ln n l) (hk9 : 0 ≤ tick ∧ tick ≤ 2147483647) : qa_T E qm_P_pitchIn 0 0 [.ref b, .int (qa_i tick)] σ (fun o9 τ => o9 = .inl (some (.int (qa_i (sp_pI p (if t < 1 then -1 else sp_nI l n.toNat 0 (tick % t)))))) ∧ τ = σ) := by
  refine qa_enterQ (by decide) rfl qm_P_pitchIn_ok rfl rfl (fun Q9 hQ => ?_)
  refine qa_aload_n (pc' := 1) ⟨rfl, rfl⟩ rfl ?_
  refine qa_iload_n (pc' := 2) ⟨rfl, rfl⟩ rfl ?_
  refine qa_callV rfl qf_P_noteIn ql_3_47 (c_P_noteIn hb hl ht hn hl9 hk9) (by assumption) rfl rfl rfl (qa_lt9 rfl) (qa_le9 rfl) (qa_le9 rfl) (qa_le9 rfl) (fun o9 τ9 hq9 => ?_)
  obtain ⟨rfl, rfl⟩ := hq9
  refine qa_nx (pc' := 5) (st' := [_]) rfl rfl rfl rfl ?_
  have hb9 := sp_nI_b l n.toNat 0 (tick % t)
  obtain ⟨x, hx⟩ : ∃ x, x = (if t < 1 then -1 else sp_nI l n.toNat 0 (tick % t)) := ⟨_, rfl⟩
  have hx1 : -1 ≤ x ∧ x < n := by rw [hx]; split <;> omega
  rw [← hx]
  refine qa_istore_n (L' := [(0, _), (1, _), (2, _)]) (pc' := 6) ⟨rfl, rfl⟩ rfl rfl ?_
  refine qa_iload_n (pc' := 7) ⟨rfl, rfl⟩ rfl ?_
  refine qa_iconst (pc' := 8) ⟨rfl, rfl⟩ ?_
  refine qa_icmp_ne (pc' := 11) (tgt := 15) ⟨rfl, rfl⟩ rfl (by omega) (by omega) (fun hc => ?_) (fun hc => ?_)
  · refine qa_aload_n (pc' := 16) ⟨rfl, rfl⟩ rfl ?_
    refine qa_getf (pc' := 19) ⟨rfl, rfl⟩ qg_3_9 (by assumption) rfl ?_
    refine qa_iload_n (pc' := 20) ⟨rfl, rfl⟩ rfl ?_
    refine qa_iaload (pc' := 21) ⟨rfl, rfl⟩ (by assumption) (by omega) ?_
    refine qa_ireturn rfl rfl rfl (hQ _ _ ⟨by rw [← hx]; unfold sp_pI; rw [if_neg hc], rfl⟩)
  · refine qa_iconst (pc' := 12) ⟨rfl, rfl⟩ ?_
    refine qa_goto (pc' := 15) (tgt := 21) ⟨rfl, rfl⟩ rfl ?_
    refine qa_ireturn rfl rfl rfl (hQ _ _ ⟨by rw [← hx]; unfold sp_pI; rw [if_pos hc], rfl⟩)
theorem c_P_pitchTotal {E : qa_V} {σ : qa_S} {b : Nat} {n t u d s o : Int} {p l : Int → Int} (hb : σ.1 b = some (qa_PtF b n t u d s o)) (hp : σ.1 (b + 1) = some (qa_ia 10 p))  (hn : 0 ≤ n ∧ n ≤ 10) (hp9 : sp_P n p) (hl9 : sp_Ln n l) : qa_T E qm_P_pitchTotal 0 0 [.ref b] σ (fun o9 τ => o9 = .inl (some (.int (qa_i (sp_ct p n.toNat)))) ∧ τ = σ) := by
  refine qa_enterQ (by decide) rfl qm_P_pitchTotal_ok rfl rfl (fun Q9 hQ => ?_)
  refine qa_iconst (pc' := 1) ⟨rfl, rfl⟩ ?_
  refine qa_istore_n (L' := [(0, _), (1, _)]) (pc' := 2) ⟨rfl, rfl⟩ rfl rfl ?_
  refine qa_iconst (pc' := 3) ⟨rfl, rfl⟩ ?_
  refine qa_istore_n (L' := [(0, _), (1, _), (2, _)]) (pc' := 4) ⟨rfl, rfl⟩ rfl rfl ?_
  have lp : ∀ (f : Nat) (k : Nat) (r : Int), (k : Int) + f = n ∧ (0 ≤ r ∧ r ≤ 40 * k) ∧ r = sp_ct p k → qa_W E qm_P_pitchTotal Q9 0 0 4 [(0, .ref b), (1, .int (qa_i r)), (2, .int (qa_i k))] [] σ := by
    intro f
    induction f with
    | zero =>
      intro k r ⟨hk, hr0, hr⟩
      refine qa_iload_n (pc' := 5) ⟨rfl, rfl⟩ rfl ?_
      refine qa_aload_n (pc' := 6) ⟨rfl, rfl⟩ rfl ?_
      refine qa_getf (pc' := 9) ⟨rfl, rfl⟩ qg_3_31 (by assumption) rfl ?_
      refine qa_icmp_ge (pc' := 12) (tgt := 31) ⟨rfl, rfl⟩ rfl (by omega) (by omega) (fun hc1 => ?_) (fun hc1 => ?_)
      · refine qa_iload_n (pc' := 32) ⟨rfl, rfl⟩ rfl ?_
        refine qa_ireturn rfl rfl rfl (hQ _ _ ⟨by rw [hr, show k = n.toNat by omega], rfl⟩)
      · exact absurd hc1 (by omega)
    | succ f ih =>
      intro k r ⟨hk, hr0, hr⟩
      have hpk := hp9 k (by omega) (by omega)
      refine qa_iload_n (pc' := 5) ⟨rfl, rfl⟩ rfl ?_
      refine qa_aload_n (pc' := 6) ⟨rfl, rfl⟩ rfl ?_
      refine qa_getf (pc' := 9) ⟨rfl, rfl⟩ qg_3_31 (by assumption) rfl ?_
      refine qa_icmp_ge (pc' := 12) (tgt := 31) ⟨rfl, rfl⟩ rfl (by omega) (by omega) (fun hc1 => ?_) (fun hc1 => ?_)
      · exact absurd hc1 (by omega)
      · refine qa_aload_n (pc' := 13) ⟨rfl, rfl⟩ rfl ?_
        refine qa_getf (pc' := 16) ⟨rfl, rfl⟩ qg_3_9 (by assumption) rfl ?_
        refine qa_iload_n (pc' := 17) ⟨rfl, rfl⟩ rfl ?_
        refine qa_iaload (pc' := 18) ⟨rfl, rfl⟩ (by assumption) (by omega) ?_
        refine qa_iconst (pc' := 19) ⟨rfl, rfl⟩ ?_
        refine qa_icmp_eq (pc' := 22) (tgt := 25) ⟨rfl, rfl⟩ rfl (by omega) (by omega) (fun hc2 => ?_) (fun hc2 => ?_)
        · refine qa_iinc (L' := [(0, _), (1, _), (2, _)]) (z := ((k + 1 : Nat) : Int)) (pc' := 28) ⟨rfl, rfl⟩ rfl (by omega) rfl rfl ?_
          refine qa_goto (pc' := 31) (tgt := 4) ⟨rfl, rfl⟩ rfl ?_
          refine ih (k + 1) _ ⟨by omega, by omega, ?_⟩
          unfold sp_ct; rw [if_pos hc2, hr]; omega
        · refine qa_iinc (L' := [(0, _), (1, _), (2, _)]) (pc' := 25) ⟨rfl, rfl⟩ rfl rfl rfl rfl ?_
          refine qa_iinc (L' := [(0, _), (1, _), (2, _)]) (z := ((k + 1 : Nat) : Int)) (pc' := 28) ⟨rfl, rfl⟩ rfl (by omega) rfl rfl ?_
          refine qa_goto (pc' := 31) (tgt := 4) ⟨rfl, rfl⟩ rfl ?_
          refine ih (k + 1) _ ⟨by omega, by omega, ?_⟩
          unfold sp_ct; rw [if_neg hc2, hr]
  exact lp n.toNat 0 0 ⟨by omega, by omega, rfl⟩
theorem c_P_pitchSum {E : qa_V} {σ : qa_S} {b : Nat} {n t u d s o : Int} {p l : Int → Int} (hb : σ.1 b = some (qa_PtF b n t u d s o)) (hp : σ.1 (b + 1) = some (qa_ia 10 p))  (hn : 0 ≤ n ∧ n ≤ 10) (hp9 : sp_P n p) (hl9 : sp_Ln n l) : qa_T E qm_P_pitchSum 0 0 [.ref b] σ (fun o9 τ => o9 = .inl (some (.int (qa_i (sp_ps p n.toNat)))) ∧ τ = σ) := by
  refine qa_enterQ (by decide) rfl qm_P_pitchSum_ok rfl rfl (fun Q9 hQ => ?_)
  refine qa_iconst (pc' := 1) ⟨rfl, rfl⟩ ?_
  refine qa_istore_n (L' := [(0, _), (1, _)]) (pc' := 2) ⟨rfl, rfl⟩ rfl rfl ?_
  refine qa_iconst (pc' := 3) ⟨rfl, rfl⟩ ?_
  refine qa_istore_n (L' := [(0, _), (1, _), (2, _)]) (pc' := 4) ⟨rfl, rfl⟩ rfl rfl ?_
  have lp : ∀ (f : Nat) (k : Nat) (r : Int), (k : Int) + f = n ∧ (0 ≤ r ∧ r ≤ 40 * k) ∧ r = sp_ps p k → qa_W E qm_P_pitchSum Q9 0 0 4 [(0, .ref b), (1, .int (qa_i r)), (2, .int (qa_i k))] [] σ := by
    intro f
    induction f with
    | zero =>
      intro k r ⟨hk, hr0, hr⟩
      refine qa_iload_n (pc' := 5) ⟨rfl, rfl⟩ rfl ?_
      refine qa_aload_n (pc' := 6) ⟨rfl, rfl⟩ rfl ?_
      refine qa_getf (pc' := 9) ⟨rfl, rfl⟩ qg_3_31 (by assumption) rfl ?_
      refine qa_icmp_ge (pc' := 12) (tgt := 37) ⟨rfl, rfl⟩ rfl (by omega) (by omega) (fun hc1 => ?_) (fun hc1 => ?_)
      · refine qa_iload_n (pc' := 38) ⟨rfl, rfl⟩ rfl ?_
        refine qa_ireturn rfl rfl rfl (hQ _ _ ⟨by rw [hr, show k = n.toNat by omega], rfl⟩)
      · exact absurd hc1 (by omega)
    | succ f ih =>
      intro k r ⟨hk, hr0, hr⟩
      have hpk := hp9 k (by omega) (by omega)
      refine qa_iload_n (pc' := 5) ⟨rfl, rfl⟩ rfl ?_
      refine qa_aload_n (pc' := 6) ⟨rfl, rfl⟩ rfl ?_
      refine qa_getf (pc' := 9) ⟨rfl, rfl⟩ qg_3_31 (by assumption) rfl ?_
      refine qa_icmp_ge (pc' := 12) (tgt := 37) ⟨rfl, rfl⟩ rfl (by omega) (by omega) (fun hc1 => ?_) (fun hc1 => ?_)
      · exact absurd hc1 (by omega)
      · refine qa_aload_n (pc' := 13) ⟨rfl, rfl⟩ rfl ?_
        refine qa_getf (pc' := 16) ⟨rfl, rfl⟩ qg_3_9 (by assumption) rfl ?_
        refine qa_iload_n (pc' := 17) ⟨rfl, rfl⟩ rfl ?_
        refine qa_iaload (pc' := 18) ⟨rfl, rfl⟩ (by assumption) (by omega) ?_
        refine qa_iconst (pc' := 19) ⟨rfl, rfl⟩ ?_
        refine qa_icmp_eq (pc' := 22) (tgt := 31) ⟨rfl, rfl⟩ rfl (by omega) (by omega) (fun hc2 => ?_) (fun hc2 => ?_)
        · refine qa_iinc (L' := [(0, _), (1, _), (2, _)]) (z := ((k + 1 : Nat) : Int)) (pc' := 34) ⟨rfl, rfl⟩ rfl (by omega) rfl rfl ?_
          refine qa_goto (pc' := 37) (tgt := 4) ⟨rfl, rfl⟩ rfl ?_
          refine ih (k + 1) _ ⟨by omega, by omega, ?_⟩
          unfold sp_ps; rw [if_pos hc2, hr]; omega
        · refine qa_iload_n (pc' := 23) ⟨rfl, rfl⟩ rfl ?_
          refine qa_aload_n (pc' := 24) ⟨rfl, rfl⟩ rfl ?_
          refine qa_getf (pc' := 27) ⟨rfl, rfl⟩ qg_3_9 (by assumption) rfl ?_
          refine qa_iload_n (pc' := 28) ⟨rfl, rfl⟩ rfl ?_
          refine qa_iaload (pc' := 29) ⟨rfl, rfl⟩ (by assumption) (by omega) ?_
          refine qa_iadd (pc' := 30) ⟨rfl, rfl⟩ rfl ?_
          refine qa_istore_n (L' := [(0, _), (1, _), (2, _)]) (pc' := 31) ⟨rfl, rfl⟩ rfl rfl ?_
          refine qa_iinc (L' := [(0, _), (1, _), (2, _)]) (z := ((k + 1 : Nat) : Int)) (pc' := 34) ⟨rfl, rfl⟩ rfl (by omega) rfl rfl ?_
          refine qa_goto (pc' := 37) (tgt := 4) ⟨rfl, rfl⟩ rfl ?_
          refine ih (k + 1) _ ⟨by omega, by omega, ?_⟩
          unfold sp_ps; rw [if_neg hc2, hr]
  exact lp n.toNat 0 0 ⟨by omega, by omega, rfl⟩
theorem c_P_restTicks {E : qa_V} {σ : qa_S} {b : Nat} {n t u d s o : Int} {p l : Int → Int} (hb : σ.1 b = some (qa_PtF b n t u d s o)) (hp : σ.1 (b + 1) = some (qa_ia 10 p)) (hl : σ.1 (b + 2) = some (qa_ia 10 l)) (hn : 0 ≤ n ∧ n ≤ 10) (hp9 : sp_P n p) (hl9 : sp_Ln n l) : qa_T E qm_P_restTicks 0 0 [.ref b] σ (fun o9 τ => o9 = .inl (some (.int (qa_i (sp_rs p l n.toNat)))) ∧ τ = σ) := by
  refine qa_enterQ (by decide) rfl qm_P_restTicks_ok rfl rfl (fun Q9 hQ => ?_)
  refine qa_iconst (pc' := 1) ⟨rfl, rfl⟩ ?_
  refine qa_istore_n (L' := [(0, _), (1, _)]) (pc' := 2) ⟨rfl, rfl⟩ rfl rfl ?_
  refine qa_iconst (pc' := 3) ⟨rfl, rfl⟩ ?_
  refine qa_istore_n (L' := [(0, _), (1, _), (2, _)]) (pc' := 4) ⟨rfl, rfl⟩ rfl rfl ?_
  have lp : ∀ (f : Nat) (k : Nat) (r : Int), (k : Int) + f = n ∧ (0 ≤ r ∧ r ≤ 40 * k) ∧ r = sp_rs p l k → qa_W E qm_P_restTicks Q9 0 0 4 [(0, .ref b), (1, .int (qa_i r)), (2, .int (qa_i k))] [] σ := by
    intro f
    induction f with
    | zero =>
      intro k r ⟨hk, hr0, hr⟩
      refine qa_iload_n (pc' := 5) ⟨rfl, rfl⟩ rfl ?_
      refine qa_aload_n (pc' := 6) ⟨rfl, rfl⟩ rfl ?_
      refine qa_getf (pc' := 9) ⟨rfl, rfl⟩ qg_3_31 (by assumption) rfl ?_
      refine qa_icmp_ge (pc' := 12) (tgt := 37) ⟨rfl, rfl⟩ rfl (by omega) (by omega) (fun hc1 => ?_) (fun hc1 => ?_)
      · refine qa_iload_n (pc' := 38) ⟨rfl, rfl⟩ rfl ?_
        refine qa_ireturn rfl rfl rfl (hQ _ _ ⟨by rw [hr, show k = n.toNat by omega], rfl⟩)
      · exact absurd hc1 (by omega)
    | succ f ih =>
      intro k r ⟨hk, hr0, hr⟩
      have hpk := hp9 k (by omega) (by omega)
      have hlk := hl9 k (by omega) (by omega)
      refine qa_iload_n (pc' := 5) ⟨rfl, rfl⟩ rfl ?_
      refine qa_aload_n (pc' := 6) ⟨rfl, rfl⟩ rfl ?_
      refine qa_getf (pc' := 9) ⟨rfl, rfl⟩ qg_3_31 (by assumption) rfl ?_
      refine qa_icmp_ge (pc' := 12) (tgt := 37) ⟨rfl, rfl⟩ rfl (by omega) (by omega) (fun hc1 => ?_) (fun hc1 => ?_)
      · exact absurd hc1 (by omega)
      · refine qa_aload_n (pc' := 13) ⟨rfl, rfl⟩ rfl ?_
        refine qa_getf (pc' := 16) ⟨rfl, rfl⟩ qg_3_9 (by assumption) rfl ?_
        refine qa_iload_n (pc' := 17) ⟨rfl, rfl⟩ rfl ?_
        refine qa_iaload (pc' := 18) ⟨rfl, rfl⟩ (by assumption) (by omega) ?_
        refine qa_iconst (pc' := 19) ⟨rfl, rfl⟩ ?_
        refine qa_icmp_ne (pc' := 22) (tgt := 31) ⟨rfl, rfl⟩ rfl (by omega) (by omega) (fun hc2 => ?_) (fun hc2 => ?_)
        · refine qa_iinc (L' := [(0, _), (1, _), (2, _)]) (z := ((k + 1 : Nat) : Int)) (pc' := 34) ⟨rfl, rfl⟩ rfl (by omega) rfl rfl ?_
          refine qa_goto (pc' := 37) (tgt := 4) ⟨rfl, rfl⟩ rfl ?_
          refine ih (k + 1) _ ⟨by omega, by omega, ?_⟩
          unfold sp_rs; rw [if_neg hc2, hr]; omega
        · refine qa_iload_n (pc' := 23) ⟨rfl, rfl⟩ rfl ?_
          refine qa_aload_n (pc' := 24) ⟨rfl, rfl⟩ rfl ?_
          refine qa_getf (pc' := 27) ⟨rfl, rfl⟩ qg_3_15 (by assumption) rfl ?_
          refine qa_iload_n (pc' := 28) ⟨rfl, rfl⟩ rfl ?_
          refine qa_iaload (pc' := 29) ⟨rfl, rfl⟩ (by assumption) (by omega) ?_
          refine qa_iadd (pc' := 30) ⟨rfl, rfl⟩ rfl ?_
          refine qa_istore_n (L' := [(0, _), (1, _), (2, _)]) (pc' := 31) ⟨rfl, rfl⟩ rfl rfl ?_
          refine qa_iinc (L' := [(0, _), (1, _), (2, _)]) (z := ((k + 1 : Nat) : Int)) (pc' := 34) ⟨rfl, rfl⟩ rfl (by omega) rfl rfl ?_
          refine qa_goto (pc' := 37) (tgt := 4) ⟨rfl, rfl⟩ rfl ?_
          refine ih (k + 1) _ ⟨by omega, by omega, ?_⟩
          unfold sp_rs; rw [if_pos hc2, hr]
  exact lp n.toNat 0 0 ⟨by omega, by omega, rfl⟩
