theorem c_P_endsAfter {E : qa_V} {σ : qa_S} {b : Nat} {n t u d s o : Int} {af : Int} (hb : σ.1 b = some (qa_PtF b n t u d s o)) (ht : 0 ≤ t ∧ t ≤ 1000) (ha : 0 ≤ af ∧ af ≤ 2147483647) : qa_T E qm_P_endsAfter 0 0 [.ref b, .int (qa_i af)] σ (fun o9 τ => o9 = .inl (some (.int (qa_i (if t < 1 ∨ af % t = 0 then 1 else 0)))) ∧ τ = σ) := by
  refine qa_enter (by decide) rfl qm_P_endsAfter_ok rfl rfl ?_
  have e0 : σ.2 = σ.2 := rfl
  refine qa_aload_n (pc' := 1) ⟨rfl, rfl⟩ rfl ?_
  refine qa_getf (pc' := 4) ⟨rfl, rfl⟩ qg_3_34 (by assumption) rfl ?_
  refine qa_iconst (pc' := 5) ⟨rfl, rfl⟩ ?_
  refine qa_icmp_lt (pc' := 8) (tgt := 17) ⟨rfl, rfl⟩ rfl (by omega) (by omega) (fun hc => ?_) (fun hc => ?_)
  · refine qa_iconst (pc' := 18) ⟨rfl, rfl⟩ ?_
    refine qa_goto (pc' := 21) (tgt := 22) ⟨rfl, rfl⟩ rfl ?_
    refine qa_ireturn rfl rfl rfl ⟨by rw [if_pos (by omega)], rfl⟩
  · refine qa_iload_n (pc' := 9) ⟨rfl, rfl⟩ rfl ?_
    refine qa_aload_n (pc' := 10) ⟨rfl, rfl⟩ rfl ?_
    refine qa_getf (pc' := 13) ⟨rfl, rfl⟩ qg_3_34 (by assumption) rfl ?_
    refine qa_irem (pc' := 14) ⟨rfl, rfl⟩ (by omega) (by omega) (by omega) (by omega) rfl ?_
    refine qa_if_ne (pc' := 17) (tgt := 21) ⟨rfl, rfl⟩ rfl (by constructor <;> first | omega | (have := Int.emod_nonneg af (by omega : t ≠ 0); have := Int.emod_lt_of_pos af (by omega : 0 < t); omega)) (fun hc => ?_) (fun hc => ?_)
    · refine qa_iconst (pc' := 22) ⟨rfl, rfl⟩ ?_
      refine qa_ireturn rfl rfl rfl ⟨by rw [if_neg (by omega)], rfl⟩
    · refine qa_iconst (pc' := 18) ⟨rfl, rfl⟩ ?_
      refine qa_goto (pc' := 21) (tgt := 22) ⟨rfl, rfl⟩ rfl ?_
      refine qa_ireturn rfl rfl rfl ⟨by rw [if_pos (by omega)], rfl⟩
theorem c_P_append {E : qa_V} {σ : qa_S} {b : Nat} {n t u d s o : Int} {x y : Int} {p l : Int → Int} (hlo : E.1 ≤ b) (hb : σ.1 b = some (qa_PtF b n t u d s o)) (hp : σ.1 (b + 1) = some (qa_ia 10 p)) (hl : σ.1 (b + 2) = some (qa_ia 10 l)) (hn : 0 ≤ n ∧ n < 10) : qa_T E qm_P_append 0 0 [.ref b, .int (qa_i x), .int (qa_i y)] σ (fun o9 τ => o9 = .inl none ∧ τ.2 = σ.2 ∧ τ.1 b = some (qa_PtF b (n + 1) (t + y) u d s o) ∧ τ.1 (b + 1) = some (qa_ia 10 (qa_up p n x)) ∧ τ.1 (b + 2) = some (qa_ia 10 (qa_up l n y)) ∧ ∀ q, (q < b ∨ b + 3 ≤ q) → τ.1 q = σ.1 q) := by
  refine qa_enter (by decide) rfl qm_P_append_ok rfl rfl ?_
  have e0 : σ.2 = σ.2 := rfl
  have fr : ∀ q, (q < b ∨ b + 3 ≤ q) → σ.1 q = σ.1 q := fun _ _ => rfl
  refine qa_aload_n (pc' := 1) ⟨rfl, rfl⟩ rfl ?_
  refine qa_getf (pc' := 4) ⟨rfl, rfl⟩ qg_3_31 (by assumption) rfl ?_
  refine qa_bipush (z := 10) (pc' := 6) ⟨rfl, rfl⟩ rfl ?_
  refine qa_icmp_ge (pc' := 9) (tgt := 49) ⟨rfl, rfl⟩ rfl (by omega) (by omega) (fun hc => ?_) (fun hc => ?_)
  · exact absurd hc (by omega)
  · refine qa_aload_n (pc' := 10) ⟨rfl, rfl⟩ rfl ?_
    refine qa_getf (pc' := 13) ⟨rfl, rfl⟩ qg_3_9 (by assumption) rfl ?_
    refine qa_aload_n (pc' := 14) ⟨rfl, rfl⟩ rfl ?_
    refine qa_getf (pc' := 17) ⟨rfl, rfl⟩ qg_3_31 (by assumption) rfl ?_
    refine qa_iload_n (pc' := 18) ⟨rfl, rfl⟩ rfl ?_
    refine qa_iastore (pc' := 19) ⟨rfl, rfl⟩ (by assumption) (by omega) (by omega) ?_
    refine qa_gz (fun τ1 e1 w1 f1 => ?_)
    replace hb := (f1 _ (by omega)).trans hb
    replace hl := (f1 _ (by omega)).trans hl
    replace fr := fun q hq => (f1 q (by have := hq; omega)).trans (fr q hq)
    replace e0 := e1.trans e0
    refine qa_aload_n (pc' := 20) ⟨rfl, rfl⟩ rfl ?_
    refine qa_getf (pc' := 23) ⟨rfl, rfl⟩ qg_3_15 (by assumption) rfl ?_
    refine qa_aload_n (pc' := 24) ⟨rfl, rfl⟩ rfl ?_
    refine qa_getf (pc' := 27) ⟨rfl, rfl⟩ qg_3_31 (by assumption) rfl ?_
    refine qa_iload_n (pc' := 28) ⟨rfl, rfl⟩ rfl ?_
    refine qa_iastore (pc' := 29) ⟨rfl, rfl⟩ (by assumption) (by omega) (by omega) ?_
    refine qa_gz (fun τ2 e2 w2 f2 => ?_)
    replace hb := (f2 _ (by omega)).trans hb
    replace w1 := (f2 _ (by omega)).trans w1
    replace fr := fun q hq => (f2 q (by have := hq; omega)).trans (fr q hq)
    replace e0 := e2.trans e0
    refine qa_aload_n (pc' := 30) ⟨rfl, rfl⟩ rfl ?_
    refine qa_dup (pc' := 31) ⟨rfl, rfl⟩ rfl ?_
    refine qa_getf (pc' := 34) ⟨rfl, rfl⟩ qg_3_31 (by assumption) rfl ?_
    refine qa_iconst (pc' := 35) ⟨rfl, rfl⟩ ?_
    refine qa_iadd (pc' := 36) ⟨rfl, rfl⟩ rfl ?_
    refine qa_putf (fs' := [_, _, _, _, _, _, _, _]) (pc' := 39) ⟨rfl, rfl⟩ qg_3_31 qw_2 (by assumption) (by omega) rfl (fun r hr => by cases hr; exact ⟨rfl, Or.inl rfl⟩) rfl rfl ?_
    refine qa_gz (fun τ3 e3 w3 f3 => ?_)
    replace w1 := (f3 _ (by omega)).trans w1
    replace w2 := (f3 _ (by omega)).trans w2
    replace fr := fun q hq => (f3 q (by have := hq; omega)).trans (fr q hq)
    replace e0 := e3.trans e0
    refine qa_aload_n (pc' := 40) ⟨rfl, rfl⟩ rfl ?_
    refine qa_dup (pc' := 41) ⟨rfl, rfl⟩ rfl ?_
    refine qa_getf (pc' := 44) ⟨rfl, rfl⟩ qg_3_34 (by assumption) rfl ?_
    refine qa_iload_n (pc' := 45) ⟨rfl, rfl⟩ rfl ?_
    refine qa_iadd (pc' := 46) ⟨rfl, rfl⟩ rfl ?_
    refine qa_putf (fs' := [_, _, _, _, _, _, _, _]) (pc' := 49) ⟨rfl, rfl⟩ qg_3_34 qw_2 (by assumption) (by omega) rfl (fun r hr => by cases hr; exact ⟨rfl, Or.inl rfl⟩) rfl rfl ?_
    refine qa_gz (fun τ4 e4 w4 f4 => ?_)
    replace w1 := (f4 _ (by omega)).trans w1
    replace w2 := (f4 _ (by omega)).trans w2
    replace fr := fun q hq => (f4 q (by have := hq; omega)).trans (fr q hq)
    replace e0 := e4.trans e0
    refine qa_return rfl rfl ⟨rfl, e0, w4, w1, w2, fr⟩
