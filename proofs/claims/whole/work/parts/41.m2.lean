/-- what a query of the model does: thrown is r's first, the answer its second; nothing else is written -/
def qa_Mi (σ : qa_S) (μ : Nat) (f : Nat → Int) (r : Int × Int) : qa_O → qa_S → Prop := fun o9 τ => (∃ v : Int, o9 = .inl (some (.int (qa_i v))) ∧ (r.1 = 0 → v = r.2)) ∧ τ.2 = σ.2 ∧ τ.1 μ = some (qa_MoF μ (sN_put f 12 r.1)) ∧ ∀ q, q ≠ μ → τ.1 q = σ.1 q
theorem qa_Mi.mk {σ τ : qa_S} {μ : Nat} {f : Nat → Int} {r : Int × Int} {k v w : Int} (hr : r = (k, w)) (hv : k = 0 → v = w) (he : τ.2 = σ.2) (hw : τ.1 μ = some (qa_MoF μ (sN_put f 12 k))) (hf : ∀ q, q ≠ μ → τ.1 q = σ.1 q) : qa_Mi σ μ f r (.inl (some (.int (qa_i v)))) τ := by
  subst hr
  exact ⟨⟨v, rfl, hv⟩, he, hw, hf⟩
theorem sN_pp (f : Nat → Int) (j : Nat) (a b : Int) : sN_put (sN_put f j a) j b = sN_put f j b := by
  funext k
  unfold sN_put
  split <;> rfl
theorem c_M_ofPart {E : qa_V} {σ : qa_S} {μ : Nat} {f : Nat → Int} {m : Int → Int} {B : Int} {p w : Int} (hlo : E.1 ≤ μ) (hM : σ.1 μ = some (qa_MoF μ f)) (hm : σ.1 (μ + 1) = some (qa_ia 146 m)) (hk : sm_ok m B) (hp : qa_in p) (hw : 0 ≤ w ∧ w ≤ 5) : qa_T E qm_M_ofPart 0 0 [.ref μ, .int (qa_i p), .int (qa_i w)] σ (qa_Mi σ μ f (fo_of m p (m (4 + 26 * p + w)))) := by
  refine qa_enterQ (by decide) rfl qm_M_ofPart_ok rfl rfl (fun Q9 hQ => ?_)
  obtain ⟨k0, k1, k2, k3, k4, k5, k6, k7, k8⟩ := id hk
  have e0 : σ.2 = σ.2 := rfl
  have fr : ∀ q, q ≠ μ → σ.1 q = σ.1 q := fun _ _ => rfl
  refine qa_aload_n (pc' := 1) ⟨rfl, rfl⟩ rfl ?_
  refine qa_iconst (pc' := 2) ⟨rfl, rfl⟩ ?_
  refine qa_putf (fs' := [_, _, _, _, _, _, _, _, _, _, _, _, _, _, _, _, _, _, _, _, _, _, _, _, _, _, _]) (pc' := 5) ⟨rfl, rfl⟩ qg_10_51 qw_9 hM (by omega) rfl (fun r hr => by cases hr; exact ⟨rfl, Or.inl rfl⟩) rfl rfl ?_
  refine qa_gz (fun τ1 e1 w1 f1 => ?_)
  replace hm := (f1 _ (by omega)).trans hm
  replace fr := fun q hq => (f1 q (by have := hq; omega)).trans (fr q hq)
  replace e0 := e1.trans e0
  have hM : τ1.1 μ = some (qa_MoF μ (sN_put f 12 0)) := w1
  refine qa_aload_n (pc' := 6) ⟨rfl, rfl⟩ rfl ?_
  refine qa_iload_n (pc' := 7) ⟨rfl, rfl⟩ rfl ?_
  refine qa_callV rfl qf_M_isPart ql_10_111 (c_M_isPart (E := E) hM hm hk (by omega)) hM rfl rfl rfl (qa_lt9 rfl) (qa_le9 rfl) (qa_le9 rfl) (qa_le9 rfl) (fun o9 τ9 hq9 => ?_)
  obtain ⟨rfl, hq9⟩ := hq9
  replace hq9 := hq9.symm; subst hq9
  refine qa_nx (pc' := 10) (st' := [_]) rfl rfl rfl rfl ?_
  by_cases hp9 : 0 ≤ p ∧ p < m 0
  · rw [if_pos hp9]
    refine qa_if_eq (pc' := 13) (tgt := 27) ⟨rfl, rfl⟩ rfl (by omega) (fun hp99 => ?_) (fun hp99 => ?_)
    · exact absurd hp99 (by omega)
    · refine qa_aload_n (pc' := 14) ⟨rfl, rfl⟩ rfl ?_
      refine qa_getf (pc' := 17) ⟨rfl, rfl⟩ qg_10_9 (by assumption) rfl ?_
      refine qa_iload_n (pc' := 18) ⟨rfl, rfl⟩ rfl ?_
      refine qa_callS rfl qf_M_partAt rfl ql_10_74 (c_M_partAt (E := E)) rfl rfl (qa_lt9 rfl) (qa_le9 rfl) (qa_le9 rfl) (qa_le9 rfl) (fun o9 τ9 hq9 => ?_)
      obtain ⟨rfl, hq9⟩ := hq9
      replace hq9 := hq9.symm; subst hq9
      refine qa_nx (pc' := 21) (st' := [_, _]) rfl rfl rfl rfl ?_
      refine qa_iload_n (pc' := 22) ⟨rfl, rfl⟩ rfl ?_
      refine qa_iadd (pc' := 23) ⟨rfl, rfl⟩ rfl ?_
      refine qa_iaload (pc' := 24) ⟨rfl, rfl⟩ (by assumption) (by omega) ?_
      refine qa_goto (pc' := 27) (tgt := 32) ⟨rfl, rfl⟩ rfl ?_
      refine qa_ireturn rfl rfl rfl (hQ _ _ (qa_Mi.mk (k := 0) (by unfold fo_of; repeat (first | rw [if_pos (by omega)] | rw [if_neg (by omega)])) (fun _ => rfl) e0 hM fr))
  · rw [if_neg hp9]
    refine qa_if_eq (pc' := 13) (tgt := 27) ⟨rfl, rfl⟩ rfl (by omega) (fun hp99 => ?_) (fun hp99 => ?_)
    · refine qa_aload_n (pc' := 28) ⟨rfl, rfl⟩ rfl ?_
      refine qa_iconst (pc' := 29) ⟨rfl, rfl⟩ ?_
      refine qa_callV rfl qf_M_throwing ql_10_60 (c_M_throwing (E := E) (f := (sN_put f 12 0)) (v := 1) hlo hM) hM rfl rfl rfl (qa_lt9 rfl) (qa_le9 rfl) (qa_le9 rfl) (qa_le9 rfl) (fun o9 τ9 hq9 => ?_)
      obtain ⟨rfl, e9, hM, f9⟩ := hq9
      refine qa_nx (pc' := 32) (st' := [_]) rfl rfl rfl rfl ?_
      refine qa_ireturn rfl rfl rfl (hQ _ _ (qa_Mi.mk (k := 1) (w := 0) (by unfold fo_of; repeat (first | rw [if_pos (by omega)] | rw [if_neg (by omega)])) (fun h => absurd h (by decide)) (e9.trans e0) (by rw [sN_pp] at hM; exact hM) (fun q hq => (f9 q hq).trans (fr q hq))))
    · exact absurd hp99 (by omega)
theorem c_M_partCount {E : qa_V} {σ : qa_S} {μ : Nat} {f : Nat → Int} {m : Int → Int} {B : Int}  (hlo : E.1 ≤ μ) (hM : σ.1 μ = some (qa_MoF μ f)) (hm : σ.1 (μ + 1) = some (qa_ia 146 m)) (hk : sm_ok m B)  : qa_T E qm_M_partCount 0 0 [.ref μ] σ (qa_Mi σ μ f ((0, m 0))) := by
  refine qa_enterQ (by decide) rfl qm_M_partCount_ok rfl rfl (fun Q9 hQ => ?_)
  obtain ⟨k0, k1, k2, k3, k4, k5, k6, k7, k8⟩ := id hk
  have e0 : σ.2 = σ.2 := rfl
  have fr : ∀ q, q ≠ μ → σ.1 q = σ.1 q := fun _ _ => rfl
  refine qa_aload_n (pc' := 1) ⟨rfl, rfl⟩ rfl ?_
  refine qa_iconst (pc' := 2) ⟨rfl, rfl⟩ ?_
  refine qa_putf (fs' := [_, _, _, _, _, _, _, _, _, _, _, _, _, _, _, _, _, _, _, _, _, _, _, _, _, _, _]) (pc' := 5) ⟨rfl, rfl⟩ qg_10_51 qw_9 hM (by omega) rfl (fun r hr => by cases hr; exact ⟨rfl, Or.inl rfl⟩) rfl rfl ?_
  refine qa_gz (fun τ1 e1 w1 f1 => ?_)
  replace hm := (f1 _ (by omega)).trans hm
  replace fr := fun q hq => (f1 q (by have := hq; omega)).trans (fr q hq)
  replace e0 := e1.trans e0
  have hM : τ1.1 μ = some (qa_MoF μ (sN_put f 12 0)) := w1
  refine qa_aload_n (pc' := 6) ⟨rfl, rfl⟩ rfl ?_
  refine qa_getf (pc' := 9) ⟨rfl, rfl⟩ qg_10_9 (by assumption) rfl ?_
  refine qa_iconst (pc' := 10) ⟨rfl, rfl⟩ ?_
  refine qa_iaload (pc' := 11) ⟨rfl, rfl⟩ (by assumption) (by omega) ?_
  refine qa_ireturn rfl rfl rfl (hQ _ _ (qa_Mi.mk (k := 0) (by rfl) (fun _ => rfl) e0 hM fr))
theorem c_M_barLength {E : qa_V} {σ : qa_S} {μ : Nat} {f : Nat → Int} {m : Int → Int} {B : Int}  (hlo : E.1 ≤ μ) (hM : σ.1 μ = some (qa_MoF μ f)) (hm : σ.1 (μ + 1) = some (qa_ia 146 m)) (hk : sm_ok m B)  : qa_T E qm_M_barLength 0 0 [.ref μ] σ (qa_Mi σ μ f ((0, m 1))) := by
  refine qa_enterQ (by decide) rfl qm_M_barLength_ok rfl rfl (fun Q9 hQ => ?_)
  obtain ⟨k0, k1, k2, k3, k4, k5, k6, k7, k8⟩ := id hk
  have e0 : σ.2 = σ.2 := rfl
  have fr : ∀ q, q ≠ μ → σ.1 q = σ.1 q := fun _ _ => rfl
  refine qa_aload_n (pc' := 1) ⟨rfl, rfl⟩ rfl ?_
  refine qa_iconst (pc' := 2) ⟨rfl, rfl⟩ ?_
  refine qa_putf (fs' := [_, _, _, _, _, _, _, _, _, _, _, _, _, _, _, _, _, _, _, _, _, _, _, _, _, _, _]) (pc' := 5) ⟨rfl, rfl⟩ qg_10_51 qw_9 hM (by omega) rfl (fun r hr => by cases hr; exact ⟨rfl, Or.inl rfl⟩) rfl rfl ?_
  refine qa_gz (fun τ1 e1 w1 f1 => ?_)
  replace hm := (f1 _ (by omega)).trans hm
  replace fr := fun q hq => (f1 q (by have := hq; omega)).trans (fr q hq)
  replace e0 := e1.trans e0
  have hM : τ1.1 μ = some (qa_MoF μ (sN_put f 12 0)) := w1
  refine qa_aload_n (pc' := 6) ⟨rfl, rfl⟩ rfl ?_
  refine qa_getf (pc' := 9) ⟨rfl, rfl⟩ qg_10_9 (by assumption) rfl ?_
  refine qa_iconst (pc' := 10) ⟨rfl, rfl⟩ ?_
  refine qa_iaload (pc' := 11) ⟨rfl, rfl⟩ (by assumption) (by omega) ?_
  refine qa_ireturn rfl rfl rfl (hQ _ _ (qa_Mi.mk (k := 0) (by rfl) (fun _ => rfl) e0 hM fr))
theorem c_M_playedTicks {E : qa_V} {σ : qa_S} {μ : Nat} {f : Nat → Int} {m : Int → Int} {B : Int}  (hlo : E.1 ≤ μ) (hM : σ.1 μ = some (qa_MoF μ f)) (hm : σ.1 (μ + 1) = some (qa_ia 146 m)) (hk : sm_ok m B)  : qa_T E qm_M_playedTicks 0 0 [.ref μ] σ (qa_Mi σ μ f ((0, m 3))) := by
  refine qa_enterQ (by decide) rfl qm_M_playedTicks_ok rfl rfl (fun Q9 hQ => ?_)
  obtain ⟨k0, k1, k2, k3, k4, k5, k6, k7, k8⟩ := id hk
  have e0 : σ.2 = σ.2 := rfl
  have fr : ∀ q, q ≠ μ → σ.1 q = σ.1 q := fun _ _ => rfl
  refine qa_aload_n (pc' := 1) ⟨rfl, rfl⟩ rfl ?_
  refine qa_iconst (pc' := 2) ⟨rfl, rfl⟩ ?_
  refine qa_putf (fs' := [_, _, _, _, _, _, _, _, _, _, _, _, _, _, _, _, _, _, _, _, _, _, _, _, _, _, _]) (pc' := 5) ⟨rfl, rfl⟩ qg_10_51 qw_9 hM (by omega) rfl (fun r hr => by cases hr; exact ⟨rfl, Or.inl rfl⟩) rfl rfl ?_
  refine qa_gz (fun τ1 e1 w1 f1 => ?_)
  replace hm := (f1 _ (by omega)).trans hm
  replace fr := fun q hq => (f1 q (by have := hq; omega)).trans (fr q hq)
  replace e0 := e1.trans e0
  have hM : τ1.1 μ = some (qa_MoF μ (sN_put f 12 0)) := w1
  refine qa_aload_n (pc' := 6) ⟨rfl, rfl⟩ rfl ?_
  refine qa_getf (pc' := 9) ⟨rfl, rfl⟩ qg_10_9 (by assumption) rfl ?_
  refine qa_iconst (pc' := 10) ⟨rfl, rfl⟩ ?_
  refine qa_iaload (pc' := 11) ⟨rfl, rfl⟩ (by assumption) (by omega) ?_
  refine qa_ireturn rfl rfl rfl (hQ _ _ (qa_Mi.mk (k := 0) (by rfl) (fun _ => rfl) e0 hM fr))
theorem c_M_noteCount {E : qa_V} {σ : qa_S} {μ : Nat} {f : Nat → Int} {m : Int → Int} {B : Int} {p : Int} (hlo : E.1 ≤ μ) (hM : σ.1 μ = some (qa_MoF μ f)) (hm : σ.1 (μ + 1) = some (qa_ia 146 m)) (hk : sm_ok m B) (hp : qa_in p) : qa_T E qm_M_noteCount 0 0 [.ref μ, .int (qa_i p)] σ (qa_Mi σ μ f (fo_count m p)) := by
  refine qa_enterQ (by decide) rfl qm_M_noteCount_ok rfl rfl (fun Q9 hQ => ?_)
  obtain ⟨k0, k1, k2, k3, k4, k5, k6, k7, k8⟩ := id hk
  have e0 : σ.2 = σ.2 := rfl
  have fr : ∀ q, q ≠ μ → σ.1 q = σ.1 q := fun _ _ => rfl
  refine qa_aload_n (pc' := 1) ⟨rfl, rfl⟩ rfl ?_
  refine qa_iload_n (pc' := 2) ⟨rfl, rfl⟩ rfl ?_
  refine qa_iconst (pc' := 3) ⟨rfl, rfl⟩ ?_
  refine qa_callV rfl qf_M_ofPart ql_10_175 (c_M_ofPart (E := E) hlo hM hm hk hp (w := 0) (by omega)) hM rfl rfl rfl (qa_lt9 rfl) (qa_le9 rfl) (qa_le9 rfl) (qa_le9 rfl) (fun o9 τ9 hq9 => ?_)
  obtain ⟨⟨v9, rfl, hv9⟩, e9, w9, f9⟩ := hq9
  refine qa_nx (pc' := 6) (st' := [_]) rfl rfl rfl rfl ?_
  have e1 : fo_of m p (m (4 + 26 * p + 0)) = fo_count m p := by rw [show 4 + 26 * p + 0 = 4 + 26 * p by omega]; rfl
  rw [e1] at hv9 w9
  refine qa_ireturn rfl rfl rfl (hQ _ _ ⟨⟨v9, rfl, hv9⟩, e9, w9, f9⟩)
theorem c_M_tuningNumerator {E : qa_V} {σ : qa_S} {μ : Nat} {f : Nat → Int} {m : Int → Int} {B : Int} {p : Int} (hlo : E.1 ≤ μ) (hM : σ.1 μ = some (qa_MoF μ f)) (hm : σ.1 (μ + 1) = some (qa_ia 146 m)) (hk : sm_ok m B) (hp : qa_in p) : qa_T E qm_M_tuningNumerator 0 0 [.ref μ, .int (qa_i p)] σ (qa_Mi σ μ f (fo_of m p (m (5 + 26 * p)))) := by
  refine qa_enterQ (by decide) rfl qm_M_tuningNumerator_ok rfl rfl (fun Q9 hQ => ?_)
  obtain ⟨k0, k1, k2, k3, k4, k5, k6, k7, k8⟩ := id hk
  have e0 : σ.2 = σ.2 := rfl
  have fr : ∀ q, q ≠ μ → σ.1 q = σ.1 q := fun _ _ => rfl
  refine qa_aload_n (pc' := 1) ⟨rfl, rfl⟩ rfl ?_
  refine qa_iload_n (pc' := 2) ⟨rfl, rfl⟩ rfl ?_
  refine qa_iconst (pc' := 3) ⟨rfl, rfl⟩ ?_
  refine qa_callV rfl qf_M_ofPart ql_10_175 (c_M_ofPart (E := E) hlo hM hm hk hp (w := 1) (by omega)) hM rfl rfl rfl (qa_lt9 rfl) (qa_le9 rfl) (qa_le9 rfl) (qa_le9 rfl) (fun o9 τ9 hq9 => ?_)
  obtain ⟨⟨v9, rfl, hv9⟩, e9, w9, f9⟩ := hq9
  refine qa_nx (pc' := 6) (st' := [_]) rfl rfl rfl rfl ?_
  have e1 : fo_of m p (m (4 + 26 * p + 1)) = fo_of m p (m (5 + 26 * p)) := by rw [show 4 + 26 * p + 1 = 5 + 26 * p by omega]
  rw [e1] at hv9 w9
  refine qa_ireturn rfl rfl rfl (hQ _ _ ⟨⟨v9, rfl, hv9⟩, e9, w9, f9⟩)
theorem c_M_tuningDenominator {E : qa_V} {σ : qa_S} {μ : Nat} {f : Nat → Int} {m : Int → Int} {B : Int} {p : Int} (hlo : E.1 ≤ μ) (hM : σ.1 μ = some (qa_MoF μ f)) (hm : σ.1 (μ + 1) = some (qa_ia 146 m)) (hk : sm_ok m B) (hp : qa_in p) : qa_T E qm_M_tuningDenominator 0 0 [.ref μ, .int (qa_i p)] σ (qa_Mi σ μ f (fo_of m p (m (6 + 26 * p)))) := by
  refine qa_enterQ (by decide) rfl qm_M_tuningDenominator_ok rfl rfl (fun Q9 hQ => ?_)
  obtain ⟨k0, k1, k2, k3, k4, k5, k6, k7, k8⟩ := id hk
  have e0 : σ.2 = σ.2 := rfl
  have fr : ∀ q, q ≠ μ → σ.1 q = σ.1 q := fun _ _ => rfl
  refine qa_aload_n (pc' := 1) ⟨rfl, rfl⟩ rfl ?_
  refine qa_iload_n (pc' := 2) ⟨rfl, rfl⟩ rfl ?_
  refine qa_iconst (pc' := 3) ⟨rfl, rfl⟩ ?_
  refine qa_callV rfl qf_M_ofPart ql_10_175 (c_M_ofPart (E := E) hlo hM hm hk hp (w := 2) (by omega)) hM rfl rfl rfl (qa_lt9 rfl) (qa_le9 rfl) (qa_le9 rfl) (qa_le9 rfl) (fun o9 τ9 hq9 => ?_)
  obtain ⟨⟨v9, rfl, hv9⟩, e9, w9, f9⟩ := hq9
  refine qa_nx (pc' := 6) (st' := [_]) rfl rfl rfl rfl ?_
  have e1 : fo_of m p (m (4 + 26 * p + 2)) = fo_of m p (m (6 + 26 * p)) := by rw [show 4 + 26 * p + 2 = 6 + 26 * p by omega]
  rw [e1] at hv9 w9
  refine qa_ireturn rfl rfl rfl (hQ _ _ ⟨⟨v9, rfl, hv9⟩, e9, w9, f9⟩)
theorem c_M_soundedTicks {E : qa_V} {σ : qa_S} {μ : Nat} {f : Nat → Int} {m : Int → Int} {B : Int} {p : Int} (hlo : E.1 ≤ μ) (hM : σ.1 μ = some (qa_MoF μ f)) (hm : σ.1 (μ + 1) = some (qa_ia 146 m)) (hk : sm_ok m B) (hp : qa_in p) : qa_T E qm_M_soundedTicks 0 0 [.ref μ, .int (qa_i p)] σ (qa_Mi σ μ f (fo_of m p (m (8 + 26 * p)))) := by
  refine qa_enterQ (by decide) rfl qm_M_soundedTicks_ok rfl rfl (fun Q9 hQ => ?_)
  obtain ⟨k0, k1, k2, k3, k4, k5, k6, k7, k8⟩ := id hk
  have e0 : σ.2 = σ.2 := rfl
  have fr : ∀ q, q ≠ μ → σ.1 q = σ.1 q := fun _ _ => rfl
  refine qa_aload_n (pc' := 1) ⟨rfl, rfl⟩ rfl ?_
  refine qa_iload_n (pc' := 2) ⟨rfl, rfl⟩ rfl ?_
  refine qa_iconst (pc' := 3) ⟨rfl, rfl⟩ ?_
  refine qa_callV rfl qf_M_ofPart ql_10_175 (c_M_ofPart (E := E) hlo hM hm hk hp (w := 4) (by omega)) hM rfl rfl rfl (qa_lt9 rfl) (qa_le9 rfl) (qa_le9 rfl) (qa_le9 rfl) (fun o9 τ9 hq9 => ?_)
  obtain ⟨⟨v9, rfl, hv9⟩, e9, w9, f9⟩ := hq9
  refine qa_nx (pc' := 6) (st' := [_]) rfl rfl rfl rfl ?_
  have e1 : fo_of m p (m (4 + 26 * p + 4)) = fo_of m p (m (8 + 26 * p)) := by rw [show 4 + 26 * p + 4 = 8 + 26 * p by omega]
  rw [e1] at hv9 w9
  refine qa_ireturn rfl rfl rfl (hQ _ _ ⟨⟨v9, rfl, hv9⟩, e9, w9, f9⟩)
theorem c_M_soloTicks {E : qa_V} {σ : qa_S} {μ : Nat} {f : Nat → Int} {m : Int → Int} {B : Int} {p : Int} (hlo : E.1 ≤ μ) (hM : σ.1 μ = some (qa_MoF μ f)) (hm : σ.1 (μ + 1) = some (qa_ia 146 m)) (hk : sm_ok m B) (hp : qa_in p) : qa_T E qm_M_soloTicks 0 0 [.ref μ, .int (qa_i p)] σ (qa_Mi σ μ f (fo_of m p (m (9 + 26 * p)))) := by
  refine qa_enterQ (by decide) rfl qm_M_soloTicks_ok rfl rfl (fun Q9 hQ => ?_)
  obtain ⟨k0, k1, k2, k3, k4, k5, k6, k7, k8⟩ := id hk
  have e0 : σ.2 = σ.2 := rfl
  have fr : ∀ q, q ≠ μ → σ.1 q = σ.1 q := fun _ _ => rfl
  refine qa_aload_n (pc' := 1) ⟨rfl, rfl⟩ rfl ?_
  refine qa_iload_n (pc' := 2) ⟨rfl, rfl⟩ rfl ?_
  refine qa_iconst (pc' := 3) ⟨rfl, rfl⟩ ?_
  refine qa_callV rfl qf_M_ofPart ql_10_175 (c_M_ofPart (E := E) hlo hM hm hk hp (w := 5) (by omega)) hM rfl rfl rfl (qa_lt9 rfl) (qa_le9 rfl) (qa_le9 rfl) (qa_le9 rfl) (fun o9 τ9 hq9 => ?_)
  obtain ⟨⟨v9, rfl, hv9⟩, e9, w9, f9⟩ := hq9
  refine qa_nx (pc' := 6) (st' := [_]) rfl rfl rfl rfl ?_
  have e1 : fo_of m p (m (4 + 26 * p + 5)) = fo_of m p (m (9 + 26 * p)) := by rw [show 4 + 26 * p + 5 = 9 + 26 * p by omega]
  rw [e1] at hv9 w9
  refine qa_ireturn rfl rfl rfl (hQ _ _ ⟨⟨v9, rfl, hv9⟩, e9, w9, f9⟩)
theorem c_M_isNote {E : qa_V} {σ : qa_S} {μ : Nat} {f : Nat → Int} {m : Int → Int} {B : Int} {p j : Int} (hlo : E.1 ≤ μ) (hM : σ.1 μ = some (qa_MoF μ f)) (hm : σ.1 (μ + 1) = some (qa_ia 146 m)) (hk : sm_ok m B) (hp : qa_in p) (hj : qa_in j) : qa_T E qm_M_isNote 0 0 [.ref μ, .int (qa_i p), .int (qa_i j)] σ (fun o9 τ => ((sm_is m p ∧ 0 ≤ j ∧ j < sm_n m p) ∧ o9 = .inl (some (.int (qa_i 1))) ∧ τ.2 = σ.2 ∧ τ.1 μ = some (qa_MoF μ (sN_put f 12 0)) ∧ ∀ q, q ≠ μ → τ.1 q = σ.1 q) ∨ (¬ (sm_is m p ∧ 0 ≤ j ∧ j < sm_n m p) ∧ o9 = .inl (some (.int (qa_i 0))) ∧ τ.2 = σ.2 ∧ τ.1 μ = some (qa_MoF μ (sN_put f 12 1)) ∧ ∀ q, q ≠ μ → τ.1 q = σ.1 q)) := by
  refine qa_enterQ (by decide) rfl qm_M_isNote_ok rfl rfl (fun Q9 hQ => ?_)
  obtain ⟨k0, k1, k2, k3, k4, k5, k6, k7, k8⟩ := id hk
  have e0 : σ.2 = σ.2 := rfl
  have fr : ∀ q, q ≠ μ → σ.1 q = σ.1 q := fun _ _ => rfl
  refine qa_aload_n (pc' := 1) ⟨rfl, rfl⟩ rfl ?_
  refine qa_iconst (pc' := 2) ⟨rfl, rfl⟩ ?_
  refine qa_putf (fs' := [_, _, _, _, _, _, _, _, _, _, _, _, _, _, _, _, _, _, _, _, _, _, _, _, _, _, _]) (pc' := 5) ⟨rfl, rfl⟩ qg_10_51 qw_9 hM (by omega) rfl (fun r hr => by cases hr; exact ⟨rfl, Or.inl rfl⟩) rfl rfl ?_
  refine qa_gz (fun τ1 e1 w1 f1 => ?_)
  replace hm := (f1 _ (by omega)).trans hm
  replace fr := fun q hq => (f1 q (by have := hq; omega)).trans (fr q hq)
  replace e0 := e1.trans e0
  have hM : τ1.1 μ = some (qa_MoF μ (sN_put f 12 0)) := w1
  refine qa_aload_n (pc' := 6) ⟨rfl, rfl⟩ rfl ?_
  refine qa_iload_n (pc' := 7) ⟨rfl, rfl⟩ rfl ?_
  refine qa_callV rfl qf_M_isPart ql_10_111 (c_M_isPart (E := E) hM hm hk (by omega)) hM rfl rfl rfl (qa_lt9 rfl) (qa_le9 rfl) (qa_le9 rfl) (qa_le9 rfl) (fun o9 τ9 hq9 => ?_)
  obtain ⟨rfl, hq9⟩ := hq9
  replace hq9 := hq9.symm; subst hq9
  refine qa_nx (pc' := 10) (st' := [_]) rfl rfl rfl rfl ?_
  by_cases hp9 : 0 ≤ p ∧ p < m 0
  · rw [if_pos hp9]
    refine qa_if_eq (pc' := 13) (tgt := 34) ⟨rfl, rfl⟩ rfl (by omega) (fun hp99 => ?_) (fun hp99 => ?_)
    · exact absurd hp99 (by omega)
    · have kn := (k4 p (by omega) (by omega)).1
      refine qa_iload_n (pc' := 14) ⟨rfl, rfl⟩ rfl ?_
      refine qa_i2l (pc' := 15) ⟨rfl, rfl⟩ (by omega) ?_
      refine qa_lconst (z := 0) (pc' := 16) ⟨rfl, rfl⟩ rfl ?_
      refine qa_aload_n (pc' := 17) ⟨rfl, rfl⟩ rfl ?_
      refine qa_iload_n (pc' := 18) ⟨rfl, rfl⟩ rfl ?_
      refine qa_callV rfl qf_M_notes ql_10_77 (c_M_notes (E := E) hM hm ⟨by omega, by omega⟩) hM rfl rfl rfl (qa_lt9 rfl) (qa_le9 rfl) (qa_le9 rfl) (qa_le9 rfl) (fun o9 τ9 hq9 => ?_)
      obtain ⟨rfl, hq9⟩ := hq9
      replace hq9 := hq9.symm; subst hq9
      refine qa_nx (pc' := 21) (st' := [_, _, _]) rfl rfl rfl rfl ?_
      refine qa_iconst (pc' := 22) ⟨rfl, rfl⟩ ?_
      refine qa_isub (pc' := 23) ⟨rfl, rfl⟩ rfl ?_
      refine qa_i2l (pc' := 24) ⟨rfl, rfl⟩ (by omega) ?_
      refine qa_callS rfl qf_M_in rfl ql_10_70 (c_M_in (E := E) (by omega) (by omega) (by omega)) rfl rfl (qa_lt9 rfl) (qa_le9 rfl) (qa_le9 rfl) (qa_le9 rfl) (fun o9 τ9 hq9 => ?_)
      obtain ⟨rfl, hq9⟩ := hq9
      replace hq9 := hq9.symm; subst hq9
      refine qa_nx (pc' := 27) (st' := [_]) rfl rfl rfl rfl ?_
      by_cases hi9 : 0 ≤ j ∧ j ≤ sm_n m p - 1
      · rw [if_pos hi9]
        refine qa_if_eq (pc' := 30) (tgt := 34) ⟨rfl, rfl⟩ rfl (by omega) (fun hi99 => ?_) (fun hi99 => ?_)
        · exact absurd hi99 (by omega)
        · refine qa_iconst (pc' := 31) ⟨rfl, rfl⟩ ?_
          refine qa_goto (pc' := 34) (tgt := 35) ⟨rfl, rfl⟩ rfl ?_
          refine qa_istore_n (L' := [(0, _), (1, _), (2, _), (3, _)]) (pc' := 36) ⟨rfl, rfl⟩ rfl rfl ?_
          refine qa_iload_n (pc' := 37) ⟨rfl, rfl⟩ rfl ?_
          refine qa_if_ne (pc' := 40) (tgt := 46) ⟨rfl, rfl⟩ rfl (by omega) (fun hz => ?_) (fun hz => ?_)
          · refine qa_iload_n (pc' := 47) ⟨rfl, rfl⟩ rfl ?_
            refine qa_ireturn rfl rfl rfl (hQ _ _ (Or.inl ⟨by omega, rfl, e0, hM, fr⟩))
          · exact absurd hz (by omega)
      · rw [if_neg hi9]
        refine qa_if_eq (pc' := 30) (tgt := 34) ⟨rfl, rfl⟩ rfl (by omega) (fun hi99 => ?_) (fun hi99 => ?_)
        · refine qa_iconst (pc' := 35) ⟨rfl, rfl⟩ ?_
          refine qa_istore_n (L' := [(0, _), (1, _), (2, _), (3, _)]) (pc' := 36) ⟨rfl, rfl⟩ rfl rfl ?_
          refine qa_iload_n (pc' := 37) ⟨rfl, rfl⟩ rfl ?_
          refine qa_if_ne (pc' := 40) (tgt := 46) ⟨rfl, rfl⟩ rfl (by omega) (fun hz => ?_) (fun hz => ?_)
          · exact absurd hz (by omega)
          · refine qa_aload_n (pc' := 41) ⟨rfl, rfl⟩ rfl ?_
            refine qa_iconst (pc' := 42) ⟨rfl, rfl⟩ ?_
            refine qa_callV rfl qf_M_throwing ql_10_60 (c_M_throwing (E := E) (f := (sN_put f 12 0)) (v := 1) hlo hM) hM rfl rfl rfl (qa_lt9 rfl) (qa_le9 rfl) (qa_le9 rfl) (qa_le9 rfl) (fun o9 τ9 hq9 => ?_)
            obtain ⟨rfl, e9, hM, f9⟩ := hq9
            refine qa_nx (pc' := 45) (st' := [_]) rfl rfl rfl rfl ?_
            refine qa_pop (pc' := 46) ⟨rfl, rfl⟩ rfl ?_
            refine qa_iload_n (pc' := 47) ⟨rfl, rfl⟩ rfl ?_
            refine qa_ireturn rfl rfl rfl (hQ _ _ (Or.inr ⟨by omega, rfl, e9.trans e0, (by rw [sN_pp] at hM; exact hM), fun q hq => (f9 q hq).trans (fr q hq)⟩))
        · exact absurd hi99 (by omega)
  · rw [if_neg hp9]
    refine qa_if_eq (pc' := 13) (tgt := 34) ⟨rfl, rfl⟩ rfl (by omega) (fun hp99 => ?_) (fun hp99 => ?_)
    · refine qa_iconst (pc' := 35) ⟨rfl, rfl⟩ ?_
      refine qa_istore_n (L' := [(0, _), (1, _), (2, _), (3, _)]) (pc' := 36) ⟨rfl, rfl⟩ rfl rfl ?_
      refine qa_iload_n (pc' := 37) ⟨rfl, rfl⟩ rfl ?_
      refine qa_if_ne (pc' := 40) (tgt := 46) ⟨rfl, rfl⟩ rfl (by omega) (fun hz => ?_) (fun hz => ?_)
      · exact absurd hz (by omega)
      · refine qa_aload_n (pc' := 41) ⟨rfl, rfl⟩ rfl ?_
        refine qa_iconst (pc' := 42) ⟨rfl, rfl⟩ ?_
        refine qa_callV rfl qf_M_throwing ql_10_60 (c_M_throwing (E := E) (f := (sN_put f 12 0)) (v := 1) hlo hM) hM rfl rfl rfl (qa_lt9 rfl) (qa_le9 rfl) (qa_le9 rfl) (qa_le9 rfl) (fun o9 τ9 hq9 => ?_)
        obtain ⟨rfl, e9, hM, f9⟩ := hq9
        refine qa_nx (pc' := 45) (st' := [_]) rfl rfl rfl rfl ?_
        refine qa_pop (pc' := 46) ⟨rfl, rfl⟩ rfl ?_
        refine qa_iload_n (pc' := 47) ⟨rfl, rfl⟩ rfl ?_
        refine qa_ireturn rfl rfl rfl (hQ _ _ (Or.inr ⟨by omega, rfl, e9.trans e0, (by rw [sN_pp] at hM; exact hM), fun q hq => (f9 q hq).trans (fr q hq)⟩))
    · exact absurd hp99 (by omega)
theorem c_M_isRest {E : qa_V} {σ : qa_S} {μ : Nat} {f : Nat → Int} {m : Int → Int} {B : Int} {p j : Int} (hlo : E.1 ≤ μ) (hM : σ.1 μ = some (qa_MoF μ f)) (hm : σ.1 (μ + 1) = some (qa_ia 146 m)) (hk : sm_ok m B) (hp : qa_in p) (hj : qa_in j) : qa_T E qm_M_isRest 0 0 [.ref μ, .int (qa_i p), .int (qa_i j)] σ (qa_Mi σ μ f (fo_rest m p j)) := by
  refine qa_enterQ (by decide) rfl qm_M_isRest_ok rfl rfl (fun Q9 hQ => ?_)
  obtain ⟨k0, k1, k2, k3, k4, k5, k6, k7, k8⟩ := id hk
  have e0 : σ.2 = σ.2 := rfl
  have fr : ∀ q, q ≠ μ → σ.1 q = σ.1 q := fun _ _ => rfl
  refine qa_aload_n (pc' := 1) ⟨rfl, rfl⟩ rfl ?_
  refine qa_iload_n (pc' := 2) ⟨rfl, rfl⟩ rfl ?_
  refine qa_iload_n (pc' := 3) ⟨rfl, rfl⟩ rfl ?_
  refine qa_callV rfl qf_M_isNote ql_10_178 (c_M_isNote (E := E) hlo hM hm hk hp hj) hM rfl rfl rfl (qa_lt9 rfl) (qa_le9 rfl) (qa_le9 rfl) (qa_le9 rfl) (fun o9 τ9 hq9 => ?_)
  rcases hq9 with ⟨ok9, rfl, e0, hM9, fr⟩ | ⟨no9, rfl, e0, hM9, fr⟩
  · replace hm := (fr _ (by omega)).trans hm
    have hM := hM9
    refine qa_nx (pc' := 6) (st' := [_]) rfl rfl rfl rfl ?_
    refine qa_if_eq (pc' := 9) (tgt := 23) ⟨rfl, rfl⟩ rfl (by omega) (fun hz => ?_) (fun hz => ?_)
    · exact absurd hz (by omega)
    · have kk := k4 p ok9.1.1 (by omega)
      have kn := kk.1
      have r1 := kk.2.1 j ok9.2.1 ok9.2.2
      have r2 := kk.2.2 j ok9.2.1 ok9.2.2
      refine qa_aload_n (pc' := 10) ⟨rfl, rfl⟩ rfl ?_
      refine qa_iload_n (pc' := 11) ⟨rfl, rfl⟩ rfl ?_
      refine qa_iload_n (pc' := 12) ⟨rfl, rfl⟩ rfl ?_
      refine qa_callV rfl qf_M_pitch ql_10_90 (c_M_pitch (E := E) hM hm ⟨ok9.1.1, by omega⟩ (by omega)) hM rfl rfl rfl (qa_lt9 rfl) (qa_le9 rfl) (qa_le9 rfl) (qa_le9 rfl) (fun o9 τ9 hq9 => ?_)
      obtain ⟨rfl, hq9⟩ := hq9
      replace hq9 := hq9.symm; subst hq9
      refine qa_nx (pc' := 15) (st' := [_]) rfl rfl rfl rfl ?_
      refine qa_iconst (pc' := 16) ⟨rfl, rfl⟩ ?_
      refine qa_icmp_ne (pc' := 19) (tgt := 23) ⟨rfl, rfl⟩ rfl (by omega) (by omega) (fun hc2 => ?_) (fun hc2 => ?_)
      · refine qa_iconst (pc' := 24) ⟨rfl, rfl⟩ ?_
        refine qa_ireturn rfl rfl rfl (hQ _ _ (qa_Mi.mk (k := 0) (by unfold fo_rest; rw [if_pos ok9, if_neg (by omega)]) (fun _ => rfl) e0 hM fr))
      · refine qa_iconst (pc' := 20) ⟨rfl, rfl⟩ ?_
        refine qa_goto (pc' := 23) (tgt := 24) ⟨rfl, rfl⟩ rfl ?_
        refine qa_ireturn rfl rfl rfl (hQ _ _ (qa_Mi.mk (k := 0) (by unfold fo_rest; rw [if_pos ok9, if_pos (by omega)]) (fun _ => rfl) e0 hM fr))
  · replace hm := (fr _ (by omega)).trans hm
    have hM := hM9
    refine qa_nx (pc' := 6) (st' := [_]) rfl rfl rfl rfl ?_
    refine qa_if_eq (pc' := 9) (tgt := 23) ⟨rfl, rfl⟩ rfl (by omega) (fun hz => ?_) (fun hz => ?_)
    · refine qa_iconst (pc' := 24) ⟨rfl, rfl⟩ ?_
      refine qa_ireturn rfl rfl rfl (hQ _ _ (qa_Mi.mk (k := 1) (w := 0) (by unfold fo_rest; rw [if_neg no9]) (fun h => absurd h (by decide)) e0 hM fr))
    · exact absurd hz (by omega)
theorem c_M_pitchOf {E : qa_V} {σ : qa_S} {μ : Nat} {f : Nat → Int} {m : Int → Int} {B : Int} {p j : Int} (hlo : E.1 ≤ μ) (hM : σ.1 μ = some (qa_MoF μ f)) (hm : σ.1 (μ + 1) = some (qa_ia 146 m)) (hk : sm_ok m B) (hp : qa_in p) (hj : qa_in j) : qa_T E qm_M_pitchOf 0 0 [.ref μ, .int (qa_i p), .int (qa_i j)] σ (qa_Mi σ μ f (fo_pitch m p j)) := by
  refine qa_enterQ (by decide) rfl qm_M_pitchOf_ok rfl rfl (fun Q9 hQ => ?_)
  obtain ⟨k0, k1, k2, k3, k4, k5, k6, k7, k8⟩ := id hk
  have e0 : σ.2 = σ.2 := rfl
  have fr : ∀ q, q ≠ μ → σ.1 q = σ.1 q := fun _ _ => rfl
  refine qa_aload_n (pc' := 1) ⟨rfl, rfl⟩ rfl ?_
  refine qa_iload_n (pc' := 2) ⟨rfl, rfl⟩ rfl ?_
  refine qa_iload_n (pc' := 3) ⟨rfl, rfl⟩ rfl ?_
  refine qa_callV rfl qf_M_isNote ql_10_178 (c_M_isNote (E := E) hlo hM hm hk hp hj) hM rfl rfl rfl (qa_lt9 rfl) (qa_le9 rfl) (qa_le9 rfl) (qa_le9 rfl) (fun o9 τ9 hq9 => ?_)
  rcases hq9 with ⟨ok9, rfl, e0, hM9, fr⟩ | ⟨no9, rfl, e0, hM9, fr⟩
  · replace hm := (fr _ (by omega)).trans hm
    have hM := hM9
    refine qa_nx (pc' := 6) (st' := [_]) rfl rfl rfl rfl ?_
    refine qa_if_ne (pc' := 9) (tgt := 11) ⟨rfl, rfl⟩ rfl (by omega) (fun hz => ?_) (fun hz => ?_)
    · have kk := k4 p ok9.1.1 (by omega)
      have kn := kk.1
      have r1 := kk.2.1 j ok9.2.1 ok9.2.2
      have r2 := kk.2.2 j ok9.2.1 ok9.2.2
      refine qa_aload_n (pc' := 12) ⟨rfl, rfl⟩ rfl ?_
      refine qa_iload_n (pc' := 13) ⟨rfl, rfl⟩ rfl ?_
      refine qa_iload_n (pc' := 14) ⟨rfl, rfl⟩ rfl ?_
      refine qa_callV rfl qf_M_pitch ql_10_90 (c_M_pitch (E := E) hM hm ⟨ok9.1.1, by omega⟩ (by omega)) hM rfl rfl rfl (qa_lt9 rfl) (qa_le9 rfl) (qa_le9 rfl) (qa_le9 rfl) (fun o9 τ9 hq9 => ?_)
      obtain ⟨rfl, hq9⟩ := hq9
      replace hq9 := hq9.symm; subst hq9
      refine qa_nx (pc' := 17) (st' := [_]) rfl rfl rfl rfl ?_
      refine qa_iconst (pc' := 18) ⟨rfl, rfl⟩ ?_
      refine qa_icmp_ne (pc' := 21) (tgt := 29) ⟨rfl, rfl⟩ rfl (by omega) (by omega) (fun hc2 => ?_) (fun hc2 => ?_)
      · refine qa_aload_n (pc' := 30) ⟨rfl, rfl⟩ rfl ?_
        refine qa_iload_n (pc' := 31) ⟨rfl, rfl⟩ rfl ?_
        refine qa_iload_n (pc' := 32) ⟨rfl, rfl⟩ rfl ?_
        refine qa_callV rfl qf_M_pitch ql_10_90 (c_M_pitch (E := E) hM hm ⟨ok9.1.1, by omega⟩ (by omega)) hM rfl rfl rfl (qa_lt9 rfl) (qa_le9 rfl) (qa_le9 rfl) (qa_le9 rfl) (fun o9 τ9 hq9 => ?_)
        obtain ⟨rfl, hq9⟩ := hq9
        replace hq9 := hq9.symm; subst hq9
        refine qa_nx (pc' := 35) (st' := [_]) rfl rfl rfl rfl ?_
        refine qa_ireturn rfl rfl rfl (hQ _ _ (qa_Mi.mk (k := 0) (by unfold fo_pitch; rw [if_pos ok9, if_neg (by omega)]) (fun _ => rfl) e0 hM fr))
      · refine qa_aload_n (pc' := 22) ⟨rfl, rfl⟩ rfl ?_
        refine qa_iconst (pc' := 23) ⟨rfl, rfl⟩ ?_
        refine qa_callV rfl qf_M_throwing ql_10_60 (c_M_throwing (E := E) (f := (sN_put f 12 0)) (v := 2) hlo hM) hM rfl rfl rfl (qa_lt9 rfl) (qa_le9 rfl) (qa_le9 rfl) (qa_le9 rfl) (fun o9 τ9 hq9 => ?_)
        obtain ⟨rfl, e9, hM, f9⟩ := hq9
        refine qa_nx (pc' := 26) (st' := [_]) rfl rfl rfl rfl ?_
        refine qa_goto (pc' := 29) (tgt := 35) ⟨rfl, rfl⟩ rfl ?_
        refine qa_ireturn rfl rfl rfl (hQ _ _ (qa_Mi.mk (k := 2) (w := 0) (by unfold fo_pitch; rw [if_pos ok9, if_pos (by omega)]) (fun h => absurd h (by decide)) (e9.trans e0) (by rw [sN_pp] at hM; exact hM) (fun q hq => (f9 q hq).trans (fr q hq))))
    · exact absurd hz (by omega)
  · replace hm := (fr _ (by omega)).trans hm
    have hM := hM9
    refine qa_nx (pc' := 6) (st' := [_]) rfl rfl rfl rfl ?_
    refine qa_if_ne (pc' := 9) (tgt := 11) ⟨rfl, rfl⟩ rfl (by omega) (fun hz => ?_) (fun hz => ?_)
    · exact absurd hz (by omega)
    · refine qa_iconst (pc' := 10) ⟨rfl, rfl⟩ ?_
      refine qa_ireturn rfl rfl rfl (hQ _ _ (qa_Mi.mk (k := 1) (w := 0) (by unfold fo_pitch; rw [if_neg no9]) (fun h => absurd h (by decide)) e0 hM fr))
theorem c_M_lengthOf {E : qa_V} {σ : qa_S} {μ : Nat} {f : Nat → Int} {m : Int → Int} {B : Int} {p j : Int} (hlo : E.1 ≤ μ) (hM : σ.1 μ = some (qa_MoF μ f)) (hm : σ.1 (μ + 1) = some (qa_ia 146 m)) (hk : sm_ok m B) (hp : qa_in p) (hj : qa_in j) : qa_T E qm_M_lengthOf 0 0 [.ref μ, .int (qa_i p), .int (qa_i j)] σ (qa_Mi σ μ f (fo_length m p j)) := by
  refine qa_enterQ (by decide) rfl qm_M_lengthOf_ok rfl rfl (fun Q9 hQ => ?_)
  obtain ⟨k0, k1, k2, k3, k4, k5, k6, k7, k8⟩ := id hk
  have e0 : σ.2 = σ.2 := rfl
  have fr : ∀ q, q ≠ μ → σ.1 q = σ.1 q := fun _ _ => rfl
  refine qa_aload_n (pc' := 1) ⟨rfl, rfl⟩ rfl ?_
  refine qa_iload_n (pc' := 2) ⟨rfl, rfl⟩ rfl ?_
  refine qa_iload_n (pc' := 3) ⟨rfl, rfl⟩ rfl ?_
  refine qa_callV rfl qf_M_isNote ql_10_178 (c_M_isNote (E := E) hlo hM hm hk hp hj) hM rfl rfl rfl (qa_lt9 rfl) (qa_le9 rfl) (qa_le9 rfl) (qa_le9 rfl) (fun o9 τ9 hq9 => ?_)
  rcases hq9 with ⟨ok9, rfl, e0, hM9, fr⟩ | ⟨no9, rfl, e0, hM9, fr⟩
  · replace hm := (fr _ (by omega)).trans hm
    have hM := hM9
    refine qa_nx (pc' := 6) (st' := [_]) rfl rfl rfl rfl ?_
    refine qa_if_eq (pc' := 9) (tgt := 18) ⟨rfl, rfl⟩ rfl (by omega) (fun hz => ?_) (fun hz => ?_)
    · exact absurd hz (by omega)
    · have kk := k4 p ok9.1.1 (by omega)
      have kn := kk.1
      have r1 := kk.2.1 j ok9.2.1 ok9.2.2
      have r2 := kk.2.2 j ok9.2.1 ok9.2.2
      refine qa_aload_n (pc' := 10) ⟨rfl, rfl⟩ rfl ?_
      refine qa_iload_n (pc' := 11) ⟨rfl, rfl⟩ rfl ?_
      refine qa_iload_n (pc' := 12) ⟨rfl, rfl⟩ rfl ?_
      refine qa_callV rfl qf_M_ticks ql_10_80 (c_M_ticks (E := E) hM hm ⟨ok9.1.1, by omega⟩ (by omega)) hM rfl rfl rfl (qa_lt9 rfl) (qa_le9 rfl) (qa_le9 rfl) (qa_le9 rfl) (fun o9 τ9 hq9 => ?_)
      obtain ⟨rfl, hq9⟩ := hq9
      replace hq9 := hq9.symm; subst hq9
      refine qa_nx (pc' := 15) (st' := [_]) rfl rfl rfl rfl ?_
      refine qa_goto (pc' := 18) (tgt := 19) ⟨rfl, rfl⟩ rfl ?_
      refine qa_ireturn rfl rfl rfl (hQ _ _ (qa_Mi.mk (k := 0) (by unfold fo_length; rw [if_pos ok9]) (fun _ => rfl) e0 hM fr))
  · replace hm := (fr _ (by omega)).trans hm
    have hM := hM9
    refine qa_nx (pc' := 6) (st' := [_]) rfl rfl rfl rfl ?_
    refine qa_if_eq (pc' := 9) (tgt := 18) ⟨rfl, rfl⟩ rfl (by omega) (fun hz => ?_) (fun hz => ?_)
    · refine qa_iconst (pc' := 19) ⟨rfl, rfl⟩ ?_
      refine qa_ireturn rfl rfl rfl (hQ _ _ (qa_Mi.mk (k := 1) (w := 0) (by unfold fo_length; rw [if_neg no9]) (fun h => absurd h (by decide)) e0 hM fr))
    · exact absurd hz (by omega)
theorem c_M_partLength {E : qa_V} {σ : qa_S} {μ : Nat} {f : Nat → Int} {m : Int → Int} {B : Int} {p : Int} (hlo : E.1 ≤ μ) (hM : σ.1 μ = some (qa_MoF μ f)) (hm : σ.1 (μ + 1) = some (qa_ia 146 m)) (hk : sm_ok m B) (hp : qa_in p) : qa_T E qm_M_partLength 0 0 [.ref μ, .int (qa_i p)] σ (qa_Mi σ μ f (fo_whole m p)) := by
  refine qa_enterQ (by decide) rfl qm_M_partLength_ok rfl rfl (fun Q9 hQ => ?_)
  obtain ⟨k0, k1, k2, k3, k4, k5, k6, k7, k8⟩ := id hk
  have e0 : σ.2 = σ.2 := rfl
  have fr : ∀ q, q ≠ μ → σ.1 q = σ.1 q := fun _ _ => rfl
  refine qa_aload_n (pc' := 1) ⟨rfl, rfl⟩ rfl ?_
  refine qa_iconst (pc' := 2) ⟨rfl, rfl⟩ ?_
  refine qa_putf (fs' := [_, _, _, _, _, _, _, _, _, _, _, _, _, _, _, _, _, _, _, _, _, _, _, _, _, _, _]) (pc' := 5) ⟨rfl, rfl⟩ qg_10_51 qw_9 hM (by omega) rfl (fun r hr => by cases hr; exact ⟨rfl, Or.inl rfl⟩) rfl rfl ?_
  refine qa_gz (fun τ1 e1 w1 f1 => ?_)
  replace hm := (f1 _ (by omega)).trans hm
  replace fr := fun q hq => (f1 q (by have := hq; omega)).trans (fr q hq)
  replace e0 := e1.trans e0
  have hM : τ1.1 μ = some (qa_MoF μ (sN_put f 12 0)) := w1
  refine qa_aload_n (pc' := 6) ⟨rfl, rfl⟩ rfl ?_
  refine qa_iload_n (pc' := 7) ⟨rfl, rfl⟩ rfl ?_
  refine qa_callV rfl qf_M_isPart ql_10_111 (c_M_isPart (E := E) hM hm hk (by omega)) hM rfl rfl rfl (qa_lt9 rfl) (qa_le9 rfl) (qa_le9 rfl) (qa_le9 rfl) (fun o9 τ9 hq9 => ?_)
  obtain ⟨rfl, hq9⟩ := hq9
  replace hq9 := hq9.symm; subst hq9
  refine qa_nx (pc' := 10) (st' := [_]) rfl rfl rfl rfl ?_
  by_cases hp9 : 0 ≤ p ∧ p < m 0
  · rw [if_pos hp9]
    refine qa_if_eq (pc' := 13) (tgt := 21) ⟨rfl, rfl⟩ rfl (by omega) (fun hp99 => ?_) (fun hp99 => ?_)
    · exact absurd hp99 (by omega)
    · refine qa_aload_n (pc' := 14) ⟨rfl, rfl⟩ rfl ?_
      refine qa_iload_n (pc' := 15) ⟨rfl, rfl⟩ rfl ?_
      refine qa_callV rfl qf_M_whole ql_10_84 (c_M_whole (E := E) hM hm hk ⟨by omega, by omega⟩) hM rfl rfl rfl (qa_lt9 rfl) (qa_le9 rfl) (qa_le9 rfl) (qa_le9 rfl) (fun o9 τ9 hq9 => ?_)
      obtain ⟨rfl, hq9⟩ := hq9
      replace hq9 := hq9.symm; subst hq9
      refine qa_nx (pc' := 18) (st' := [_]) rfl rfl rfl rfl ?_
      refine qa_goto (pc' := 21) (tgt := 26) ⟨rfl, rfl⟩ rfl ?_
      refine qa_ireturn rfl rfl rfl (hQ _ _ (qa_Mi.mk (k := 0) (by unfold fo_whole; repeat (first | rw [if_pos (by omega)] | rw [if_neg (by omega)])) (fun _ => rfl) e0 hM fr))
  · rw [if_neg hp9]
    refine qa_if_eq (pc' := 13) (tgt := 21) ⟨rfl, rfl⟩ rfl (by omega) (fun hp99 => ?_) (fun hp99 => ?_)
    · refine qa_aload_n (pc' := 22) ⟨rfl, rfl⟩ rfl ?_
      refine qa_iconst (pc' := 23) ⟨rfl, rfl⟩ ?_
      refine qa_callV rfl qf_M_throwing ql_10_60 (c_M_throwing (E := E) (f := (sN_put f 12 0)) (v := 1) hlo hM) hM rfl rfl rfl (qa_lt9 rfl) (qa_le9 rfl) (qa_le9 rfl) (qa_le9 rfl) (fun o9 τ9 hq9 => ?_)
      obtain ⟨rfl, e9, hM, f9⟩ := hq9
      refine qa_nx (pc' := 26) (st' := [_]) rfl rfl rfl rfl ?_
      refine qa_ireturn rfl rfl rfl (hQ _ _ (qa_Mi.mk (k := 1) (w := 0) (by unfold fo_whole; repeat (first | rw [if_pos (by omega)] | rw [if_neg (by omega)])) (fun h => absurd h (by decide)) (e9.trans e0) (by rw [sN_pp] at hM; exact hM) (fun q hq => (f9 q hq).trans (fr q hq))))
    · exact absurd hp99 (by omega)
theorem c_M_noteAt {E : qa_V} {σ : qa_S} {μ : Nat} {f : Nat → Int} {m : Int → Int} {B : Int} {p x : Int} (hlo : E.1 ≤ μ) (hM : σ.1 μ = some (qa_MoF μ f)) (hm : σ.1 (μ + 1) = some (qa_ia 146 m)) (hk : sm_ok m B) (hp : qa_in p) (hx : qa_in x) : qa_T E qm_M_noteAt 0 0 [.ref μ, .int (qa_i p), .int (qa_i x)] σ (qa_Mi σ μ f (fo_noteAt m p x)) := by
  refine qa_enterQ (by decide) rfl qm_M_noteAt_ok rfl rfl (fun Q9 hQ => ?_)
  obtain ⟨k0, k1, k2, k3, k4, k5, k6, k7, k8⟩ := id hk
  have e0 : σ.2 = σ.2 := rfl
  have fr : ∀ q, q ≠ μ → σ.1 q = σ.1 q := fun _ _ => rfl
  refine qa_aload_n (pc' := 1) ⟨rfl, rfl⟩ rfl ?_
  refine qa_iconst (pc' := 2) ⟨rfl, rfl⟩ ?_
  refine qa_putf (fs' := [_, _, _, _, _, _, _, _, _, _, _, _, _, _, _, _, _, _, _, _, _, _, _, _, _, _, _]) (pc' := 5) ⟨rfl, rfl⟩ qg_10_51 qw_9 hM (by omega) rfl (fun r hr => by cases hr; exact ⟨rfl, Or.inl rfl⟩) rfl rfl ?_
  refine qa_gz (fun τ1 e1 w1 f1 => ?_)
  replace hm := (f1 _ (by omega)).trans hm
  replace fr := fun q hq => (f1 q (by have := hq; omega)).trans (fr q hq)
  replace e0 := e1.trans e0
  have hM : τ1.1 μ = some (qa_MoF μ (sN_put f 12 0)) := w1
  refine qa_aload_n (pc' := 6) ⟨rfl, rfl⟩ rfl ?_
  refine qa_iload_n (pc' := 7) ⟨rfl, rfl⟩ rfl ?_
  refine qa_callV rfl qf_M_isPart ql_10_111 (c_M_isPart (E := E) hM hm hk (by omega)) hM rfl rfl rfl (qa_lt9 rfl) (qa_le9 rfl) (qa_le9 rfl) (qa_le9 rfl) (fun o9 τ9 hq9 => ?_)
  obtain ⟨rfl, hq9⟩ := hq9
  replace hq9 := hq9.symm; subst hq9
  refine qa_nx (pc' := 10) (st' := [_]) rfl rfl rfl rfl ?_
  by_cases hp9 : 0 ≤ p ∧ p < m 0
  · rw [if_pos hp9]
    refine qa_if_ne (pc' := 13) (tgt := 19) ⟨rfl, rfl⟩ rfl (by omega) (fun hp99 => ?_) (fun hp99 => ?_)
    · have kk := k4 p (by omega) (by omega)
      have kn := kk.1
      have kw := sm_wh_b kk
      refine qa_iload_n (pc' := 20) ⟨rfl, rfl⟩ rfl ?_
      refine qa_i2l (pc' := 21) ⟨rfl, rfl⟩ (by omega) ?_
      refine qa_lconst (z := 0) (pc' := 22) ⟨rfl, rfl⟩ rfl ?_
      refine qa_ldc2 (z := 999999) (pc' := 25) ⟨rfl, rfl⟩ qk_10_181 ?_
      refine qa_callS rfl qf_M_in rfl ql_10_70 (c_M_in (E := E) (by omega) (by omega) (by omega)) rfl rfl (qa_lt9 rfl) (qa_le9 rfl) (qa_le9 rfl) (qa_le9 rfl) (fun o9 τ9 hq9 => ?_)
      obtain ⟨rfl, hq9⟩ := hq9
      replace hq9 := hq9.symm; subst hq9
      refine qa_nx (pc' := 28) (st' := [_]) rfl rfl rfl rfl ?_
      by_cases hi9 : 0 ≤ x ∧ x ≤ 999999
      · rw [if_pos hi9]
        refine qa_if_ne (pc' := 31) (tgt := 37) ⟨rfl, rfl⟩ rfl (by omega) (fun hi99 => ?_) (fun hi99 => ?_)
        · refine qa_aload_n (pc' := 38) ⟨rfl, rfl⟩ rfl ?_
          refine qa_iload_n (pc' := 39) ⟨rfl, rfl⟩ rfl ?_
          refine qa_callV rfl qf_M_notes ql_10_77 (c_M_notes (E := E) hM hm ⟨by omega, by omega⟩) hM rfl rfl rfl (qa_lt9 rfl) (qa_le9 rfl) (qa_le9 rfl) (qa_le9 rfl) (fun o9 τ9 hq9 => ?_)
          obtain ⟨rfl, hq9⟩ := hq9
          replace hq9 := hq9.symm; subst hq9
          refine qa_nx (pc' := 42) (st' := [_]) rfl rfl rfl rfl ?_
          refine qa_if_ne (pc' := 45) (tgt := 53) ⟨rfl, rfl⟩ rfl (by omega) (fun hc3 => ?_) (fun hc3 => ?_)
          · have nb := sm_ni_b (tick := x) kk
            refine qa_aload_n (pc' := 54) ⟨rfl, rfl⟩ rfl ?_
            refine qa_iload_n (pc' := 55) ⟨rfl, rfl⟩ rfl ?_
            refine qa_iload_n (pc' := 56) ⟨rfl, rfl⟩ rfl ?_
            refine qa_callV rfl qf_M_noteIn ql_10_87 (c_M_noteIn (E := E) hM hm hk ⟨by omega, by omega⟩ (by omega) (by omega)) hM rfl rfl rfl (qa_lt9 rfl) (qa_le9 rfl) (qa_le9 rfl) (qa_le9 rfl) (fun o9 τ9 hq9 => ?_)
            obtain ⟨rfl, hq9⟩ := hq9
            replace hq9 := hq9.symm; subst hq9
            refine qa_nx (pc' := 59) (st' := [_]) rfl rfl rfl rfl ?_
            have n0 : sm_ni m p x ≠ -1 := by
              intro h; unfold sm_ni at h; rw [if_neg (by omega)] at h
              exact sp_nI_in (i := 0) h (Int.emod_nonneg x (by omega)) (by rw [Nat.zero_add]; show 0 + _ < sm_wh m p; have := Int.emod_lt_of_pos x (by omega : 0 < sm_wh m p); omega)
            refine qa_ireturn rfl rfl rfl (hQ _ _ (qa_Mi.mk (k := 0) (by unfold fo_noteAt; rw [if_pos (by omega), if_pos (by omega), if_neg n0]) (fun _ => rfl) e0 hM fr))
          · have e8 : sm_ni m p x = -1 := by unfold sm_ni; rw [if_pos (by omega)]
            refine qa_aload_n (pc' := 46) ⟨rfl, rfl⟩ rfl ?_
            refine qa_iconst (pc' := 47) ⟨rfl, rfl⟩ ?_
            refine qa_callV rfl qf_M_throwing ql_10_60 (c_M_throwing (E := E) (f := (sN_put f 12 0)) (v := 3) hlo hM) hM rfl rfl rfl (qa_lt9 rfl) (qa_le9 rfl) (qa_le9 rfl) (qa_le9 rfl) (fun o9 τ9 hq9 => ?_)
            obtain ⟨rfl, e9, hM, f9⟩ := hq9
            refine qa_nx (pc' := 50) (st' := [_]) rfl rfl rfl rfl ?_
            refine qa_goto (pc' := 53) (tgt := 59) ⟨rfl, rfl⟩ rfl ?_
            refine qa_ireturn rfl rfl rfl (hQ _ _ (qa_Mi.mk (k := 3) (w := 0) (by unfold fo_noteAt; rw [if_pos (by omega), if_pos (by omega), if_pos e8]) (fun h => absurd h (by decide)) (e9.trans e0) (by rw [sN_pp] at hM; exact hM) (fun q hq => (f9 q hq).trans (fr q hq))))
        · exact absurd hi99 (by omega)
      · rw [if_neg hi9]
        refine qa_if_ne (pc' := 31) (tgt := 37) ⟨rfl, rfl⟩ rfl (by omega) (fun hi99 => ?_) (fun hi99 => ?_)
        · exact absurd hi99 (by omega)
        · refine qa_aload_n (pc' := 32) ⟨rfl, rfl⟩ rfl ?_
          refine qa_iconst (pc' := 33) ⟨rfl, rfl⟩ ?_
          refine qa_callV rfl qf_M_throwing ql_10_60 (c_M_throwing (E := E) (f := (sN_put f 12 0)) (v := 2) hlo hM) hM rfl rfl rfl (qa_lt9 rfl) (qa_le9 rfl) (qa_le9 rfl) (qa_le9 rfl) (fun o9 τ9 hq9 => ?_)
          obtain ⟨rfl, e9, hM, f9⟩ := hq9
          refine qa_nx (pc' := 36) (st' := [_]) rfl rfl rfl rfl ?_
          refine qa_ireturn rfl rfl rfl (hQ _ _ (qa_Mi.mk (k := 2) (w := 0) (by unfold fo_noteAt; repeat (first | rw [if_pos (by omega)] | rw [if_neg (by omega)])) (fun h => absurd h (by decide)) (e9.trans e0) (by rw [sN_pp] at hM; exact hM) (fun q hq => (f9 q hq).trans (fr q hq))))
    · exact absurd hp99 (by omega)
  · rw [if_neg hp9]
    refine qa_if_ne (pc' := 13) (tgt := 19) ⟨rfl, rfl⟩ rfl (by omega) (fun hp99 => ?_) (fun hp99 => ?_)
    · exact absurd hp99 (by omega)
    · refine qa_aload_n (pc' := 14) ⟨rfl, rfl⟩ rfl ?_
      refine qa_iconst (pc' := 15) ⟨rfl, rfl⟩ ?_
      refine qa_callV rfl qf_M_throwing ql_10_60 (c_M_throwing (E := E) (f := (sN_put f 12 0)) (v := 1) hlo hM) hM rfl rfl rfl (qa_lt9 rfl) (qa_le9 rfl) (qa_le9 rfl) (qa_le9 rfl) (fun o9 τ9 hq9 => ?_)
      obtain ⟨rfl, e9, hM, f9⟩ := hq9
      refine qa_nx (pc' := 18) (st' := [_]) rfl rfl rfl rfl ?_
      refine qa_ireturn rfl rfl rfl (hQ _ _ (qa_Mi.mk (k := 1) (w := 0) (by unfold fo_noteAt; repeat (first | rw [if_pos (by omega)] | rw [if_neg (by omega)])) (fun h => absurd h (by decide)) (e9.trans e0) (by rw [sN_pp] at hM; exact hM) (fun q hq => (f9 q hq).trans (fr q hq))))
theorem c_M_soundingAt {E : qa_V} {σ : qa_S} {μ : Nat} {f : Nat → Int} {m : Int → Int} {B : Int} {x : Int} (hlo : E.1 ≤ μ) (hM : σ.1 μ = some (qa_MoF μ f)) (hm : σ.1 (μ + 1) = some (qa_ia 146 m)) (hk : sm_ok m B) (hx : qa_in x) : qa_T E qm_M_soundingAt 0 0 [.ref μ, .int (qa_i x)] σ (qa_Mi σ μ f (fo_sound m x)) := by
  refine qa_enterQ (by decide) rfl qm_M_soundingAt_ok rfl rfl (fun Q9 hQ => ?_)
  obtain ⟨k0, k1, k2, k3, k4, k5, k6, k7, k8⟩ := id hk
  have e0 : σ.2 = σ.2 := rfl
  have fr : ∀ q, q ≠ μ → σ.1 q = σ.1 q := fun _ _ => rfl
  refine qa_aload_n (pc' := 1) ⟨rfl, rfl⟩ rfl ?_
  refine qa_iconst (pc' := 2) ⟨rfl, rfl⟩ ?_
  refine qa_putf (fs' := [_, _, _, _, _, _, _, _, _, _, _, _, _, _, _, _, _, _, _, _, _, _, _, _, _, _, _]) (pc' := 5) ⟨rfl, rfl⟩ qg_10_51 qw_9 hM (by omega) rfl (fun r hr => by cases hr; exact ⟨rfl, Or.inl rfl⟩) rfl rfl ?_
  refine qa_gz (fun τ1 e1 w1 f1 => ?_)
  replace hm := (f1 _ (by omega)).trans hm
  replace fr := fun q hq => (f1 q (by have := hq; omega)).trans (fr q hq)
  replace e0 := e1.trans e0
  have hM : τ1.1 μ = some (qa_MoF μ (sN_put f 12 0)) := w1
  refine qa_iload_n (pc' := 6) ⟨rfl, rfl⟩ rfl ?_
  refine qa_i2l (pc' := 7) ⟨rfl, rfl⟩ (by omega) ?_
  refine qa_lconst (z := 0) (pc' := 8) ⟨rfl, rfl⟩ rfl ?_
  refine qa_ldc2 (z := 999999) (pc' := 11) ⟨rfl, rfl⟩ qk_10_181 ?_
  refine qa_callS rfl qf_M_in rfl ql_10_70 (c_M_in (E := E) (by omega) (by omega) (by omega)) rfl rfl (qa_lt9 rfl) (qa_le9 rfl) (qa_le9 rfl) (qa_le9 rfl) (fun o9 τ9 hq9 => ?_)
  obtain ⟨rfl, hq9⟩ := hq9
  replace hq9 := hq9.symm; subst hq9
  refine qa_nx (pc' := 14) (st' := [_]) rfl rfl rfl rfl ?_
  by_cases hi9 : 0 ≤ x ∧ x ≤ 999999
  · rw [if_pos hi9]
    refine qa_if_ne (pc' := 17) (tgt := 23) ⟨rfl, rfl⟩ rfl (by omega) (fun hi99 => ?_) (fun hi99 => ?_)
    · refine qa_iconst (pc' := 24) ⟨rfl, rfl⟩ ?_
      refine qa_istore_n (L' := [(0, _), (1, _), (2, _)]) (pc' := 25) ⟨rfl, rfl⟩ rfl rfl ?_
      refine qa_iconst (pc' := 26) ⟨rfl, rfl⟩ ?_
      refine qa_istore_n (L' := [(0, _), (1, _), (2, _), (3, _)]) (pc' := 27) ⟨rfl, rfl⟩ rfl rfl ?_
      have lp : ∀ (f9 : Nat) (k : Nat) (r : Int), ((k : Int) + f9 = m 0 ∧ r = sm_so m x k) → qa_W E qm_M_soundingAt Q9 0 0 27 [(0, .ref μ), (1, .int (qa_i x)), (2, .int (qa_i r)), (3, .int (qa_i k))] [] τ1 := by
        intro f9
        induction f9 with
        | zero =>
          intro k r ⟨hkf, hr⟩
          refine qa_iload_n (pc' := 28) ⟨rfl, rfl⟩ rfl ?_
          refine qa_aload_n (pc' := 29) ⟨rfl, rfl⟩ rfl ?_
          refine qa_getf (pc' := 32) ⟨rfl, rfl⟩ qg_10_9 (by assumption) rfl ?_
          refine qa_iconst (pc' := 33) ⟨rfl, rfl⟩ ?_
          refine qa_iaload (pc' := 34) ⟨rfl, rfl⟩ (by assumption) (by omega) ?_
          refine qa_icmp_ge (pc' := 37) (tgt := 60) ⟨rfl, rfl⟩ rfl (by omega) (by omega) (fun hc1 => ?_) (fun hc1 => ?_)
          · refine qa_iload_n (pc' := 61) ⟨rfl, rfl⟩ rfl ?_
            refine qa_ireturn rfl rfl rfl (hQ _ _ (qa_Mi.mk (k := 0) (by unfold fo_sound; rw [if_pos (by omega), hr, show (m 0).toNat = k by omega]) (fun _ => rfl) e0 hM fr))
          · exact absurd hc1 (by omega)
        | succ f9 ih =>
          intro k r ⟨hkf, hr⟩
          refine qa_iload_n (pc' := 28) ⟨rfl, rfl⟩ rfl ?_
          refine qa_aload_n (pc' := 29) ⟨rfl, rfl⟩ rfl ?_
          refine qa_getf (pc' := 32) ⟨rfl, rfl⟩ qg_10_9 (by assumption) rfl ?_
          refine qa_iconst (pc' := 33) ⟨rfl, rfl⟩ ?_
          refine qa_iaload (pc' := 34) ⟨rfl, rfl⟩ (by assumption) (by omega) ?_
          refine qa_icmp_ge (pc' := 37) (tgt := 60) ⟨rfl, rfl⟩ rfl (by omega) (by omega) (fun hc1 => ?_) (fun hc1 => ?_)
          · exact absurd hc1 (by omega)
          · refine qa_iload_n (pc' := 38) ⟨rfl, rfl⟩ rfl ?_
            refine qa_aload_n (pc' := 39) ⟨rfl, rfl⟩ rfl ?_
            refine qa_iload_n (pc' := 40) ⟨rfl, rfl⟩ rfl ?_
            refine qa_iload_n (pc' := 41) ⟨rfl, rfl⟩ rfl ?_
            refine qa_callV rfl qf_M_sounds ql_10_93 (c_M_sounds (E := E) hM hm hk ⟨by omega, by omega⟩ (by omega)) hM rfl rfl rfl (qa_lt9 rfl) (qa_le9 rfl) (qa_le9 rfl) (qa_le9 rfl) (fun o9 τ9 hq9 => ?_)
            obtain ⟨rfl, hq9⟩ := hq9
            replace hq9 := hq9.symm; subst hq9
            refine qa_nx (pc' := 44) (st' := [_, _]) rfl rfl rfl rfl ?_
            by_cases hw : sm_pi m k x = -1
            · rw [if_pos hw]
              refine qa_if_eq (pc' := 47) (tgt := 51) ⟨rfl, rfl⟩ rfl (by omega) (fun hw9 => ?_) (fun hw9 => ?_)
              · refine qa_iconst (pc' := 52) ⟨rfl, rfl⟩ ?_
                refine qa_iadd (pc' := 53) ⟨rfl, rfl⟩ rfl ?_
                refine qa_istore_n (L' := [(0, _), (1, _), (2, _), (3, _)]) (pc' := 54) ⟨rfl, rfl⟩ rfl rfl ?_
                refine qa_iinc (L' := [(0, _), (1, _), (2, _), (3, _)]) (z := ((k + 1 : Nat) : Int)) (pc' := 57) ⟨rfl, rfl⟩ rfl (by omega) rfl rfl ?_
                refine qa_goto (pc' := 60) (tgt := 27) ⟨rfl, rfl⟩ rfl ?_
                exact ih (k + 1) _ ⟨by omega, by unfold sm_so; rw [if_pos hw, hr]⟩
              · exact absurd hw9 (by omega)
            · rw [if_neg hw]
              refine qa_if_eq (pc' := 47) (tgt := 51) ⟨rfl, rfl⟩ rfl (by omega) (fun hw9 => ?_) (fun hw9 => ?_)
              · exact absurd hw9 (by omega)
              · refine qa_iconst (pc' := 48) ⟨rfl, rfl⟩ ?_
                refine qa_goto (pc' := 51) (tgt := 52) ⟨rfl, rfl⟩ rfl ?_
                refine qa_iadd (pc' := 53) ⟨rfl, rfl⟩ rfl ?_
                refine qa_istore_n (L' := [(0, _), (1, _), (2, _), (3, _)]) (pc' := 54) ⟨rfl, rfl⟩ rfl rfl ?_
                refine qa_iinc (L' := [(0, _), (1, _), (2, _), (3, _)]) (z := ((k + 1 : Nat) : Int)) (pc' := 57) ⟨rfl, rfl⟩ rfl (by omega) rfl rfl ?_
                refine qa_goto (pc' := 60) (tgt := 27) ⟨rfl, rfl⟩ rfl ?_
                exact ih (k + 1) _ ⟨by omega, by unfold sm_so; rw [if_neg hw, hr]⟩
      exact lp (m 0).toNat 0 0 ⟨by omega, rfl⟩
    · exact absurd hi99 (by omega)
  · rw [if_neg hi9]
    refine qa_if_ne (pc' := 17) (tgt := 23) ⟨rfl, rfl⟩ rfl (by omega) (fun hi99 => ?_) (fun hi99 => ?_)
    · exact absurd hi99 (by omega)
    · refine qa_aload_n (pc' := 18) ⟨rfl, rfl⟩ rfl ?_
      refine qa_iconst (pc' := 19) ⟨rfl, rfl⟩ ?_
      refine qa_callV rfl qf_M_throwing ql_10_60 (c_M_throwing (E := E) (f := (sN_put f 12 0)) (v := 1) hlo hM) hM rfl rfl rfl (qa_lt9 rfl) (qa_le9 rfl) (qa_le9 rfl) (qa_le9 rfl) (fun o9 τ9 hq9 => ?_)
      obtain ⟨rfl, e9, hM, f9⟩ := hq9
      refine qa_nx (pc' := 22) (st' := [_]) rfl rfl rfl rfl ?_
      refine qa_ireturn rfl rfl rfl (hQ _ _ (qa_Mi.mk (k := 1) (w := 0) (by unfold fo_sound; repeat (first | rw [if_pos (by omega)] | rw [if_neg (by omega)])) (fun h => absurd h (by decide)) (e9.trans e0) (by rw [sN_pp] at hM; exact hM) (fun q hq => (f9 q hq).trans (fr q hq))))
