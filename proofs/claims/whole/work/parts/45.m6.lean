/-! the model's changes -/
def sm_eqv (a b : Int → Int) : Prop := ∀ q : Int, 0 ≤ q → q < 146 → a q = b q
theorem sm_eqv.rf (a : Int → Int) : sm_eqv a a := fun _ _ _ => rfl
/-- where the model says that change k was thrown -/
def so_pl (k : Nat) (a : Int) : Int := match k with
  | 0 => 1
  | 3 => if a = -10 then 1 else 2
  | 7 => if a = -10 then 1 else 2
  | 8 => 1
  | 9 => if a = -11 then 1 else 2
  | 10 => if a = -11 then 1 else 2
  | _ => if a = -10 then 1 else if a = -11 then 2 else 3
def sN_it (f : Nat → Int) (k : Nat) (r : sp_R) : Nat → Int := if r.1 < -9 then sN_put f 12 (so_pl k r.1) else if r.1 < 0 then sN_put (sN_put (sN_put f 10 (-r.1)) 11 r.2.1) 12 (so_pl k r.1) else f
def qa_Mt (σ : qa_S) (μ : Nat) (f : Nat → Int) (k : Nat) (r : sp_R) : qa_O → qa_S → Prop := fun o9 τ => o9 = .inl (some (.int (qa_i (if r.1 < 0 then -1 else r.1)))) ∧ τ.2 = σ.2 ∧ τ.1 μ = some (qa_MoF μ (sN_it f k r)) ∧ (∃ m1 : Int → Int, τ.1 (μ + 1) = some (qa_ia 146 m1) ∧ sm_eqv m1 r.2.2) ∧ ∀ q, (q ≠ μ ∧ q ≠ μ + 1) → τ.1 q = σ.1 q
section MT
variable {σ τ : qa_S} {μ : Nat} {f : Nat → Int} {k : Nat} {r : sp_R} {m1 m2 : Int → Int} {a d p y x : Int}
theorem qa_Mt.good (hr : r = (a, d, m1)) (h0 : 0 ≤ a) (he : τ.2 = σ.2) (hM : τ.1 μ = some (qa_MoF μ f)) (hm : τ.1 (μ + 1) = some (qa_ia 146 m2)) (hv : sm_eqv m2 m1) (fr : ∀ q, (q ≠ μ ∧ q ≠ μ + 1) → τ.1 q = σ.1 q) : qa_Mt σ μ f k r (.inl (some (.int (qa_i a)))) τ := by
  subst hr
  refine ⟨by rw [if_neg (show ¬ a < 0 by omega)], he, ?_, ⟨m2, hm, hv⟩, fr⟩
  unfold sN_it
  rw [if_neg (show ¬ a < -9 by omega), if_neg (show ¬ a < 0 by omega)]
  exact hM
theorem qa_Mt.bad (hr : r = (a, d, m1)) (h0 : a < -9) (hp : so_pl k a = p) (he : τ.2 = σ.2) (hM : τ.1 μ = some (qa_MoF μ (sN_put f 12 p))) (hm : τ.1 (μ + 1) = some (qa_ia 146 m1)) (fr : ∀ q, (q ≠ μ ∧ q ≠ μ + 1) → τ.1 q = σ.1 q) : qa_Mt σ μ f k r (.inl (some (.int (qa_i (-1))))) τ := by
  subst hr; subst hp
  refine ⟨by rw [if_pos (show a < 0 by omega)], he, ?_, ⟨m1, hm, fun _ _ _ => rfl⟩, fr⟩
  unfold sN_it
  rw [if_pos (show a < -9 by omega)]
  exact hM
theorem qa_Mt.rej (hr : r = (-y, x, m1)) (h0 : 1 ≤ y ∧ y ≤ 9) (hp : so_pl k (-y) = p) (he : τ.2 = σ.2) (hM : τ.1 μ = some (qa_MoF μ (sN_put (sN_put (sN_put f 10 y) 11 x) 12 p))) (hm : τ.1 (μ + 1) = some (qa_ia 146 m1)) (fr : ∀ q, (q ≠ μ ∧ q ≠ μ + 1) → τ.1 q = σ.1 q) : qa_Mt σ μ f k r (.inl (some (.int (qa_i (-1))))) τ := by
  subst hr; subst hp
  refine ⟨by rw [if_pos (show -y < 0 by omega)], he, ?_, ⟨m1, hm, fun _ _ _ => rfl⟩, fr⟩
  unfold sN_it
  rw [if_neg (show ¬ -y < -9 by omega), if_pos (show -y < 0 by omega)]
  show _ = some (qa_MoF μ (sN_put (sN_put (sN_put f 10 (- -y)) 11 x) 12 (so_pl k (-y))))
  rw [Int.neg_neg]
  exact hM
end MT
def so_nt (m : Int → Int) (p x y : Int) : sp_R := if ¬ (-1 ≤ x ∧ x ≤ 35) then (if ¬ (0 ≤ p ∧ p < m 0) then (-10, 0, m) else (-11, 0, m)) else so_note m p x y
theorem so_nt_pitch (m : Int → Int) (p x y : Int) : so_pitch m p x y = so_nt m p (if x < 0 then 36 else x) y := by
  unfold so_pitch so_nt so_note
  repeat (first | rfl | omega | split)
theorem c_M_partIt {E : qa_V} {σ : qa_S} {μ : Nat} {f : Nat → Int} {m : Int → Int} {B : Int}  (hlo : E.1 ≤ μ) (hM : σ.1 μ = some (qa_MoF μ f)) (hm : σ.1 (μ + 1) = some (qa_ia 146 m)) (hk : sm_ok m B)  : qa_T E qm_M_partIt 0 0 [.ref μ] σ (qa_Mt σ μ f 0 (so_part m)) := by
  refine qa_enterQ (by decide) rfl qm_M_partIt_ok rfl rfl (fun Q9 hQ => ?_)
  obtain ⟨k0, k1, k2, k3, k4, k5, k6, k7, k8⟩ := id hk
  have e0 : σ.2 = σ.2 := rfl
  have fr : ∀ q, (q ≠ μ ∧ q ≠ μ + 1) → σ.1 q = σ.1 q := fun _ _ => rfl
  refine qa_aload_n (pc' := 1) ⟨rfl, rfl⟩ rfl ?_
  refine qa_getf (pc' := 4) ⟨rfl, rfl⟩ qg_10_9 (by assumption) rfl ?_
  refine qa_iconst (pc' := 5) ⟨rfl, rfl⟩ ?_
  refine qa_iaload (pc' := 6) ⟨rfl, rfl⟩ (by assumption) (by omega) ?_
  refine qa_iconst (pc' := 7) ⟨rfl, rfl⟩ ?_
  refine qa_icmp_ne (pc' := 10) (tgt := 18) ⟨rfl, rfl⟩ rfl (by omega) (by omega) (fun hc1 => ?_) (fun hc1 => ?_)
  · refine qa_aload_n (pc' := 19) ⟨rfl, rfl⟩ rfl ?_
    refine qa_getf (pc' := 22) ⟨rfl, rfl⟩ qg_10_9 (by assumption) rfl ?_
    refine qa_iconst (pc' := 23) ⟨rfl, rfl⟩ ?_
    refine qa_iaload (pc' := 24) ⟨rfl, rfl⟩ (by assumption) (by omega) ?_
    refine qa_callS rfl qf_M_partAt rfl ql_10_74 (c_M_partAt (E := E)) rfl rfl (qa_lt9 rfl) (qa_le9 rfl) (qa_le9 rfl) (qa_le9 rfl) (fun o9 τ9 hq9 => ?_)
    obtain ⟨rfl, hq9⟩ := hq9
    replace hq9 := hq9.symm; subst hq9
    refine qa_nx (pc' := 27) (st' := [_]) rfl rfl rfl rfl ?_
    refine qa_istore_n (L' := [(0, _), (1, _)]) (pc' := 28) ⟨rfl, rfl⟩ rfl rfl ?_
    refine qa_aload_n (pc' := 29) ⟨rfl, rfl⟩ rfl ?_
    refine qa_getf (pc' := 32) ⟨rfl, rfl⟩ qg_10_9 (by assumption) rfl ?_
    refine qa_iload_n (pc' := 33) ⟨rfl, rfl⟩ rfl ?_
    refine qa_iconst (pc' := 34) ⟨rfl, rfl⟩ ?_
    refine qa_iadd (z := 5 + 26 * m 0) (pc' := 35) ⟨rfl, rfl⟩ (by omega) ?_
    refine qa_iconst (pc' := 36) ⟨rfl, rfl⟩ ?_
    refine qa_iastore (pc' := 37) ⟨rfl, rfl⟩ hm (by omega) (by omega) ?_
    refine qa_gz (fun τ1 e1 w1 f1 => ?_)
    replace hM := (f1 _ (by omega)).trans hM
    replace fr := fun q hq => (f1 q (by have := hq; omega)).trans (fr q hq)
    replace e0 := e1.trans e0
    have hm : τ1.1 (μ + 1) = some (qa_ia 146 (qa_up m (5 + 26 * m 0) 1)) := w1
    refine qa_aload_n (pc' := 38) ⟨rfl, rfl⟩ rfl ?_
    refine qa_getf (pc' := 41) ⟨rfl, rfl⟩ qg_10_9 (by assumption) rfl ?_
    refine qa_iload_n (pc' := 42) ⟨rfl, rfl⟩ rfl ?_
    refine qa_iconst (pc' := 43) ⟨rfl, rfl⟩ ?_
    refine qa_iadd (z := 6 + 26 * m 0) (pc' := 44) ⟨rfl, rfl⟩ (by omega) ?_
    refine qa_iconst (pc' := 45) ⟨rfl, rfl⟩ ?_
    refine qa_iastore (pc' := 46) ⟨rfl, rfl⟩ hm (by omega) (by omega) ?_
    refine qa_gz (fun τ2 e2 w2 f2 => ?_)
    replace hM := (f2 _ (by omega)).trans hM
    replace fr := fun q hq => (f2 q (by have := hq; omega)).trans (fr q hq)
    replace e0 := e2.trans e0
    have hm : τ2.1 (μ + 1) = some (qa_ia 146 (qa_up (qa_up m (5 + 26 * m 0) 1) (6 + 26 * m 0) 1)) := w2
    refine qa_aload_n (pc' := 47) ⟨rfl, rfl⟩ rfl ?_
    refine qa_getf (pc' := 50) ⟨rfl, rfl⟩ qg_10_9 (by assumption) rfl ?_
    refine qa_iload_n (pc' := 51) ⟨rfl, rfl⟩ rfl ?_
    refine qa_iconst (pc' := 52) ⟨rfl, rfl⟩ ?_
    refine qa_iadd (z := 7 + 26 * m 0) (pc' := 53) ⟨rfl, rfl⟩ (by omega) ?_
    refine qa_iconst (pc' := 54) ⟨rfl, rfl⟩ ?_
    refine qa_iastore (pc' := 55) ⟨rfl, rfl⟩ hm (by omega) (by omega) ?_
    refine qa_gz (fun τ3 e3 w3 f3 => ?_)
    replace hM := (f3 _ (by omega)).trans hM
    replace fr := fun q hq => (f3 q (by have := hq; omega)).trans (fr q hq)
    replace e0 := e3.trans e0
    have hm : τ3.1 (μ + 1) = some (qa_ia 146 (qa_up (qa_up (qa_up m (5 + 26 * m 0) 1) (6 + 26 * m 0) 1) (7 + 26 * m 0) (-1))) := w3
    refine qa_aload_n (pc' := 56) ⟨rfl, rfl⟩ rfl ?_
    refine qa_getf (pc' := 59) ⟨rfl, rfl⟩ qg_10_9 (by assumption) rfl ?_
    refine qa_iconst (pc' := 60) ⟨rfl, rfl⟩ ?_
    refine qa_dup2 (pc' := 61) ⟨rfl, rfl⟩ rfl rfl ?_
    refine qa_iaload (pc' := 62) ⟨rfl, rfl⟩ (by assumption) (by omega) ?_
    refine qa_iconst (pc' := 63) ⟨rfl, rfl⟩ ?_
    refine qa_iadd (z := m 0 + 1) (pc' := 64) ⟨rfl, rfl⟩ (by rw [qa_up_ne (by omega), qa_up_ne (by omega), qa_up_ne (by omega)]) ?_
    refine qa_iastore (pc' := 65) ⟨rfl, rfl⟩ hm (by omega) (by omega) ?_
    refine qa_gz (fun τ4 e4 w4 f4 => ?_)
    replace hM := (f4 _ (by omega)).trans hM
    replace fr := fun q hq => (f4 q (by have := hq; omega)).trans (fr q hq)
    replace e0 := e4.trans e0
    have hm : τ4.1 (μ + 1) = some (qa_ia 146 (qa_up (qa_up (qa_up (qa_up m (5 + 26 * m 0) 1) (6 + 26 * m 0) 1) (7 + 26 * m 0) (-1)) 0 (m 0 + 1))) := w4
    refine qa_aload_n (pc' := 66) ⟨rfl, rfl⟩ rfl ?_
    refine qa_getf (pc' := 69) ⟨rfl, rfl⟩ qg_10_9 (by assumption) rfl ?_
    refine qa_iconst (pc' := 70) ⟨rfl, rfl⟩ ?_
    refine qa_iaload (pc' := 71) ⟨rfl, rfl⟩ (by assumption) (by omega) ?_
    refine qa_iconst (pc' := 72) ⟨rfl, rfl⟩ ?_
    refine qa_isub (z := m 0) (pc' := 73) ⟨rfl, rfl⟩ (by rw [qa_up_eq]; omega) ?_
    refine qa_ireturn rfl rfl rfl (hQ _ _ (qa_Mt.good (d := 0) (by unfold so_part; repeat (first | rw [if_pos (by omega)] | rw [if_neg (by omega)])) (by omega) e0 hM hm (sm_eqv.rf _) fr))
  · refine qa_aload_n (pc' := 11) ⟨rfl, rfl⟩ rfl ?_
    refine qa_iconst (pc' := 12) ⟨rfl, rfl⟩ ?_
    refine qa_iconst (pc' := 13) ⟨rfl, rfl⟩ ?_
    refine qa_iconst (pc' := 14) ⟨rfl, rfl⟩ ?_
    refine qa_callV rfl qf_M_rejects ql_10_97 (c_M_rejects (E := E) (p := 1) (y := 1) (x := 5) hlo hM) hM rfl rfl rfl (qa_lt9 rfl) (qa_le9 rfl) (qa_le9 rfl) (qa_le9 rfl) (fun o9 τ9 hq9 => ?_)
    obtain ⟨rfl, e9, hM, f9⟩ := hq9
    refine qa_nx (pc' := 17) (st' := [_]) rfl rfl rfl rfl ?_
    refine qa_ireturn rfl rfl rfl (hQ _ _ (qa_Mt.rej (by unfold so_part; repeat (first | rw [if_pos (by omega)] | rw [if_neg (by omega)])) (by omega) (by first | rfl | (unfold so_pl; rfl)) (e9.trans e0) hM ((f9 _ (by omega)).trans hm) (fun q hq => (f9 q hq.1).trans (fr q hq))))
theorem c_M_noteIt {E : qa_V} {σ : qa_S} {μ : Nat} {f : Nat → Int} {m : Int → Int} {B : Int} {k : Nat} {p x y : Int} (hlo : E.1 ≤ μ) (hM : σ.1 μ = some (qa_MoF μ f)) (hm : σ.1 (μ + 1) = some (qa_ia 146 m)) (hk : sm_ok m B) (hp : qa_in p) (hx : qa_in x) (hy : qa_in y) (hkk : so_pl k (-10) = 1 ∧ so_pl k (-11) = 2 ∧ so_pl k (-2) = 3) : qa_T E qm_M_noteIt 0 0 [.ref μ, .int (qa_i p), .int (qa_i x), .int (qa_i y)] σ (qa_Mt σ μ f k (so_nt m p x y)) := by
  refine qa_enterQ (by decide) rfl qm_M_noteIt_ok rfl rfl (fun Q9 hQ => ?_)
  obtain ⟨k0, k1, k2, k3, k4, k5, k6, k7, k8⟩ := id hk
  have e0 : σ.2 = σ.2 := rfl
  have fr : ∀ q, (q ≠ μ ∧ q ≠ μ + 1) → σ.1 q = σ.1 q := fun _ _ => rfl
  refine qa_aload_n (pc' := 1) ⟨rfl, rfl⟩ rfl ?_
  refine qa_iload_n (pc' := 2) ⟨rfl, rfl⟩ rfl ?_
  refine qa_callV rfl qf_M_isPart ql_10_111 (c_M_isPart (E := E) hM hm hk (by omega)) hM rfl rfl rfl (qa_lt9 rfl) (qa_le9 rfl) (qa_le9 rfl) (qa_le9 rfl) (fun o9 τ9 hq9 => ?_)
  obtain ⟨rfl, hq9⟩ := hq9
  replace hq9 := hq9.symm; subst hq9
  refine qa_nx (pc' := 5) (st' := [_]) rfl rfl rfl rfl ?_
  by_cases hp9 : 0 ≤ p ∧ p < m 0
  · rw [if_pos hp9]
    refine qa_if_ne (pc' := 8) (tgt := 14) ⟨rfl, rfl⟩ rfl (by omega) (fun hp99 => ?_) (fun hp99 => ?_)
    · have kk := k4 p (by omega) (by omega)
      have kn := kk.1
      have kw := sm_wh_b kk
      refine qa_iload_n (pc' := 15) ⟨rfl, rfl⟩ rfl ?_
      refine qa_i2l (pc' := 16) ⟨rfl, rfl⟩ (by omega) ?_
      refine qa_ldc2 (z := (-1)) (pc' := 19) ⟨rfl, rfl⟩ qk_10_115 ?_
      refine qa_ldc2 (z := 35) (pc' := 22) ⟨rfl, rfl⟩ qk_10_117 ?_
      refine qa_callS rfl qf_M_in rfl ql_10_70 (c_M_in (E := E) (by omega) (by omega) (by omega)) rfl rfl (qa_lt9 rfl) (qa_le9 rfl) (qa_le9 rfl) (qa_le9 rfl) (fun o9 τ9 hq9 => ?_)
      obtain ⟨rfl, hq9⟩ := hq9
      replace hq9 := hq9.symm; subst hq9
      refine qa_nx (pc' := 25) (st' := [_]) rfl rfl rfl rfl ?_
      by_cases hi9 : -1 ≤ x ∧ x ≤ 35
      · rw [if_pos hi9]
        refine qa_if_eq (pc' := 28) (tgt := 40) ⟨rfl, rfl⟩ rfl (by omega) (fun hi99 => ?_) (fun hi99 => ?_)
        · exact absurd hi99 (by omega)
        · refine qa_iload_n (pc' := 29) ⟨rfl, rfl⟩ rfl ?_
          refine qa_i2l (pc' := 30) ⟨rfl, rfl⟩ (by omega) ?_
          refine qa_lconst (z := 1) (pc' := 31) ⟨rfl, rfl⟩ rfl ?_
          refine qa_ldc2 (z := 12) (pc' := 34) ⟨rfl, rfl⟩ qk_10_119 ?_
          refine qa_callS rfl qf_M_in rfl ql_10_70 (c_M_in (E := E) (by omega) (by omega) (by omega)) rfl rfl (qa_lt9 rfl) (qa_le9 rfl) (qa_le9 rfl) (qa_le9 rfl) (fun o9 τ9 hq9 => ?_)
          obtain ⟨rfl, hq9⟩ := hq9
          replace hq9 := hq9.symm; subst hq9
          refine qa_nx (pc' := 37) (st' := [_]) rfl rfl rfl rfl ?_
          by_cases hj9 : 1 ≤ y ∧ y ≤ 12
          · rw [if_pos hj9]
            refine qa_if_ne (pc' := 40) (tgt := 46) ⟨rfl, rfl⟩ rfl (by omega) (fun hj99 => ?_) (fun hj99 => ?_)
            · refine qa_aload_n (pc' := 47) ⟨rfl, rfl⟩ rfl ?_
              refine qa_iload_n (pc' := 48) ⟨rfl, rfl⟩ rfl ?_
              refine qa_callV rfl qf_M_notes ql_10_77 (c_M_notes (E := E) hM hm ⟨by omega, by omega⟩) hM rfl rfl rfl (qa_lt9 rfl) (qa_le9 rfl) (qa_le9 rfl) (qa_le9 rfl) (fun o9 τ9 hq9 => ?_)
              obtain ⟨rfl, hq9⟩ := hq9
              replace hq9 := hq9.symm; subst hq9
              refine qa_nx (pc' := 51) (st' := [_]) rfl rfl rfl rfl ?_
              refine qa_bipush (z := 10) (pc' := 53) ⟨rfl, rfl⟩ rfl ?_
              refine qa_icmp_ne (pc' := 56) (tgt := 68) ⟨rfl, rfl⟩ rfl (by omega) (by omega) (fun hc3 => ?_) (fun hc3 => ?_)
              · refine qa_iload_n (pc' := 69) ⟨rfl, rfl⟩ rfl ?_
                refine qa_callS rfl qf_M_partAt rfl ql_10_74 (c_M_partAt (E := E)) rfl rfl (qa_lt9 rfl) (qa_le9 rfl) (qa_le9 rfl) (qa_le9 rfl) (fun o9 τ9 hq9 => ?_)
                obtain ⟨rfl, hq9⟩ := hq9
                replace hq9 := hq9.symm; subst hq9
                refine qa_nx (pc' := 72) (st' := [_]) rfl rfl rfl rfl ?_
                refine qa_bipush (z := 6) (pc' := 74) ⟨rfl, rfl⟩ rfl ?_
                refine qa_iadd (pc' := 75) ⟨rfl, rfl⟩ rfl ?_
                refine qa_iconst (pc' := 76) ⟨rfl, rfl⟩ ?_
                refine qa_aload_n (pc' := 77) ⟨rfl, rfl⟩ rfl ?_
                refine qa_iload_n (pc' := 78) ⟨rfl, rfl⟩ rfl ?_
                refine qa_callV rfl qf_M_notes ql_10_77 (c_M_notes (E := E) hM hm ⟨by omega, by omega⟩) hM rfl rfl rfl (qa_lt9 rfl) (qa_le9 rfl) (qa_le9 rfl) (qa_le9 rfl) (fun o9 τ9 hq9 => ?_)
                obtain ⟨rfl, hq9⟩ := hq9
                replace hq9 := hq9.symm; subst hq9
                refine qa_nx (pc' := 81) (st' := [_, _, _]) rfl rfl rfl rfl ?_
                refine qa_imul (pc' := 82) ⟨rfl, rfl⟩ rfl ?_
                refine qa_iadd (z := 10 + 26 * p + 2 * sm_n m p) (pc' := 83) ⟨rfl, rfl⟩ (by omega) ?_
                refine qa_istore (L' := [(0, _), (1, _), (2, _), (3, _), (4, _)]) (pc' := 85) ⟨rfl, rfl⟩ rfl rfl ?_
                refine qa_aload_n (pc' := 86) ⟨rfl, rfl⟩ rfl ?_
                refine qa_getf (pc' := 89) ⟨rfl, rfl⟩ qg_10_9 (by assumption) rfl ?_
                refine qa_iload (pc' := 91) ⟨rfl, rfl⟩ rfl ?_
                refine qa_iload_n (pc' := 92) ⟨rfl, rfl⟩ rfl ?_
                refine qa_iastore (pc' := 93) ⟨rfl, rfl⟩ hm (by omega) (by omega) ?_
                refine qa_gz (fun τ1 e1 w1 f1 => ?_)
                replace hM := (f1 _ (by omega)).trans hM
                replace fr := fun q hq => (f1 q (by have := hq; omega)).trans (fr q hq)
                replace e0 := e1.trans e0
                have hm : τ1.1 (μ + 1) = some (qa_ia 146 (qa_up m (10 + 26 * p + 2 * sm_n m p) x)) := w1
                refine qa_aload_n (pc' := 94) ⟨rfl, rfl⟩ rfl ?_
                refine qa_getf (pc' := 97) ⟨rfl, rfl⟩ qg_10_9 (by assumption) rfl ?_
                refine qa_iload (pc' := 99) ⟨rfl, rfl⟩ rfl ?_
                refine qa_iconst (pc' := 100) ⟨rfl, rfl⟩ ?_
                refine qa_iadd (z := 11 + 26 * p + 2 * sm_n m p) (pc' := 101) ⟨rfl, rfl⟩ (by omega) ?_
                refine qa_iload_n (pc' := 102) ⟨rfl, rfl⟩ rfl ?_
                refine qa_iastore (pc' := 103) ⟨rfl, rfl⟩ hm (by omega) (by omega) ?_
                refine qa_gz (fun τ2 e2 w2 f2 => ?_)
                replace hM := (f2 _ (by omega)).trans hM
                replace fr := fun q hq => (f2 q (by have := hq; omega)).trans (fr q hq)
                replace e0 := e2.trans e0
                have hm : τ2.1 (μ + 1) = some (qa_ia 146 (qa_up (qa_up m (10 + 26 * p + 2 * sm_n m p) x) (11 + 26 * p + 2 * sm_n m p) y)) := w2
                refine qa_aload_n (pc' := 104) ⟨rfl, rfl⟩ rfl ?_
                refine qa_getf (pc' := 107) ⟨rfl, rfl⟩ qg_10_9 (by assumption) rfl ?_
                refine qa_iload_n (pc' := 108) ⟨rfl, rfl⟩ rfl ?_
                refine qa_callS rfl qf_M_partAt rfl ql_10_74 (c_M_partAt (E := E)) rfl rfl (qa_lt9 rfl) (qa_le9 rfl) (qa_le9 rfl) (qa_le9 rfl) (fun o9 τ9 hq9 => ?_)
                obtain ⟨rfl, hq9⟩ := hq9
                replace hq9 := hq9.symm; subst hq9
                refine qa_nx (pc' := 111) (st' := [_, _]) rfl rfl rfl rfl ?_
                refine qa_dup2 (pc' := 112) ⟨rfl, rfl⟩ rfl rfl ?_
                refine qa_iaload (pc' := 113) ⟨rfl, rfl⟩ (by assumption) (by omega) ?_
                refine qa_iconst (pc' := 114) ⟨rfl, rfl⟩ ?_
                refine qa_iadd (z := sm_n m p + 1) (pc' := 115) ⟨rfl, rfl⟩ (by rw [qa_up_ne (by omega), qa_up_ne (by omega)]; rfl) ?_
                refine qa_iastore (pc' := 116) ⟨rfl, rfl⟩ hm (by omega) (by omega) ?_
                refine qa_gz (fun τ3 e3 w3 f3 => ?_)
                replace hM := (f3 _ (by omega)).trans hM
                replace fr := fun q hq => (f3 q (by have := hq; omega)).trans (fr q hq)
                replace e0 := e3.trans e0
                have hm : τ3.1 (μ + 1) = some (qa_ia 146 (qa_up (qa_up (qa_up m (10 + 26 * p + 2 * sm_n m p) x) (11 + 26 * p + 2 * sm_n m p) y) (4 + 26 * p) (sm_n m p + 1))) := w3
                refine qa_aload_n (pc' := 117) ⟨rfl, rfl⟩ rfl ?_
                refine qa_iload_n (pc' := 118) ⟨rfl, rfl⟩ rfl ?_
                refine qa_callV rfl qf_M_notes ql_10_77 (c_M_notes (E := E) hM hm ⟨by omega, by omega⟩) hM rfl rfl rfl (qa_lt9 rfl) (qa_le9 rfl) (qa_le9 rfl) (qa_le9 rfl) (fun o9 τ9 hq9 => ?_)
                obtain ⟨rfl, hq9⟩ := hq9
                replace hq9 := hq9.symm; subst hq9
                refine qa_nx (pc' := 121) (st' := [_]) rfl rfl rfl rfl ?_
                rw [show sm_n (qa_up (qa_up (qa_up m (10 + 26 * p + 2 * sm_n m p) x) (11 + 26 * p + 2 * sm_n m p) y) (4 + 26 * p) (sm_n m p + 1)) p = sm_n m p + 1 from qa_up_eq _ _ _]
                refine qa_ireturn rfl rfl rfl (hQ _ _ (qa_Mt.good (d := 0) (by unfold so_nt so_note; repeat (first | rw [if_pos (by omega)] | rw [if_neg (by omega)])) (by omega) e0 hM hm (sm_eqv.rf _) fr))
              · refine qa_aload_n (pc' := 57) ⟨rfl, rfl⟩ rfl ?_
                refine qa_iconst (pc' := 58) ⟨rfl, rfl⟩ ?_
                refine qa_iconst (pc' := 59) ⟨rfl, rfl⟩ ?_
                refine qa_aload_n (pc' := 60) ⟨rfl, rfl⟩ rfl ?_
                refine qa_iload_n (pc' := 61) ⟨rfl, rfl⟩ rfl ?_
                refine qa_callV rfl qf_M_whole ql_10_84 (c_M_whole (E := E) hM hm hk ⟨by omega, by omega⟩) hM rfl rfl rfl (qa_lt9 rfl) (qa_le9 rfl) (qa_le9 rfl) (qa_le9 rfl) (fun o9 τ9 hq9 => ?_)
                obtain ⟨rfl, hq9⟩ := hq9
                replace hq9 := hq9.symm; subst hq9
                refine qa_nx (pc' := 64) (st' := [_, _, _, _]) rfl rfl rfl rfl ?_
                refine qa_callV rfl qf_M_rejects ql_10_97 (c_M_rejects (E := E) (p := 3) (y := 2) (x := (sm_wh m p)) hlo hM) hM rfl rfl rfl (qa_lt9 rfl) (qa_le9 rfl) (qa_le9 rfl) (qa_le9 rfl) (fun o9 τ9 hq9 => ?_)
                obtain ⟨rfl, e9, hM, f9⟩ := hq9
                refine qa_nx (pc' := 67) (st' := [_]) rfl rfl rfl rfl ?_
                refine qa_ireturn rfl rfl rfl (hQ _ _ (qa_Mt.rej (by unfold so_nt so_note; repeat (first | rw [if_pos (by omega)] | rw [if_neg (by omega)])) (by omega) (by first | exact hkk.1 | exact hkk.2.1 | exact hkk.2.2) (e9.trans e0) hM ((f9 _ (by omega)).trans hm) (fun q hq => (f9 q hq.1).trans (fr q hq))))
            · exact absurd hj99 (by omega)
          · rw [if_neg hj9]
            refine qa_if_ne (pc' := 40) (tgt := 46) ⟨rfl, rfl⟩ rfl (by omega) (fun hj99 => ?_) (fun hj99 => ?_)
            · exact absurd hj99 (by omega)
            · refine qa_aload_n (pc' := 41) ⟨rfl, rfl⟩ rfl ?_
              refine qa_iconst (pc' := 42) ⟨rfl, rfl⟩ ?_
              refine qa_callV rfl qf_M_throwing ql_10_60 (c_M_throwing (E := E) (v := 2) hlo hM) hM rfl rfl rfl (qa_lt9 rfl) (qa_le9 rfl) (qa_le9 rfl) (qa_le9 rfl) (fun o9 τ9 hq9 => ?_)
              obtain ⟨rfl, e9, hM, f9⟩ := hq9
              refine qa_nx (pc' := 45) (st' := [_]) rfl rfl rfl rfl ?_
              refine qa_ireturn rfl rfl rfl (hQ _ _ (qa_Mt.bad (a := -11) (d := 0) (by unfold so_nt so_note; repeat (first | rw [if_pos (by omega)] | rw [if_neg (by omega)])) (by omega) (by first | exact hkk.1 | exact hkk.2.1 | exact hkk.2.2) (e9.trans e0) hM ((f9 _ (by omega)).trans hm) (fun q hq => (f9 q hq.1).trans (fr q hq))))
      · rw [if_neg hi9]
        refine qa_if_eq (pc' := 28) (tgt := 40) ⟨rfl, rfl⟩ rfl (by omega) (fun hi99 => ?_) (fun hi99 => ?_)
        · refine qa_aload_n (pc' := 41) ⟨rfl, rfl⟩ rfl ?_
          refine qa_iconst (pc' := 42) ⟨rfl, rfl⟩ ?_
          refine qa_callV rfl qf_M_throwing ql_10_60 (c_M_throwing (E := E) (v := 2) hlo hM) hM rfl rfl rfl (qa_lt9 rfl) (qa_le9 rfl) (qa_le9 rfl) (qa_le9 rfl) (fun o9 τ9 hq9 => ?_)
          obtain ⟨rfl, e9, hM, f9⟩ := hq9
          refine qa_nx (pc' := 45) (st' := [_]) rfl rfl rfl rfl ?_
          refine qa_ireturn rfl rfl rfl (hQ _ _ (qa_Mt.bad (a := -11) (d := 0) (by unfold so_nt; rw [if_pos (by omega), if_neg (by omega)]) (by omega) (by first | exact hkk.1 | exact hkk.2.1 | exact hkk.2.2) (e9.trans e0) hM ((f9 _ (by omega)).trans hm) (fun q hq => (f9 q hq.1).trans (fr q hq))))
        · exact absurd hi99 (by omega)
    · exact absurd hp99 (by omega)
  · rw [if_neg hp9]
    refine qa_if_ne (pc' := 8) (tgt := 14) ⟨rfl, rfl⟩ rfl (by omega) (fun hp99 => ?_) (fun hp99 => ?_)
    · exact absurd hp99 (by omega)
    · refine qa_aload_n (pc' := 9) ⟨rfl, rfl⟩ rfl ?_
      refine qa_iconst (pc' := 10) ⟨rfl, rfl⟩ ?_
      refine qa_callV rfl qf_M_throwing ql_10_60 (c_M_throwing (E := E) (v := 1) hlo hM) hM rfl rfl rfl (qa_lt9 rfl) (qa_le9 rfl) (qa_le9 rfl) (qa_le9 rfl) (fun o9 τ9 hq9 => ?_)
      obtain ⟨rfl, e9, hM, f9⟩ := hq9
      refine qa_nx (pc' := 13) (st' := [_]) rfl rfl rfl rfl ?_
      refine qa_ireturn rfl rfl rfl (hQ _ _ (qa_Mt.bad (a := -10) (d := 0) (by unfold so_nt so_note; repeat (first | rfl | rw [if_pos (by omega)] | rw [if_neg (by omega)] | split)) (by omega) (by first | exact hkk.1 | exact hkk.2.1 | exact hkk.2.2) (e9.trans e0) hM ((f9 _ (by omega)).trans hm) (fun q hq => (f9 q hq.1).trans (fr q hq))))
theorem c_M_lastIt {E : qa_V} {σ : qa_S} {μ : Nat} {f : Nat → Int} {m : Int → Int} {B : Int} {p : Int} (hlo : E.1 ≤ μ) (hM : σ.1 μ = some (qa_MoF μ f)) (hm : σ.1 (μ + 1) = some (qa_ia 146 m)) (hk : sm_ok m B) (hp : qa_in p) : qa_T E qm_M_lastIt 0 0 [.ref μ, .int (qa_i p)] σ (qa_Mt σ μ f 3 (so_last m p)) := by
  refine qa_enterQ (by decide) rfl qm_M_lastIt_ok rfl rfl (fun Q9 hQ => ?_)
  obtain ⟨k0, k1, k2, k3, k4, k5, k6, k7, k8⟩ := id hk
  have e0 : σ.2 = σ.2 := rfl
  have fr : ∀ q, (q ≠ μ ∧ q ≠ μ + 1) → σ.1 q = σ.1 q := fun _ _ => rfl
  refine qa_aload_n (pc' := 1) ⟨rfl, rfl⟩ rfl ?_
  refine qa_iload_n (pc' := 2) ⟨rfl, rfl⟩ rfl ?_
  refine qa_callV rfl qf_M_isPart ql_10_111 (c_M_isPart (E := E) hM hm hk (by omega)) hM rfl rfl rfl (qa_lt9 rfl) (qa_le9 rfl) (qa_le9 rfl) (qa_le9 rfl) (fun o9 τ9 hq9 => ?_)
  obtain ⟨rfl, hq9⟩ := hq9
  replace hq9 := hq9.symm; subst hq9
  refine qa_nx (pc' := 5) (st' := [_]) rfl rfl rfl rfl ?_
  by_cases hp9 : 0 ≤ p ∧ p < m 0
  · rw [if_pos hp9]
    refine qa_if_ne (pc' := 8) (tgt := 14) ⟨rfl, rfl⟩ rfl (by omega) (fun hp99 => ?_) (fun hp99 => ?_)
    · have kk := k4 p (by omega) (by omega)
      have kn := kk.1
      have kw := sm_wh_b kk
      refine qa_aload_n (pc' := 15) ⟨rfl, rfl⟩ rfl ?_
      refine qa_iload_n (pc' := 16) ⟨rfl, rfl⟩ rfl ?_
      refine qa_callV rfl qf_M_notes ql_10_77 (c_M_notes (E := E) hM hm ⟨by omega, by omega⟩) hM rfl rfl rfl (qa_lt9 rfl) (qa_le9 rfl) (qa_le9 rfl) (qa_le9 rfl) (fun o9 τ9 hq9 => ?_)
      obtain ⟨rfl, hq9⟩ := hq9
      replace hq9 := hq9.symm; subst hq9
      refine qa_nx (pc' := 19) (st' := [_]) rfl rfl rfl rfl ?_
      refine qa_if_ne (pc' := 22) (tgt := 30) ⟨rfl, rfl⟩ rfl (by omega) (fun hc3 => ?_) (fun hc3 => ?_)
      · have hok := (so_last_ok (p := p) hk).1
        have hsp : so_last m p = (sm_wh (sm_last m p) p, 0, sm_last m p) := by unfold so_last; repeat (first | rw [if_pos (by omega)] | rw [if_neg (by omega)])
        rw [hsp] at hok
        replace hok : sm_ok (sm_last m p) (B + 960) := hok
        have kw2 := sm_wh_b (hok.2.2.2.2.1 p (by omega) (by omega))
        have kn2 := (hok.2.2.2.2.1 p (by omega) (by omega)).1
        refine qa_iload_n (pc' := 31) ⟨rfl, rfl⟩ rfl ?_
        refine qa_callS rfl qf_M_partAt rfl ql_10_74 (c_M_partAt (E := E)) rfl rfl (qa_lt9 rfl) (qa_le9 rfl) (qa_le9 rfl) (qa_le9 rfl) (fun o9 τ9 hq9 => ?_)
        obtain ⟨rfl, hq9⟩ := hq9
        replace hq9 := hq9.symm; subst hq9
        refine qa_nx (pc' := 34) (st' := [_]) rfl rfl rfl rfl ?_
        refine qa_bipush (z := 6) (pc' := 36) ⟨rfl, rfl⟩ rfl ?_
        refine qa_iadd (pc' := 37) ⟨rfl, rfl⟩ rfl ?_
        refine qa_iconst (pc' := 38) ⟨rfl, rfl⟩ ?_
        refine qa_aload_n (pc' := 39) ⟨rfl, rfl⟩ rfl ?_
        refine qa_iload_n (pc' := 40) ⟨rfl, rfl⟩ rfl ?_
        refine qa_callV rfl qf_M_notes ql_10_77 (c_M_notes (E := E) hM hm ⟨by omega, by omega⟩) hM rfl rfl rfl (qa_lt9 rfl) (qa_le9 rfl) (qa_le9 rfl) (qa_le9 rfl) (fun o9 τ9 hq9 => ?_)
        obtain ⟨rfl, hq9⟩ := hq9
        replace hq9 := hq9.symm; subst hq9
        refine qa_nx (pc' := 43) (st' := [_, _, _]) rfl rfl rfl rfl ?_
        refine qa_iconst (pc' := 44) ⟨rfl, rfl⟩ ?_
        refine qa_isub (pc' := 45) ⟨rfl, rfl⟩ rfl ?_
        refine qa_imul (pc' := 46) ⟨rfl, rfl⟩ rfl ?_
        refine qa_iadd (z := 10 + 26 * p + 2 * (sm_n m p - 1)) (pc' := 47) ⟨rfl, rfl⟩ (by omega) ?_
        refine qa_istore_n (L' := [(0, _), (1, _), (2, _)]) (pc' := 48) ⟨rfl, rfl⟩ rfl rfl ?_
        refine qa_aload_n (pc' := 49) ⟨rfl, rfl⟩ rfl ?_
        refine qa_getf (pc' := 52) ⟨rfl, rfl⟩ qg_10_9 (by assumption) rfl ?_
        refine qa_iload_n (pc' := 53) ⟨rfl, rfl⟩ rfl ?_
        refine qa_iconst (pc' := 54) ⟨rfl, rfl⟩ ?_
        refine qa_iastore (pc' := 55) ⟨rfl, rfl⟩ hm (by omega) (by omega) ?_
        refine qa_gz (fun τ1 e1 w1 f1 => ?_)
        replace hM := (f1 _ (by omega)).trans hM
        replace fr := fun q hq => (f1 q (by have := hq; omega)).trans (fr q hq)
        replace e0 := e1.trans e0
        have hm : τ1.1 (μ + 1) = some (qa_ia 146 (qa_up m (10 + 26 * p + 2 * (sm_n m p - 1)) 0)) := w1
        refine qa_aload_n (pc' := 56) ⟨rfl, rfl⟩ rfl ?_
        refine qa_getf (pc' := 59) ⟨rfl, rfl⟩ qg_10_9 (by assumption) rfl ?_
        refine qa_iload_n (pc' := 60) ⟨rfl, rfl⟩ rfl ?_
        refine qa_iconst (pc' := 61) ⟨rfl, rfl⟩ ?_
        refine qa_iadd (z := 11 + 26 * p + 2 * (sm_n m p - 1)) (pc' := 62) ⟨rfl, rfl⟩ (by omega) ?_
        refine qa_iconst (pc' := 63) ⟨rfl, rfl⟩ ?_
        refine qa_iastore (pc' := 64) ⟨rfl, rfl⟩ hm (by omega) (by omega) ?_
        refine qa_gz (fun τ2 e2 w2 f2 => ?_)
        replace hM := (f2 _ (by omega)).trans hM
        replace fr := fun q hq => (f2 q (by have := hq; omega)).trans (fr q hq)
        replace e0 := e2.trans e0
        have hm : τ2.1 (μ + 1) = some (qa_ia 146 (qa_up (qa_up m (10 + 26 * p + 2 * (sm_n m p - 1)) 0) (11 + 26 * p + 2 * (sm_n m p - 1)) 0)) := w2
        refine qa_aload_n (pc' := 65) ⟨rfl, rfl⟩ rfl ?_
        refine qa_getf (pc' := 68) ⟨rfl, rfl⟩ qg_10_9 (by assumption) rfl ?_
        refine qa_iload_n (pc' := 69) ⟨rfl, rfl⟩ rfl ?_
        refine qa_callS rfl qf_M_partAt rfl ql_10_74 (c_M_partAt (E := E)) rfl rfl (qa_lt9 rfl) (qa_le9 rfl) (qa_le9 rfl) (qa_le9 rfl) (fun o9 τ9 hq9 => ?_)
        obtain ⟨rfl, hq9⟩ := hq9
        replace hq9 := hq9.symm; subst hq9
        refine qa_nx (pc' := 72) (st' := [_, _]) rfl rfl rfl rfl ?_
        refine qa_dup2 (pc' := 73) ⟨rfl, rfl⟩ rfl rfl ?_
        refine qa_iaload (pc' := 74) ⟨rfl, rfl⟩ (by assumption) (by omega) ?_
        refine qa_iconst (pc' := 75) ⟨rfl, rfl⟩ ?_
        refine qa_isub (z := sm_n m p - 1) (pc' := 76) ⟨rfl, rfl⟩ (by rw [qa_up_ne (by omega), qa_up_ne (by omega)]; rfl) ?_
        refine qa_iastore (pc' := 77) ⟨rfl, rfl⟩ hm (by omega) (by omega) ?_
        refine qa_gz (fun τ3 e3 w3 f3 => ?_)
        replace hM := (f3 _ (by omega)).trans hM
        replace fr := fun q hq => (f3 q (by have := hq; omega)).trans (fr q hq)
        replace e0 := e3.trans e0
        have hm : τ3.1 (μ + 1) = some (qa_ia 146 (sm_last m p)) := w3
        refine qa_aload_n (pc' := 78) ⟨rfl, rfl⟩ rfl ?_
        refine qa_iload_n (pc' := 79) ⟨rfl, rfl⟩ rfl ?_
        refine qa_callV rfl qf_M_whole ql_10_84 (c_M_whole (E := E) hM hm hok ⟨by omega, by omega⟩) hM rfl rfl rfl (qa_lt9 rfl) (qa_le9 rfl) (qa_le9 rfl) (qa_le9 rfl) (fun o9 τ9 hq9 => ?_)
        obtain ⟨rfl, hq9⟩ := hq9
        replace hq9 := hq9.symm; subst hq9
        refine qa_nx (pc' := 82) (st' := [_]) rfl rfl rfl rfl ?_
        refine qa_ireturn rfl rfl rfl (hQ _ _ (qa_Mt.good (d := 0) (by exact hsp) (by omega) e0 hM hm (sm_eqv.rf _) fr))
      · refine qa_aload_n (pc' := 23) ⟨rfl, rfl⟩ rfl ?_
        refine qa_iconst (pc' := 24) ⟨rfl, rfl⟩ ?_
        refine qa_iconst (pc' := 25) ⟨rfl, rfl⟩ ?_
        refine qa_iload_n (pc' := 26) ⟨rfl, rfl⟩ rfl ?_
        refine qa_callV rfl qf_M_rejects ql_10_97 (c_M_rejects (E := E) (p := 2) (y := 3) (x := p) hlo hM) hM rfl rfl rfl (qa_lt9 rfl) (qa_le9 rfl) (qa_le9 rfl) (qa_le9 rfl) (fun o9 τ9 hq9 => ?_)
        obtain ⟨rfl, e9, hM, f9⟩ := hq9
        refine qa_nx (pc' := 29) (st' := [_]) rfl rfl rfl rfl ?_
        refine qa_ireturn rfl rfl rfl (hQ _ _ (qa_Mt.rej (by unfold so_last; repeat (first | rw [if_pos (by omega)] | rw [if_neg (by omega)])) (by omega) (by first | rfl | (unfold so_pl; rfl)) (e9.trans e0) hM ((f9 _ (by omega)).trans hm) (fun q hq => (f9 q hq.1).trans (fr q hq))))
    · exact absurd hp99 (by omega)
  · rw [if_neg hp9]
    refine qa_if_ne (pc' := 8) (tgt := 14) ⟨rfl, rfl⟩ rfl (by omega) (fun hp99 => ?_) (fun hp99 => ?_)
    · exact absurd hp99 (by omega)
    · refine qa_aload_n (pc' := 9) ⟨rfl, rfl⟩ rfl ?_
      refine qa_iconst (pc' := 10) ⟨rfl, rfl⟩ ?_
      refine qa_callV rfl qf_M_throwing ql_10_60 (c_M_throwing (E := E) (v := 1) hlo hM) hM rfl rfl rfl (qa_lt9 rfl) (qa_le9 rfl) (qa_le9 rfl) (qa_le9 rfl) (fun o9 τ9 hq9 => ?_)
      obtain ⟨rfl, e9, hM, f9⟩ := hq9
      refine qa_nx (pc' := 13) (st' := [_]) rfl rfl rfl rfl ?_
      refine qa_ireturn rfl rfl rfl (hQ _ _ (qa_Mt.bad (a := -10) (d := 0) (by unfold so_last; repeat (first | rw [if_pos (by omega)] | rw [if_neg (by omega)])) (by omega) (by first | rfl | (unfold so_pl; rfl)) (e9.trans e0) hM ((f9 _ (by omega)).trans hm) (fun q hq => (f9 q hq.1).trans (fr q hq))))
theorem c_M_tuneIt {E : qa_V} {σ : qa_S} {μ : Nat} {f : Nat → Int} {m : Int → Int} {B : Int} {p u d : Int} (hlo : E.1 ≤ μ) (hM : σ.1 μ = some (qa_MoF μ f)) (hm : σ.1 (μ + 1) = some (qa_ia 146 m)) (hk : sm_ok m B) (hp : qa_in p) (hu : qa_in u) (hd : qa_in d) : qa_T E qm_M_tuneIt 0 0 [.ref μ, .int (qa_i p), .int (qa_i u), .int (qa_i d)] σ (qa_Mt σ μ f 5 (so_tune m p u d)) := by
  refine qa_enterQ (by decide) rfl qm_M_tuneIt_ok rfl rfl (fun Q9 hQ => ?_)
  obtain ⟨k0, k1, k2, k3, k4, k5, k6, k7, k8⟩ := id hk
  have e0 : σ.2 = σ.2 := rfl
  have fr : ∀ q, (q ≠ μ ∧ q ≠ μ + 1) → σ.1 q = σ.1 q := fun _ _ => rfl
  refine qa_aload_n (pc' := 1) ⟨rfl, rfl⟩ rfl ?_
  refine qa_iload_n (pc' := 2) ⟨rfl, rfl⟩ rfl ?_
  refine qa_callV rfl qf_M_isPart ql_10_111 (c_M_isPart (E := E) hM hm hk (by omega)) hM rfl rfl rfl (qa_lt9 rfl) (qa_le9 rfl) (qa_le9 rfl) (qa_le9 rfl) (fun o9 τ9 hq9 => ?_)
  obtain ⟨rfl, hq9⟩ := hq9
  replace hq9 := hq9.symm; subst hq9
  refine qa_nx (pc' := 5) (st' := [_]) rfl rfl rfl rfl ?_
  by_cases hp9 : 0 ≤ p ∧ p < m 0
  · rw [if_pos hp9]
    refine qa_if_ne (pc' := 8) (tgt := 14) ⟨rfl, rfl⟩ rfl (by omega) (fun hp99 => ?_) (fun hp99 => ?_)
    · refine qa_iload_n (pc' := 15) ⟨rfl, rfl⟩ rfl ?_
      refine qa_i2l (pc' := 16) ⟨rfl, rfl⟩ (by omega) ?_
      refine qa_lconst (z := 1) (pc' := 17) ⟨rfl, rfl⟩ rfl ?_
      refine qa_ldc2 (z := 99) (pc' := 20) ⟨rfl, rfl⟩ qk_10_132 ?_
      refine qa_callS rfl qf_M_in rfl ql_10_70 (c_M_in (E := E) (by omega) (by omega) (by omega)) rfl rfl (qa_lt9 rfl) (qa_le9 rfl) (qa_le9 rfl) (qa_le9 rfl) (fun o9 τ9 hq9 => ?_)
      obtain ⟨rfl, hq9⟩ := hq9
      replace hq9 := hq9.symm; subst hq9
      refine qa_nx (pc' := 23) (st' := [_]) rfl rfl rfl rfl ?_
      by_cases hi9 : 1 ≤ u ∧ u ≤ 99
      · rw [if_pos hi9]
        refine qa_if_eq (pc' := 26) (tgt := 38) ⟨rfl, rfl⟩ rfl (by omega) (fun hi99 => ?_) (fun hi99 => ?_)
        · exact absurd hi99 (by omega)
        · refine qa_iload_n (pc' := 27) ⟨rfl, rfl⟩ rfl ?_
          refine qa_i2l (pc' := 28) ⟨rfl, rfl⟩ (by omega) ?_
          refine qa_lconst (z := 1) (pc' := 29) ⟨rfl, rfl⟩ rfl ?_
          refine qa_ldc2 (z := 99) (pc' := 32) ⟨rfl, rfl⟩ qk_10_132 ?_
          refine qa_callS rfl qf_M_in rfl ql_10_70 (c_M_in (E := E) (by omega) (by omega) (by omega)) rfl rfl (qa_lt9 rfl) (qa_le9 rfl) (qa_le9 rfl) (qa_le9 rfl) (fun o9 τ9 hq9 => ?_)
          obtain ⟨rfl, hq9⟩ := hq9
          replace hq9 := hq9.symm; subst hq9
          refine qa_nx (pc' := 35) (st' := [_]) rfl rfl rfl rfl ?_
          by_cases hj9 : 1 ≤ d ∧ d ≤ 99
          · rw [if_pos hj9]
            refine qa_if_ne (pc' := 38) (tgt := 44) ⟨rfl, rfl⟩ rfl (by omega) (fun hj99 => ?_) (fun hj99 => ?_)
            · have hg := sp_gd_pos (a := u) (b := d) (by omega) (by omega)
              have hg9 := sp_gd_all (a := u) (b := d) (by omega) (by omega) (by omega)
              refine qa_iload_n (pc' := 45) ⟨rfl, rfl⟩ rfl ?_
              refine qa_iload_n (pc' := 46) ⟨rfl, rfl⟩ rfl ?_
              refine qa_callS rfl qf_M_divisor rfl ql_10_134 (c_M_divisor (E := E) (by omega) (by omega)) rfl rfl (qa_lt9 rfl) (qa_le9 rfl) (qa_le9 rfl) (qa_le9 rfl) (fun o9 τ9 hq9 => ?_)
              obtain ⟨rfl, hq9⟩ := hq9
              replace hq9 := hq9.symm; subst hq9
              refine qa_nx (pc' := 49) (st' := [_]) rfl rfl rfl rfl ?_
              rw [hg9] at hg ⊢
              refine qa_istore (L' := [(0, _), (1, _), (2, _), (3, _), (4, _)]) (pc' := 51) ⟨rfl, rfl⟩ rfl rfl ?_
              refine qa_aload_n (pc' := 52) ⟨rfl, rfl⟩ rfl ?_
              refine qa_getf (pc' := 55) ⟨rfl, rfl⟩ qg_10_9 (by assumption) rfl ?_
              refine qa_iload_n (pc' := 56) ⟨rfl, rfl⟩ rfl ?_
              refine qa_callS rfl qf_M_partAt rfl ql_10_74 (c_M_partAt (E := E)) rfl rfl (qa_lt9 rfl) (qa_le9 rfl) (qa_le9 rfl) (qa_le9 rfl) (fun o9 τ9 hq9 => ?_)
              obtain ⟨rfl, hq9⟩ := hq9
              replace hq9 := hq9.symm; subst hq9
              refine qa_nx (pc' := 59) (st' := [_, _]) rfl rfl rfl rfl ?_
              refine qa_iconst (pc' := 60) ⟨rfl, rfl⟩ ?_
              refine qa_iadd (z := 5 + 26 * p) (pc' := 61) ⟨rfl, rfl⟩ (by omega) ?_
              refine qa_iload_n (pc' := 62) ⟨rfl, rfl⟩ rfl ?_
              refine qa_iload (pc' := 64) ⟨rfl, rfl⟩ rfl ?_
              refine qa_idiv (pc' := 65) ⟨rfl, rfl⟩ (by omega) (by omega) (by omega) (by omega) rfl ?_
              refine qa_iastore (pc' := 66) ⟨rfl, rfl⟩ hm (by omega) (by omega) ?_
              refine qa_gz (fun τ1 e1 w1 f1 => ?_)
              replace hM := (f1 _ (by omega)).trans hM
              replace fr := fun q hq => (f1 q (by have := hq; omega)).trans (fr q hq)
              replace e0 := e1.trans e0
              have hm : τ1.1 (μ + 1) = some (qa_ia 146 (qa_up m (5 + 26 * p) (u / Int.gcd u d))) := w1
              refine qa_aload_n (pc' := 67) ⟨rfl, rfl⟩ rfl ?_
              refine qa_getf (pc' := 70) ⟨rfl, rfl⟩ qg_10_9 (by assumption) rfl ?_
              refine qa_iload_n (pc' := 71) ⟨rfl, rfl⟩ rfl ?_
              refine qa_callS rfl qf_M_partAt rfl ql_10_74 (c_M_partAt (E := E)) rfl rfl (qa_lt9 rfl) (qa_le9 rfl) (qa_le9 rfl) (qa_le9 rfl) (fun o9 τ9 hq9 => ?_)
              obtain ⟨rfl, hq9⟩ := hq9
              replace hq9 := hq9.symm; subst hq9
              refine qa_nx (pc' := 74) (st' := [_, _]) rfl rfl rfl rfl ?_
              refine qa_iconst (pc' := 75) ⟨rfl, rfl⟩ ?_
              refine qa_iadd (z := 6 + 26 * p) (pc' := 76) ⟨rfl, rfl⟩ (by omega) ?_
              refine qa_iload_n (pc' := 77) ⟨rfl, rfl⟩ rfl ?_
              refine qa_iload (pc' := 79) ⟨rfl, rfl⟩ rfl ?_
              refine qa_idiv (pc' := 80) ⟨rfl, rfl⟩ (by omega) (by omega) (by omega) (by omega) rfl ?_
              refine qa_iastore (pc' := 81) ⟨rfl, rfl⟩ hm (by omega) (by omega) ?_
              refine qa_gz (fun τ2 e2 w2 f2 => ?_)
              replace hM := (f2 _ (by omega)).trans hM
              replace fr := fun q hq => (f2 q (by have := hq; omega)).trans (fr q hq)
              replace e0 := e2.trans e0
              have hm : τ2.1 (μ + 1) = some (qa_ia 146 (qa_up (qa_up m (5 + 26 * p) (u / Int.gcd u d)) (6 + 26 * p) (d / Int.gcd u d))) := w2
              refine qa_iload (pc' := 83) ⟨rfl, rfl⟩ rfl ?_
              refine qa_ireturn rfl rfl rfl (hQ _ _ (qa_Mt.good (d := 0) (by unfold so_tune; repeat (first | rw [if_pos (by omega)] | rw [if_neg (by omega)])) (by omega) e0 hM hm (sm_eqv.rf _) fr))
            · exact absurd hj99 (by omega)
          · rw [if_neg hj9]
            refine qa_if_ne (pc' := 38) (tgt := 44) ⟨rfl, rfl⟩ rfl (by omega) (fun hj99 => ?_) (fun hj99 => ?_)
            · exact absurd hj99 (by omega)
            · refine qa_aload_n (pc' := 39) ⟨rfl, rfl⟩ rfl ?_
              refine qa_iconst (pc' := 40) ⟨rfl, rfl⟩ ?_
              refine qa_callV rfl qf_M_throwing ql_10_60 (c_M_throwing (E := E) (v := 2) hlo hM) hM rfl rfl rfl (qa_lt9 rfl) (qa_le9 rfl) (qa_le9 rfl) (qa_le9 rfl) (fun o9 τ9 hq9 => ?_)
              obtain ⟨rfl, e9, hM, f9⟩ := hq9
              refine qa_nx (pc' := 43) (st' := [_]) rfl rfl rfl rfl ?_
              refine qa_ireturn rfl rfl rfl (hQ _ _ (qa_Mt.bad (a := -11) (d := 0) (by unfold so_tune; repeat (first | rw [if_pos (by omega)] | rw [if_neg (by omega)])) (by omega) (by first | rfl | (unfold so_pl; rfl)) (e9.trans e0) hM ((f9 _ (by omega)).trans hm) (fun q hq => (f9 q hq.1).trans (fr q hq))))
      · rw [if_neg hi9]
        refine qa_if_eq (pc' := 26) (tgt := 38) ⟨rfl, rfl⟩ rfl (by omega) (fun hi99 => ?_) (fun hi99 => ?_)
        · refine qa_aload_n (pc' := 39) ⟨rfl, rfl⟩ rfl ?_
          refine qa_iconst (pc' := 40) ⟨rfl, rfl⟩ ?_
          refine qa_callV rfl qf_M_throwing ql_10_60 (c_M_throwing (E := E) (v := 2) hlo hM) hM rfl rfl rfl (qa_lt9 rfl) (qa_le9 rfl) (qa_le9 rfl) (qa_le9 rfl) (fun o9 τ9 hq9 => ?_)
          obtain ⟨rfl, e9, hM, f9⟩ := hq9
          refine qa_nx (pc' := 43) (st' := [_]) rfl rfl rfl rfl ?_
          refine qa_ireturn rfl rfl rfl (hQ _ _ (qa_Mt.bad (a := -11) (d := 0) (by unfold so_tune; repeat (first | rw [if_pos (by omega)] | rw [if_neg (by omega)])) (by omega) (by first | rfl | (unfold so_pl; rfl)) (e9.trans e0) hM ((f9 _ (by omega)).trans hm) (fun q hq => (f9 q hq.1).trans (fr q hq))))
        · exact absurd hi99 (by omega)
    · exact absurd hp99 (by omega)
  · rw [if_neg hp9]
    refine qa_if_ne (pc' := 8) (tgt := 14) ⟨rfl, rfl⟩ rfl (by omega) (fun hp99 => ?_) (fun hp99 => ?_)
    · exact absurd hp99 (by omega)
    · refine qa_aload_n (pc' := 9) ⟨rfl, rfl⟩ rfl ?_
      refine qa_iconst (pc' := 10) ⟨rfl, rfl⟩ ?_
      refine qa_callV rfl qf_M_throwing ql_10_60 (c_M_throwing (E := E) (v := 1) hlo hM) hM rfl rfl rfl (qa_lt9 rfl) (qa_le9 rfl) (qa_le9 rfl) (qa_le9 rfl) (fun o9 τ9 hq9 => ?_)
      obtain ⟨rfl, e9, hM, f9⟩ := hq9
      refine qa_nx (pc' := 13) (st' := [_]) rfl rfl rfl rfl ?_
      refine qa_ireturn rfl rfl rfl (hQ _ _ (qa_Mt.bad (a := -10) (d := 0) (by unfold so_tune; repeat (first | rw [if_pos (by omega)] | rw [if_neg (by omega)])) (by omega) (by first | rfl | (unfold so_pl; rfl)) (e9.trans e0) hM ((f9 _ (by omega)).trans hm) (fun q hq => (f9 q hq.1).trans (fr q hq))))
theorem c_M_cueIt {E : qa_V} {σ : qa_S} {μ : Nat} {f : Nat → Int} {m : Int → Int} {B : Int} {p o : Int} (hlo : E.1 ≤ μ) (hM : σ.1 μ = some (qa_MoF μ f)) (hm : σ.1 (μ + 1) = some (qa_ia 146 m)) (hk : sm_ok m B) (hp : qa_in p) (ho : qa_in o) : qa_T E qm_M_cueIt 0 0 [.ref μ, .int (qa_i p), .int (qa_i o)] σ (qa_Mt σ μ f 6 (so_cue m p o)) := by
  refine qa_enterQ (by decide) rfl qm_M_cueIt_ok rfl rfl (fun Q9 hQ => ?_)
  obtain ⟨k0, k1, k2, k3, k4, k5, k6, k7, k8⟩ := id hk
  have e0 : σ.2 = σ.2 := rfl
  have fr : ∀ q, (q ≠ μ ∧ q ≠ μ + 1) → σ.1 q = σ.1 q := fun _ _ => rfl
  refine qa_aload_n (pc' := 1) ⟨rfl, rfl⟩ rfl ?_
  refine qa_iload_n (pc' := 2) ⟨rfl, rfl⟩ rfl ?_
  refine qa_callV rfl qf_M_isPart ql_10_111 (c_M_isPart (E := E) hM hm hk (by omega)) hM rfl rfl rfl (qa_lt9 rfl) (qa_le9 rfl) (qa_le9 rfl) (qa_le9 rfl) (fun o9 τ9 hq9 => ?_)
  obtain ⟨rfl, hq9⟩ := hq9
  replace hq9 := hq9.symm; subst hq9
  refine qa_nx (pc' := 5) (st' := [_]) rfl rfl rfl rfl ?_
  by_cases hp9 : 0 ≤ p ∧ p < m 0
  · rw [if_pos hp9]
    refine qa_if_eq (pc' := 8) (tgt := 16) ⟨rfl, rfl⟩ rfl (by omega) (fun hp99 => ?_) (fun hp99 => ?_)
    · exact absurd hp99 (by omega)
    · refine qa_aload_n (pc' := 9) ⟨rfl, rfl⟩ rfl ?_
      refine qa_iload_n (pc' := 10) ⟨rfl, rfl⟩ rfl ?_
      refine qa_callV rfl qf_M_isPart ql_10_111 (c_M_isPart (E := E) hM hm hk (by omega)) hM rfl rfl rfl (qa_lt9 rfl) (qa_le9 rfl) (qa_le9 rfl) (qa_le9 rfl) (fun o9 τ9 hq9 => ?_)
      obtain ⟨rfl, hq9⟩ := hq9
      replace hq9 := hq9.symm; subst hq9
      refine qa_nx (pc' := 13) (st' := [_]) rfl rfl rfl rfl ?_
      by_cases ho9 : 0 ≤ o ∧ o < m 0
      · rw [if_pos ho9]
        refine qa_if_ne (pc' := 16) (tgt := 22) ⟨rfl, rfl⟩ rfl (by omega) (fun ho99 => ?_) (fun ho99 => ?_)
        · refine qa_iload_n (pc' := 23) ⟨rfl, rfl⟩ rfl ?_
          refine qa_iload_n (pc' := 24) ⟨rfl, rfl⟩ rfl ?_
          refine qa_icmp_ne (pc' := 27) (tgt := 33) ⟨rfl, rfl⟩ rfl (by omega) (by omega) (fun hc3 => ?_) (fun hc3 => ?_)
          · have cb := k5 p (by omega) (by omega)
            have cu9 := sm_cu_b m (m 0).toNat
            refine qa_aload_n (pc' := 34) ⟨rfl, rfl⟩ rfl ?_
            refine qa_getf (pc' := 37) ⟨rfl, rfl⟩ qg_10_9 (by assumption) rfl ?_
            refine qa_iload_n (pc' := 38) ⟨rfl, rfl⟩ rfl ?_
            refine qa_callS rfl qf_M_partAt rfl ql_10_74 (c_M_partAt (E := E)) rfl rfl (qa_lt9 rfl) (qa_le9 rfl) (qa_le9 rfl) (qa_le9 rfl) (fun o9 τ9 hq9 => ?_)
            obtain ⟨rfl, hq9⟩ := hq9
            replace hq9 := hq9.symm; subst hq9
            refine qa_nx (pc' := 41) (st' := [_, _]) rfl rfl rfl rfl ?_
            refine qa_iconst (pc' := 42) ⟨rfl, rfl⟩ ?_
            refine qa_iadd (z := 7 + 26 * p) (pc' := 43) ⟨rfl, rfl⟩ (by omega) ?_
            refine qa_iaload (pc' := 44) ⟨rfl, rfl⟩ (by assumption) (by omega) ?_
            refine qa_iload_n (pc' := 45) ⟨rfl, rfl⟩ rfl ?_
            refine qa_icmp_ne (pc' := 48) (tgt := 59) ⟨rfl, rfl⟩ rfl (by omega) (by omega) (fun hc4 => ?_) (fun hc4 => ?_)
            · have hok := (sm_ok.cue (p := p) (v := o) hk (by omega) (by omega))
              have cu8 := sm_cu_b (qa_up m (7 + 26 * p) o) (m 0).toNat
              refine qa_aload_n (pc' := 60) ⟨rfl, rfl⟩ rfl ?_
              refine qa_getf (pc' := 63) ⟨rfl, rfl⟩ qg_10_9 (by assumption) rfl ?_
              refine qa_iload_n (pc' := 64) ⟨rfl, rfl⟩ rfl ?_
              refine qa_callS rfl qf_M_partAt rfl ql_10_74 (c_M_partAt (E := E)) rfl rfl (qa_lt9 rfl) (qa_le9 rfl) (qa_le9 rfl) (qa_le9 rfl) (fun o9 τ9 hq9 => ?_)
              obtain ⟨rfl, hq9⟩ := hq9
              replace hq9 := hq9.symm; subst hq9
              refine qa_nx (pc' := 67) (st' := [_, _]) rfl rfl rfl rfl ?_
              refine qa_iconst (pc' := 68) ⟨rfl, rfl⟩ ?_
              refine qa_iadd (z := 7 + 26 * p) (pc' := 69) ⟨rfl, rfl⟩ (by omega) ?_
              refine qa_iload_n (pc' := 70) ⟨rfl, rfl⟩ rfl ?_
              refine qa_iastore (pc' := 71) ⟨rfl, rfl⟩ hm (by omega) (by omega) ?_
              refine qa_gz (fun τ1 e1 w1 f1 => ?_)
              replace hM := (f1 _ (by omega)).trans hM
              replace fr := fun q hq => (f1 q (by have := hq; omega)).trans (fr q hq)
              replace e0 := e1.trans e0
              have hm : τ1.1 (μ + 1) = some (qa_ia 146 (qa_up m (7 + 26 * p) o)) := w1
              refine qa_aload_n (pc' := 72) ⟨rfl, rfl⟩ rfl ?_
              refine qa_callV rfl qf_M_cues ql_10_140 (c_M_cues (E := E) hM hm hok) hM rfl rfl rfl (qa_lt9 rfl) (qa_le9 rfl) (qa_le9 rfl) (qa_le9 rfl) (fun o9 τ9 hq9 => ?_)
              obtain ⟨rfl, hq9⟩ := hq9
              replace hq9 := hq9.symm; subst hq9
              refine qa_nx (pc' := 75) (st' := [_]) rfl rfl rfl rfl ?_
              rw [show (qa_up m (7 + 26 * p) o) 0 = m 0 from qa_up_ne (by omega)]
              refine qa_ireturn rfl rfl rfl (hQ _ _ (qa_Mt.good (d := 0) (by unfold so_cue; repeat (first | rw [if_pos (by omega)] | rw [if_neg (by omega)])) (by omega) e0 hM hm (sm_eqv.rf _) fr))
            · refine qa_aload_n (pc' := 49) ⟨rfl, rfl⟩ rfl ?_
              refine qa_iconst (pc' := 50) ⟨rfl, rfl⟩ ?_
              refine qa_iconst (pc' := 51) ⟨rfl, rfl⟩ ?_
              refine qa_aload_n (pc' := 52) ⟨rfl, rfl⟩ rfl ?_
              refine qa_callV rfl qf_M_cues ql_10_140 (c_M_cues (E := E) hM hm hk) hM rfl rfl rfl (qa_lt9 rfl) (qa_le9 rfl) (qa_le9 rfl) (qa_le9 rfl) (fun o9 τ9 hq9 => ?_)
              obtain ⟨rfl, hq9⟩ := hq9
              replace hq9 := hq9.symm; subst hq9
              refine qa_nx (pc' := 55) (st' := [_, _, _, _]) rfl rfl rfl rfl ?_
              refine qa_callV rfl qf_M_rejects ql_10_97 (c_M_rejects (E := E) (p := 3) (y := 5) (x := (sm_cu m (m 0).toNat)) hlo hM) hM rfl rfl rfl (qa_lt9 rfl) (qa_le9 rfl) (qa_le9 rfl) (qa_le9 rfl) (fun o9 τ9 hq9 => ?_)
              obtain ⟨rfl, e9, hM, f9⟩ := hq9
              refine qa_nx (pc' := 58) (st' := [_]) rfl rfl rfl rfl ?_
              refine qa_ireturn rfl rfl rfl (hQ _ _ (qa_Mt.rej (by unfold so_cue; repeat (first | rw [if_pos (by omega)] | rw [if_neg (by omega)])) (by omega) (by first | rfl | (unfold so_pl; rfl)) (e9.trans e0) hM ((f9 _ (by omega)).trans hm) (fun q hq => (f9 q hq.1).trans (fr q hq))))
          · refine qa_aload_n (pc' := 28) ⟨rfl, rfl⟩ rfl ?_
            refine qa_iconst (pc' := 29) ⟨rfl, rfl⟩ ?_
            refine qa_callV rfl qf_M_throwing ql_10_60 (c_M_throwing (E := E) (v := 2) hlo hM) hM rfl rfl rfl (qa_lt9 rfl) (qa_le9 rfl) (qa_le9 rfl) (qa_le9 rfl) (fun o9 τ9 hq9 => ?_)
            obtain ⟨rfl, e9, hM, f9⟩ := hq9
            refine qa_nx (pc' := 32) (st' := [_]) rfl rfl rfl rfl ?_
            refine qa_ireturn rfl rfl rfl (hQ _ _ (qa_Mt.bad (a := -11) (d := 0) (by unfold so_cue; repeat (first | rw [if_pos (by omega)] | rw [if_neg (by omega)])) (by omega) (by first | rfl | (unfold so_pl; rfl)) (e9.trans e0) hM ((f9 _ (by omega)).trans hm) (fun q hq => (f9 q hq.1).trans (fr q hq))))
        · exact absurd ho99 (by omega)
      · rw [if_neg ho9]
        refine qa_if_ne (pc' := 16) (tgt := 22) ⟨rfl, rfl⟩ rfl (by omega) (fun ho99 => ?_) (fun ho99 => ?_)
        · exact absurd ho99 (by omega)
        · refine qa_aload_n (pc' := 17) ⟨rfl, rfl⟩ rfl ?_
          refine qa_iconst (pc' := 18) ⟨rfl, rfl⟩ ?_
          refine qa_callV rfl qf_M_throwing ql_10_60 (c_M_throwing (E := E) (v := 1) hlo hM) hM rfl rfl rfl (qa_lt9 rfl) (qa_le9 rfl) (qa_le9 rfl) (qa_le9 rfl) (fun o9 τ9 hq9 => ?_)
          obtain ⟨rfl, e9, hM, f9⟩ := hq9
          refine qa_nx (pc' := 21) (st' := [_]) rfl rfl rfl rfl ?_
          refine qa_ireturn rfl rfl rfl (hQ _ _ (qa_Mt.bad (a := -10) (d := 0) (by unfold so_cue; repeat (first | rw [if_pos (by omega)] | rw [if_neg (by omega)])) (by omega) (by first | rfl | (unfold so_pl; rfl)) (e9.trans e0) hM ((f9 _ (by omega)).trans hm) (fun q hq => (f9 q hq.1).trans (fr q hq))))
  · rw [if_neg hp9]
    refine qa_if_eq (pc' := 8) (tgt := 16) ⟨rfl, rfl⟩ rfl (by omega) (fun hp99 => ?_) (fun hp99 => ?_)
    · refine qa_aload_n (pc' := 17) ⟨rfl, rfl⟩ rfl ?_
      refine qa_iconst (pc' := 18) ⟨rfl, rfl⟩ ?_
      refine qa_callV rfl qf_M_throwing ql_10_60 (c_M_throwing (E := E) (v := 1) hlo hM) hM rfl rfl rfl (qa_lt9 rfl) (qa_le9 rfl) (qa_le9 rfl) (qa_le9 rfl) (fun o9 τ9 hq9 => ?_)
      obtain ⟨rfl, e9, hM, f9⟩ := hq9
      refine qa_nx (pc' := 21) (st' := [_]) rfl rfl rfl rfl ?_
      refine qa_ireturn rfl rfl rfl (hQ _ _ (qa_Mt.bad (a := -10) (d := 0) (by unfold so_cue; repeat (first | rw [if_pos (by omega)] | rw [if_neg (by omega)])) (by omega) (by first | rfl | (unfold so_pl; rfl)) (e9.trans e0) hM ((f9 _ (by omega)).trans hm) (fun q hq => (f9 q hq.1).trans (fr q hq))))
    · exact absurd hp99 (by omega)
theorem c_M_aloneIt {E : qa_V} {σ : qa_S} {μ : Nat} {f : Nat → Int} {m : Int → Int} {B : Int} {p : Int} (hlo : E.1 ≤ μ) (hM : σ.1 μ = some (qa_MoF μ f)) (hm : σ.1 (μ + 1) = some (qa_ia 146 m)) (hk : sm_ok m B) (hp : qa_in p) : qa_T E qm_M_aloneIt 0 0 [.ref μ, .int (qa_i p)] σ (qa_Mt σ μ f 7 (so_alone m p)) := by
  refine qa_enterQ (by decide) rfl qm_M_aloneIt_ok rfl rfl (fun Q9 hQ => ?_)
  obtain ⟨k0, k1, k2, k3, k4, k5, k6, k7, k8⟩ := id hk
  have e0 : σ.2 = σ.2 := rfl
  have fr : ∀ q, (q ≠ μ ∧ q ≠ μ + 1) → σ.1 q = σ.1 q := fun _ _ => rfl
  refine qa_aload_n (pc' := 1) ⟨rfl, rfl⟩ rfl ?_
  refine qa_iload_n (pc' := 2) ⟨rfl, rfl⟩ rfl ?_
  refine qa_callV rfl qf_M_isPart ql_10_111 (c_M_isPart (E := E) hM hm hk (by omega)) hM rfl rfl rfl (qa_lt9 rfl) (qa_le9 rfl) (qa_le9 rfl) (qa_le9 rfl) (fun o9 τ9 hq9 => ?_)
  obtain ⟨rfl, hq9⟩ := hq9
  replace hq9 := hq9.symm; subst hq9
  refine qa_nx (pc' := 5) (st' := [_]) rfl rfl rfl rfl ?_
  by_cases hp9 : 0 ≤ p ∧ p < m 0
  · rw [if_pos hp9]
    refine qa_if_ne (pc' := 8) (tgt := 14) ⟨rfl, rfl⟩ rfl (by omega) (fun hp99 => ?_) (fun hp99 => ?_)
    · have cb := k5 p (by omega) (by omega)
      have cu9 := sm_cu_b m (m 0).toNat
      refine qa_aload_n (pc' := 15) ⟨rfl, rfl⟩ rfl ?_
      refine qa_getf (pc' := 18) ⟨rfl, rfl⟩ qg_10_9 (by assumption) rfl ?_
      refine qa_iload_n (pc' := 19) ⟨rfl, rfl⟩ rfl ?_
      refine qa_callS rfl qf_M_partAt rfl ql_10_74 (c_M_partAt (E := E)) rfl rfl (qa_lt9 rfl) (qa_le9 rfl) (qa_le9 rfl) (qa_le9 rfl) (fun o9 τ9 hq9 => ?_)
      obtain ⟨rfl, hq9⟩ := hq9
      replace hq9 := hq9.symm; subst hq9
      refine qa_nx (pc' := 22) (st' := [_, _]) rfl rfl rfl rfl ?_
      refine qa_iconst (pc' := 23) ⟨rfl, rfl⟩ ?_
      refine qa_iadd (z := 7 + 26 * p) (pc' := 24) ⟨rfl, rfl⟩ (by omega) ?_
      refine qa_iaload (pc' := 25) ⟨rfl, rfl⟩ (by assumption) (by omega) ?_
      refine qa_iconst (pc' := 26) ⟨rfl, rfl⟩ ?_
      refine qa_icmp_ne (pc' := 29) (tgt := 41) ⟨rfl, rfl⟩ rfl (by omega) (by omega) (fun hc4 => ?_) (fun hc4 => ?_)
      · have hok := (sm_ok.cue (p := p) (v := -1) hk (by omega) (by omega))
        have cu8 := sm_cu_b (qa_up m (7 + 26 * p) (-1)) (m 0).toNat
        refine qa_aload_n (pc' := 42) ⟨rfl, rfl⟩ rfl ?_
        refine qa_getf (pc' := 45) ⟨rfl, rfl⟩ qg_10_9 (by assumption) rfl ?_
        refine qa_iload_n (pc' := 46) ⟨rfl, rfl⟩ rfl ?_
        refine qa_callS rfl qf_M_partAt rfl ql_10_74 (c_M_partAt (E := E)) rfl rfl (qa_lt9 rfl) (qa_le9 rfl) (qa_le9 rfl) (qa_le9 rfl) (fun o9 τ9 hq9 => ?_)
        obtain ⟨rfl, hq9⟩ := hq9
        replace hq9 := hq9.symm; subst hq9
        refine qa_nx (pc' := 49) (st' := [_, _]) rfl rfl rfl rfl ?_
        refine qa_iconst (pc' := 50) ⟨rfl, rfl⟩ ?_
        refine qa_iadd (z := 7 + 26 * p) (pc' := 51) ⟨rfl, rfl⟩ (by omega) ?_
        refine qa_iconst (pc' := 52) ⟨rfl, rfl⟩ ?_
        refine qa_iastore (pc' := 53) ⟨rfl, rfl⟩ hm (by omega) (by omega) ?_
        refine qa_gz (fun τ1 e1 w1 f1 => ?_)
        replace hM := (f1 _ (by omega)).trans hM
        replace fr := fun q hq => (f1 q (by have := hq; omega)).trans (fr q hq)
        replace e0 := e1.trans e0
        have hm : τ1.1 (μ + 1) = some (qa_ia 146 (qa_up m (7 + 26 * p) (-1))) := w1
        refine qa_aload_n (pc' := 54) ⟨rfl, rfl⟩ rfl ?_
        refine qa_callV rfl qf_M_cues ql_10_140 (c_M_cues (E := E) hM hm hok) hM rfl rfl rfl (qa_lt9 rfl) (qa_le9 rfl) (qa_le9 rfl) (qa_le9 rfl) (fun o9 τ9 hq9 => ?_)
        obtain ⟨rfl, hq9⟩ := hq9
        replace hq9 := hq9.symm; subst hq9
        refine qa_nx (pc' := 57) (st' := [_]) rfl rfl rfl rfl ?_
        rw [show (qa_up m (7 + 26 * p) (-1)) 0 = m 0 from qa_up_ne (by omega)]
        refine qa_ireturn rfl rfl rfl (hQ _ _ (qa_Mt.good (d := 0) (by unfold so_alone; repeat (first | rw [if_pos (by omega)] | rw [if_neg (by omega)])) (by omega) e0 hM hm (sm_eqv.rf _) fr))
      · refine qa_aload_n (pc' := 30) ⟨rfl, rfl⟩ rfl ?_
        refine qa_iconst (pc' := 31) ⟨rfl, rfl⟩ ?_
        refine qa_bipush (z := 6) (pc' := 33) ⟨rfl, rfl⟩ rfl ?_
        refine qa_aload_n (pc' := 34) ⟨rfl, rfl⟩ rfl ?_
        refine qa_callV rfl qf_M_cues ql_10_140 (c_M_cues (E := E) hM hm hk) hM rfl rfl rfl (qa_lt9 rfl) (qa_le9 rfl) (qa_le9 rfl) (qa_le9 rfl) (fun o9 τ9 hq9 => ?_)
        obtain ⟨rfl, hq9⟩ := hq9
        replace hq9 := hq9.symm; subst hq9
        refine qa_nx (pc' := 37) (st' := [_, _, _, _]) rfl rfl rfl rfl ?_
        refine qa_callV rfl qf_M_rejects ql_10_97 (c_M_rejects (E := E) (p := 2) (y := 6) (x := (sm_cu m (m 0).toNat)) hlo hM) hM rfl rfl rfl (qa_lt9 rfl) (qa_le9 rfl) (qa_le9 rfl) (qa_le9 rfl) (fun o9 τ9 hq9 => ?_)
        obtain ⟨rfl, e9, hM, f9⟩ := hq9
        refine qa_nx (pc' := 40) (st' := [_]) rfl rfl rfl rfl ?_
        refine qa_ireturn rfl rfl rfl (hQ _ _ (qa_Mt.rej (by unfold so_alone; repeat (first | rw [if_pos (by omega)] | rw [if_neg (by omega)])) (by omega) (by first | rfl | (unfold so_pl; rfl)) (e9.trans e0) hM ((f9 _ (by omega)).trans hm) (fun q hq => (f9 q hq.1).trans (fr q hq))))
    · exact absurd hp99 (by omega)
  · rw [if_neg hp9]
    refine qa_if_ne (pc' := 8) (tgt := 14) ⟨rfl, rfl⟩ rfl (by omega) (fun hp99 => ?_) (fun hp99 => ?_)
    · exact absurd hp99 (by omega)
    · refine qa_aload_n (pc' := 9) ⟨rfl, rfl⟩ rfl ?_
      refine qa_iconst (pc' := 10) ⟨rfl, rfl⟩ ?_
      refine qa_callV rfl qf_M_throwing ql_10_60 (c_M_throwing (E := E) (v := 1) hlo hM) hM rfl rfl rfl (qa_lt9 rfl) (qa_le9 rfl) (qa_le9 rfl) (qa_le9 rfl) (fun o9 τ9 hq9 => ?_)
      obtain ⟨rfl, e9, hM, f9⟩ := hq9
      refine qa_nx (pc' := 13) (st' := [_]) rfl rfl rfl rfl ?_
      refine qa_ireturn rfl rfl rfl (hQ _ _ (qa_Mt.bad (a := -10) (d := 0) (by unfold so_alone; repeat (first | rw [if_pos (by omega)] | rw [if_neg (by omega)])) (by omega) (by first | rfl | (unfold so_pl; rfl)) (e9.trans e0) hM ((f9 _ (by omega)).trans hm) (fun q hq => (f9 q hq.1).trans (fr q hq))))
theorem c_M_barIt {E : qa_V} {σ : qa_S} {μ : Nat} {f : Nat → Int} {m : Int → Int} {B : Int} {t : Int} (hlo : E.1 ≤ μ) (hM : σ.1 μ = some (qa_MoF μ f)) (hm : σ.1 (μ + 1) = some (qa_ia 146 m)) (hk : sm_ok m B) (ht : qa_in t) : qa_T E qm_M_barIt 0 0 [.ref μ, .int (qa_i t)] σ (qa_Mt σ μ f 8 (so_bar m t)) := by
  refine qa_enterQ (by decide) rfl qm_M_barIt_ok rfl rfl (fun Q9 hQ => ?_)
  obtain ⟨k0, k1, k2, k3, k4, k5, k6, k7, k8⟩ := id hk
  have e0 : σ.2 = σ.2 := rfl
  have fr : ∀ q, (q ≠ μ ∧ q ≠ μ + 1) → σ.1 q = σ.1 q := fun _ _ => rfl
  refine qa_iload_n (pc' := 1) ⟨rfl, rfl⟩ rfl ?_
  refine qa_i2l (pc' := 2) ⟨rfl, rfl⟩ (by omega) ?_
  refine qa_lconst (z := 1) (pc' := 3) ⟨rfl, rfl⟩ rfl ?_
  refine qa_ldc2 (z := 48) (pc' := 6) ⟨rfl, rfl⟩ qk_10_149 ?_
  refine qa_callS rfl qf_M_in rfl ql_10_70 (c_M_in (E := E) (by omega) (by omega) (by omega)) rfl rfl (qa_lt9 rfl) (qa_le9 rfl) (qa_le9 rfl) (qa_le9 rfl) (fun o9 τ9 hq9 => ?_)
  obtain ⟨rfl, hq9⟩ := hq9
  replace hq9 := hq9.symm; subst hq9
  refine qa_nx (pc' := 9) (st' := [_]) rfl rfl rfl rfl ?_
  by_cases hi9 : 1 ≤ t ∧ t ≤ 48
  · rw [if_pos hi9]
    refine qa_if_ne (pc' := 12) (tgt := 18) ⟨rfl, rfl⟩ rfl (by omega) (fun hi99 => ?_) (fun hi99 => ?_)
    · refine qa_aload_n (pc' := 19) ⟨rfl, rfl⟩ rfl ?_
      refine qa_getf (pc' := 22) ⟨rfl, rfl⟩ qg_10_9 (by assumption) rfl ?_
      refine qa_iconst (pc' := 23) ⟨rfl, rfl⟩ ?_
      refine qa_iaload (pc' := 24) ⟨rfl, rfl⟩ (by assumption) (by omega) ?_
      refine qa_istore_n (L' := [(0, _), (1, _), (2, _)]) (pc' := 25) ⟨rfl, rfl⟩ rfl rfl ?_
      refine qa_aload_n (pc' := 26) ⟨rfl, rfl⟩ rfl ?_
      refine qa_getf (pc' := 29) ⟨rfl, rfl⟩ qg_10_9 (by assumption) rfl ?_
      refine qa_iconst (pc' := 30) ⟨rfl, rfl⟩ ?_
      refine qa_iload_n (pc' := 31) ⟨rfl, rfl⟩ rfl ?_
      refine qa_iastore (pc' := 32) ⟨rfl, rfl⟩ hm (by omega) (by omega) ?_
      refine qa_gz (fun τ1 e1 w1 f1 => ?_)
      replace hM := (f1 _ (by omega)).trans hM
      replace fr := fun q hq => (f1 q (by have := hq; omega)).trans (fr q hq)
      replace e0 := e1.trans e0
      have hm : τ1.1 (μ + 1) = some (qa_ia 146 (qa_up m 1 t)) := w1
      refine qa_iload_n (pc' := 33) ⟨rfl, rfl⟩ rfl ?_
      refine qa_ireturn rfl rfl rfl (hQ _ _ (qa_Mt.good (d := 0) (by unfold so_bar; repeat (first | rw [if_pos (by omega)] | rw [if_neg (by omega)])) (by omega) e0 hM hm (sm_eqv.rf _) fr))
    · exact absurd hi99 (by omega)
  · rw [if_neg hi9]
    refine qa_if_ne (pc' := 12) (tgt := 18) ⟨rfl, rfl⟩ rfl (by omega) (fun hi99 => ?_) (fun hi99 => ?_)
    · exact absurd hi99 (by omega)
    · refine qa_aload_n (pc' := 13) ⟨rfl, rfl⟩ rfl ?_
      refine qa_iconst (pc' := 14) ⟨rfl, rfl⟩ ?_
      refine qa_callV rfl qf_M_throwing ql_10_60 (c_M_throwing (E := E) (v := 1) hlo hM) hM rfl rfl rfl (qa_lt9 rfl) (qa_le9 rfl) (qa_le9 rfl) (qa_le9 rfl) (fun o9 τ9 hq9 => ?_)
      obtain ⟨rfl, e9, hM, f9⟩ := hq9
      refine qa_nx (pc' := 17) (st' := [_]) rfl rfl rfl rfl ?_
      refine qa_ireturn rfl rfl rfl (hQ _ _ (qa_Mt.bad (a := -11) (d := 0) (by unfold so_bar; repeat (first | rw [if_pos (by omega)] | rw [if_neg (by omega)])) (by omega) (by first | rfl | (unfold so_pl; rfl)) (e9.trans e0) hM ((f9 _ (by omega)).trans hm) (fun q hq => (f9 q hq.1).trans (fr q hq))))
