/-! the calls with an end of their own -/
theorem sm_tx_len {m : Int → Int} {B p : Int} (hk : sm_ok m B) (hp : sm_is m p) : (sm_tx m p).length ≤ 120 := by
  have k5 := hk.2.2.2.2.2.1 p hp.1 hp.2
  have kk := hk.2.2.2.2.1 p hp.1 (by have := hk.1; have := hp.2; omega)
  have kn := kk.1
  have h0 : (sm_tx1 m p).length ≤ 12 := by
    have a1 := qt_l2 ([] : List Int) p
    have a2 := qt_l1 (([] : List Int) ++ sp_dg p) 40
    have a3 := qt_l2 ((([] : List Int) ++ sp_dg p) ++ [40]) (m (5 + 26 * p))
    have a4 := qt_l1 (((([] : List Int) ++ sp_dg p) ++ [40]) ++ sp_dg (m (5 + 26 * p))) 47
    have a5 := qt_l2 ((((([] : List Int) ++ sp_dg p) ++ [40]) ++ sp_dg (m (5 + 26 * p))) ++ [47]) (m (6 + 26 * p))
    have a6 := qt_l1 (((((([] : List Int) ++ sp_dg p) ++ [40]) ++ sp_dg (m (5 + 26 * p))) ++ [47]) ++ sp_dg (m (6 + 26 * p))) 41
    have e : (([] : List Int)).length = 0 := rfl
    have h1 : (sm_tx0 m p).length ≤ 9 := by unfold sm_tx0; omega
    have a7 := qt_l1 (sm_tx0 m p) 62
    have a8 := qt_l2 (sm_tx0 m p ++ [62]) (m (7 + 26 * p))
    unfold sm_tx1
    split <;> omega
  have h1 : ∀ k : Nat, (sm_txn (sm_pf m p) (sm_lf m p) (sm_tx1 m p) k).length ≤ 12 + 6 * k := by
    intro k
    induction k with
    | zero => exact h0
    | succ k ih =>
      by_cases hP : sm_pf m p k = -1
      · rw [sm_txn_y hP]
        have b1 := qt_l1 (sm_txn (sm_pf m p) (sm_lf m p) (sm_tx1 m p) k) 32
        have b2 := qt_l1 (sm_txn (sm_pf m p) (sm_lf m p) (sm_tx1 m p) k ++ [32]) 45
        have b3 := qt_l1 ((sm_txn (sm_pf m p) (sm_lf m p) (sm_tx1 m p) k ++ [32]) ++ [45]) 42
        have b4 := qt_l2 (((sm_txn (sm_pf m p) (sm_lf m p) (sm_tx1 m p) k ++ [32]) ++ [45]) ++ [42]) (sm_lf m p k)
        omega
      · rw [sm_txn_n hP]
        have b1 := qt_l1 (sm_txn (sm_pf m p) (sm_lf m p) (sm_tx1 m p) k) 32
        have b2 := qt_l2 (sm_txn (sm_pf m p) (sm_lf m p) (sm_tx1 m p) k ++ [32]) (sm_pf m p k)
        have b3 := qt_l1 ((sm_txn (sm_pf m p) (sm_lf m p) (sm_tx1 m p) k ++ [32]) ++ sp_dg (sm_pf m p k)) 42
        have b4 := qt_l2 (((sm_txn (sm_pf m p) (sm_lf m p) (sm_tx1 m p) k ++ [32]) ++ sp_dg (sm_pf m p k)) ++ [42]) (sm_lf m p k)
        omega
  have := h1 (sm_n m p).toNat
  unfold sm_tx
  omega
theorem sR_B_ch {h : qa_H} {b v : Nat} {t : List Int} (H : sR_B h b v t) (j : Int) (j0 : 0 ≤ j) (j1 : j < t.length) : 0 ≤ sc_at t j ∧ sc_at t j ≤ 127 := by
  obtain ⟨ml, cap, g, h1, h2, h3, h4, h5, h6⟩ := H
  unfold sc_at
  rw [List.getD_eq_getElem?_getD, h6 j.toNat (by omega)]
  exact h5 _
theorem j_writePart {E : qa_V} {σ : qa_S} {c : Nat} {Z : Nat → Nat} {B : Int} {p : Int} (hZ : qa_St E Z σ.1) (hz : qa_Sb E) (hlo : E.1 ≤ c) (hI : qI c Z B σ) (hB9 : B ≤ 800000000) (hp : qa_in p) : qa_T E qm_C_writePart 64 8000 [.ref c, .int (qa_i p)] σ (jC E c Z (B + 13000) qm_M_writePart [.int (qa_i p)] [0] Value.int σ) := by
  obtain ⟨vi, vo, m, msn, mh, sp, ct, t, u, cs, n, f, sv, ps, ip, li, I⟩ := hI
  obtain ⟨⟨hc, hn0, hn1, hn4⟩, ⟨⟨rf, hS⟩, hk⟩, ⟨⟨rf2, hS2⟩, hk2⟩, hH, hX9, hR9, hO9, hv9⟩ := I.1
  have i3 := I.2.2.1
  obtain ⟨⟨ja1, ja2⟩, ⟨jb1, jb2⟩, jc1, jd1, ⟨je1, je2⟩, jg1, jg2, jg3⟩ := I.2.2.2
  have hlo7 : E.1 ≤ c + 277 := by omega
  have hsz : c + 277 ≤ σ.2 ∧ vi < σ.2 ∧ vo < σ.2 := by omega
  have h5 : 0 ≤ f 5 ∧ f 5 ≤ 8 := by have := hH.2.2.2.1; omega
  refine jmk I (c_C_writePart (E := E) hZ hz hlo I.1 hsz (by omega) hp) fun o τ hq => ?_
  obtain ⟨h1, h2, vo1, ⟨g1, g2⟩, g3⟩ := hq
  have hle := h2.1
  by_cases h9 : sm_is m p
  · refine ⟨0, qa_i ((sm_tx m p).length : Int), ?_, ⟨by decide, by decide⟩, h2, fun τ2 e2 f2 hR2 => (c_M_writePart (E := E) hlo7 hR2 hk hp).mono fun o' τ' hq => ?_⟩
    · rw [h1]; unfold fo_of; rw [if_pos h9]; rfl
    obtain ⟨he, hf, hq⟩ := hq
    rcases hq with ⟨n9, -⟩ | ⟨-, rfl, li1, w1, w2⟩
    · exact absurd h9 n9
    rw [if_pos h9] at g3
    exact jfin (C := Value.int) (g3.up (by omega)) ⟨by omega, by omega, g1, i3.2.2.2.1, by omega⟩ e2 f2 he (fun q hq => hf q (by omega)) w1 ⟨⟨ja1, ja2⟩, ⟨jb1, jb2⟩, jc1, jd1, ⟨je1, je2⟩, rfl, sm_tx_len hk h9, w2⟩ rfl (fun _ => rfl)
  · refine ⟨1, qa_i 0, ?_, ⟨by decide, by decide⟩, h2, fun τ2 e2 f2 hR2 => (c_M_writePart (E := E) hlo7 hR2 hk hp).mono fun o' τ' hq => ?_⟩
    · rw [h1]; unfold fo_of; rw [if_neg h9]; rfl
    obtain ⟨he, hf, hq⟩ := hq
    rcases hq with ⟨-, ⟨v, rfl⟩, w1⟩ | ⟨n9, -⟩
    · rw [if_neg h9] at g3
      exact jfin (C := Value.int) (g3.up (by omega)) ⟨by omega, by omega, g1, i3.2.2.2.1, by omega⟩ e2 f2 he (fun q hq => hf q (by omega)) w1 (I.2.2.2.same sM_same.put) rfl (fun h => absurd h (by decide))
    · exact absurd n9 h9
theorem j_appendInput {E : qa_V} {σ : qa_S} {c : Nat} {Z : Nat → Nat} {B : Int} {x : Int} (hZ : qa_St E Z σ.1) (hz : qa_Sb E) (hlo : E.1 ≤ c) (hI : qI c Z B σ) (hB9 : B ≤ 800000000) (hx : 0 ≤ x ∧ x ≤ 65535) : qa_T E qm_C_appendInput 2 160 [.ref c, .int (qa_i x)] σ (jC E c Z (B + 13000) qm_M_appendInput [.int (qa_i x)] [1, 5] Value.int σ) := by
  obtain ⟨vi, vo, m, msn, mh, sp, ct, t, u, cs, n, f, sv, ps, ip, li, I⟩ := hI
  obtain ⟨⟨hc, hn0, hn1, hn4⟩, ⟨⟨rf, hS⟩, hk⟩, ⟨⟨rf2, hS2⟩, hk2⟩, hH, hX9, hR9, hO9, hv9⟩ := I.1
  have i3 := I.2.2.1
  obtain ⟨⟨ja1, ja2⟩, ⟨jb1, jb2⟩, jc1, jd1, ⟨je1, je2⟩, jg1, jg2, jg3⟩ := I.2.2.2
  have hlo7 : E.1 ≤ c + 277 := by omega
  have hsz : c + 277 ≤ σ.2 ∧ vi < σ.2 ∧ vo < σ.2 := by omega
  have h5 : 0 ≤ f 5 ∧ f 5 ≤ 8 := by have := hH.2.2.2.1; omega
  have hl60 : t.length ≤ 60 := by obtain ⟨r1, r2, r3, r4, r5⟩ := hR9; exact r5.2.2.2.2.2.1
  refine jmk I (c_C_appendInput (E := E) hZ hz hlo I.1 hsz (by omega) hx) fun o τ hq => ?_
  obtain ⟨h1, h2, vi1, ⟨g1, g2⟩, g3⟩ := hq
  have hle := h2.1
  by_cases h9 : 32 ≤ x ∧ x ≤ 126
  · rw [if_pos h9] at h1
    by_cases h8 : t.length = 60
    · rw [if_pos h8] at h1
      rw [if_neg (fun h => h.2 h8)] at g3
      refine ⟨2, qa_i 0, h1, ⟨by decide, by decide⟩, h2, fun τ2 e2 f2 hR2 => (c_M_appendInput (E := E) hlo7 hR2 hk h5 hx (by omega)).mono fun o' τ' hq => ?_⟩
      obtain ⟨he, hf, hq⟩ := hq
      rcases hq with ⟨n9, -⟩ | ⟨-, -, ⟨v, rfl⟩, w1⟩ | ⟨-, n8, -⟩
      · exact absurd h9 n9
      · exact jfin (C := Value.int) (g3.up (by omega)) ⟨by omega, g1, by omega, by omega, i3.2.2.2.2⟩ e2 f2 he (fun q hq => hf q (by omega)) w1 (I.2.2.2.same sM_same.put) rfl (fun h => absurd h (by decide))
      · exact absurd (by omega) n8
    · rw [if_neg h8] at h1
      rw [if_pos ⟨h9, h8⟩] at g3
      refine ⟨0, qa_i ((t.length : Int) + 1), h1, ⟨by decide, by decide⟩, h2, fun τ2 e2 f2 hR2 => (c_M_appendInput (E := E) hlo7 hR2 hk h5 hx (by omega)).mono fun o' τ' hq => ?_⟩
      obtain ⟨he, hf, hq⟩ := hq
      rcases hq with ⟨n9, -⟩ | ⟨-, n8, -⟩ | ⟨-, -, rfl, w1⟩
      · exact absurd h9 n9
      · exact absurd n8 (by omega)
      · refine jfin (C := Value.int) (g3.up (by omega)) ⟨by omega, g1, by omega, by omega, i3.2.2.2.2⟩ e2 f2 he (fun q hq => hf q (by omega)) w1 ⟨⟨ja1, ja2⟩, ⟨jb1, jb2⟩, jc1, jd1, ⟨?_, fun j hj => ?_⟩, jg1, jg2, jg3⟩ rfl (fun _ => by rw [je1])
        · rw [qt_l1]; show f 14 + 1 = _; omega
        · rw [qt_l1] at hj
          by_cases h7 : j < t.length
          · rw [List.getElem?_append_left h7, qa_up_ne (by omega)]
            exact je2 j h7
          · rw [show j = t.length by omega, je1, qa_up_eq]
            simp
  · rw [if_neg h9] at h1
    rw [if_neg (fun h => h9 h.1)] at g3
    refine ⟨1, qa_i 0, h1, ⟨by decide, by decide⟩, h2, fun τ2 e2 f2 hR2 => (c_M_appendInput (E := E) hlo7 hR2 hk h5 hx (by omega)).mono fun o' τ' hq => ?_⟩
    obtain ⟨he, hf, hq⟩ := hq
    rcases hq with ⟨-, ⟨v, rfl⟩, w1⟩ | ⟨n9, -⟩ | ⟨n9, -⟩
    · exact jfin (C := Value.int) (g3.up (by omega)) ⟨by omega, g1, by omega, by omega, i3.2.2.2.2⟩ e2 f2 he (fun q hq => hf q (by omega)) w1 (I.2.2.2.same sM_same.put) rfl (fun h => absurd h (by decide))
    · exact absurd n9 h9
    · exact absurd n9 h9
theorem j_undo {E : qa_V} {σ : qa_S} {c : Nat} {Z : Nat → Nat} {B : Int} (hZ : qa_St E Z σ.1) (hz : qa_Sb E) (hlo : E.1 ≤ c) (hI : qI c Z B σ) (hB9 : B ≤ 800000000) : qa_T E qm_C_undo 1 6 [.ref c] σ (jC E c Z (B + 13000) qm_M_undo [] [5] Value.int σ) := by
  obtain ⟨vi, vo, m, msn, mh, sp, ct, t, u, cs, n, f, sv, ps, ip, li, I⟩ := hI
  obtain ⟨⟨hc, hn0, hn1, hn4⟩, ⟨⟨rf, hS⟩, hk⟩, ⟨⟨rf2, hS2⟩, hk2⟩, hH, hX9, hR9, hO9, hv9⟩ := I.1
  have i3 := I.2.2.1
  obtain ⟨⟨ja1, ja2⟩, ⟨jb1, jb2⟩, jc1, jd1, ⟨je1, je2⟩, jg1, jg2, jg3⟩ := I.2.2.2
  have hlo7 : E.1 ≤ c + 277 := by omega
  have hsz : c + 277 ≤ σ.2 ∧ vi < σ.2 ∧ vo < σ.2 := by omega
  have h5 : 0 ≤ f 5 ∧ f 5 ≤ 8 := by have := hH.2.2.2.1; omega
  have hHs := hH.2.2
  refine jmk I (c_C_undo (E := E) hZ hz hlo I.1 hsz (by omega)) fun o τ hq => ?_
  obtain ⟨h1, h2, g3⟩ := hq
  have hle := h2.1
  by_cases h9 : ct = 0
  · rw [if_pos h9] at h1
    rw [if_pos h9, if_pos h9, if_pos h9] at g3
    refine ⟨1, qa_i 0, h1, ⟨by decide, by decide⟩, h2, fun τ2 e2 f2 hR2 => (c_M_undo (E := E) hlo7 hR2 hk h5).mono fun o' τ' hq => ?_⟩
    obtain ⟨he, hf, hq⟩ := hq
    rcases hq with ⟨-, ⟨v, rfl⟩, w1⟩ | ⟨n9, -⟩
    · exact jfin (C := Value.int) (g3.up (by omega)) ⟨by omega, by omega, by omega, i3.2.2.2.1, i3.2.2.2.2⟩ e2 f2 he (fun q hq => hf q (by omega)) w1 (I.2.2.2.same sM_same.put) rfl (fun h => absurd h (by decide))
    · exact absurd (by omega) n9
  · rw [if_neg h9] at h1
    rw [if_neg h9, if_neg h9, if_neg h9] at g3
    refine ⟨0, qa_i (ct - 1), h1, ⟨by decide, by decide⟩, h2, fun τ2 e2 f2 hR2 => (c_M_undo (E := E) hlo7 hR2 hk h5).lk fun o' τ' hq => ?_⟩
    obtain ⟨he, hf, hq⟩ := hq
    rcases hq with ⟨n9, -⟩ | ⟨-, rfl, m1, w1, w2⟩
    · exact absurd n9 (by omega)
    · obtain ⟨v1, v2⟩ := w1.lk (m1 := mh ((sp + 8) % 9)) (fun j j0 j1 => by rw [w2 j j0 j1, jb2 (f 5 - 1) j (by omega) (by omega) j0 j1]; congr 1; omega)
      refine ⟨_, v1, jfin (C := Value.int) (g3.up (by omega)) ⟨by omega, by omega, by omega, i3.2.2.2.1, i3.2.2.2.2⟩ e2 f2 he (fun q hq => (qa_set_ne (by omega)).trans (hf q (by omega))) v2 ⟨⟨ja1, ja2⟩, ⟨?_, fun j q j0 j1 q0 q1 => ?_⟩, jc1, jd1, ⟨je1, je2⟩, jg1, jg2, jg3⟩ rfl (fun _ => by rw [jb1])⟩
      · show ct - 1 = f 5 - 1; omega
      · rw [jb2 j q j0 (by omega) q0 q1]; congr 1; omega
theorem j_restoreSnapshot {E : qa_V} {σ : qa_S} {c : Nat} {Z : Nat → Nat} {B : Int} (hZ : qa_St E Z σ.1) (hz : qa_Sb E) (hlo : E.1 ≤ c) (hI : qI c Z B σ) (hB9 : B ≤ 800000000) : qa_T E qm_C_restoreSnapshot 1 6 [.ref c] σ (jC E c Z (B + 13000) qm_M_restoreSnapshot [] [5] Value.int σ) := by
  obtain ⟨vi, vo, m, msn, mh, sp, ct, t, u, cs, n, f, sv, ps, ip, li, I⟩ := hI
  obtain ⟨⟨hc, hn0, hn1, hn4⟩, ⟨⟨rf, hS⟩, hk⟩, ⟨⟨rf2, hS2⟩, hk2⟩, hH, hX9, hR9, hO9, hv9⟩ := I.1
  have i3 := I.2.2.1
  obtain ⟨⟨ja1, ja2⟩, ⟨jb1, jb2⟩, jc1, jd1, ⟨je1, je2⟩, jg1, jg2, jg3⟩ := I.2.2.2
  have hlo7 : E.1 ≤ c + 277 := by omega
  have hsz : c + 277 ≤ σ.2 ∧ vi < σ.2 ∧ vo < σ.2 := by omega
  have h5 : 0 ≤ f 5 ∧ f 5 ≤ 8 := by have := hH.2.2.2.1; omega
  have hn9 : f 3 ≠ 0 → 0 ≤ sv 0 ∧ sv 0 ≤ 5 := fun h => by rw [ja2 h 0 (by decide) (by decide)]; exact hk2.1
  refine jmk I (c_C_restoreSnapshot (E := E) hZ hz hlo I.1 hsz (by omega)) fun o τ hq => ?_
  obtain ⟨h1, h2, g3⟩ := hq
  have hle := h2.1
  by_cases h9 : n 0 = 0
  · rw [if_pos h9] at h1
    rw [if_pos h9, if_pos h9] at g3
    refine ⟨1, qa_i 0, h1, ⟨by decide, by decide⟩, h2, fun τ2 e2 f2 hR2 => (c_M_restoreSnapshot (E := E) hlo7 hR2 hk h5 (by omega) hn9).mono fun o' τ' hq => ?_⟩
    obtain ⟨he, hf, hq⟩ := hq
    rcases hq with ⟨-, ⟨v, rfl⟩, w1⟩ | ⟨n9, -⟩
    · exact jfin (C := Value.int) (g3.up (by omega)) ⟨by omega, by omega, by omega, i3.2.2.2.1, i3.2.2.2.2⟩ e2 f2 he (fun q hq => hf q (by omega)) w1 (I.2.2.2.same sM_same.put) rfl (fun h => absurd h (by decide))
    · exact absurd (by omega) n9
  · rw [if_neg h9] at h1
    rw [if_neg h9, if_neg h9] at g3
    refine ⟨0, qa_i (msn 0), h1, ⟨by decide, by decide⟩, h2, fun τ2 e2 f2 hR2 => (c_M_restoreSnapshot (E := E) hlo7 hR2 hk h5 (by omega) hn9).lk fun o' τ' hq => ?_⟩
    obtain ⟨he, hf, hq⟩ := hq
    rcases hq with ⟨n9, -⟩ | ⟨n8, rfl, m1, w1, w2⟩
    · exact absurd n9 (by omega)
    · have hv := ja2 n8
      obtain ⟨v1, v2⟩ := w1.lk (m1 := msn) (fun j j0 j1 => (w2 j j0 j1).trans (hv j j0 j1))
      exact ⟨_, v1, jfin (C := Value.int) (g3.up (by omega)) ⟨by omega, by omega, by omega, i3.2.2.2.1, i3.2.2.2.2⟩ e2 f2 he (fun q hq => (qa_set_ne (by omega)).trans (hf q (by omega))) v2 ⟨⟨ja1, ja2⟩, ⟨rfl, fun j q j0 j1 q0 q1 => absurd j1 (by omega)⟩, jc1, jd1, ⟨je1, je2⟩, jg1, jg2, jg3⟩ rfl (fun _ => by rw [hv 0 (by decide) (by decide)])⟩
theorem j_execute {E : qa_V} {σ : qa_S} {c : Nat} {Z : Nat → Nat} {B : Int} (hZ : qa_St E Z σ.1) (hz : qa_Sb E) (hlo : E.1 ≤ c) (hI : qI c Z B σ) (hB9 : B ≤ 800000000) : qa_T E qm_C_execute 2 156 [.ref c] σ (jC E c Z (B + 13000) qm_M_execute [] [1, 5, 2] Value.int σ) := by
  obtain ⟨vi, vo, m, msn, mh, sp, ct, t, u, cs, n, f, sv, ps, ip, li, I⟩ := hI
  obtain ⟨⟨hc, hn0, hn1, hn4⟩, ⟨⟨rf, hS⟩, hk⟩, ⟨⟨rf2, hS2⟩, hk2⟩, hH, hX9, hR9, hO9, hv9⟩ := I.1
  have i3 := I.2.2.1
  obtain ⟨⟨ja1, ja2⟩, ⟨jb1, jb2⟩, jc1, jd1, ⟨je1, je2⟩, jg1, jg2, jg3⟩ := I.2.2.2
  have hlo7 : E.1 ≤ c + 277 := by omega
  have hsz : c + 277 ≤ σ.2 ∧ vi < σ.2 ∧ vo < σ.2 := by omega
  have h5 : 0 ≤ f 5 ∧ f 5 ≤ 8 := by have := hH.2.2.2.1; omega
  have hHs := hH.2.2
  obtain ⟨r1, r2, r3, r4, r5⟩ := hR9
  have hch := sR_B_ch r5.2.1
  have hl60 := r5.2.2.2.2.2.1
  have up : ∀ i q : Int, i ≠ sp → sH_up mh sp m i q = mh i q := fun i q hi => congrFun (if_neg hi) q
  refine jmk I (c_C_execute (E := E) hZ hz hlo I.1 hsz (by omega)) fun o τ hq => ?_
  obtain ⟨h2, hq⟩ := hq
  have hle := h2.1
  have hm : ∀ τ2 : qa_S, sR_M τ2.1 (c + 277) f m sv ps ip li → _ := fun τ2 hR2 => c_M_execute (E := E) hlo7 hR2 hk (by omega) h5 je1 je2 hch hl60
  rcases hq with ⟨a1, h1, g3⟩ | ⟨a1, a2, h1, g3⟩ | ⟨a1, a2, a3, h1, g3⟩ | ⟨a1, a2, a3, h1, g3⟩
  · refine ⟨1, qa_i 0, h1, ⟨by decide, by decide⟩, h2, fun τ2 e2 f2 hR2 => (hm τ2 hR2).mono fun o' τ' hq => ?_⟩
    obtain ⟨⟨v, rfl, hv⟩, he, hf, f1, m1, ps1, w1, ⟨b1, b2, b3⟩, hq⟩ := hq
    rcases hq with ⟨-, d1, rfl, rfl, d2, d3, d4, d5, d6⟩ | ⟨n1, -⟩ | ⟨n1, -⟩ | ⟨n1, -⟩
    · exact jfin (C := Value.int) g3 ⟨by omega, by omega, by omega, i3.2.2.2.1, i3.2.2.2.2⟩ e2 f2 he (fun q hq => hf q (by omega)) w1 ⟨⟨by rw [b1]; exact ja1, by rw [b1]; exact ja2⟩, ⟨by rw [d2]; exact jb1, jb2⟩, d3.symm, by rw [d4, d5, d6]; exact jd1, ⟨b2, fun j hj => absurd hj (Nat.not_lt_zero _)⟩, by rw [b3]; exact jg1, jg2, jg3⟩ d1 (fun h => absurd h (by decide))
    · exact absurd n1 a1
    · exact absurd n1 a1
    · exact absurd n1 a1
  · refine ⟨0, qa_i ((sc_all t 13 0 []).2.length : Int), h1, ⟨by decide, by decide⟩, h2, fun τ2 e2 f2 hR2 => (hm τ2 hR2).mono fun o' τ' hq => ?_⟩
    obtain ⟨⟨v, rfl, hv⟩, he, hf, f1, m1, ps1, w1, ⟨b1, b2, b3⟩, hq⟩ := hq
    rcases hq with ⟨n1, -⟩ | ⟨-, -, d1, rfl, d2, d3, d4, d5, d6⟩ | ⟨-, n1, -⟩ | ⟨-, n1, -⟩
    · exact absurd a1 n1
    · have hJ := sJ.chg (m := m) (k9 := 0) (r := (0, 0, m)) (f' := sN_put f1 14 (f 14)) (ps' := ps1) (sp' := (sp + 1) % 9) (ct' := if ct < 8 then ct + 1 else 8) ⟨hHs.1, hHs.2.1⟩ I.2.2.2 (Or.inr (Or.inr (show (-8 : Int) ≤ 0 by decide))) ⟨d1, ⟨b1, d3, rfl, b3⟩, fun h => absurd (show (0 : Int) < 0 from h) (by decide), fun _ => d2, fun h => absurd (show (0 : Int) < 0 from h.2) (by decide), fun _ => ⟨d4, d5, d6⟩⟩ rfl rfl
      obtain ⟨y1, y2, y3, y4, -, y6⟩ := hJ
      exact jfin (C := Value.int) g3 ⟨by omega, by omega, by omega, i3.2.2.2.1, i3.2.2.2.2⟩ e2 f2 he (fun q hq => hf q (by omega)) w1 ⟨y1, y2, y3, y4, ⟨b2, fun j hj => absurd hj (Nat.not_lt_zero _)⟩, y6⟩ d1 (fun _ => by rw [hv a1 a2])
    · exact absurd (a2.symm.trans n1) (by decide)
    · exact absurd (a2.symm.trans n1) (by decide)
  · refine ⟨2, qa_i 0, h1, ⟨by decide, by decide⟩, h2, fun τ2 e2 f2 hR2 => (hm τ2 hR2).mono fun o' τ' hq => ?_⟩
    obtain ⟨⟨v, rfl, hv⟩, he, hf, f1, m1, ps1, w1, ⟨b1, b2, b3⟩, hq⟩ := hq
    rcases hq with ⟨n1, -⟩ | ⟨-, n1, -⟩ | ⟨-, -, -, d1, rfl, rfl, d2, d3, d4, d5, d6⟩ | ⟨-, -, n1, -⟩
    · exact absurd a1 n1
    · exact absurd (a2.symm.trans n1) (by decide)
    · exact jfin (C := Value.int) g3 ⟨by omega, by omega, by omega, i3.2.2.2.1, i3.2.2.2.2⟩ e2 f2 he (fun q hq => hf q (by omega)) w1 ⟨⟨by rw [b1]; exact ja1, by rw [b1]; exact ja2⟩, ⟨by rw [d2]; exact jb1, fun j q j0 j1 q0 q1 => (jb2 j q j0 j1 q0 q1).trans (up _ _ (by omega)).symm⟩, by rw [d3]; exact jc1, by rw [d4, d5, d6]; exact jd1, ⟨b2, fun j hj => absurd hj (Nat.not_lt_zero _)⟩, by rw [b3]; exact jg1, jg2, jg3⟩ d1 (fun h => absurd h (by decide))
    · exact absurd a3 (by omega)
  · refine ⟨3, qa_i 0, h1, ⟨by decide, by decide⟩, h2, fun τ2 e2 f2 hR2 => (hm τ2 hR2).mono fun o' τ' hq => ?_⟩
    obtain ⟨⟨v, rfl, hv⟩, he, hf, f1, m1, ps1, w1, ⟨b1, b2, b3⟩, hq⟩ := hq
    rcases hq with ⟨n1, -⟩ | ⟨-, n1, -⟩ | ⟨-, -, n1, -⟩ | ⟨-, -, -, d1, rfl, rfl, d2, d3, d4, d5, d6⟩
    · exact absurd a1 n1
    · exact absurd (a2.symm.trans n1) (by decide)
    · exact absurd a3 (by omega)
    · exact jfin (C := Value.int) g3 ⟨by omega, by omega, by omega, i3.2.2.2.1, i3.2.2.2.2⟩ e2 f2 he (fun q hq => hf q (by omega)) w1 ⟨⟨by rw [b1]; exact ja1, by rw [b1]; exact ja2⟩, ⟨by rw [d2]; exact jb1, fun j q j0 j1 q0 q1 => (jb2 j q j0 j1 q0 q1).trans (up _ _ (by omega)).symm⟩, by rw [d3]; exact jc1, Or.inr ⟨show (9 : Int) ≠ 0 by decide, d4, d5, fun _ => ⟨d6, show (1 : Int) ≤ -_ by omega, show -_ ≤ (9 : Int) by omega⟩, fun h => absurd rfl h⟩, ⟨b2, fun j hj => absurd hj (Nat.not_lt_zero _)⟩, by rw [b3]; exact jg1, jg2, jg3⟩ d1 (fun h => absurd h (by decide))
theorem j_partCount {E : qa_V} {σ : qa_S} {c : Nat} {Z : Nat → Nat} {B : Int} (hZ : qa_St E Z σ.1) (hz : qa_Sb E) (hlo : E.1 ≤ c) (hI : qI c Z B σ) (hB9 : B ≤ 800000000) : qa_T E qm_C_partCount 0 0 [.ref c] σ (jC E c Z (B + 13000) qm_M_partCount [] [] Value.int σ) := by
  obtain ⟨vi, vo, m, msn, mh, sp, ct, t, u, cs, n, f, sv, ps, ip, li, I⟩ := hI
  obtain ⟨⟨hc, hn0, hn1, hn4⟩, ⟨⟨rf, hS⟩, hk⟩, ⟨⟨rf2, hS2⟩, hk2⟩, hH, hX9, hR9, hO9, hv9⟩ := I.1
  have i3 := I.2.2.1
  obtain ⟨⟨ja1, ja2⟩, ⟨jb1, jb2⟩, jc1, jd1, ⟨je1, je2⟩, jg1, jg2, jg3⟩ := I.2.2.2
  have hlo7 : E.1 ≤ c + 277 := by omega
  have hsz : c + 277 ≤ σ.2 ∧ vi < σ.2 ∧ vo < σ.2 := by omega
  have h5 : 0 ≤ f 5 ∧ f 5 ≤ 8 := by have := hH.2.2.2.1; omega
  exact jQ (r := (0, m 0)) I ((c_C_partCount (E := E) hc hS hk).mono fun o τ h => ⟨h.1, by rw [h.2], by rw [h.2]; exact Nat.le_refl _⟩) ⟨Int.le_refl _, Int.le_refl _⟩ (fun τ2 hR2 => (c_M_partCount (E := E) hlo7 hR2.1.1 hR2.1.2 hk).mono (fun o t h => h.Ms hR2))
theorem j_barLength {E : qa_V} {σ : qa_S} {c : Nat} {Z : Nat → Nat} {B : Int} (hZ : qa_St E Z σ.1) (hz : qa_Sb E) (hlo : E.1 ≤ c) (hI : qI c Z B σ) (hB9 : B ≤ 800000000) : qa_T E qm_C_barLength 0 0 [.ref c] σ (jC E c Z (B + 13000) qm_M_barLength [] [] Value.int σ) := by
  obtain ⟨vi, vo, m, msn, mh, sp, ct, t, u, cs, n, f, sv, ps, ip, li, I⟩ := hI
  obtain ⟨⟨hc, hn0, hn1, hn4⟩, ⟨⟨rf, hS⟩, hk⟩, ⟨⟨rf2, hS2⟩, hk2⟩, hH, hX9, hR9, hO9, hv9⟩ := I.1
  have i3 := I.2.2.1
  obtain ⟨⟨ja1, ja2⟩, ⟨jb1, jb2⟩, jc1, jd1, ⟨je1, je2⟩, jg1, jg2, jg3⟩ := I.2.2.2
  have hlo7 : E.1 ≤ c + 277 := by omega
  have hsz : c + 277 ≤ σ.2 ∧ vi < σ.2 ∧ vo < σ.2 := by omega
  have h5 : 0 ≤ f 5 ∧ f 5 ≤ 8 := by have := hH.2.2.2.1; omega
  exact jQ (r := (0, m 1)) I ((c_C_barLength (E := E) hc hS hk).mono fun o τ h => ⟨h.1, by rw [h.2], by rw [h.2]; exact Nat.le_refl _⟩) ⟨Int.le_refl _, Int.le_refl _⟩ (fun τ2 hR2 => (c_M_barLength (E := E) hlo7 hR2.1.1 hR2.1.2 hk).mono (fun o t h => h.Ms hR2))
theorem j_playedTicks {E : qa_V} {σ : qa_S} {c : Nat} {Z : Nat → Nat} {B : Int} (hZ : qa_St E Z σ.1) (hz : qa_Sb E) (hlo : E.1 ≤ c) (hI : qI c Z B σ) (hB9 : B ≤ 800000000) : qa_T E qm_C_playedTicks 0 0 [.ref c] σ (jC E c Z (B + 13000) qm_M_playedTicks [] [] Value.int σ) := by
  obtain ⟨vi, vo, m, msn, mh, sp, ct, t, u, cs, n, f, sv, ps, ip, li, I⟩ := hI
  obtain ⟨⟨hc, hn0, hn1, hn4⟩, ⟨⟨rf, hS⟩, hk⟩, ⟨⟨rf2, hS2⟩, hk2⟩, hH, hX9, hR9, hO9, hv9⟩ := I.1
  have i3 := I.2.2.1
  obtain ⟨⟨ja1, ja2⟩, ⟨jb1, jb2⟩, jc1, jd1, ⟨je1, je2⟩, jg1, jg2, jg3⟩ := I.2.2.2
  have hlo7 : E.1 ≤ c + 277 := by omega
  have hsz : c + 277 ≤ σ.2 ∧ vi < σ.2 ∧ vo < σ.2 := by omega
  have h5 : 0 ≤ f 5 ∧ f 5 ≤ 8 := by have := hH.2.2.2.1; omega
  exact jQ (r := (0, m 3)) I ((c_C_playedTicks (E := E) hc hS hk).mono fun o τ h => ⟨h.1, by rw [h.2], by rw [h.2]; exact Nat.le_refl _⟩) ⟨Int.le_refl _, Int.le_refl _⟩ (fun τ2 hR2 => (c_M_playedTicks (E := E) hlo7 hR2.1.1 hR2.1.2 hk).mono (fun o t h => h.Ms hR2))
theorem j_isConsistent {E : qa_V} {σ : qa_S} {c : Nat} {Z : Nat → Nat} {B : Int} (hZ : qa_St E Z σ.1) (hz : qa_Sb E) (hlo : E.1 ≤ c) (hI : qI c Z B σ) (hB9 : B ≤ 800000000) : qa_T E qm_C_isConsistent 0 0 [.ref c] σ (jC E c Z (B + 13000) qm_M_isConsistent [] [] Value.int σ) := by
  obtain ⟨vi, vo, m, msn, mh, sp, ct, t, u, cs, n, f, sv, ps, ip, li, I⟩ := hI
  obtain ⟨⟨hc, hn0, hn1, hn4⟩, ⟨⟨rf, hS⟩, hk⟩, ⟨⟨rf2, hS2⟩, hk2⟩, hH, hX9, hR9, hO9, hv9⟩ := I.1
  have i3 := I.2.2.1
  obtain ⟨⟨ja1, ja2⟩, ⟨jb1, jb2⟩, jc1, jd1, ⟨je1, je2⟩, jg1, jg2, jg3⟩ := I.2.2.2
  have hlo7 : E.1 ≤ c + 277 := by omega
  have hsz : c + 277 ≤ σ.2 ∧ vi < σ.2 ∧ vo < σ.2 := by omega
  have h5 : 0 ≤ f 5 ∧ f 5 ≤ 8 := by have := hH.2.2.2.1; omega
  exact jQ0 (r := (0, 1)) I (c_C_isConsistent (E := E) hZ hz hlo I.1 hsz (by omega)) (fun o τ h => h) ⟨Int.le_refl _, Int.le_refl _⟩ (fun τ2 hR2 => (c_M_isConsistent (E := E) hlo7 hR2.1.1 hR2.1.2 hk).mono (fun o t h => h.Ms hR2))
theorem j_saveSnapshot {E : qa_V} {σ : qa_S} {c : Nat} {Z : Nat → Nat} {B : Int} (hZ : qa_St E Z σ.1) (hz : qa_Sb E) (hlo : E.1 ≤ c) (hI : qI c Z B σ) (hB9 : B ≤ 800000000) : qa_T E qm_C_saveSnapshot 0 0 [.ref c] σ (jC E c Z (B + 13000) qm_M_saveSnapshot [] [] Value.int σ) := by
  obtain ⟨vi, vo, m, msn, mh, sp, ct, t, u, cs, n, f, sv, ps, ip, li, I⟩ := hI
  obtain ⟨⟨hc, hn0, hn1, hn4⟩, ⟨⟨rf, hS⟩, hk⟩, ⟨⟨rf2, hS2⟩, hk2⟩, hH, hX9, hR9, hO9, hv9⟩ := I.1
  have i3 := I.2.2.1
  obtain ⟨⟨ja1, ja2⟩, ⟨jb1, jb2⟩, jc1, jd1, ⟨je1, je2⟩, jg1, jg2, jg3⟩ := I.2.2.2
  have hlo7 : E.1 ≤ c + 277 := by omega
  have hsz : c + 277 ≤ σ.2 ∧ vi < σ.2 ∧ vo < σ.2 := by omega
  have h5 : 0 ≤ f 5 ∧ f 5 ≤ 8 := by have := hH.2.2.2.1; omega
  refine jmk I (c_C_saveSnapshot (E := E) hZ hz hlo I.1 hsz (by omega)) fun o τ hq => ?_
  obtain ⟨h1, h2, g3⟩ := hq
  have hle := h2.1
  refine ⟨0, qa_i (m 0), h1, ⟨Int.le_refl _, Int.le_refl _⟩, h2, fun τ2 e2 f2 hR2 => (c_M_saveSnapshot (E := E) hlo7 hR2 hk h5).mono fun o' τ' hq => ?_⟩
  obtain ⟨rfl, he, hf, s1, w1, w2⟩ := hq
  exact jfin (C := Value.int) (g3.up (by omega)) ⟨by omega, by omega, by omega, i3.2.2.2.1, i3.2.2.2.2⟩ e2 f2 he (fun q hq => hf q (by omega)) w1 ⟨⟨rfl, fun _ => w2⟩, ⟨jb1, jb2⟩, jc1, jd1, ⟨je1, je2⟩, jg1, jg2, jg3⟩ rfl (fun _ => rfl)
