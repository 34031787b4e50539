theorem sR_S.fr {h h' : qa_H} {a : Nat} {m : Int → Int} {rf : Int} (H : sR_S h a m rf) (hh : ∀ q, a ≤ q → q < a + 23 → h' q = h q) : sR_S h' a m rf := by
  obtain ⟨h1, h2, ⟨s, mw, c1, c2, c3, c4⟩, ⟨b, v, t1, t2, t3, t4⟩, hp⟩ := H
  refine ⟨(hh _ (by omega) (by omega)).trans h1, (hh _ (by omega) (by omega)).trans h2, ⟨s, mw, (hh _ (by omega) (by omega)).trans c1, (hh _ (by omega) (by omega)).trans c2, (hh _ (by omega) (by omega)).trans c3, c4⟩, ⟨b, v, (hh _ (by omega) (by omega)).trans t1, (hh _ (by omega) (by omega)).trans t2, (hh _ (by omega) (by omega)).trans t3, t4⟩, fun i i0 i1 => ?_⟩
  obtain ⟨p, l, u, d, q1, q2, q3, q4, q5, q6⟩ := hp i i0 i1
  have e : sm_pa a i = a + 8 + 3 * i.toNat := rfl
  exact ⟨p, l, u, d, (hh _ (by omega) (by omega)).trans q1, (hh _ (by omega) (by omega)).trans q2, (hh _ (by omega) (by omega)).trans q3, q4, q5, q6⟩
theorem sm_ok.up {m : Int → Int} {B B' : Int} (h : sm_ok m B) (hb : B ≤ B') : sm_ok m B' := by
  obtain ⟨k0, k1, k2, k3, k4, k5, k6⟩ := h
  refine ⟨k0, k1, k2, by omega, k4, fun i i0 i1 => ?_, k6⟩
  have := k5 i i0 i1
  refine ⟨this.1, this.2.1, this.2.2.1, ⟨this.2.2.2.1.1, by have := this.2.2.2.1.2; omega⟩, ⟨this.2.2.2.2.1, by have := this.2.2.2.2.2; omega⟩⟩
def sH_a (b : Nat) (i : Int) : Nat := b + 2 + 23 * i.toNat
def sH_q (b : Nat) : Int → Option Nat := fun i => if 0 ≤ i ∧ i < 9 then some (sH_a b i) else none
theorem sH_q_at {b : Nat} {i : Int} (h : 0 ≤ i ∧ i < 9) : sH_q b i = some (sH_a b i) := if_pos h
def qa_HiF (b : Nat) (sp ct : Int) : qa_E := .inl (5, [.ref (b + 1), .int (qa_i sp), .int (qa_i ct)])
/-- the history of the class at b: the data of its nine scores -/
def sR_H (h : qa_H) (b : Nat) (ms : Int → Int → Int) (B sp ct : Int) : Prop :=
  h b = some (qa_HiF b sp ct) ∧ h (b + 1) = some (qa_ra 6 9 (sH_q b)) ∧ (0 ≤ sp ∧ sp < 9) ∧ (0 ≤ ct ∧ ct ≤ 8) ∧ ∀ i : Int, 0 ≤ i → i < 9 → ∃ rf : Int, sR_S h (sH_a b i) (ms i) rf ∧ sm_ok (ms i) B
theorem sR_H.fr {h h' : qa_H} {b : Nat} {ms : Int → Int → Int} {B sp ct : Int} (H : sR_H h b ms B sp ct) (hh : ∀ q, b ≤ q → q < b + 209 → h' q = h q) : sR_H h' b ms B sp ct := by
  obtain ⟨h1, h2, h3, h4, h5⟩ := H
  refine ⟨(hh _ (by omega) (by omega)).trans h1, (hh _ (by omega) (by omega)).trans h2, h3, h4, fun i i0 i1 => ?_⟩
  obtain ⟨rf, q1, q2⟩ := h5 i i0 i1
  have e : sH_a b i = b + 2 + 23 * i.toNat := rfl
  exact ⟨rf, q1.fr (fun q a0 a1 => hh q (by omega) (by omega)), q2⟩
theorem sR_H.up {h : qa_H} {b : Nat} {ms : Int → Int → Int} {B B' sp ct : Int} (H : sR_H h b ms B sp ct) (hb : B ≤ B') : sR_H h b ms B' sp ct := by
  obtain ⟨h1, h2, h3, h4, h5⟩ := H
  refine ⟨h1, h2, h3, h4, fun i i0 i1 => ?_⟩
  obtain ⟨rf, q1, q2⟩ := h5 i i0 i1
  exact ⟨rf, q1, q2.up hb⟩
def sH_up (ms : Int → Int → Int) (i : Int) (m : Int → Int) : Int → Int → Int := fun j => if j = i then m else ms j
theorem c_H_prepare {E : qa_V} {σ : qa_S} {b : Nat} {ms : Int → Int → Int} {B sp ct : Int} {a : Nat} {m : Int → Int} {rf : Int} (hlo : E.1 ≤ b) (hH : sR_H σ.1 b ms B sp ct) (hlo2 : E.1 ≤ a) (hd : a + 23 ≤ b) (hS : sR_S σ.1 a m rf) (hk : sm_ok m B) : qa_T E qm_H_prepare 0 0 [.ref b, .ref a] σ (fun o9 τ => o9 = .inl none ∧ τ.2 = σ.2 ∧ (∀ q, (q < b ∨ b + 209 ≤ q) → τ.1 q = σ.1 q) ∧ sR_H τ.1 b (sH_up ms sp m) B sp ct) := by
  refine qa_enterQ (by decide) rfl qm_H_prepare_ok rfl rfl (fun Q9 hQ => ?_)
  have hH9 := hH
  have e0 : σ.2 = σ.2 := rfl
  obtain ⟨h1, h2, h3, h4, h5⟩ := hH
  obtain ⟨rf5, q1, q2⟩ := h5 sp h3.1 h3.2
  have e : sH_a b sp = b + 2 + 23 * sp.toNat := rfl
  refine qa_aload_n (pc' := 1) ⟨rfl, rfl⟩ rfl ?_
  refine qa_getf (pc' := 4) ⟨rfl, rfl⟩ qg_6_13 h1 rfl ?_
  refine qa_aload_n (pc' := 5) ⟨rfl, rfl⟩ rfl ?_
  refine qa_getf (pc' := 8) ⟨rfl, rfl⟩ qg_6_18 h1 rfl ?_
  refine qa_aaload (pc' := 9) ⟨rfl, rfl⟩ h2 rfl rfl (by omega) (sH_q_at (by omega)) ?_
  refine qa_aload_n (pc' := 10) ⟨rfl, rfl⟩ rfl ?_
  refine qa_callV rfl qf_S_become ql_6_22 (c_S_become (E := E) (by omega) hlo2 (by omega) q1 hS q2 hk) q1.1 rfl rfl rfl (qa_lt9 rfl) (qa_le9 rfl) (qa_le9 rfl) (qa_le9 rfl) (fun o9 τ9 hq9 => ?_)
  obtain ⟨rfl, e1, f1, w1⟩ := hq9
  refine qa_nx (pc' := 13) (st' := []) rfl rfl rfl rfl ?_
  refine qa_return rfl rfl (hQ _ _ ⟨rfl, e1, fun q hq => f1 q (by omega), (f1 _ (by omega)).trans h1, (f1 _ (by omega)).trans h2, h3, h4, fun i i0 i1 => ?_⟩)
  have ei : sH_a b i = b + 2 + 23 * i.toNat := rfl
  unfold sH_up
  by_cases hi : i = sp
  · rw [if_pos hi, hi]; exact ⟨_, w1, hk⟩
  · rw [if_neg hi]
    obtain ⟨rf6, r1, r2⟩ := h5 i i0 i1
    exact ⟨rf6, r1.fr (fun q a0 a1 => f1 q (by omega)), r2⟩
theorem c_H_rollBack {E : qa_V} {σ : qa_S} {b : Nat} {ms : Int → Int → Int} {B sp ct : Int} {a : Nat} {m : Int → Int} {rf : Int} (hlo : E.1 ≤ b) (hH : sR_H σ.1 b ms B sp ct) (hlo2 : E.1 ≤ a) (hd : a + 23 ≤ b) (hS : sR_S σ.1 a m rf) (hk : sm_ok m B) : qa_T E qm_H_rollBack 0 0 [.ref b, .ref a] σ (fun o9 τ => o9 = .inl none ∧ τ.2 = σ.2 ∧ (∀ q, (q < a ∨ a + 23 ≤ q) → τ.1 q = σ.1 q) ∧ sR_S τ.1 a (ms sp) rf) := by
  refine qa_enterQ (by decide) rfl qm_H_rollBack_ok rfl rfl (fun Q9 hQ => ?_)
  have hH9 := hH
  have e0 : σ.2 = σ.2 := rfl
  obtain ⟨h1, h2, h3, h4, h5⟩ := hH
  obtain ⟨rf5, q1, q2⟩ := h5 sp h3.1 h3.2
  have e : sH_a b sp = b + 2 + 23 * sp.toNat := rfl
  refine qa_aload_n (pc' := 1) ⟨rfl, rfl⟩ rfl ?_
  refine qa_aload_n (pc' := 2) ⟨rfl, rfl⟩ rfl ?_
  refine qa_getf (pc' := 5) ⟨rfl, rfl⟩ qg_6_13 h1 rfl ?_
  refine qa_aload_n (pc' := 6) ⟨rfl, rfl⟩ rfl ?_
  refine qa_getf (pc' := 9) ⟨rfl, rfl⟩ qg_6_18 h1 rfl ?_
  refine qa_aaload (pc' := 10) ⟨rfl, rfl⟩ h2 rfl rfl (by omega) (sH_q_at (by omega)) ?_
  refine qa_callV rfl qf_S_become ql_6_22 (c_S_become (E := E) hlo2 (by omega) (by omega) hS q1 hk q2) hS.1 rfl rfl rfl (qa_lt9 rfl) (qa_le9 rfl) (qa_le9 rfl) (qa_le9 rfl) (fun o9 τ9 hq9 => ?_)
  obtain ⟨rfl, e1, f1, w1⟩ := hq9
  refine qa_nx (pc' := 13) (st' := []) rfl rfl rfl rfl ?_
  refine qa_return rfl rfl (hQ _ _ ⟨rfl, e1, f1, w1⟩)
theorem c_H_commit {E : qa_V} {σ : qa_S} {b : Nat} {ms : Int → Int → Int} {B sp ct : Int} (hlo : E.1 ≤ b) (hH : sR_H σ.1 b ms B sp ct) : qa_T E qm_H_commit 0 0 [.ref b] σ (fun o9 τ => o9 = .inl none ∧ τ.2 = σ.2 ∧ (∀ q, q ≠ b → τ.1 q = σ.1 q) ∧ sR_H τ.1 b ms B ((sp + 1) % 9) (if ct < 8 then ct + 1 else 8)) := by
  refine qa_enterQ (by decide) rfl qm_H_commit_ok rfl rfl (fun Q9 hQ => ?_)
  have hH9 := hH
  have e0 : σ.2 = σ.2 := rfl
  obtain ⟨h1, h2, h3, h4, h5⟩ := hH
  refine qa_aload_n (pc' := 1) ⟨rfl, rfl⟩ rfl ?_
  refine qa_aload_n (pc' := 2) ⟨rfl, rfl⟩ rfl ?_
  refine qa_getf (pc' := 5) ⟨rfl, rfl⟩ qg_6_18 h1 rfl ?_
  refine qa_iconst (pc' := 6) ⟨rfl, rfl⟩ ?_
  refine qa_iadd (pc' := 7) ⟨rfl, rfl⟩ rfl ?_
  refine qa_bipush (z := 9) (pc' := 9) ⟨rfl, rfl⟩ rfl ?_
  refine qa_irem (z := (sp + 1) % 9) (pc' := 10) ⟨rfl, rfl⟩ (by omega) (by omega) (by omega) (by omega) (by omega) ?_
  refine qa_putf (fs' := [_, _, _]) (pc' := 13) ⟨rfl, rfl⟩ qg_6_18 qw_5 h1 (by omega) rfl (fun r hr => by cases hr; exact ⟨rfl, Or.inl rfl⟩) rfl rfl ?_
  refine qa_gz (fun τ1 e1 w1 f1 => ?_)
  replace e0 := e1.trans e0
  refine qa_aload_n (pc' := 14) ⟨rfl, rfl⟩ rfl ?_
  refine qa_aload_n (pc' := 15) ⟨rfl, rfl⟩ rfl ?_
  refine qa_getf (pc' := 18) ⟨rfl, rfl⟩ qg_6_26 (by assumption) rfl ?_
  refine qa_iconst (pc' := 19) ⟨rfl, rfl⟩ ?_
  refine qa_iadd (pc' := 20) ⟨rfl, rfl⟩ rfl ?_
  refine qa_bipush (z := 8) (pc' := 22) ⟨rfl, rfl⟩ rfl ?_
  refine qa_callS rfl qf_MA_min rfl ql_6_29 (c_MA_min (by omega) (by omega)) rfl rfl (qa_lt9 rfl) (qa_le9 rfl) (qa_le9 rfl) (qa_le9 rfl) (fun o9 τ9 hq9 => ?_)
  obtain ⟨rfl, hq9⟩ := hq9
  replace hq9 := hq9.symm; subst hq9
  refine qa_nx (pc' := 25) (st' := [_, _]) rfl rfl rfl rfl ?_
  have hv : (if ct + 1 ≤ 8 then ct + 1 else 8) = (if ct < 8 then ct + 1 else 8) := by split <;> split <;> omega
  rw [hv]
  refine qa_putf (fs' := [_, _, _]) (pc' := 28) ⟨rfl, rfl⟩ qg_6_26 qw_5 (by assumption) (by omega) rfl (fun r hr => by cases hr; exact ⟨rfl, Or.inl rfl⟩) rfl rfl ?_
  refine qa_gz (fun τ2 e2 w2 f2 => ?_)
  replace e0 := e2.trans e0
  refine qa_return rfl rfl (hQ _ _ ⟨rfl, e2.trans e1, fun q hq => (f2 q hq).trans (f1 q hq), w2, (f2 _ (by omega)).trans ((f1 _ (by omega)).trans h2), by omega, by split <;> omega, fun i i0 i1 => ?_⟩)
  obtain ⟨rf6, r1, r2⟩ := h5 i i0 i1
  have ei : sH_a b i = b + 2 + 23 * i.toNat := rfl
  exact ⟨rf6, r1.fr (fun q a0 a1 => (f2 q (by omega)).trans (f1 q (by omega))), r2⟩
theorem c_H_stepBack {E : qa_V} {σ : qa_S} {b : Nat} {ms : Int → Int → Int} {B sp ct : Int} {a : Nat} {m : Int → Int} {rf : Int} (hlo : E.1 ≤ b) (hH : sR_H σ.1 b ms B sp ct) (hlo2 : E.1 ≤ a) (hd : a + 23 ≤ b) (hS : sR_S σ.1 a m rf) (hk : sm_ok m B) : qa_T E qm_H_stepBack 0 0 [.ref b, .ref a] σ (fun o9 τ => o9 = .inl none ∧ τ.2 = σ.2 ∧ (∀ q, q ≠ b → (q < a ∨ a + 23 ≤ q) → τ.1 q = σ.1 q) ∧ sR_H τ.1 b ms B ((sp + 8) % 9) (if 0 < ct then ct - 1 else 0) ∧ sR_S τ.1 a (ms ((sp + 8) % 9)) rf) := by
  refine qa_enterQ (by decide) rfl qm_H_stepBack_ok rfl rfl (fun Q9 hQ => ?_)
  have hH9 := hH
  have e0 : σ.2 = σ.2 := rfl
  obtain ⟨h1, h2, h3, h4, h5⟩ := hH
  refine qa_aload_n (pc' := 1) ⟨rfl, rfl⟩ rfl ?_
  refine qa_aload_n (pc' := 2) ⟨rfl, rfl⟩ rfl ?_
  refine qa_getf (pc' := 5) ⟨rfl, rfl⟩ qg_6_18 h1 rfl ?_
  refine qa_bipush (z := 8) (pc' := 7) ⟨rfl, rfl⟩ rfl ?_
  refine qa_iadd (pc' := 8) ⟨rfl, rfl⟩ rfl ?_
  refine qa_bipush (z := 9) (pc' := 10) ⟨rfl, rfl⟩ rfl ?_
  refine qa_irem (z := (sp + 8) % 9) (pc' := 11) ⟨rfl, rfl⟩ (by omega) (by omega) (by omega) (by omega) (by omega) ?_
  refine qa_putf (fs' := [_, _, _]) (pc' := 14) ⟨rfl, rfl⟩ qg_6_18 qw_5 h1 (by omega) rfl (fun r hr => by cases hr; exact ⟨rfl, Or.inl rfl⟩) rfl rfl ?_
  refine qa_gz (fun τ1 e1 w1 f1 => ?_)
  replace e0 := e1.trans e0
  refine qa_aload_n (pc' := 15) ⟨rfl, rfl⟩ rfl ?_
  refine qa_aload_n (pc' := 16) ⟨rfl, rfl⟩ rfl ?_
  refine qa_getf (pc' := 19) ⟨rfl, rfl⟩ qg_6_26 (by assumption) rfl ?_
  refine qa_iconst (pc' := 20) ⟨rfl, rfl⟩ ?_
  refine qa_isub (pc' := 21) ⟨rfl, rfl⟩ rfl ?_
  refine qa_iconst (pc' := 22) ⟨rfl, rfl⟩ ?_
  refine qa_callS rfl qf_MA_max rfl ql_6_35 (c_MA_max (by omega) (by omega)) rfl rfl (qa_lt9 rfl) (qa_le9 rfl) (qa_le9 rfl) (qa_le9 rfl) (fun o9 τ9 hq9 => ?_)
  obtain ⟨rfl, hq9⟩ := hq9
  replace hq9 := hq9.symm; subst hq9
  refine qa_nx (pc' := 25) (st' := [_, _]) rfl rfl rfl rfl ?_
  have hv : (if 0 ≤ ct - 1 then ct - 1 else 0) = (if 0 < ct then ct - 1 else 0) := by split <;> split <;> omega
  rw [hv]
  refine qa_putf (fs' := [_, _, _]) (pc' := 28) ⟨rfl, rfl⟩ qg_6_26 qw_5 (by assumption) (by omega) rfl (fun r hr => by cases hr; exact ⟨rfl, Or.inl rfl⟩) rfl rfl ?_
  refine qa_gz (fun τ2 e2 w2 f2 => ?_)
  replace e0 := e2.trans e0
  obtain ⟨rf5, q1, q2⟩ := h5 ((sp + 8) % 9) (by omega) (by omega)
  have e : sH_a b ((sp + 8) % 9) = b + 2 + 23 * ((sp + 8) % 9).toNat := rfl
  have h2 := (f2 _ (by omega)).trans ((f1 _ (by omega)).trans h2)
  have hS := hS.fr (fun q a0 a1 => (f2 q (by omega)).trans (f1 q (by omega)))
  have q1 := q1.fr (fun q a0 a1 => (f2 q (by omega)).trans (f1 q (by omega)))
  refine qa_aload_n (pc' := 29) ⟨rfl, rfl⟩ rfl ?_
  refine qa_aload_n (pc' := 30) ⟨rfl, rfl⟩ rfl ?_
  refine qa_getf (pc' := 33) ⟨rfl, rfl⟩ qg_6_13 (by assumption) rfl ?_
  refine qa_aload_n (pc' := 34) ⟨rfl, rfl⟩ rfl ?_
  refine qa_getf (pc' := 37) ⟨rfl, rfl⟩ qg_6_18 (by assumption) rfl ?_
  refine qa_aaload (pc' := 38) ⟨rfl, rfl⟩ h2 rfl rfl (by omega) (sH_q_at (by omega)) ?_
  refine qa_callV rfl qf_S_become ql_6_22 (c_S_become (E := E) hlo2 (by omega) (by omega) hS q1 hk q2) hS.1 rfl rfl rfl (qa_lt9 rfl) (qa_le9 rfl) (qa_le9 rfl) (qa_le9 rfl) (fun o9 τ9 hq9 => ?_)
  obtain ⟨rfl, e3, f3, w3⟩ := hq9
  refine qa_nx (pc' := 41) (st' := []) rfl rfl rfl rfl ?_
  refine qa_return rfl rfl (hQ _ _ ⟨rfl, e3.trans (e2.trans e1), fun q hq hq2 => (f3 q hq2).trans ((f2 q hq).trans (f1 q hq)), ⟨(f3 _ (by omega)).trans w2, (f3 _ (by omega)).trans h2, by omega, by split <;> omega, fun i i0 i1 => ?_⟩, w3⟩)
  obtain ⟨rf6, r1, r2⟩ := h5 i i0 i1
  have ei : sH_a b i = b + 2 + 23 * i.toNat := rfl
  exact ⟨rf6, r1.fr (fun q a0 a1 => (f3 q (by omega)).trans ((f2 q (by omega)).trans (f1 q (by omega)))), r2⟩
theorem c_H_forget {E : qa_V} {σ : qa_S} {b : Nat} {ms : Int → Int → Int} {B sp ct : Int} (hlo : E.1 ≤ b) (hH : sR_H σ.1 b ms B sp ct) : qa_T E qm_H_forget 0 0 [.ref b] σ (fun o9 τ => o9 = .inl none ∧ τ.2 = σ.2 ∧ (∀ q, q ≠ b → τ.1 q = σ.1 q) ∧ sR_H τ.1 b ms B sp 0) := by
  refine qa_enterQ (by decide) rfl qm_H_forget_ok rfl rfl (fun Q9 hQ => ?_)
  have hH9 := hH
  have e0 : σ.2 = σ.2 := rfl
  obtain ⟨h1, h2, h3, h4, h5⟩ := hH
  refine qa_aload_n (pc' := 1) ⟨rfl, rfl⟩ rfl ?_
  refine qa_iconst (pc' := 2) ⟨rfl, rfl⟩ ?_
  refine qa_putf (fs' := [_, _, _]) (pc' := 5) ⟨rfl, rfl⟩ qg_6_26 qw_5 h1 (by omega) rfl (fun r hr => by cases hr; exact ⟨rfl, Or.inl rfl⟩) rfl rfl ?_
  refine qa_gz (fun τ1 e1 w1 f1 => ?_)
  replace e0 := e1.trans e0
  refine qa_return rfl rfl (hQ _ _ ⟨rfl, e1, f1, w1, (f1 _ (by omega)).trans h2, h3, by omega, fun i i0 i1 => ?_⟩)
  obtain ⟨rf6, r1, r2⟩ := h5 i i0 i1
  have ei : sH_a b i = b + 2 + 23 * i.toNat := rfl
  exact ⟨rf6, r1.fr (fun q a0 a1 => f1 q (by omega)), r2⟩
set_option maxRecDepth 8192 in
theorem c_H_init {E : qa_V} {σ : qa_S} {b : Nat} (hlo : E.1 ≤ b) (hn : σ.2 = b + 1) (hs : σ.1 b = some (.inl (5, [.null, .int (qa_i 0), .int (qa_i 0)]))) : qa_T E qm_H_init 208 1629 [.ref b] σ (fun o9 τ => o9 = .inl none ∧ τ.2 = b + 209 ∧ (∀ q, (q < b ∨ b + 209 ≤ q) → τ.1 q = σ.1 q) ∧ sR_H τ.1 b (fun _ => sm_0) 0 0 0) := by
  refine qa_enterQ (by decide) rfl qm_H_init_ok rfl rfl (fun Q9 hQ => ?_)
  have e0 := hn
  have fr : ∀ q, (q < b ∨ b + 209 ≤ q) → σ.1 q = σ.1 q := fun _ _ => rfl
  refine qa_aload_n (pc' := 1) ⟨rfl, rfl⟩ rfl ?_
  refine qa_objI (pc' := 4) ⟨rfl, rfl⟩ qoi_6_3 qoi_i qoi_c (qa_le9 rfl) ?_
  refine qa_aload_n (pc' := 5) ⟨rfl, rfl⟩ rfl ?_
  refine qa_bipush (z := 9) (pc' := 7) ⟨rfl, rfl⟩ rfl ?_
  refine qa_anewr (pc' := 10) (t := 6) (N := 9) ⟨rfl, rfl⟩ rfl qn_6_11 qa_ao_Score (by omega) ?_
  refine qa_gn (fun τ1 e1 w1 f1 => ?_)
  replace w1 : _ = some (qa_ra 6 9 (fun _ => none)) := w1
  rw [e0] at e1 w1 f1 ⊢
  replace hs := (f1 _ (by omega)).trans hs
  replace fr := fun q hq => (f1 q (by have := hq; omega)).trans (fr q hq)
  replace e0 := e1
  refine qa_putf (fs' := [_, _, _]) (pc' := 13) ⟨rfl, rfl⟩ qg_6_13 qw_5 (by assumption) (by omega) rfl (fun r hr => by cases hr; exact ⟨rfl, Or.inr ⟨rfl, rfl, rfl⟩⟩) rfl rfl ?_
  refine qa_gz (fun τ2 e2 w2 f2 => ?_)
  replace w1 := (f2 _ (by omega)).trans w1
  replace fr := fun q hq => (f2 q (by have := hq; omega)).trans (fr q hq)
  replace e0 := e2.trans e0
  refine qa_iconst (pc' := 14) ⟨rfl, rfl⟩ ?_
  refine qa_istore_n (L' := [(0, _), (1, _)]) (pc' := 15) ⟨rfl, rfl⟩ rfl rfl ?_
  have lp : ∀ (f : Nat) (τ : qa_S) (k : Nat) (fp : Int → Option Nat), (k : Int) + f = 9 ∧ τ.2 = b + 2 + 23 * k ∧ (∀ q, (q < b ∨ b + 209 ≤ q) → τ.1 q = σ.1 q) ∧ τ.1 b = some (qa_HiF b 0 0) ∧ τ.1 (b + 1) = some (qa_ra 6 9 fp) ∧ (∀ j : Int, 0 ≤ j → j < k → fp j = some (sH_a b j)) ∧ (∀ j : Int, j < 0 ∨ 9 ≤ j ∨ (k : Int) ≤ j → fp j = none) ∧ (∀ j : Int, 0 ≤ j → j < k → sR_S τ.1 (sH_a b j) sm_0 0) → qa_W E qm_H_init Q9 (23 * f) (180 * f) 15 [(0, .ref b), (1, .int (qa_i k))] [] τ := by
    intro f
    induction f with
    | zero =>
      intro τ k fp ⟨hkf, he, hfr, hs, hpa, hf1, hf2, hdone⟩
      refine qa_iload_n (pc' := 16) ⟨rfl, rfl⟩ rfl ?_
      refine qa_bipush (z := 9) (pc' := 18) ⟨rfl, rfl⟩ rfl ?_
      refine qa_icmp_ge (pc' := 21) (tgt := 40) ⟨rfl, rfl⟩ rfl (by omega) (by omega) (fun hc9 => ?_) (fun hc9 => ?_)
      · refine qa_return rfl rfl (hQ _ _ ⟨rfl, by omega, hfr, hs, ?_, by omega, by omega, fun j j0 j1 => ⟨_, hdone j j0 (by omega), sm_0_ok⟩⟩)
        rw [show fp = sH_q b from funext fun j => by unfold sH_q; by_cases h : 0 ≤ j ∧ j < 9; (rw [if_pos h]; exact hf1 j h.1 (by omega)); (rw [if_neg h]; exact hf2 j (by omega))] at hpa; exact hpa
      · exact absurd hc9 (by omega)
    | succ f ih =>
      intro τ k fp ⟨hkf, he, hfr, hs, hpa, hf1, hf2, hdone⟩
      have e0 := he
      have fr := hfr
      refine qa_iload_n (pc' := 16) ⟨rfl, rfl⟩ rfl ?_
      refine qa_bipush (z := 9) (pc' := 18) ⟨rfl, rfl⟩ rfl ?_
      refine qa_icmp_ge (pc' := 21) (tgt := 40) ⟨rfl, rfl⟩ rfl (by omega) (by omega) (fun hc9 => ?_) (fun hc9 => ?_)
      · exact absurd hc9 (by omega)
      · refine qa_aload_n (pc' := 22) ⟨rfl, rfl⟩ rfl ?_
        refine qa_getf (pc' := 25) ⟨rfl, rfl⟩ qg_6_13 (by assumption) rfl ?_
        refine qa_iload_n (pc' := 26) ⟨rfl, rfl⟩ rfl ?_
        refine qa_new (pc' := 29) (ci := 1) (n := 7) (fs := [.null, .null, .null, .int (qa_i 0), .int (qa_i 0), .int (qa_i 0), .int (qa_i 0)]) ⟨rfl, rfl⟩ qw_1 (fun r hr => by cases hr; exact ⟨rfl, rfl, rfl, by decide +kernel⟩) qn_6_11 qini_1 ?_
        refine qa_gn (fun τ61 e61 w61 f61 => ?_)
        replace w61 : _ = some (Sum.inl (1, [.null, .null, .null, .int (qa_i 0), .int (qa_i 0), .int (qa_i 0), .int (qa_i 0)]) : qa_E) := w61
        rw [e0] at e61 w61 f61 ⊢
        replace hs := (f61 _ (by omega)).trans hs
        replace hpa := (f61 _ (by omega)).trans hpa
        replace fr := fun q hq => (f61 q (by have := hq; omega)).trans (fr q hq)
        replace e0 := e61
        refine qa_dup (pc' := 30) ⟨rfl, rfl⟩ rfl ?_
        have f61b := f61
        refine qa_callI rfl qf_S_init ql_6_17 (c_S_init (E := E) (by omega) e0 w61) rfl rfl (qa_lt9 rfl) (qa_le9 rfl) (qa_le9 rfl) (qa_le9 rfl) (fun o9 τ9 hq9 => ?_)
        obtain ⟨rfl, e2, f2, w2⟩ := hq9
        refine qa_nx (pc' := 33) (st' := [_, _, _]) rfl rfl rfl rfl ?_
        replace hs := (f2 _ (by omega)).trans hs
        replace hpa := (f2 _ (by omega)).trans hpa
        replace fr := fun q hq => (f2 q (by have := hq; omega)).trans (fr q hq)
        refine qa_aastore (pc' := 34) ⟨rfl, rfl⟩ hpa (by omega) (by omega) w2.1 rfl rfl qin_1 ?_
        refine qa_gz (fun τ5 e5 w5 f5 => ?_)
        refine qa_iinc (L' := [(0, _), (1, _)]) (z := ((k + 1 : Nat) : Int)) (pc' := 37) ⟨rfl, rfl⟩ rfl (by omega) rfl rfl ?_
        refine qa_goto (pc' := 40) (tgt := 15) ⟨rfl, rfl⟩ rfl ?_
        have ek : sH_a b k = b + 2 + 23 * k := by unfold sH_a; omega
        refine qa_less (kc' := 23 * f) (ks' := 180 * f) (Nat.le_refl (23 * f)) (Nat.le_refl (180 * f)) ?_
        refine ih τ5 (k + 1) _ ⟨by omega, by omega, fun q hq => (f5 q (by omega)).trans (fr q hq), (f5 _ (by omega)).trans hs, w5, fun j j0 j1 => ?_, fun j j1 => ?_, fun j j0 j1 => ?_⟩
        · unfold qa_upq; by_cases hj : j = k
          · rw [if_pos hj, hj, ek]
          · rw [if_neg hj]; exact hf1 j j0 (by omega)
        · unfold qa_upq; rw [if_neg (by omega)]; exact hf2 j (by omega)
        · have ej : sH_a b j = b + 2 + 23 * j.toNat := rfl
          by_cases hj : j = k
          · subst hj
            rw [ek]
            exact w2.fr (fun q a0 a1 => f5 q (by omega))
          · exact (hdone j j0 (by omega)).fr (fun q q0 q1 => (f5 q (by omega)).trans ((f2 q (by omega)).trans (f61b q (by omega))))
  exact lp 9 τ2 0 _ ⟨by omega, by omega, fr, w2, w1, fun j j0 j1 => absurd j1 (by omega), fun j j1 => rfl, fun j j0 j1 => absurd j1 (by omega)⟩
