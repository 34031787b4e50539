theorem qa_cp_0 {f g : Int → Int} {n j : Int} (h : 0 ≤ j ∧ j < n) : qa_cp f g 0 0 n j = f j := by
  unfold qa_cp
  rw [if_pos (by omega), show 0 + (j - 0) = j by omega]
/-- the data at the beginning -/
def sm_0 : Int → Int := fun q => if q = 1 then 8 else if q = 2 then 1 else if q = 135 then 60 else 0
theorem sm_0_o {q : Int} (h : q ≠ 1 ∧ q ≠ 2 ∧ q ≠ 135) : sm_0 q = 0 := by unfold sm_0; rw [if_neg h.1, if_neg h.2.1, if_neg h.2.2]
theorem sm_0_ok : sm_ok sm_0 0 := by
  have z : sm_0 0 = 0 := rfl
  have n : ∀ i : Int, 0 ≤ i → sm_n sm_0 i = 0 := fun i h => sm_0_o (by omega)
  refine ⟨by omega, by decide, by decide, by decide, fun i i0 i1 => ⟨by rw [n i i0]; omega, fun j j0 j1 => absurd j1 (by rw [n i i0]; omega), fun j j0 j1 => absurd j1 (by rw [n i i0]; omega)⟩, fun i i0 i1 => absurd i1 (by omega), fun i i0 i1 => ⟨n i (by omega), sm_0_o (by omega), sm_0_o (by omega)⟩, ⟨rfl, fun j j0 j1 => ?_, fun i j i0 i1 i2 => absurd i2 (by show ¬ j < 1; omega)⟩, fun j j0 j1 => ?_⟩
  · have hj : j < 1 := j1
    rw [show j = 0 by omega]; decide
  · have hj : j < 1 := j1
    rw [show j = 0 by omega]; decide
theorem c_S_become {E : qa_V} {σ : qa_S} {a a2 : Nat} {m m2 : Int → Int} {rf rf2 B B2 : Int} (hlo : E.1 ≤ a) (hlo2 : E.1 ≤ a2) (hdj : a + 23 ≤ a2 ∨ a2 + 23 ≤ a) (hS : sR_S σ.1 a m rf) (hS2 : sR_S σ.1 a2 m2 rf2) (hk : sm_ok m B) (hk2 : sm_ok m2 B2) : qa_T E qm_S_become 0 0 [.ref a, .ref a2] σ (fun o9 τ => o9 = .inl none ∧ τ.2 = σ.2 ∧ (∀ q, (q < a ∨ a + 23 ≤ q) → τ.1 q = σ.1 q) ∧ sR_S τ.1 a m2 rf) := by
  refine qa_enterQ (by decide) rfl qm_S_become_ok rfl rfl (fun Q9 hQ => ?_)
  obtain ⟨hs0, hpa0, hcq0, htq0, hpp0⟩ := hS
  obtain ⟨hs20, hpa20, hcq20, htq20, hpp20⟩ := hS2
  refine qa_iconst (pc' := 1) ⟨rfl, rfl⟩ ?_
  refine qa_istore_n (L' := [(0, _), (1, _), (2, _)]) (pc' := 2) ⟨rfl, rfl⟩ rfl rfl ?_
  have lp : ∀ (f : Nat) (τ : qa_S) (k : Nat), (k : Int) + f = 5 ∧ τ.2 = σ.2 ∧ (∀ q, (q < a + 8 ∨ a + 23 ≤ q) → τ.1 q = σ.1 q) ∧ (∀ j : Int, 0 ≤ j → j < k → sR_P τ.1 (sm_pa a j) m2 j) ∧ (∀ j : Int, (k : Int) ≤ j → j < 5 → sR_P τ.1 (sm_pa a j) m j) → qa_W E qm_S_become Q9 0 0 2 [(0, .ref a), (1, .ref a2), (2, .int (qa_i k))] [] τ := by
    intro f
    induction f with
    | zero =>
      intro τ k ⟨hkf, he, hfr, hdone, htodo⟩
      have hs := (hfr a (by omega)).trans hs0
      have hpa := (hfr (a + 1) (by omega)).trans hpa0
      have hs2 := (hfr a2 (by omega)).trans hs20
      have hpa2 := (hfr (a2 + 1) (by omega)).trans hpa20
      refine qa_iload_n (pc' := 3) ⟨rfl, rfl⟩ rfl ?_
      refine qa_iconst (pc' := 4) ⟨rfl, rfl⟩ ?_
      refine qa_icmp_ge (pc' := 7) (tgt := 28) ⟨rfl, rfl⟩ rfl (by omega) (by omega) (fun hc1 => ?_) (fun hc1 => ?_)
      · have hk5 : k = 5 := by omega
        obtain ⟨src, mw, c1, c2, c3, c4⟩ := hcq0
        obtain ⟨src2, mw2, c12, c22, c32, c42⟩ := hcq20
        obtain ⟨bars, vals, t1, t2, t3, t4⟩ := htq0
        obtain ⟨bars2, vals2, t12, t22, t32, t42⟩ := htq20
        replace c1 := (hfr _ (by omega)).trans c1
        replace c2 := (hfr _ (by omega)).trans c2
        replace c3 := (hfr _ (by omega)).trans c3
        replace c12 := (hfr _ (by omega)).trans c12
        replace c22 := (hfr _ (by omega)).trans c22
        replace t1 := (hfr _ (by omega)).trans t1
        replace t2 := (hfr _ (by omega)).trans t2
        replace t3 := (hfr _ (by omega)).trans t3
        replace t12 := (hfr _ (by omega)).trans t12
        replace t22 := (hfr _ (by omega)).trans t22
        replace t32 := (hfr _ (by omega)).trans t32
        refine qa_aload_n (pc' := 29) ⟨rfl, rfl⟩ rfl ?_
        refine qa_getf (pc' := 32) ⟨rfl, rfl⟩ qg_2_20 (by assumption) rfl ?_
        refine qa_aload_n (pc' := 33) ⟨rfl, rfl⟩ rfl ?_
        refine qa_getf (pc' := 36) ⟨rfl, rfl⟩ qg_2_20 (by assumption) rfl ?_
        refine qa_callV rfl qf_Q_become ql_2_40 (c_Q_become (E := E) (by omega) (by omega) (by omega) c1 c2 c12 c22) c1 rfl rfl rfl (qa_lt9 rfl) (qa_le9 rfl) (qa_le9 rfl) (qa_le9 rfl) (fun o9 τ9 hq9 => ?_)
        obtain ⟨rfl, e1, w1, w2, f1⟩ := hq9
        refine qa_nx (pc' := 39) (st' := []) rfl rfl rfl rfl ?_
        replace hs := (f1 _ (by omega)).trans hs
        replace hs2 := (f1 _ (by omega)).trans hs2
        replace c3 := (f1 _ (by omega)).trans c3
        replace t1 := (f1 _ (by omega)).trans t1
        replace t2 := (f1 _ (by omega)).trans t2
        replace t3 := (f1 _ (by omega)).trans t3
        replace t12 := (f1 _ (by omega)).trans t12
        replace t22 := (f1 _ (by omega)).trans t22
        replace t32 := (f1 _ (by omega)).trans t32
        refine qa_aload_n (pc' := 40) ⟨rfl, rfl⟩ rfl ?_
        refine qa_getf (pc' := 43) ⟨rfl, rfl⟩ qg_2_27 (by assumption) rfl ?_
        refine qa_aload_n (pc' := 44) ⟨rfl, rfl⟩ rfl ?_
        refine qa_getf (pc' := 47) ⟨rfl, rfl⟩ qg_2_27 (by assumption) rfl ?_
        refine qa_callV rfl qf_T_become ql_2_43 (c_T_become (E := E) (by omega) (by omega) (by omega) t1 t2 t3 t12 t22 t32) t1 rfl rfl rfl (qa_lt9 rfl) (qa_le9 rfl) (qa_le9 rfl) (qa_le9 rfl) (fun o9 τ9 hq9 => ?_)
        obtain ⟨rfl, e2, u1, u2, u3, f2⟩ := hq9
        refine qa_nx (pc' := 50) (st' := []) rfl rfl rfl rfl ?_
        replace hs := (f2 _ (by omega)).trans hs
        replace hs2 := (f2 _ (by omega)).trans hs2
        replace c3 := (f2 _ (by omega)).trans c3
        replace w1 := (f2 _ (by omega)).trans w1
        replace w2 := (f2 _ (by omega)).trans w2
        have e0 := (e2.trans e1).trans he
        refine qa_aload_n (pc' := 51) ⟨rfl, rfl⟩ rfl ?_
        refine qa_aload_n (pc' := 52) ⟨rfl, rfl⟩ rfl ?_
        refine qa_getf (pc' := 55) ⟨rfl, rfl⟩ qg_2_46 (by assumption) rfl ?_
        refine qa_putf (fs' := [_, _, _, _, _, _, _]) (pc' := 58) ⟨rfl, rfl⟩ qg_2_46 qw_1 (by assumption) (by omega) rfl (fun r hr => by cases hr; exact ⟨rfl, Or.inl rfl⟩) rfl rfl ?_
        refine qa_gz (fun τ61 e61 w61 f61 => ?_)
        replace hs2 := (f61 _ (by omega)).trans hs2
        replace e0 := e61.trans e0
        refine qa_aload_n (pc' := 59) ⟨rfl, rfl⟩ rfl ?_
        refine qa_aload_n (pc' := 60) ⟨rfl, rfl⟩ rfl ?_
        refine qa_getf (pc' := 63) ⟨rfl, rfl⟩ qg_2_31 (by assumption) rfl ?_
        refine qa_putf (fs' := [_, _, _, _, _, _, _]) (pc' := 66) ⟨rfl, rfl⟩ qg_2_31 qw_1 (by assumption) (by omega) rfl (fun r hr => by cases hr; exact ⟨rfl, Or.inl rfl⟩) rfl rfl ?_
        refine qa_gz (fun τ62 e62 w62 f62 => ?_)
        replace hs2 := (f62 _ (by omega)).trans hs2
        replace e0 := e62.trans e0
        refine qa_aload_n (pc' := 67) ⟨rfl, rfl⟩ rfl ?_
        refine qa_aload_n (pc' := 68) ⟨rfl, rfl⟩ rfl ?_
        refine qa_getf (pc' := 71) ⟨rfl, rfl⟩ qg_2_49 (by assumption) rfl ?_
        refine qa_putf (fs' := [_, _, _, _, _, _, _]) (pc' := 74) ⟨rfl, rfl⟩ qg_2_49 qw_1 (by assumption) (by omega) rfl (fun r hr => by cases hr; exact ⟨rfl, Or.inl rfl⟩) rfl rfl ?_
        refine qa_gz (fun τ63 e63 w63 f63 => ?_)
        replace hs2 := (f63 _ (by omega)).trans hs2
        replace e0 := e63.trans e0
        have ff : ∀ q, q ≠ a → τ63.1 q = τ9.1 q := fun q hq => (f63 q hq).trans ((f62 q hq).trans (f61 q hq))
        refine qa_return rfl rfl (hQ _ _ ⟨rfl, e0, fun q hq => (ff q (by omega)).trans ((f2 q (by omega)).trans ((f1 q (by omega)).trans (hfr q (by omega)))), w63, (ff _ (by omega)).trans ((f2 _ (by omega)).trans ((f1 _ (by omega)).trans hpa)), ⟨_, mw, (ff _ (by omega)).trans w1, (ff _ (by omega)).trans w2, (ff _ (by omega)).trans c3, fun j j0 j1 => ?_⟩, ⟨_, _, (ff _ (by omega)).trans u1, (ff _ (by omega)).trans u2, (ff _ (by omega)).trans u3, fun j j0 j1 => ?_⟩, fun j j0 j1 => ?_⟩)
        · rw [qa_cp_0 (by omega)]; exact c42 j j0 j1
        · have := hk2.2.2.1; rw [qa_cp_0 (by omega), qa_cp_0 (by omega)]; exact t42 j j0 j1
        · have ej : sm_pa a j = a + 8 + 3 * j.toNat := rfl
          exact ((hdone j j0 (by omega))).to (fun q q0 q1 => (ff q (by omega)).trans ((f2 q (by omega)).trans (f1 q (by omega)))) (fun _ _ _ => rfl) (hk2.2.2.2.2.1 j j0 j1).1 (Or.inl Iff.rfl)
      · exact absurd hc1 (by omega)
    | succ f ih =>
      intro τ k ⟨hkf, he, hfr, hdone, htodo⟩
      have hs := (hfr a (by omega)).trans hs0
      have hpa := (hfr (a + 1) (by omega)).trans hpa0
      have hs2 := (hfr a2 (by omega)).trans hs20
      have hpa2 := (hfr (a2 + 1) (by omega)).trans hpa20
      obtain ⟨p, l, u, d, q1, q2, q3, q4, q5, q6⟩ := htodo k (by omega) (by omega)
      obtain ⟨p2, l2, u2, d2, r1, r2, r3, r4, r5, r6⟩ := hpp20 k (by omega) (by omega)
      have ea : sm_pa a k = a + 8 + 3 * k := by unfold sm_pa; omega
      have ea2 : sm_pa a2 k = a2 + 8 + 3 * k := by unfold sm_pa; omega
      replace r1 := (hfr _ (by omega)).trans r1
      replace r2 := (hfr _ (by omega)).trans r2
      replace r3 := (hfr _ (by omega)).trans r3
      refine qa_iload_n (pc' := 3) ⟨rfl, rfl⟩ rfl ?_
      refine qa_iconst (pc' := 4) ⟨rfl, rfl⟩ ?_
      refine qa_icmp_ge (pc' := 7) (tgt := 28) ⟨rfl, rfl⟩ rfl (by omega) (by omega) (fun hc1 => ?_) (fun hc1 => ?_)
      · exact absurd hc1 (by omega)
      · refine qa_aload_n (pc' := 8) ⟨rfl, rfl⟩ rfl ?_
        refine qa_getf (pc' := 11) ⟨rfl, rfl⟩ qg_2_11 (by assumption) rfl ?_
        refine qa_iload_n (pc' := 12) ⟨rfl, rfl⟩ rfl ?_
        refine qa_aaload (pc' := 13) ⟨rfl, rfl⟩ (by assumption) rfl rfl (by omega) (sm_q5_at (by omega)) ?_
        refine qa_aload_n (pc' := 14) ⟨rfl, rfl⟩ rfl ?_
        refine qa_getf (pc' := 17) ⟨rfl, rfl⟩ qg_2_11 (by assumption) rfl ?_
        refine qa_iload_n (pc' := 18) ⟨rfl, rfl⟩ rfl ?_
        refine qa_aaload (pc' := 19) ⟨rfl, rfl⟩ (by assumption) rfl rfl (by omega) (sm_q5_at (by omega)) ?_
        refine qa_callV rfl qf_P_become ql_2_36 (c_P_become (E := E) (by omega) (by omega) (by omega) q1 q2 q3 r1 r2 r3) q1 rfl rfl rfl (qa_lt9 rfl) (qa_le9 rfl) (qa_le9 rfl) (qa_le9 rfl) (fun o9 τ9 hq9 => ?_)
        obtain ⟨rfl, e1, w1, w2, w3, f1⟩ := hq9
        refine qa_nx (pc' := 22) (st' := []) rfl rfl rfl rfl ?_
        refine qa_iinc (L' := [(0, _), (1, _), (2, _)]) (z := ((k + 1 : Nat) : Int)) (pc' := 25) ⟨rfl, rfl⟩ rfl (by omega) rfl rfl ?_
        refine qa_goto (pc' := 28) (tgt := 2) ⟨rfl, rfl⟩ rfl ?_
        have hkk2 := (hk2.2.2.2.2.1 k (by omega) (by omega)).1
        refine ih τ9 (k + 1) ⟨by omega, e1.trans he, fun q hq => (f1 q (by omega)).trans (hfr q (by omega)), fun j j0 j1 => ?_, fun j j0 j1 => ?_⟩
        · have ej : sm_pa a j = a + 8 + 3 * j.toNat := rfl
          by_cases hj : j = k
          · rw [hj]; exact ⟨_, _, u2, d2, w1, w2, w3, r4, r5, fun x x0 x1 => by rw [qa_cp_0 (by omega), qa_cp_0 (by omega)]; exact r6 x x0 x1⟩
          · exact (hdone j j0 (by omega)).to (fun q q0 q1 => f1 q (by omega)) (fun _ _ _ => rfl) (hk2.2.2.2.2.1 j j0 (by omega)).1 (Or.inl Iff.rfl)
        · have ej : sm_pa a j = a + 8 + 3 * j.toNat := rfl
          exact (htodo j (by omega) j1).to (fun q q0 q1 => f1 q (by omega)) (fun _ _ _ => rfl) (hk.2.2.2.2.1 j (by omega) j1).1 (Or.inl Iff.rfl)
  exact lp 5 σ 0 ⟨by omega, rfl, fun _ _ => rfl, fun j j0 j1 => absurd j1 (by omega), fun j j0 j1 => hpp0 j (by omega) j1⟩
theorem c_S_init {E : qa_V} {σ : qa_S} {a : Nat} (hlo : E.1 ≤ a) (hn : σ.2 = a + 1) (hs : σ.1 a = some (.inl (1, [.null, .null, .null, .int (qa_i 0), .int (qa_i 0), .int (qa_i 0), .int (qa_i 0)]))) : qa_T E qm_S_init 22 173 [.ref a] σ (fun o9 τ => o9 = .inl none ∧ τ.2 = a + 23 ∧ (∀ q, (q < a ∨ a + 23 ≤ q) → τ.1 q = σ.1 q) ∧ sR_S τ.1 a sm_0 0) := by
  refine qa_enterQ (by decide) rfl qm_S_init_ok rfl rfl (fun Q9 hQ => ?_)
  have e0 := hn
  have fr : ∀ q, (q < a ∨ a + 23 ≤ q) → σ.1 q = σ.1 q := fun _ _ => rfl
  refine qa_aload_n (pc' := 1) ⟨rfl, rfl⟩ rfl ?_
  refine qa_objI (pc' := 4) ⟨rfl, rfl⟩ qoi_2_3 qoi_i qoi_c (qa_le9 rfl) ?_
  refine qa_aload_n (pc' := 5) ⟨rfl, rfl⟩ rfl ?_
  refine qa_iconst (pc' := 6) ⟨rfl, rfl⟩ ?_
  refine qa_anewr (pc' := 9) (t := 5) (N := 5) ⟨rfl, rfl⟩ rfl qn_2_9 qa_ao_Part (by omega) ?_
  refine qa_gn (fun τ1 e1 w1 f1 => ?_)
  replace w1 : _ = some (qa_ra 5 5 (fun _ => none)) := w1
  rw [e0] at e1 w1 f1 ⊢
  replace hs := (f1 _ (by omega)).trans hs
  replace fr := fun q hq => (f1 q (by have := hq; omega)).trans (fr q hq)
  replace e0 := e1
  refine qa_putf (fs' := [_, _, _, _, _, _, _]) (pc' := 12) ⟨rfl, rfl⟩ qg_2_11 qw_1 (by assumption) (by omega) rfl (fun r hr => by cases hr; exact ⟨rfl, Or.inr ⟨rfl, rfl, rfl⟩⟩) rfl rfl ?_
  refine qa_gz (fun τ2 e2 w2 f2 => ?_)
  replace w1 := (f2 _ (by omega)).trans w1
  replace fr := fun q hq => (f2 q (by have := hq; omega)).trans (fr q hq)
  replace e0 := e2.trans e0
  refine qa_aload_n (pc' := 13) ⟨rfl, rfl⟩ rfl ?_
  refine qa_new (pc' := 16) (ci := 3) (n := 3) (fs := [.null, .null, .int (qa_i 0)]) ⟨rfl, rfl⟩ qw_3 (fun r hr => by cases hr; exact ⟨rfl, rfl, rfl, by decide +kernel⟩) qn_2_17 qini_3 ?_
  refine qa_gn (fun τ3 e3 w3 f3 => ?_)
  replace w3 : _ = some (Sum.inl (3, [.null, .null, .int (qa_i 0)]) : qa_E) := w3
  rw [e0] at e3 w3 f3 ⊢
  replace w1 := (f3 _ (by omega)).trans w1
  replace w2 := (f3 _ (by omega)).trans w2
  replace fr := fun q hq => (f3 q (by have := hq; omega)).trans (fr q hq)
  replace e0 := e3
  refine qa_dup (pc' := 17) ⟨rfl, rfl⟩ rfl ?_
  refine qa_callI rfl qf_Q_init ql_2_19 (c_Q_init (E := E) (by omega) e0 w3) rfl rfl (qa_lt9 rfl) (qa_le9 rfl) (qa_le9 rfl) (qa_le9 rfl) (fun o9 τ9 hq9 => ?_)
  obtain ⟨rfl, e4, w4, ⟨s1, w5, w6⟩, w7, f4⟩ := hq9
  refine qa_nx (pc' := 20) (kc' := 18) (ks' := 155) (st' := [_, _]) rfl rfl rfl rfl ?_
  replace w1 := (f4 _ (by omega)).trans w1
  replace w2 := (f4 _ (by omega)).trans w2
  replace fr := fun q hq => (f4 q (by have := hq; omega)).trans (fr q hq)
  replace e0 := e4
  refine qa_putf (fs' := [_, _, _, _, _, _, _]) (pc' := 23) ⟨rfl, rfl⟩ qg_2_20 qw_1 (by assumption) (by omega) rfl (fun r hr => by cases hr; exact ⟨rfl, Or.inr ⟨rfl, rfl, rfl⟩⟩) rfl rfl ?_
  refine qa_gz (fun τ8 e8 w8 f8 => ?_)
  replace w1 := (f8 _ (by omega)).trans w1
  replace w4 := (f8 _ (by omega)).trans w4
  replace w5 := (f8 _ (by omega)).trans w5
  replace w7 := (f8 _ (by omega)).trans w7
  replace fr := fun q hq => (f8 q (by have := hq; omega)).trans (fr q hq)
  replace e0 := e8.trans e0
  refine qa_aload_n (pc' := 24) ⟨rfl, rfl⟩ rfl ?_
  refine qa_new (pc' := 27) (ci := 4) (n := 3) (fs := [.null, .null, .int (qa_i 0)]) ⟨rfl, rfl⟩ qw_4 (fun r hr => by cases hr; exact ⟨rfl, rfl, rfl, by decide +kernel⟩) qn_2_24 qini_4 ?_
  refine qa_gn (fun τ9 e9 w9 f9 => ?_)
  replace w9 : _ = some (Sum.inl (4, [.null, .null, .int (qa_i 0)]) : qa_E) := w9
  rw [e0] at e9 w9 f9 ⊢
  replace w1 := (f9 _ (by omega)).trans w1
  replace w4 := (f9 _ (by omega)).trans w4
  replace w5 := (f9 _ (by omega)).trans w5
  replace w7 := (f9 _ (by omega)).trans w7
  replace w8 := (f9 _ (by omega)).trans w8
  replace fr := fun q hq => (f9 q (by have := hq; omega)).trans (fr q hq)
  replace e0 := e9
  refine qa_dup (pc' := 28) ⟨rfl, rfl⟩ rfl ?_
  refine qa_callI rfl qf_T_init ql_2_26 (c_T_init (E := E) (by omega) e0 w9) rfl rfl (qa_lt9 rfl) (qa_le9 rfl) (qa_le9 rfl) (qa_le9 rfl) (fun o9 τ9 hq9 => ?_)
  obtain ⟨rfl, e10, w10, w11, w12, f10⟩ := hq9
  refine qa_nx (pc' := 31) (kc' := 15) (ks' := 140) (st' := [_, _]) rfl rfl rfl rfl ?_
  replace w1 := (f10 _ (by omega)).trans w1
  replace w4 := (f10 _ (by omega)).trans w4
  replace w5 := (f10 _ (by omega)).trans w5
  replace w7 := (f10 _ (by omega)).trans w7
  replace w8 := (f10 _ (by omega)).trans w8
  replace fr := fun q hq => (f10 q (by have := hq; omega)).trans (fr q hq)
  replace e0 := e10
  refine qa_putf (fs' := [_, _, _, _, _, _, _]) (pc' := 34) ⟨rfl, rfl⟩ qg_2_27 qw_1 (by assumption) (by omega) rfl (fun r hr => by cases hr; exact ⟨rfl, Or.inr ⟨rfl, rfl, rfl⟩⟩) rfl rfl ?_
  refine qa_gz (fun τ13 e13 w13 f13 => ?_)
  replace w1 := (f13 _ (by omega)).trans w1
  replace w4 := (f13 _ (by omega)).trans w4
  replace w5 := (f13 _ (by omega)).trans w5
  replace w7 := (f13 _ (by omega)).trans w7
  replace w10 := (f13 _ (by omega)).trans w10
  replace w11 := (f13 _ (by omega)).trans w11
  replace w12 := (f13 _ (by omega)).trans w12
  replace fr := fun q hq => (f13 q (by have := hq; omega)).trans (fr q hq)
  replace e0 := e13.trans e0
  refine qa_aload_n (pc' := 35) ⟨rfl, rfl⟩ rfl ?_
  refine qa_bipush (z := 8) (pc' := 37) ⟨rfl, rfl⟩ rfl ?_
  refine qa_putf (fs' := [_, _, _, _, _, _, _]) (pc' := 40) ⟨rfl, rfl⟩ qg_2_31 qw_1 (by assumption) (by omega) rfl (fun r hr => by cases hr; exact ⟨rfl, Or.inl rfl⟩) rfl rfl ?_
  refine qa_gz (fun τ14 e14 w14 f14 => ?_)
  replace w1 := (f14 _ (by omega)).trans w1
  replace w4 := (f14 _ (by omega)).trans w4
  replace w5 := (f14 _ (by omega)).trans w5
  replace w7 := (f14 _ (by omega)).trans w7
  replace w10 := (f14 _ (by omega)).trans w10
  replace w11 := (f14 _ (by omega)).trans w11
  replace w12 := (f14 _ (by omega)).trans w12
  replace fr := fun q hq => (f14 q (by have := hq; omega)).trans (fr q hq)
  replace e0 := e14.trans e0
  refine qa_iconst (pc' := 41) ⟨rfl, rfl⟩ ?_
  refine qa_istore_n (L' := [(0, _), (1, _)]) (pc' := 42) ⟨rfl, rfl⟩ rfl rfl ?_
  have lp : ∀ (f : Nat) (τ : qa_S) (k : Nat) (fp : Int → Option Nat), (k : Int) + f = 5 ∧ τ.2 = a + 8 + 3 * k ∧ (∀ q, (q < a ∨ a + 23 ≤ q) → τ.1 q = σ.1 q) ∧ τ.1 a = some (qa_ScF a 0 8 0 0) ∧ τ.1 (a + 2) = some (qa_CuF (a + 2) 0) ∧ τ.1 (a + 3) = some (qa_ia 5 s1) ∧ τ.1 (a + 4) = some (qa_ia 5 (fun _ => 0)) ∧ τ.1 (a + 5) = some (qa_TeF (a + 5) 1) ∧ τ.1 (a + 6) = some (qa_ia 6 (fun _ => 0)) ∧ τ.1 (a + 7) = some (qa_ia 6 (qa_up (fun _ => 0) 0 60)) ∧ τ.1 (a + 1) = some (qa_ra 5 5 fp) ∧ (∀ j : Int, 0 ≤ j → j < k → fp j = some (sm_pa a j)) ∧ (∀ j : Int, j < 0 ∨ 5 ≤ j ∨ (k : Int) ≤ j → fp j = none) ∧ (∀ j : Int, 0 ≤ j → j < k → sR_P τ.1 (sm_pa a j) sm_0 j) → qa_W E qm_S_init Q9 (3 * f) (28 * f) 42 [(0, .ref a), (1, .int (qa_i k))] [] τ := by
    intro f
    induction f with
    | zero =>
      intro τ k fp ⟨hkf, he, hfr, hs, hc1, hc2, hc3, ht1, ht2, ht3, hpa, hf1, hf2, hdone⟩
      refine qa_iload_n (pc' := 43) ⟨rfl, rfl⟩ rfl ?_
      refine qa_iconst (pc' := 44) ⟨rfl, rfl⟩ ?_
      refine qa_icmp_ge (pc' := 47) (tgt := 66) ⟨rfl, rfl⟩ rfl (by omega) (by omega) (fun hc9 => ?_) (fun hc9 => ?_)
      · refine qa_return rfl rfl (hQ _ _ ⟨rfl, by omega, hfr, hs, ?_, ⟨s1, _, hc1, hc2, hc3, fun j j0 j1 => ?_⟩, ⟨_, _, ht1, ht2, ht3, fun j j0 j1 => ?_⟩, fun j j0 j1 => hdone j j0 (by omega)⟩)
        · rw [show fp = sm_q5 a from funext fun j => by unfold sm_q5; by_cases h : 0 ≤ j ∧ j < 5; (rw [if_pos h]; exact hf1 j h.1 (by omega)); (rw [if_neg h]; exact hf2 j (by omega))] at hpa; exact hpa
        · rw [w6 j j0 j1]; unfold sm_src; rw [if_neg (by show ¬ j < 0; omega)]
        · have hj : j < 1 := j1
          rw [show j = 0 by omega]; exact ⟨rfl, rfl⟩
      · exact absurd hc9 (by omega)
    | succ f ih =>
      intro τ k fp ⟨hkf, he, hfr, hs, hc1, hc2, hc3, ht1, ht2, ht3, hpa, hf1, hf2, hdone⟩
      have e0 := he
      have fr := hfr
      refine qa_iload_n (pc' := 43) ⟨rfl, rfl⟩ rfl ?_
      refine qa_iconst (pc' := 44) ⟨rfl, rfl⟩ ?_
      refine qa_icmp_ge (pc' := 47) (tgt := 66) ⟨rfl, rfl⟩ rfl (by omega) (by omega) (fun hc9 => ?_) (fun hc9 => ?_)
      · exact absurd hc9 (by omega)
      · refine qa_aload_n (pc' := 48) ⟨rfl, rfl⟩ rfl ?_
        refine qa_getf (pc' := 51) ⟨rfl, rfl⟩ qg_2_11 (by assumption) rfl ?_
        refine qa_iload_n (pc' := 52) ⟨rfl, rfl⟩ rfl ?_
        refine qa_new (pc' := 55) (ci := 2) (n := 8) (fs := [.null, .null, .int (qa_i 0), .int (qa_i 0), .int (qa_i 0), .int (qa_i 0), .int (qa_i 0), .int (qa_i 0)]) ⟨rfl, rfl⟩ qw_2 (fun r hr => by cases hr; exact ⟨rfl, rfl, rfl, by decide +kernel⟩) qn_2_9 qini_2 ?_
        refine qa_gn (fun τ61 e61 w61 f61 => ?_)
        replace w61 : _ = some (Sum.inl (2, [.null, .null, .int (qa_i 0), .int (qa_i 0), .int (qa_i 0), .int (qa_i 0), .int (qa_i 0), .int (qa_i 0)]) : qa_E) := w61
        rw [e0] at e61 w61 f61 ⊢
        replace hs := (f61 _ (by omega)).trans hs
        replace hc1 := (f61 _ (by omega)).trans hc1
        replace hc2 := (f61 _ (by omega)).trans hc2
        replace hc3 := (f61 _ (by omega)).trans hc3
        replace ht1 := (f61 _ (by omega)).trans ht1
        replace ht2 := (f61 _ (by omega)).trans ht2
        replace ht3 := (f61 _ (by omega)).trans ht3
        replace hpa := (f61 _ (by omega)).trans hpa
        replace fr := fun q hq => (f61 q (by have := hq; omega)).trans (fr q hq)
        replace e0 := e61
        refine qa_dup (pc' := 56) ⟨rfl, rfl⟩ rfl ?_
        have f61b := f61
        refine qa_callI rfl qf_P_init ql_2_35 (c_P_init (E := E) (by omega) e0 w61) rfl rfl (qa_lt9 rfl) (qa_le9 rfl) (qa_le9 rfl) (qa_le9 rfl) (fun o9 τ9 hq9 => ?_)
        obtain ⟨rfl, e2, w2, w3, w4, f2⟩ := hq9
        refine qa_nx (pc' := 59) (st' := [_, _, _]) rfl rfl rfl rfl ?_
        replace hs := (f2 _ (by omega)).trans hs
        replace hc1 := (f2 _ (by omega)).trans hc1
        replace hc2 := (f2 _ (by omega)).trans hc2
        replace hc3 := (f2 _ (by omega)).trans hc3
        replace ht1 := (f2 _ (by omega)).trans ht1
        replace ht2 := (f2 _ (by omega)).trans ht2
        replace ht3 := (f2 _ (by omega)).trans ht3
        replace hpa := (f2 _ (by omega)).trans hpa
        replace fr := fun q hq => (f2 q (by have := hq; omega)).trans (fr q hq)
        refine qa_aastore (pc' := 60) ⟨rfl, rfl⟩ hpa (by omega) (by omega) w2 rfl rfl qin_2 ?_
        refine qa_gz (fun τ5 e5 w5 f5 => ?_)
        refine qa_iinc (L' := [(0, _), (1, _)]) (z := ((k + 1 : Nat) : Int)) (pc' := 63) ⟨rfl, rfl⟩ rfl (by omega) rfl rfl ?_
        refine qa_goto (pc' := 66) (tgt := 42) ⟨rfl, rfl⟩ rfl ?_
        have ek : sm_pa a k = a + 8 + 3 * k := by unfold sm_pa; omega
        refine qa_less (kc' := 3 * f) (ks' := 28 * f) (Nat.le_refl (3 * f)) (Nat.le_refl (28 * f)) ?_
        refine ih τ5 (k + 1) _ ⟨by omega, by omega, fun q hq => (f5 q (by omega)).trans (fr q hq), (f5 _ (by omega)).trans hs, (f5 _ (by omega)).trans hc1, (f5 _ (by omega)).trans hc2, (f5 _ (by omega)).trans hc3, (f5 _ (by omega)).trans ht1, (f5 _ (by omega)).trans ht2, (f5 _ (by omega)).trans ht3, w5, fun j j0 j1 => ?_, fun j j1 => ?_, fun j j0 j1 => ?_⟩
        · unfold qa_upq; by_cases hj : j = k
          · rw [if_pos hj, hj, ek]
          · rw [if_neg hj]; exact hf1 j j0 (by omega)
        · unfold qa_upq; rw [if_neg (by omega)]; exact hf2 j (by omega)
        · have ej : sm_pa a j = a + 8 + 3 * j.toNat := rfl
          by_cases hj : j = k
          · subst hj
            rw [ek]
            have hz : sm_n sm_0 k = 0 := sm_0_o (by omega)
            refine ⟨_, _, 1, 1, ?_, (f5 _ (by omega)).trans w3, (f5 _ (by omega)).trans w4, fun h => absurd h (by show ¬ (k : Int) < 0; omega), fun _ => ⟨rfl, rfl⟩, fun x x0 x1 => absurd x1 (by omega)⟩
            rw [show sm_wh sm_0 k = 0 by unfold sm_wh; rw [hz]; rfl, hz, sm_0_o (by omega), sm_0_o (by omega)]
            exact (f5 _ (by omega)).trans w2
          · refine (hdone j j0 (by omega)).to (fun q q0 q1 => (f5 q (by omega)).trans ((f2 q (by omega)).trans (f61b q (by omega)))) (fun _ _ _ => rfl) (by rw [show sm_n sm_0 j = 0 from sm_0_o (by omega)]; omega) (Or.inl Iff.rfl)
  exact lp 5 τ14 0 _ ⟨by omega, by omega, fr, w14, w4, w5, w7, w10, w11, w12, w1, fun j j0 j1 => absurd j1 (by omega), fun j j1 => rfl, fun j j0 j1 => absurd j1 (by omega)⟩
