/-- counts of ticks that have grown by one at most -/
theorem sm_ok.grow {m m1 : Int → Int} {B : Int} (hk : sm_ok m B) (e : ∀ q : Int, (q < 4 ∨ 134 ≤ q ∨ ((q - 4) % 26 ≠ 4 ∧ (q - 4) % 26 ≠ 5)) → m1 q = m q) (g : ∀ q : Int, m1 q = m q ∨ (m1 q = m q + 1 ∧ q < 4 + 26 * m 0)) : sm_ok m1 (B + 1) := by
  obtain ⟨k0, k1, k2, k3, k4, k5, k6, k7, k8⟩ := hk
  refine ⟨by rw [e 0 (by omega)]; exact k0, by rw [e 1 (by omega)]; exact k1, by rw [e 2 (by omega)]; exact k2, by rw [e 3 (by omega)]; omega, fun i i0 i1 => (sm_eq.of ⟨i0, i1⟩ (k4 i i0 i1) (fun q q0 q1 q2 q3 => e q (by omega))).okp (k4 i i0 i1), fun i i0 i1 => ?_, fun i i0 i1 => ?_, ?_, ?_⟩
  · rw [e 0 (by omega)] at i1 ⊢
    have h := k5 i i0 i1
    rw [e (5 + 26 * i) (by omega), e (6 + 26 * i) (by omega), e (7 + 26 * i) (by omega)]
    have h1 := g (8 + 26 * i)
    have h2 := g (9 + 26 * i)
    refine ⟨h.1, h.2.1, h.2.2.1, ?_, ?_⟩ <;> omega
  · rw [e 0 (by omega)] at i0
    have h := k6 i i0 i1
    have h1 := g (8 + 26 * i)
    have h2 := g (9 + 26 * i)
    refine ⟨(e _ (by omega)).trans h.1, by omega, by omega⟩
  · refine ⟨(e 134 (by omega)).trans k7.1, fun j j0 j1 => ?_, fun i j i0 i1 i2 => ?_⟩
    · rw [e 2 (by omega)] at j1
      show 0 ≤ m1 (134 + 2 * j) ∧ m1 (134 + 2 * j) ≤ 999
      rw [e (134 + 2 * j) (by omega)]; exact k7.2.1 j j0 j1
    · rw [e 2 (by omega)] at i2
      show m1 (134 + 2 * i) < m1 (134 + 2 * j)
      rw [e (134 + 2 * i) (by omega), e (134 + 2 * j) (by omega)]; exact k7.2.2 i j i0 i1 i2
  · intro j j0 j1
    rw [e 2 (by omega)] at j1
    show 30 ≤ m1 (135 + 2 * j) ∧ m1 (135 + 2 * j) ≤ 240
    rw [e (135 + 2 * j) (by omega)]; exact k8 j j0 j1
/-- a tick counted for the first j parts; s: the one that sounds alone -/
def sm_tj (m : Int → Int) (t s : Int) (j : Nat) : Int → Int := fun q => if 4 ≤ q ∧ q < 4 + 26 * j ∧ (q - 4) % 26 = 4 ∧ sm_pi m ((q - 4) / 26) t ≠ -1 then m q + 1 else if 4 ≤ q ∧ q < 4 + 26 * j ∧ (q - 4) % 26 = 5 ∧ (q - 4) / 26 = s then m q + 1 else m q
theorem sm_tj_o {m : Int → Int} {t s q : Int} {j : Nat} (h : q < 4 ∨ 4 + 26 * j ≤ q ∨ ((q - 4) % 26 ≠ 4 ∧ (q - 4) % 26 ≠ 5)) : sm_tj m t s j q = m q := by
  unfold sm_tj
  rw [if_neg (by omega), if_neg (by omega)]
theorem sm_tj_ok {m : Int → Int} {t s B : Int} {j : Nat} (hk : sm_ok m B) (hj : (j : Int) ≤ m 0) : sm_ok (sm_tj m t s j) (B + 1) := by
  have k0 := hk.1
  refine hk.grow (fun q h => sm_tj_o (by omega)) (fun q => ?_)
  unfold sm_tj
  split
  · exact Or.inr ⟨rfl, by omega⟩
  · split
    · exact Or.inr ⟨rfl, by omega⟩
    · exact Or.inl rfl
theorem sm_tj_0 (m : Int → Int) (t s : Int) : sm_tj m t s 0 = m := funext fun q => sm_tj_o (by omega)
theorem sm_tj_s {m : Int → Int} {t s : Int} {j : Nat} : qa_up (qa_up (sm_tj m t s j) (8 + 26 * (j : Int)) (m (8 + 26 * (j : Int)) + if sm_pi m j t = -1 then 0 else 1)) (9 + 26 * (j : Int)) (m (9 + 26 * (j : Int)) + if (j : Int) = s then 1 else 0) = sm_tj m t s (j + 1) := by
  funext q
  have a9 : q = 9 + 26 * (j : Int) → m q = m (9 + 26 * (j : Int)) := by rintro rfl; rfl
  have a8 : q = 8 + 26 * (j : Int) → m q = m (8 + 26 * (j : Int)) := by rintro rfl; rfl
  have ax : q = 8 + 26 * (j : Int) → sm_pi m ((q - 4) / 26) t = sm_pi m j t := by
    rintro rfl
    rw [show (8 + 26 * (j : Int) - 4) / 26 = j by omega]
  unfold qa_up sm_tj
  generalize sm_pi m ((q - 4) / 26) t = x at *
  generalize sm_pi m j t = y at *
  repeat' split
  all_goals omega
/-- what has been played after k ticks, the place in the tempo's row moved on -/
def sm_pk (m : Int → Int) (k : Nat) : Int → Int := qa_up (sm_run m (m 3) k) 3 (m 3 + k)
theorem sm_pk_o {m : Int → Int} {k : Nat} {q : Int} (h : q ≠ 3 ∧ (q < 4 ∨ 134 ≤ q ∨ ((q - 4) % 26 ≠ 4 ∧ (q - 4) % 26 ≠ 5))) : sm_pk m k q = m q := by
  unfold sm_pk
  rw [qa_up_ne h.1, sm_run_o m (m 3) k q h.2]
theorem sm_pk_0 (m : Int → Int) : sm_pk m 0 = m := by
  funext q
  unfold sm_pk
  by_cases h : q = 3
  · rw [h, qa_up_eq]
    simp
  · rw [qa_up_ne h]
    rfl
theorem sm_pk_eq {m : Int → Int} {B : Int} (hk : sm_ok m B) (k : Nat) (i : Int) (hi : 0 ≤ i ∧ i < 5) : sm_eq m (sm_pk m k) i := sm_eq.of hi (hk.2.2.2.2.1 i hi.1 hi.2) (fun q q0 q1 q2 q3 => sm_pk_o (by omega))
theorem sm_pk_ok {m : Int → Int} {B : Int} (hk : sm_ok m B) (k : Nat) : sm_ok (sm_pk m k) (B + k) := by
  have h := sm_run_ok (t := m 3) hk k
  have e : ∀ q : Int, q ≠ 3 → sm_pk m k q = sm_run m (m 3) k q := fun q hq => qa_up_ne hq
  have e3 : sm_pk m k 3 = m 3 + k := qa_up_eq _ _ _
  obtain ⟨k0, k1, k2, k3, k4, k5, k6, k7, k8⟩ := h
  have k39 := hk.2.2.2.1
  refine ⟨by rw [e 0 (by omega)]; exact k0, by rw [e 1 (by omega)]; exact k1, by rw [e 2 (by omega)]; exact k2, by rw [e3]; omega, fun i i0 i1 => (sm_eq.of ⟨i0, i1⟩ (k4 i i0 i1) (fun q q0 q1 q2 q3 => e q (by omega))).okp (k4 i i0 i1), fun i i0 i1 => ?_, fun i i0 i1 => ?_, ?_, ?_⟩
  · rw [e 0 (by omega)] at i1 ⊢
    rw [e (5 + 26 * i) (by omega), e (6 + 26 * i) (by omega), e (7 + 26 * i) (by omega), e (8 + 26 * i) (by omega), e (9 + 26 * i) (by omega)]
    exact k5 i i0 i1
  · rw [e 0 (by omega)] at i0
    have h := k6 i i0 i1
    exact ⟨(e _ (by omega)).trans h.1, (e _ (by omega)).trans h.2.1, (e _ (by omega)).trans h.2.2⟩
  · refine ⟨(e 134 (by omega)).trans k7.1, fun j j0 j1 => ?_, fun i j i0 i1 i2 => ?_⟩
    · rw [e 2 (by omega)] at j1
      show 0 ≤ sm_pk m k (134 + 2 * j) ∧ sm_pk m k (134 + 2 * j) ≤ 999
      rw [e (134 + 2 * j) (by omega)]; exact k7.2.1 j j0 j1
    · rw [e 2 (by omega)] at i2
      show sm_pk m k (134 + 2 * i) < sm_pk m k (134 + 2 * j)
      rw [e (134 + 2 * i) (by omega), e (134 + 2 * j) (by omega)]; exact k7.2.2 i j i0 i1 i2
  · intro j j0 j1
    rw [e 2 (by omega)] at j1
    show 30 ≤ sm_pk m k (135 + 2 * j) ∧ sm_pk m k (135 + 2 * j) ≤ 240
    rw [e (135 + 2 * j) (by omega)]; exact k8 j j0 j1
theorem sm_al_ext {m m' : Int → Int} {tick : Int} : ∀ n : Nat, (∀ i : Int, 0 ≤ i → i < n → sm_pi m' i tick = sm_pi m i tick) → sm_al m' tick n = sm_al m tick n
  | 0, _ => rfl
  | n + 1, h => by
    unfold sm_al
    rw [sm_al_ext n (fun i i0 i1 => h i i0 (by omega)), h n (by omega) (by omega)]
theorem sm_pk_s {m : Int → Int} {B : Int} (hk : sm_ok m B) {k n : Nat} (hn : (n : Int) = m 0) : qa_up (sm_tj (sm_pk m k) (m 3 + k) (if sm_so m (m 3 + k) (m 0).toNat = 1 then sm_al m (m 3 + k) (m 0).toNat else -1) n) 3 (m 3 + k + 1) = sm_pk m (k + 1) := by
  have k0 := hk.1
  have hp : ∀ i : Int, 0 ≤ i → i < 5 → sm_pi (sm_pk m k) i (m 3 + k) = sm_pi m i (m 3 + k) := fun i i0 i1 => (sm_pk_eq hk k i ⟨i0, i1⟩).pi (hk.2.2.2.2.1 i i0 i1)
  have hr : ∀ i : Int, 0 ≤ i → i < 5 → sm_pi (sm_run m (m 3) k) i (m 3 + k) = sm_pi m i (m 3 + k) := fun i i0 i1 => (sm_run_eq hk k i ⟨i0, i1⟩).pi (hk.2.2.2.2.1 i i0 i1)
  have r0 : sm_run m (m 3) k 0 = m 0 := sm_run_o m (m 3) k 0 (by omega)
  have so9 : sm_so (sm_run m (m 3) k) (m 3 + k) (m 0).toNat = sm_so m (m 3 + k) (m 0).toNat := sm_so_ext _ (fun i i0 i1 => hr i i0 (by omega))
  have al9 : sm_al (sm_run m (m 3) k) (m 3 + k) (m 0).toNat = sm_al m (m 3 + k) (m 0).toNat := sm_al_ext _ (fun i i0 i1 => hr i i0 (by omega))
  have alb := sm_al_b m (m 3 + k) (m 0).toNat
  funext q
  by_cases h3 : q = 3
  · subst h3
    rw [qa_up_eq]
    show _ = qa_up _ 3 _ 3
    rw [qa_up_eq]
    omega
  · rw [qa_up_ne h3]
    show _ = qa_up _ 3 _ q
    rw [qa_up_ne h3]
    show _ = sm_tick (sm_run m (m 3) k) (m 3 + k) q
    have eq9 : sm_pk m k q = sm_run m (m 3) k q := qa_up_ne h3
    unfold sm_tj sm_tick
    rw [r0, so9, al9, eq9]
    by_cases c1 : 4 ≤ q ∧ q < 134 ∧ (q - 4) % 26 = 4 ∧ (q - 4) / 26 < m 0 ∧ sm_pi (sm_run m (m 3) k) ((q - 4) / 26) (m 3 + k) ≠ -1
    · rw [if_pos c1, if_pos ⟨c1.1, by omega, c1.2.2.1, by rw [hp _ (by omega) (by omega), ← hr _ (by omega) (by omega)]; exact c1.2.2.2.2⟩]
    · rw [if_neg c1, if_neg (fun z => c1 ⟨z.1, by omega, z.2.2.1, by omega, by rw [hr _ (by omega) (by omega), ← hp _ (by omega) (by omega)]; exact z.2.2.2⟩)]
      by_cases hs : sm_so m (m 3 + k) (m 0).toNat = 1
      · rw [if_pos hs]
        by_cases c2 : 4 ≤ q ∧ q < 134 ∧ (q - 4) % 26 = 5 ∧ (q - 4) / 26 < m 0 ∧ sm_so m (m 3 + k) (m 0).toNat = 1 ∧ (q - 4) / 26 = sm_al m (m 3 + k) (m 0).toNat
        · rw [if_pos c2, if_pos ⟨c2.1, by omega, c2.2.2.1, c2.2.2.2.2.2⟩]
        · rw [if_neg c2, if_neg (fun z => c2 ⟨z.1, by omega, z.2.2.1, by omega, hs, z.2.2.2⟩)]
      · rw [if_neg hs, if_neg (by omega), if_neg (fun z => hs z.2.2.2.2.1)]
theorem c_M_playIt {E : qa_V} {σ : qa_S} {μ : Nat} {f : Nat → Int} {m : Int → Int} {B : Int} {b : Int} (hlo : E.1 ≤ μ) (hM : σ.1 μ = some (qa_MoF μ f)) (hm : σ.1 (μ + 1) = some (qa_ia 146 m)) (hk : sm_ok m B) (hb : qa_in b) (hB9 : B ≤ 1000000000) : qa_T E qm_M_playIt 0 0 [.ref μ, .int (qa_i b)] σ (qa_Mt σ μ f 10 (so_play m b)) := by
  refine qa_enterQ (by decide) rfl qm_M_playIt_ok rfl rfl (fun Q9 hQ => ?_)
  obtain ⟨k0, k1, k2, k3, k4, k5, k6, k7, k8⟩ := id hk
  have e0 : σ.2 = σ.2 := rfl
  have fr : ∀ q, (q ≠ μ ∧ q ≠ μ + 1) → σ.1 q = σ.1 q := fun _ _ => rfl
  refine qa_iload_n (pc' := 1) ⟨rfl, rfl⟩ rfl ?_
  refine qa_i2l (pc' := 2) ⟨rfl, rfl⟩ (by omega) ?_
  refine qa_lconst (z := 1) (pc' := 3) ⟨rfl, rfl⟩ rfl ?_
  refine qa_ldc2 (z := 20) (pc' := 6) ⟨rfl, rfl⟩ qk_10_163 ?_
  refine qa_callS rfl qf_M_in rfl ql_10_70 (c_M_in (E := E) (by omega) (by omega) (by omega)) rfl rfl (qa_lt9 rfl) (qa_le9 rfl) (qa_le9 rfl) (qa_le9 rfl) (fun o9 τ9 hq9 => ?_)
  obtain ⟨rfl, hq9⟩ := hq9
  replace hq9 := hq9.symm; subst hq9
  refine qa_nx (pc' := 9) (st' := [_]) rfl rfl rfl rfl ?_
  by_cases hi9 : 1 ≤ b ∧ b ≤ 20
  · rw [if_pos hi9]
    refine qa_if_ne (pc' := 12) (tgt := 18) ⟨rfl, rfl⟩ rfl (by omega) (fun hi99 => ?_) (fun hi99 => ?_)
    · refine qa_aload_n (pc' := 19) ⟨rfl, rfl⟩ rfl ?_
      refine qa_callV rfl qf_M_isSilent ql_10_165 (c_M_isSilent (E := E) hM hm hk) hM rfl rfl rfl (qa_lt9 rfl) (qa_le9 rfl) (qa_le9 rfl) (qa_le9 rfl) (fun o9 τ9 hq9 => ?_)
      obtain ⟨rfl, hq9⟩ := hq9
      replace hq9 := hq9.symm; subst hq9
      refine qa_nx (pc' := 22) (st' := [_]) rfl rfl rfl rfl ?_
      by_cases hw : sm_lo m (m 0).toNat = 0
      · rw [if_pos hw]
        refine qa_if_eq (pc' := 25) (tgt := 39) ⟨rfl, rfl⟩ rfl (by omega) (fun hz1 => ?_) (fun hz1 => ?_)
        · exact absurd hz1 (by decide)
        · refine qa_aload_n (pc' := 26) ⟨rfl, rfl⟩ rfl ?_
          refine qa_iconst (pc' := 27) ⟨rfl, rfl⟩ ?_
          refine qa_bipush (z := 8) (pc' := 29) ⟨rfl, rfl⟩ rfl ?_
          refine qa_aload_n (pc' := 30) ⟨rfl, rfl⟩ rfl ?_
          refine qa_getf (pc' := 33) ⟨rfl, rfl⟩ qg_10_9 (by assumption) rfl ?_
          refine qa_iconst (pc' := 34) ⟨rfl, rfl⟩ ?_
          refine qa_iaload (pc' := 35) ⟨rfl, rfl⟩ (by assumption) (by omega) ?_
          refine qa_callV rfl qf_M_rejects ql_10_97 (c_M_rejects (E := E) (p := 2) (y := 8) (x := (m 0)) hlo hM) hM rfl rfl rfl (qa_lt9 rfl) (qa_le9 rfl) (qa_le9 rfl) (qa_le9 rfl) (fun o9 τ9 hq9 => ?_)
          obtain ⟨rfl, e9, hM, f9⟩ := hq9
          refine qa_nx (pc' := 38) (st' := [_]) rfl rfl rfl rfl ?_
          refine qa_ireturn rfl rfl rfl (hQ _ _ (qa_Mt.rej (by unfold so_play; repeat (first | rw [if_pos (by omega)] | rw [if_neg (by omega)])) (by omega) (by first | rfl | (unfold so_pl; rfl)) (e9.trans e0) hM ((f9 _ (by omega)).trans hm) (fun q hq => (f9 q hq.1).trans (fr q hq))))
      · rw [if_neg hw]
        have hm9 := sp_mb (a := b) (b := m 1) (A := 20) (B := 48) (by omega) (by omega)
        obtain ⟨w9, hw9⟩ : ∃ w9, w9 = b * m 1 := ⟨_, rfl⟩
        rw [← hw9] at hm9
        refine qa_if_eq (pc' := 25) (tgt := 39) ⟨rfl, rfl⟩ rfl (by omega) (fun hz1 => ?_) (fun hz1 => ?_)
        · refine qa_iconst (pc' := 40) ⟨rfl, rfl⟩ ?_
          refine qa_istore_n (L' := [(0, _), (1, _), (2, _)]) (pc' := 41) ⟨rfl, rfl⟩ rfl rfl ?_
          refine qa_iconst (pc' := 42) ⟨rfl, rfl⟩ ?_
          refine qa_istore_n (L' := [(0, _), (1, _), (2, _), (3, _)]) (pc' := 43) ⟨rfl, rfl⟩ rfl rfl ?_
          have T1 : ∀ (f9 : Nat) (τ : qa_S) (k : Nat) (r : Int), ((k : Int) + f9 = w9 ∧ r = sm_si m k ∧ τ.2 = σ.2 ∧ τ.1 μ = some (qa_MoF μ f) ∧ τ.1 (μ + 1) = some (qa_ia 146 (sm_pk m k)) ∧ (∀ q, (q ≠ μ ∧ q ≠ μ + 1) → τ.1 q = σ.1 q)) → qa_W E qm_M_playIt Q9 0 0 43 [(0, .ref μ), (1, .int (qa_i b)), (2, .int (qa_i r)), (3, .int (qa_i k))] [] τ := by
            intro f9
            induction f9 with
            | zero =>
              intro τ k r ⟨hkf, hr, e0, hM, hm, fr⟩
              have pok := sm_pk_ok hk k
              have p0 : sm_pk m k 0 = m 0 := sm_pk_o (by omega)
              have p1 : sm_pk m k 1 = m 1 := sm_pk_o (by omega)
              have p3 : sm_pk m k 3 = m 3 + k := qa_up_eq _ _ _
              refine qa_iload_n (pc' := 44) ⟨rfl, rfl⟩ rfl ?_
              refine qa_iload_n (pc' := 45) ⟨rfl, rfl⟩ rfl ?_
              refine qa_aload_n (pc' := 46) ⟨rfl, rfl⟩ rfl ?_
              refine qa_getf (pc' := 49) ⟨rfl, rfl⟩ qg_10_9 (by assumption) rfl ?_
              refine qa_iconst (pc' := 50) ⟨rfl, rfl⟩ ?_
              refine qa_iaload (pc' := 51) ⟨rfl, rfl⟩ (by assumption) (by omega) ?_
              refine qa_imul (z := w9) (pc' := 52) ⟨rfl, rfl⟩ (by rw [p1]; exact hw9.symm) ?_
              refine qa_icmp_ge (pc' := 55) (tgt := 179) ⟨rfl, rfl⟩ rfl (by omega) (by omega) (fun hc1 => ?_) (fun hc1 => ?_)
              · have sb := sm_si_b m k
                refine qa_iload_n (pc' := 180) ⟨rfl, rfl⟩ rfl ?_
                refine qa_ireturn rfl rfl rfl (hQ _ _ (qa_Mt.good (d := 0) (m1 := sm_pk m k) (by unfold so_play; rw [if_neg (by omega), if_neg hw, ← hw9, show w9.toNat = k by omega, hr, show w9 = (k : Int) by omega]; rfl) (by omega) e0 hM hm (sm_eqv.rf _) fr))
              · exact absurd hc1 (by omega)
            | succ f9 iT1 =>
              intro τ k r ⟨hkf, hr, e0, hM, hm, fr⟩
              have pok := sm_pk_ok hk k
              have p0 : sm_pk m k 0 = m 0 := sm_pk_o (by omega)
              have p1 : sm_pk m k 1 = m 1 := sm_pk_o (by omega)
              have p3 : sm_pk m k 3 = m 3 + k := qa_up_eq _ _ _
              refine qa_iload_n (pc' := 44) ⟨rfl, rfl⟩ rfl ?_
              refine qa_iload_n (pc' := 45) ⟨rfl, rfl⟩ rfl ?_
              refine qa_aload_n (pc' := 46) ⟨rfl, rfl⟩ rfl ?_
              refine qa_getf (pc' := 49) ⟨rfl, rfl⟩ qg_10_9 (by assumption) rfl ?_
              refine qa_iconst (pc' := 50) ⟨rfl, rfl⟩ ?_
              refine qa_iaload (pc' := 51) ⟨rfl, rfl⟩ (by assumption) (by omega) ?_
              refine qa_imul (z := w9) (pc' := 52) ⟨rfl, rfl⟩ (by rw [p1]; exact hw9.symm) ?_
              refine qa_icmp_ge (pc' := 55) (tgt := 179) ⟨rfl, rfl⟩ rfl (by omega) (by omega) (fun hc1 => ?_) (fun hc1 => ?_)
              · exact absurd hc1 (by omega)
              · have hpi : ∀ i : Int, 0 ≤ i → i < 5 → sm_pi (sm_pk m k) i (m 3 + k) = sm_pi m i (m 3 + k) := fun i i0 i1 => (sm_pk_eq hk k i ⟨i0, i1⟩).pi (k4 i i0 i1)
                have so9 : sm_so (sm_pk m k) (m 3 + k) (m 0).toNat = sm_so m (m 3 + k) (m 0).toNat := sm_so_ext _ (fun i i0 i1 => hpi i i0 (by omega))
                have al9 : sm_al (sm_pk m k) (m 3 + k) (m 0).toNat = sm_al m (m 3 + k) (m 0).toNat := sm_al_ext _ (fun i i0 i1 => hpi i i0 (by omega))
                have alb := sm_al_b m (m 3 + k) (m 0).toNat
                have sob := sm_so_b m (m 3 + k) (m 0).toNat
                refine qa_aload_n (pc' := 56) ⟨rfl, rfl⟩ rfl ?_
                refine qa_aload_n (pc' := 57) ⟨rfl, rfl⟩ rfl ?_
                refine qa_getf (pc' := 60) ⟨rfl, rfl⟩ qg_10_9 (by assumption) rfl ?_
                refine qa_iconst (pc' := 61) ⟨rfl, rfl⟩ ?_
                refine qa_iaload (pc' := 62) ⟨rfl, rfl⟩ (by assumption) (by omega) ?_
                rw [p3]
                refine qa_callV rfl qf_M_alone ql_10_169 (c_M_alone (E := E) hM hm pok (by omega)) hM rfl rfl rfl (qa_lt9 rfl) (qa_le9 rfl) (qa_le9 rfl) (qa_le9 rfl) (fun o9 τ9 hq9 => ?_)
                obtain ⟨rfl, hq9⟩ := hq9
                replace hq9 := hq9.symm; subst hq9
                refine qa_nx (pc' := 65) (st' := [_]) rfl rfl rfl rfl ?_
                rw [p0, so9, al9]
                obtain ⟨s, hs9⟩ : ∃ s, s = if sm_so m (m 3 + k) (m 0).toNat = 1 then sm_al m (m 3 + k) (m 0).toNat else -1 := ⟨_, rfl⟩
                rw [← hs9]
                have sb : -1 ≤ s ∧ s < m 0 := by rw [hs9]; split <;> omega
                have ss : s = -1 ↔ ¬ sm_so m (m 3 + k) (m 0).toNat = 1 := by rw [hs9]; split <;> omega
                refine qa_istore (L' := [(0, _), (1, _), (2, _), (3, _), (4, _)]) (pc' := 67) ⟨rfl, rfl⟩ rfl rfl ?_
                refine qa_iconst (pc' := 68) ⟨rfl, rfl⟩ ?_
                refine qa_istore (L' := [(0, _), (1, _), (2, _), (3, _), (4, _), (5, _)]) (pc' := 70) ⟨rfl, rfl⟩ rfl rfl ?_
                have T2 : ∀ (f2 : Nat) (ρ : qa_S) (j : Nat), ((j : Int) + f2 = m 0 ∧ ρ.2 = σ.2 ∧ ρ.1 μ = some (qa_MoF μ f) ∧ ρ.1 (μ + 1) = some (qa_ia 146 (sm_tj (sm_pk m k) (m 3 + k) s j)) ∧ (∀ q, (q ≠ μ ∧ q ≠ μ + 1) → ρ.1 q = σ.1 q)) → qa_W E qm_M_playIt Q9 0 0 70 [(0, .ref μ), (1, .int (qa_i b)), (2, .int (qa_i r)), (3, .int (qa_i k)), (4, .int (qa_i s)), (5, .int (qa_i j))] [] ρ := by
                  intro f2
                  induction f2 with
                  | zero =>
                    intro ρ j ⟨hj, e0, hM, hm, fr⟩
                    have tok := sm_tj_ok (t := m 3 + k) (s := s) (j := j) pok (by omega)
                    have t0 : sm_tj (sm_pk m k) (m 3 + k) s j 0 = m 0 := (sm_tj_o (by omega)).trans p0
                    have t3 : sm_tj (sm_pk m k) (m 3 + k) s j 3 = m 3 + k := (sm_tj_o (by omega)).trans p3
                    refine qa_iload (pc' := 72) ⟨rfl, rfl⟩ rfl ?_
                    refine qa_aload_n (pc' := 73) ⟨rfl, rfl⟩ rfl ?_
                    refine qa_getf (pc' := 76) ⟨rfl, rfl⟩ qg_10_9 (by assumption) rfl ?_
                    refine qa_iconst (pc' := 77) ⟨rfl, rfl⟩ ?_
                    refine qa_iaload (pc' := 78) ⟨rfl, rfl⟩ (by assumption) (by omega) ?_
                    rw [t0]
                    refine qa_icmp_ge (pc' := 81) (tgt := 149) ⟨rfl, rfl⟩ rfl (by omega) (by omega) (fun hc2 => ?_) (fun hc2 => ?_)
                    · refine qa_iload_n (pc' := 150) ⟨rfl, rfl⟩ rfl ?_
                      refine qa_iload (pc' := 152) ⟨rfl, rfl⟩ rfl ?_
                      refine qa_iconst (pc' := 153) ⟨rfl, rfl⟩ ?_
                      refine qa_icmp_ne (pc' := 156) (tgt := 160) ⟨rfl, rfl⟩ rfl (by omega) (by omega) (fun hc3 => ?_) (fun hc3 => ?_)
                      · refine qa_iconst (pc' := 161) ⟨rfl, rfl⟩ ?_
                        refine qa_iadd (pc' := 162) ⟨rfl, rfl⟩ rfl ?_
                        refine qa_istore_n (L' := [(0, _), (1, _), (2, _), (3, _), (4, _), (5, _)]) (pc' := 163) ⟨rfl, rfl⟩ rfl rfl ?_
                        refine qa_aload_n (pc' := 164) ⟨rfl, rfl⟩ rfl ?_
                        refine qa_getf (pc' := 167) ⟨rfl, rfl⟩ qg_10_9 (by assumption) rfl ?_
                        refine qa_iconst (pc' := 168) ⟨rfl, rfl⟩ ?_
                        refine qa_dup2 (pc' := 169) ⟨rfl, rfl⟩ rfl rfl ?_
                        refine qa_iaload (pc' := 170) ⟨rfl, rfl⟩ (by assumption) (by omega) ?_
                        refine qa_iconst (pc' := 171) ⟨rfl, rfl⟩ ?_
                        refine qa_iadd (z := m 3 + k + 1) (pc' := 172) ⟨rfl, rfl⟩ (by rw [t3]) ?_
                        refine qa_iastore (pc' := 173) ⟨rfl, rfl⟩ hm (by omega) (by omega) ?_
                        refine qa_gz (fun τ61 e61 w61 f61 => ?_)
                        replace hM := (f61 _ (by omega)).trans hM
                        replace fr := fun q hq => (f61 q (by have := hq; omega)).trans (fr q hq)
                        replace e0 := e61.trans e0
                        have hm := w61
                        rw [hs9, sm_pk_s hk (by omega)] at hm
                        refine qa_iinc (L' := [(0, _), (1, _), (2, _), (3, _), (4, _), (5, _)]) (z := ((k + 1 : Nat) : Int)) (pc' := 176) ⟨rfl, rfl⟩ rfl (by omega) rfl rfl ?_
                        refine qa_goto (pc' := 179) (tgt := 43) ⟨rfl, rfl⟩ rfl ?_
                        refine qa_sub (ks' := [0, 1, 2, 3]) (L' := [(0, _), (1, _), (2, _), (3, _)]) rfl ?_
                        exact iT1 _ (k + 1) _ ⟨by omega, by unfold sm_si; rw [hr, if_pos (by omega)], e0, hM, hm, fr⟩
                      · refine qa_iconst (pc' := 157) ⟨rfl, rfl⟩ ?_
                        refine qa_goto (pc' := 160) (tgt := 161) ⟨rfl, rfl⟩ rfl ?_
                        refine qa_iadd (pc' := 162) ⟨rfl, rfl⟩ rfl ?_
                        refine qa_istore_n (L' := [(0, _), (1, _), (2, _), (3, _), (4, _), (5, _)]) (pc' := 163) ⟨rfl, rfl⟩ rfl rfl ?_
                        refine qa_aload_n (pc' := 164) ⟨rfl, rfl⟩ rfl ?_
                        refine qa_getf (pc' := 167) ⟨rfl, rfl⟩ qg_10_9 (by assumption) rfl ?_
                        refine qa_iconst (pc' := 168) ⟨rfl, rfl⟩ ?_
                        refine qa_dup2 (pc' := 169) ⟨rfl, rfl⟩ rfl rfl ?_
                        refine qa_iaload (pc' := 170) ⟨rfl, rfl⟩ (by assumption) (by omega) ?_
                        refine qa_iconst (pc' := 171) ⟨rfl, rfl⟩ ?_
                        refine qa_iadd (z := m 3 + k + 1) (pc' := 172) ⟨rfl, rfl⟩ (by rw [t3]) ?_
                        refine qa_iastore (pc' := 173) ⟨rfl, rfl⟩ hm (by omega) (by omega) ?_
                        refine qa_gz (fun τ61 e61 w61 f61 => ?_)
                        replace hM := (f61 _ (by omega)).trans hM
                        replace fr := fun q hq => (f61 q (by have := hq; omega)).trans (fr q hq)
                        replace e0 := e61.trans e0
                        have hm := w61
                        rw [hs9, sm_pk_s hk (by omega)] at hm
                        refine qa_iinc (L' := [(0, _), (1, _), (2, _), (3, _), (4, _), (5, _)]) (z := ((k + 1 : Nat) : Int)) (pc' := 176) ⟨rfl, rfl⟩ rfl (by omega) rfl rfl ?_
                        refine qa_goto (pc' := 179) (tgt := 43) ⟨rfl, rfl⟩ rfl ?_
                        refine qa_sub (ks' := [0, 1, 2, 3]) (L' := [(0, _), (1, _), (2, _), (3, _)]) rfl ?_
                        exact iT1 _ (k + 1) _ ⟨by omega, by unfold sm_si; rw [hr, if_neg (by omega)], e0, hM, hm, fr⟩
                    · exact absurd hc2 (by omega)
                  | succ f2 iT2 =>
                    intro ρ j ⟨hj, e0, hM, hm, fr⟩
                    have tok := sm_tj_ok (t := m 3 + k) (s := s) (j := j) pok (by omega)
                    have t0 : sm_tj (sm_pk m k) (m 3 + k) s j 0 = m 0 := (sm_tj_o (by omega)).trans p0
                    have t3 : sm_tj (sm_pk m k) (m 3 + k) s j 3 = m 3 + k := (sm_tj_o (by omega)).trans p3
                    refine qa_iload (pc' := 72) ⟨rfl, rfl⟩ rfl ?_
                    refine qa_aload_n (pc' := 73) ⟨rfl, rfl⟩ rfl ?_
                    refine qa_getf (pc' := 76) ⟨rfl, rfl⟩ qg_10_9 (by assumption) rfl ?_
                    refine qa_iconst (pc' := 77) ⟨rfl, rfl⟩ ?_
                    refine qa_iaload (pc' := 78) ⟨rfl, rfl⟩ (by assumption) (by omega) ?_
                    rw [t0]
                    refine qa_icmp_ge (pc' := 81) (tgt := 149) ⟨rfl, rfl⟩ rfl (by omega) (by omega) (fun hc2 => ?_) (fun hc2 => ?_)
                    · exact absurd hc2 (by omega)
                    · have c8 := tok.2.2.2.2.2.1 j (by omega) (by rw [t0]; omega)
                      have c4 := k4 j (by omega) (by omega)
                      have n8 : sm_tj (sm_pk m k) (m 3 + k) s j (8 + 26 * (j : Int)) = sm_pk m k (8 + 26 * (j : Int)) := sm_tj_o (by omega)
                      have n9 : sm_tj (sm_pk m k) (m 3 + k) s j (9 + 26 * (j : Int)) = sm_pk m k (9 + 26 * (j : Int)) := sm_tj_o (by omega)
                      have epi : sm_pi (sm_tj (sm_pk m k) (m 3 + k) s j) j (m 3 + k) = sm_pi (sm_pk m k) j (m 3 + k) := (sm_eq.of ⟨by omega, by omega⟩ (pok.2.2.2.2.1 j (by omega) (by omega)) (fun q q0 q1 q2 q3 => sm_tj_o (by omega))).pi (pok.2.2.2.2.1 j (by omega) (by omega))
                      refine qa_aload_n (pc' := 82) ⟨rfl, rfl⟩ rfl ?_
                      refine qa_getf (pc' := 85) ⟨rfl, rfl⟩ qg_10_9 (by assumption) rfl ?_
                      refine qa_iload (pc' := 87) ⟨rfl, rfl⟩ rfl ?_
                      refine qa_callS rfl qf_M_partAt rfl ql_10_74 (c_M_partAt (E := E)) rfl rfl (qa_lt9 rfl) (qa_le9 rfl) (qa_le9 rfl) (qa_le9 rfl) (fun o9 τ9 hq9 => ?_)
                      obtain ⟨rfl, hq9⟩ := hq9
                      replace hq9 := hq9.symm; subst hq9
                      refine qa_nx (pc' := 90) (st' := [_, _]) rfl rfl rfl rfl ?_
                      refine qa_iconst (pc' := 91) ⟨rfl, rfl⟩ ?_
                      refine qa_iadd (z := 8 + 26 * (j : Int)) (pc' := 92) ⟨rfl, rfl⟩ (by omega) ?_
                      refine qa_dup2 (pc' := 93) ⟨rfl, rfl⟩ rfl rfl ?_
                      refine qa_iaload (pc' := 94) ⟨rfl, rfl⟩ (by assumption) (by omega) ?_
                      rw [n8]
                      refine qa_aload_n (pc' := 95) ⟨rfl, rfl⟩ rfl ?_
                      refine qa_iload (pc' := 97) ⟨rfl, rfl⟩ rfl ?_
                      refine qa_aload_n (pc' := 98) ⟨rfl, rfl⟩ rfl ?_
                      refine qa_getf (pc' := 101) ⟨rfl, rfl⟩ qg_10_9 (by assumption) rfl ?_
                      refine qa_iconst (pc' := 102) ⟨rfl, rfl⟩ ?_
                      refine qa_iaload (pc' := 103) ⟨rfl, rfl⟩ (by assumption) (by omega) ?_
                      rw [t3]
                      refine qa_callV rfl qf_M_sounds ql_10_93 (c_M_sounds (E := E) hM hm tok ⟨by omega, by omega⟩ (by omega)) hM rfl rfl rfl (qa_lt9 rfl) (qa_le9 rfl) (qa_le9 rfl) (qa_le9 rfl) (fun o9 τ9 hq9 => ?_)
                      obtain ⟨rfl, hq9⟩ := hq9
                      replace hq9 := hq9.symm; subst hq9
                      refine qa_nx (pc' := 106) (st' := [_, _, _, _]) rfl rfl rfl rfl ?_
                      rw [epi]
                      by_cases hw : sm_pi (sm_pk m k) j (m 3 + k) = -1
                      · rw [if_pos hw]
                        refine qa_if_eq (pc' := 109) (tgt := 113) ⟨rfl, rfl⟩ rfl (by omega) (fun hw9 => ?_) (fun hw9 => ?_)
                        · refine qa_iconst (pc' := 114) ⟨rfl, rfl⟩ ?_
                          refine qa_iadd (z := sm_pk m k (8 + 26 * (j : Int)) + if sm_pi (sm_pk m k) j (m 3 + k) = -1 then 0 else 1) (pc' := 115) ⟨rfl, rfl⟩ (by rw [if_pos hw]) ?_
                          refine qa_iastore (pc' := 116) ⟨rfl, rfl⟩ hm (by omega) (by omega) ?_
                          refine qa_gz (fun τ61 e61 w61 f61 => ?_)
                          replace hM := (f61 _ (by omega)).trans hM
                          replace fr := fun q hq => (f61 q (by have := hq; omega)).trans (fr q hq)
                          replace e0 := e61.trans e0
                          have hm : τ61.1 (μ + 1) = some (qa_ia 146 (qa_up (sm_tj (sm_pk m k) (m 3 + k) s j) (8 + 26 * (j : Int)) (sm_pk m k (8 + 26 * (j : Int)) + if sm_pi (sm_pk m k) j (m 3 + k) = -1 then 0 else 1))) := w61
                          refine qa_aload_n (pc' := 117) ⟨rfl, rfl⟩ rfl ?_
                          refine qa_getf (pc' := 120) ⟨rfl, rfl⟩ qg_10_9 (by assumption) rfl ?_
                          refine qa_iload (pc' := 122) ⟨rfl, rfl⟩ rfl ?_
                          refine qa_callS rfl qf_M_partAt rfl ql_10_74 (c_M_partAt (E := E)) rfl rfl (qa_lt9 rfl) (qa_le9 rfl) (qa_le9 rfl) (qa_le9 rfl) (fun o9 τ9 hq9 => ?_)
                          obtain ⟨rfl, hq9⟩ := hq9
                          replace hq9 := hq9.symm; subst hq9
                          refine qa_nx (pc' := 125) (st' := [_, _]) rfl rfl rfl rfl ?_
                          refine qa_iconst (pc' := 126) ⟨rfl, rfl⟩ ?_
                          refine qa_iadd (z := 9 + 26 * (j : Int)) (pc' := 127) ⟨rfl, rfl⟩ (by omega) ?_
                          refine qa_dup2 (pc' := 128) ⟨rfl, rfl⟩ rfl rfl ?_
                          refine qa_iaload (pc' := 129) ⟨rfl, rfl⟩ (by assumption) (by omega) ?_
                          rw [qa_up_ne (show 9 + 26 * (j : Int) ≠ 8 + 26 * (j : Int) by omega), n9]
                          refine qa_iload (pc' := 131) ⟨rfl, rfl⟩ rfl ?_
                          refine qa_iload (pc' := 133) ⟨rfl, rfl⟩ rfl ?_
                          refine qa_icmp_ne (pc' := 136) (tgt := 140) ⟨rfl, rfl⟩ rfl (by omega) (by omega) (fun hc4 => ?_) (fun hc4 => ?_)
                          · refine qa_iconst (pc' := 141) ⟨rfl, rfl⟩ ?_
                            refine qa_iadd (z := sm_pk m k (9 + 26 * (j : Int)) + if (j : Int) = s then 1 else 0) (pc' := 142) ⟨rfl, rfl⟩ (by rw [if_neg hc4]) ?_
                            refine qa_iastore (pc' := 143) ⟨rfl, rfl⟩ hm (by omega) (by omega) ?_
                            refine qa_gz (fun τ62 e62 w62 f62 => ?_)
                            replace hM := (f62 _ (by omega)).trans hM
                            replace fr := fun q hq => (f62 q (by have := hq; omega)).trans (fr q hq)
                            replace e0 := e62.trans e0
                            have hm := w62
                            rw [sm_tj_s] at hm
                            refine qa_iinc (L' := [(0, _), (1, _), (2, _), (3, _), (4, _), (5, _)]) (z := ((j + 1 : Nat) : Int)) (pc' := 146) ⟨rfl, rfl⟩ rfl (by omega) rfl rfl ?_
                            refine qa_goto (pc' := 149) (tgt := 70) ⟨rfl, rfl⟩ rfl ?_
                            exact iT2 _ (j + 1) ⟨by omega, e0, hM, hm, fr⟩
                          · refine qa_iconst (pc' := 137) ⟨rfl, rfl⟩ ?_
                            refine qa_goto (pc' := 140) (tgt := 141) ⟨rfl, rfl⟩ rfl ?_
                            refine qa_iadd (z := sm_pk m k (9 + 26 * (j : Int)) + if (j : Int) = s then 1 else 0) (pc' := 142) ⟨rfl, rfl⟩ (by rw [if_pos hc4]) ?_
                            refine qa_iastore (pc' := 143) ⟨rfl, rfl⟩ hm (by omega) (by omega) ?_
                            refine qa_gz (fun τ62 e62 w62 f62 => ?_)
                            replace hM := (f62 _ (by omega)).trans hM
                            replace fr := fun q hq => (f62 q (by have := hq; omega)).trans (fr q hq)
                            replace e0 := e62.trans e0
                            have hm := w62
                            rw [sm_tj_s] at hm
                            refine qa_iinc (L' := [(0, _), (1, _), (2, _), (3, _), (4, _), (5, _)]) (z := ((j + 1 : Nat) : Int)) (pc' := 146) ⟨rfl, rfl⟩ rfl (by omega) rfl rfl ?_
                            refine qa_goto (pc' := 149) (tgt := 70) ⟨rfl, rfl⟩ rfl ?_
                            exact iT2 _ (j + 1) ⟨by omega, e0, hM, hm, fr⟩
                        · exact absurd hw9 (by omega)
                      · rw [if_neg hw]
                        refine qa_if_eq (pc' := 109) (tgt := 113) ⟨rfl, rfl⟩ rfl (by omega) (fun hw9 => ?_) (fun hw9 => ?_)
                        · exact absurd hw9 (by omega)
                        · refine qa_iconst (pc' := 110) ⟨rfl, rfl⟩ ?_
                          refine qa_goto (pc' := 113) (tgt := 114) ⟨rfl, rfl⟩ rfl ?_
                          refine qa_iadd (z := sm_pk m k (8 + 26 * (j : Int)) + if sm_pi (sm_pk m k) j (m 3 + k) = -1 then 0 else 1) (pc' := 115) ⟨rfl, rfl⟩ (by rw [if_neg hw]) ?_
                          refine qa_iastore (pc' := 116) ⟨rfl, rfl⟩ hm (by omega) (by omega) ?_
                          refine qa_gz (fun τ61 e61 w61 f61 => ?_)
                          replace hM := (f61 _ (by omega)).trans hM
                          replace fr := fun q hq => (f61 q (by have := hq; omega)).trans (fr q hq)
                          replace e0 := e61.trans e0
                          have hm : τ61.1 (μ + 1) = some (qa_ia 146 (qa_up (sm_tj (sm_pk m k) (m 3 + k) s j) (8 + 26 * (j : Int)) (sm_pk m k (8 + 26 * (j : Int)) + if sm_pi (sm_pk m k) j (m 3 + k) = -1 then 0 else 1))) := w61
                          refine qa_aload_n (pc' := 117) ⟨rfl, rfl⟩ rfl ?_
                          refine qa_getf (pc' := 120) ⟨rfl, rfl⟩ qg_10_9 (by assumption) rfl ?_
                          refine qa_iload (pc' := 122) ⟨rfl, rfl⟩ rfl ?_
                          refine qa_callS rfl qf_M_partAt rfl ql_10_74 (c_M_partAt (E := E)) rfl rfl (qa_lt9 rfl) (qa_le9 rfl) (qa_le9 rfl) (qa_le9 rfl) (fun o9 τ9 hq9 => ?_)
                          obtain ⟨rfl, hq9⟩ := hq9
                          replace hq9 := hq9.symm; subst hq9
                          refine qa_nx (pc' := 125) (st' := [_, _]) rfl rfl rfl rfl ?_
                          refine qa_iconst (pc' := 126) ⟨rfl, rfl⟩ ?_
                          refine qa_iadd (z := 9 + 26 * (j : Int)) (pc' := 127) ⟨rfl, rfl⟩ (by omega) ?_
                          refine qa_dup2 (pc' := 128) ⟨rfl, rfl⟩ rfl rfl ?_
                          refine qa_iaload (pc' := 129) ⟨rfl, rfl⟩ (by assumption) (by omega) ?_
                          rw [qa_up_ne (show 9 + 26 * (j : Int) ≠ 8 + 26 * (j : Int) by omega), n9]
                          refine qa_iload (pc' := 131) ⟨rfl, rfl⟩ rfl ?_
                          refine qa_iload (pc' := 133) ⟨rfl, rfl⟩ rfl ?_
                          refine qa_icmp_ne (pc' := 136) (tgt := 140) ⟨rfl, rfl⟩ rfl (by omega) (by omega) (fun hc4 => ?_) (fun hc4 => ?_)
                          · refine qa_iconst (pc' := 141) ⟨rfl, rfl⟩ ?_
                            refine qa_iadd (z := sm_pk m k (9 + 26 * (j : Int)) + if (j : Int) = s then 1 else 0) (pc' := 142) ⟨rfl, rfl⟩ (by rw [if_neg hc4]) ?_
                            refine qa_iastore (pc' := 143) ⟨rfl, rfl⟩ hm (by omega) (by omega) ?_
                            refine qa_gz (fun τ62 e62 w62 f62 => ?_)
                            replace hM := (f62 _ (by omega)).trans hM
                            replace fr := fun q hq => (f62 q (by have := hq; omega)).trans (fr q hq)
                            replace e0 := e62.trans e0
                            have hm := w62
                            rw [sm_tj_s] at hm
                            refine qa_iinc (L' := [(0, _), (1, _), (2, _), (3, _), (4, _), (5, _)]) (z := ((j + 1 : Nat) : Int)) (pc' := 146) ⟨rfl, rfl⟩ rfl (by omega) rfl rfl ?_
                            refine qa_goto (pc' := 149) (tgt := 70) ⟨rfl, rfl⟩ rfl ?_
                            exact iT2 _ (j + 1) ⟨by omega, e0, hM, hm, fr⟩
                          · refine qa_iconst (pc' := 137) ⟨rfl, rfl⟩ ?_
                            refine qa_goto (pc' := 140) (tgt := 141) ⟨rfl, rfl⟩ rfl ?_
                            refine qa_iadd (z := sm_pk m k (9 + 26 * (j : Int)) + if (j : Int) = s then 1 else 0) (pc' := 142) ⟨rfl, rfl⟩ (by rw [if_pos hc4]) ?_
                            refine qa_iastore (pc' := 143) ⟨rfl, rfl⟩ hm (by omega) (by omega) ?_
                            refine qa_gz (fun τ62 e62 w62 f62 => ?_)
                            replace hM := (f62 _ (by omega)).trans hM
                            replace fr := fun q hq => (f62 q (by have := hq; omega)).trans (fr q hq)
                            replace e0 := e62.trans e0
                            have hm := w62
                            rw [sm_tj_s] at hm
                            refine qa_iinc (L' := [(0, _), (1, _), (2, _), (3, _), (4, _), (5, _)]) (z := ((j + 1 : Nat) : Int)) (pc' := 146) ⟨rfl, rfl⟩ rfl (by omega) rfl rfl ?_
                            refine qa_goto (pc' := 149) (tgt := 70) ⟨rfl, rfl⟩ rfl ?_
                            exact iT2 _ (j + 1) ⟨by omega, e0, hM, hm, fr⟩
                exact T2 (m 0).toNat _ 0 ⟨by omega, e0, hM, by rw [sm_tj_0]; exact hm, fr⟩
          exact T1 w9.toNat _ 0 0 ⟨by omega, rfl, e0, hM, by rw [sm_pk_0]; exact hm, fr⟩
        · exact absurd hz1 (by decide)
    · exact absurd hi99 (by omega)
  · rw [if_neg hi9]
    refine qa_if_ne (pc' := 12) (tgt := 18) ⟨rfl, rfl⟩ rfl (by omega) (fun hi99 => ?_) (fun hi99 => ?_)
    · exact absurd hi99 (by omega)
    · refine qa_aload_n (pc' := 13) ⟨rfl, rfl⟩ rfl ?_
      refine qa_iconst (pc' := 14) ⟨rfl, rfl⟩ ?_
      refine qa_callV rfl qf_M_throwing ql_10_60 (c_M_throwing (E := E) (v := 1) hlo hM) hM rfl rfl rfl (qa_lt9 rfl) (qa_le9 rfl) (qa_le9 rfl) (qa_le9 rfl) (fun o9 τ9 hq9 => ?_)
      obtain ⟨rfl, e9, hM, f9⟩ := hq9
      refine qa_nx (pc' := 17) (st' := [_]) rfl rfl rfl rfl ?_
      refine qa_ireturn rfl rfl rfl (hQ _ _ (qa_Mt.bad (a := -11) (d := 0) (by unfold so_play; repeat (first | rw [if_pos (by omega)] | rw [if_neg (by omega)])) (by omega) (by first | rfl | (unfold so_pl; rfl)) (e9.trans e0) hM ((f9 _ (by omega)).trans hm) (fun q hq => (f9 q hq.1).trans (fr q hq))))
