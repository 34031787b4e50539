/-! the data m of both: m 0 parts, m 1 bar, m 2 tempos, m 3 played; part i from 4 + 26 i: notes, top, bottom, cue, sounded, solos, then pitch and ticks of each note; tempo k at 134 + 2 k: bar and tempo -/
def sp_su (f : Int → Int) : Nat → Int
  | 0 => 0
  | k + 1 => sp_su f k + f k
def sm_pf (m : Int → Int) (i : Int) : Int → Int := fun j => m (10 + 26 * i + 2 * j)
def sm_lf (m : Int → Int) (i : Int) : Int → Int := fun j => m (11 + 26 * i + 2 * j)
def sm_n (m : Int → Int) (i : Int) : Int := m (4 + 26 * i)
def sm_wh (m : Int → Int) (i : Int) : Int := sp_su (sm_lf m i) (sm_n m i).toNat
def sm_cu (m : Int → Int) : Nat → Int
  | 0 => 0
  | k + 1 => sm_cu m k + if m (7 + 26 * k) = -1 then 0 else 1
def sm_okp (m : Int → Int) (i : Int) : Prop := (0 ≤ sm_n m i ∧ sm_n m i ≤ 10) ∧ sp_P (sm_n m i) (sm_pf m i) ∧ sp_Ln (sm_n m i) (sm_lf m i)
def sm_ok (m : Int → Int) (B : Int) : Prop :=
  (0 ≤ m 0 ∧ m 0 ≤ 5) ∧ (1 ≤ m 1 ∧ m 1 ≤ 48) ∧ (1 ≤ m 2 ∧ m 2 ≤ 6) ∧ (0 ≤ m 3 ∧ m 3 ≤ B) ∧ (∀ i : Int, 0 ≤ i → i < 5 → sm_okp m i) ∧
  (∀ i : Int, 0 ≤ i → i < m 0 → (1 ≤ m (5 + 26 * i) ∧ m (5 + 26 * i) ≤ 99) ∧ (1 ≤ m (6 + 26 * i) ∧ m (6 + 26 * i) ≤ 99) ∧ (-1 ≤ m (7 + 26 * i) ∧ m (7 + 26 * i) < m 0 ∧ m (7 + 26 * i) ≠ i) ∧ (0 ≤ m (8 + 26 * i) ∧ m (8 + 26 * i) ≤ B) ∧ (0 ≤ m (9 + 26 * i) ∧ m (9 + 26 * i) ≤ B)) ∧
  (∀ i : Int, m 0 ≤ i → i < 5 → sm_n m i = 0 ∧ m (8 + 26 * i) = 0 ∧ m (9 + 26 * i) = 0) ∧ sp_B6 (m 2) (fun k => m (134 + 2 * k)) ∧ sp_V6 (m 2) (fun k => m (135 + 2 * k))
/-- a part of the class at b, as m tells it -/
def sR_P (h : qa_H) (b : Nat) (m : Int → Int) (i : Int) : Prop :=
  ∃ (p l : Int → Int) (u d : Int), h b = some (qa_PtF b (sm_n m i) (sm_wh m i) u d (m (8 + 26 * i)) (m (9 + 26 * i))) ∧ h (b + 1) = some (qa_ia 10 p) ∧ h (b + 2) = some (qa_ia 10 l) ∧ (i < m 0 → u = m (5 + 26 * i) ∧ d = m (6 + 26 * i)) ∧ (m 0 ≤ i → u = 1 ∧ d = 1) ∧
    ∀ j : Int, 0 ≤ j → j < sm_n m i → p j = sm_pf m i j ∧ l j = sm_lf m i j
def sm_src (m : Int → Int) (j : Int) : Int := if j < m 0 then m (7 + 26 * j) else -1
def sR_Q (h : qa_H) (c : Nat) (m : Int → Int) : Prop := ∃ src mw : Int → Int, h c = some (qa_CuF c (sm_cu m (m 0).toNat)) ∧ h (c + 1) = some (qa_ia 5 src) ∧ h (c + 2) = some (qa_ia 5 mw) ∧ ∀ j : Int, 0 ≤ j → j < 5 → src j = sm_src m j
def sR_T (h : qa_H) (c : Nat) (m : Int → Int) : Prop := ∃ bars vals : Int → Int, h c = some (qa_TeF c (m 2)) ∧ h (c + 1) = some (qa_ia 6 bars) ∧ h (c + 2) = some (qa_ia 6 vals) ∧ ∀ k : Int, 0 ≤ k → k < m 2 → bars k = m (134 + 2 * k) ∧ vals k = m (135 + 2 * k)
def qa_ScF (a : Nat) (n bt pl rf : Int) : qa_E := .inl (1, [.ref (a + 1), .ref (a + 2), .ref (a + 5), .int (qa_i n), .int (qa_i bt), .int (qa_i pl), .int (qa_i rf)])
def sm_pa (a : Nat) (i : Int) : Nat := a + 8 + 3 * i.toNat
def sm_q5 (a : Nat) : Int → Option Nat := fun i => if 0 ≤ i ∧ i < 5 then some (sm_pa a i) else none
theorem sm_q5_at {a : Nat} {i : Int} (h : 0 ≤ i ∧ i < 5) : sm_q5 a i = some (sm_pa a i) := if_pos h
/-- a score of the class at a -/
def sR_S (h : qa_H) (a : Nat) (m : Int → Int) (rf : Int) : Prop :=
  h a = some (qa_ScF a (m 0) (m 1) (m 3) rf) ∧ h (a + 1) = some (qa_ra 5 5 (sm_q5 a)) ∧ sR_Q h (a + 2) m ∧ sR_T h (a + 5) m ∧ ∀ i : Int, 0 ≤ i → i < 5 → sR_P h (sm_pa a i) m i
theorem sR_P.to {h h' : qa_H} {b : Nat} {m m' : Int → Int} {i : Int} (H : sR_P h b m i) (hh : ∀ q, b ≤ q → q < b + 3 → h' q = h q) (hm : ∀ k : Int, 4 + 26 * i ≤ k → k < 30 + 26 * i → m' k = m k) (hn : 0 ≤ sm_n m i ∧ sm_n m i ≤ 10) (h0 : (i < m' 0 ↔ i < m 0) ∨ (m (5 + 26 * i) = 1 ∧ m (6 + 26 * i) = 1 ∧ i < m' 0 ∧ m 0 ≤ i)) : sR_P h' b m' i := by
  obtain ⟨p, l, u, d, h1, h2, h3, h4, h5, h6⟩ := H
  have en : sm_n m' i = sm_n m i := hm _ (by omega) (by omega)
  have ew : sm_wh m' i = sm_wh m i := by
    unfold sm_wh
    rw [en]
    have : ∀ k : Nat, (k : Int) ≤ sm_n m i → sp_su (sm_lf m' i) k = sp_su (sm_lf m i) k := by
      intro k
      induction k with
      | zero => intro _; rfl
      | succ k ih =>
        intro hk
        unfold sp_su
        rw [ih (by omega)]
        congr 1
        exact hm _ (by omega) (by omega)
    exact this _ (by omega)
  refine ⟨p, l, u, d, ?_, (hh _ (by omega) (by omega)).trans h2, (hh _ (by omega) (by omega)).trans h3, fun hi => ?_, fun hi => ?_, fun j hj0 hj => ?_⟩
  · rw [en, ew, hm _ (by omega : 4 + 26 * i ≤ 8 + 26 * i) (by omega), hm _ (by omega : 4 + 26 * i ≤ 9 + 26 * i) (by omega)]
    exact (hh _ (by omega) (by omega)).trans h1
  · rw [hm _ (by omega : 4 + 26 * i ≤ 5 + 26 * i) (by omega), hm _ (by omega : 4 + 26 * i ≤ 6 + 26 * i) (by omega)]
    rcases h0 with h0 | ⟨e1, e2, -, e4⟩
    · exact h4 (h0.mp hi)
    · rw [e1, e2]; exact h5 e4
  · rcases h0 with h0 | ⟨-, -, e3, -⟩
    · exact h5 (Int.not_lt.mp fun q => absurd (h0.mpr q) (by omega))
    · omega
  · rw [en] at hj
    rw [(h6 j hj0 hj).1, (h6 j hj0 hj).2]
    exact ⟨(hm _ (by omega) (by omega)).symm, (hm _ (by omega) (by omega)).symm⟩
theorem sp_su_b {l : Int → Int} {n : Int} (hl : sp_Ln n l) : ∀ k : Nat, (k : Int) ≤ n → (k : Int) ≤ sp_su l k ∧ sp_su l k ≤ 12 * k
  | 0, _ => ⟨Int.le_refl _, Int.le_refl _⟩
  | k + 1, h => by
    have ih := sp_su_b hl k (by omega)
    have := hl k (by omega) (by omega)
    unfold sp_su
    omega
theorem sm_wh_b {m : Int → Int} {i : Int} (h : sm_okp m i) : sm_n m i ≤ sm_wh m i ∧ sm_wh m i ≤ 120 ∧ (sm_n m i = 0 → sm_wh m i = 0) := by
  have h1 := sp_su_b h.2.2 (sm_n m i).toNat (by have := h.1; omega)
  have h2 := h.1
  unfold sm_wh
  refine ⟨by omega, by omega, fun h3 => ?_⟩
  rw [h3]; rfl
theorem sp_nI_ext {l l' : Int → Int} {n : Int} (h : ∀ j : Int, 0 ≤ j → j < n → l j = l' j) : ∀ (f : Nat) (i left : Int), 0 ≤ i → i + f ≤ n → sp_nI l f i left = sp_nI l' f i left
  | 0, _, _, _, _ => rfl
  | f + 1, i, left, h0, h1 => by
    unfold sp_nI
    rw [h i h0 (by omega)]
    split
    · rfl
    · exact sp_nI_ext h f _ _ (by omega) (by omega)
theorem sp_ct_ext {p p' : Int → Int} {n : Int} (h : ∀ j : Int, 0 ≤ j → j < n → p j = p' j) : ∀ k : Nat, (k : Int) ≤ n → sp_ct p k = sp_ct p' k
  | 0, _ => rfl
  | k + 1, hk => by unfold sp_ct; rw [sp_ct_ext h k (by omega), h k (by omega) (by omega)]
theorem sp_ps_ext {p p' : Int → Int} {n : Int} (h : ∀ j : Int, 0 ≤ j → j < n → p j = p' j) : ∀ k : Nat, (k : Int) ≤ n → sp_ps p k = sp_ps p' k
  | 0, _ => rfl
  | k + 1, hk => by unfold sp_ps; rw [sp_ps_ext h k (by omega), h k (by omega) (by omega)]
theorem sp_rs_ext {p p' l l' : Int → Int} {n : Int} (h : ∀ j : Int, 0 ≤ j → j < n → p j = p' j ∧ l j = l' j) : ∀ k : Nat, (k : Int) ≤ n → sp_rs p l k = sp_rs p' l' k
  | 0, _ => rfl
  | k + 1, hk => by unfold sp_rs; rw [sp_rs_ext h k (by omega), (h k (by omega) (by omega)).1, (h k (by omega) (by omega)).2]
theorem sp_fo_ext {p p' : Int → Int} {n b : Int} (h : ∀ j : Int, 0 ≤ j → j < n → p j = p' j) : ∀ (f : Nat) (i : Int), 0 ≤ i → i + f ≤ n → sp_fo p b f i = sp_fo p' b f i
  | 0, _, _, _ => rfl
  | f + 1, i, h0, h1 => by unfold sp_fo; rw [h i h0 (by omega), sp_fo_ext h f (i + 1) (by omega) (by omega)]
/-- the note of part i in which a tick lies, and the pitch that sounds there -/
def sm_ni (m : Int → Int) (i tick : Int) : Int := if sm_wh m i < 1 then -1 else sp_nI (sm_lf m i) (sm_n m i).toNat 0 (tick % sm_wh m i)
def sm_pi (m : Int → Int) (i tick : Int) : Int := sp_pI (sm_pf m i) (sm_ni m i tick)
theorem sm_ni_b {m : Int → Int} {i tick : Int} (h : sm_okp m i) : -1 ≤ sm_ni m i tick ∧ sm_ni m i tick < sm_n m i := by
  have h1 := h.1
  have h2 := sp_nI_b (sm_lf m i) (sm_n m i).toNat 0 (tick % sm_wh m i)
  unfold sm_ni
  split <;> omega
theorem sm_pi_b {m : Int → Int} {i tick : Int} (h : sm_okp m i) : -1 ≤ sm_pi m i tick ∧ sm_pi m i tick ≤ 35 := by
  have h1 := sm_ni_b (tick := tick) h
  unfold sm_pi sp_pI
  split
  · omega
  · exact h.2.1 _ (by omega) (by omega)
section MP
variable {E : qa_V} {σ : qa_S} {b : Nat} {m : Int → Int} {i : Int}
theorem d_P_noteIn {tick : Int} (hP : sR_P σ.1 b m i) (hk : sm_okp m i) (ht : 0 ≤ tick ∧ tick ≤ 2147483647) : qa_T E qm_P_noteIn 0 0 [.ref b, .int (qa_i tick)] σ (fun o9 τ => o9 = .inl (some (.int (qa_i (sm_ni m i tick)))) ∧ τ = σ) := by
  obtain ⟨p, l, u, d, h1, h2, h3, h4, h5, h6⟩ := hP
  have hw := sm_wh_b hk
  have hn := hk.1
  refine (c_P_noteIn h1 h3 (by omega) hn (fun j h0 hj => by rw [(h6 j h0 hj).2]; exact hk.2.2 j h0 hj) ht).mono fun o t hq => ?_
  rw [sp_nI_ext (fun j h0 hj => (h6 j h0 hj).2) _ _ _ (Int.le_refl _) (by omega)] at hq
  exact hq
theorem d_P_pitchIn {tick : Int} (hP : sR_P σ.1 b m i) (hk : sm_okp m i) (ht : 0 ≤ tick ∧ tick ≤ 2147483647) : qa_T E qm_P_pitchIn 0 0 [.ref b, .int (qa_i tick)] σ (fun o9 τ => o9 = .inl (some (.int (qa_i (sm_pi m i tick)))) ∧ τ = σ) := by
  obtain ⟨p, l, u, d, h1, h2, h3, h4, h5, h6⟩ := hP
  have hw := sm_wh_b hk
  have hn := hk.1
  have hb := sm_ni_b (tick := tick) hk
  refine (c_P_pitchIn h1 h2 h3 (by omega) hn (fun j h0 hj => by rw [(h6 j h0 hj).2]; exact hk.2.2 j h0 hj) ht).mono fun o t hq => ?_
  rw [sp_nI_ext (fun j h0 hj => (h6 j h0 hj).2) _ _ _ (Int.le_refl _) (by omega)] at hq
  have e : sp_pI p (sm_ni m i tick) = sm_pi m i tick := by
    unfold sm_pi sp_pI
    split
    · rfl
    · exact (h6 _ (by omega) (by omega)).1
  exact e ▸ hq
theorem d_P_pitchTotal (hP : sR_P σ.1 b m i) (hk : sm_okp m i) : qa_T E qm_P_pitchTotal 0 0 [.ref b] σ (fun o9 τ => o9 = .inl (some (.int (qa_i (sp_ct (sm_pf m i) (sm_n m i).toNat)))) ∧ τ = σ) := by
  obtain ⟨p, l, u, d, h1, h2, h3, h4, h5, h6⟩ := hP
  have hn := hk.1
  refine (c_P_pitchTotal h1 h2 hn (fun j h0 hj => by rw [(h6 j h0 hj).1]; exact hk.2.1 j h0 hj) hk.2.2).mono fun o t hq => ?_
  rw [sp_ct_ext (fun j h0 hj => (h6 j h0 hj).1) _ (by omega)] at hq
  exact hq
theorem d_P_pitchSum (hP : sR_P σ.1 b m i) (hk : sm_okp m i) : qa_T E qm_P_pitchSum 0 0 [.ref b] σ (fun o9 τ => o9 = .inl (some (.int (qa_i (sp_ps (sm_pf m i) (sm_n m i).toNat)))) ∧ τ = σ) := by
  obtain ⟨p, l, u, d, h1, h2, h3, h4, h5, h6⟩ := hP
  have hn := hk.1
  refine (c_P_pitchSum h1 h2 hn (fun j h0 hj => by rw [(h6 j h0 hj).1]; exact hk.2.1 j h0 hj) hk.2.2).mono fun o t hq => ?_
  rw [sp_ps_ext (fun j h0 hj => (h6 j h0 hj).1) _ (by omega)] at hq
  exact hq
theorem d_P_restTicks (hP : sR_P σ.1 b m i) (hk : sm_okp m i) : qa_T E qm_P_restTicks 0 0 [.ref b] σ (fun o9 τ => o9 = .inl (some (.int (qa_i (sp_rs (sm_pf m i) (sm_lf m i) (sm_n m i).toNat)))) ∧ τ = σ) := by
  obtain ⟨p, l, u, d, h1, h2, h3, h4, h5, h6⟩ := hP
  have hn := hk.1
  refine (c_P_restTicks h1 h2 h3 hn (fun j h0 hj => by rw [(h6 j h0 hj).1]; exact hk.2.1 j h0 hj) (fun j h0 hj => by rw [(h6 j h0 hj).2]; exact hk.2.2 j h0 hj)).mono fun o t hq => ?_
  rw [sp_rs_ext (fun j h0 hj => h6 j h0 hj) _ (by omega)] at hq
  exact hq
theorem d_P_firstOutside {by9 : Int} (hP : sR_P σ.1 b m i) (hk : sm_okp m i) (hy : -35 ≤ by9 ∧ by9 ≤ 35) : qa_T E qm_P_firstOutside 0 0 [.ref b, .int (qa_i by9)] σ (fun o9 τ => o9 = .inl (some (.int (qa_i (sp_fo (sm_pf m i) by9 (sm_n m i).toNat 0)))) ∧ τ = σ) := by
  obtain ⟨p, l, u, d, h1, h2, h3, h4, h5, h6⟩ := hP
  have hn := hk.1
  refine (c_P_firstOutside h1 h2 hn (fun j h0 hj => by rw [(h6 j h0 hj).1]; exact hk.2.1 j h0 hj) hy).mono fun o t hq => ?_
  rw [sp_fo_ext (fun j h0 hj => (h6 j h0 hj).1) _ _ (Int.le_refl _) (by omega)] at hq
  exact hq
theorem d_P_endsAfter {af : Int} (hP : sR_P σ.1 b m i) (hk : sm_okp m i) (ha : 0 ≤ af ∧ af ≤ 2147483647) : qa_T E qm_P_endsAfter 0 0 [.ref b, .int (qa_i af)] σ (fun o9 τ => o9 = .inl (some (.int (qa_i (if sm_wh m i < 1 ∨ af % sm_wh m i = 0 then 1 else 0)))) ∧ τ = σ) := by
  obtain ⟨p, l, u, d, h1, h2, h3, h4, h5, h6⟩ := hP
  have hw := sm_wh_b hk
  have hn := hk.1
  exact c_P_endsAfter h1 (by omega) ha
theorem d_P_hasSameAt {b2 : Nat} {i2 x y : Int} (hP : sR_P σ.1 b m i) (hk : sm_okp m i) (hP2 : sR_P σ.1 b2 m i2) (hk2 : sm_okp m i2) (hx : 0 ≤ x ∧ x < sm_n m i) (hy : 0 ≤ y ∧ y < sm_n m i2) : qa_T E qm_P_hasSameAt 0 0 [.ref b, .int (qa_i x), .ref b2, .int (qa_i y)] σ (fun o9 τ => o9 = .inl (some (.int (qa_i (if sm_pf m i x = sm_pf m i2 y ∧ sm_lf m i x = sm_lf m i2 y then 1 else 0)))) ∧ τ = σ) := by
  obtain ⟨p, l, u, d, h1, h2, h3, h4, h5, h6⟩ := hP
  obtain ⟨p2, l2, u2, d2, g1, g2, g3, g4, g5, g6⟩ := hP2
  have hn := hk.1
  have hn2 := hk2.1
  have e1 := h6 x hx.1 hx.2
  have e2 := g6 y hy.1 hy.2
  have r1 := hk.2.1 x hx.1 hx.2
  have r2 := hk.2.2 x hx.1 hx.2
  have r3 := hk2.2.1 y hy.1 hy.2
  have r4 := hk2.2.2 y hy.1 hy.2
  have := c_P_hasSameAt (E := E) (i := x) (j := y) h1 h2 h3 g1 g2 g3 (by omega) (by omega) (by rw [e1.1, e1.2, e2.1, e2.2]; omega)
  rw [e1.1, e1.2, e2.1, e2.2] at this
  exact this
end MP
