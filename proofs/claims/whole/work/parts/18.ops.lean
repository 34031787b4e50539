/-! what the changes do to the data: answer (0 or more; else -10 no part, -11 bad argument, or a reason with a minus), detail, data -/
abbrev sp_R : Type := Int × Int × (Int → Int)
def so_part (m : Int → Int) : sp_R := if 5 ≤ m 0 then (-1, 5, m) else (m 0, 0, qa_up (qa_up (qa_up (qa_up m (5 + 26 * m 0) 1) (6 + 26 * m 0) 1) (7 + 26 * m 0) (-1)) 0 (m 0 + 1))
def so_note (m : Int → Int) (p x y : Int) : sp_R :=
  if ¬ (0 ≤ p ∧ p < m 0) then (-10, 0, m) else if ¬ (1 ≤ y ∧ y ≤ 12) then (-11, 0, m) else if 10 ≤ sm_n m p then (-2, sm_wh m p, m)
  else (sm_n m p + 1, 0, qa_up (qa_up (qa_up m (10 + 26 * p + 2 * sm_n m p) x) (11 + 26 * p + 2 * sm_n m p) y) (4 + 26 * p) (sm_n m p + 1))
def so_pitch (m : Int → Int) (p x y : Int) : sp_R := if ¬ (0 ≤ p ∧ p < m 0) then (-10, 0, m) else if ¬ (0 ≤ x ∧ x ≤ 35) then (-11, 0, m) else so_note m p x y
def sm_last (m : Int → Int) (p : Int) : Int → Int := qa_up (qa_up (qa_up m (10 + 26 * p + 2 * (sm_n m p - 1)) 0) (11 + 26 * p + 2 * (sm_n m p - 1)) 0) (4 + 26 * p) (sm_n m p - 1)
def so_last (m : Int → Int) (p : Int) : sp_R := if ¬ (0 ≤ p ∧ p < m 0) then (-10, 0, m) else if sm_n m p = 0 then (-3, p, m) else (sm_wh (sm_last m p) p, 0, sm_last m p)
def sm_mv (m : Int → Int) (p b : Int) : Int → Int := fun q => if 10 + 26 * p ≤ q ∧ q < 10 + 26 * p + 2 * sm_n m p ∧ q % 2 = 0 ∧ m q ≠ -1 then m q + b else m q
def so_move (m : Int → Int) (p b : Int) : sp_R :=
  if ¬ (0 ≤ p ∧ p < m 0) then (-10, 0, m) else if ¬ (-35 ≤ b ∧ b ≤ 35) then (-11, 0, m) else if sp_fo (sm_pf m p) b (sm_n m p).toNat 0 ≠ -1 then (-4, sp_fo (sm_pf m p) b (sm_n m p).toNat 0, m)
  else (if b = 0 then 0 else sp_ct (sm_pf m p) (sm_n m p).toNat, 0, sm_mv m p b)
def so_tune (m : Int → Int) (p u d : Int) : sp_R :=
  if ¬ (0 ≤ p ∧ p < m 0) then (-10, 0, m) else if ¬ ((1 ≤ u ∧ u ≤ 99) ∧ 1 ≤ d ∧ d ≤ 99) then (-11, 0, m) else (Int.gcd u d, 0, qa_up (qa_up m (5 + 26 * p) (u / Int.gcd u d)) (6 + 26 * p) (d / Int.gcd u d))
def so_cue (m : Int → Int) (p o : Int) : sp_R :=
  if ¬ ((0 ≤ p ∧ p < m 0) ∧ 0 ≤ o ∧ o < m 0) then (-10, 0, m) else if p = o then (-11, 0, m) else if m (7 + 26 * p) = o then (-5, sm_cu m (m 0).toNat, m) else (sm_cu (qa_up m (7 + 26 * p) o) (m 0).toNat, 0, qa_up m (7 + 26 * p) o)
def so_alone (m : Int → Int) (p : Int) : sp_R :=
  if ¬ (0 ≤ p ∧ p < m 0) then (-10, 0, m) else if m (7 + 26 * p) = -1 then (-6, sm_cu m (m 0).toNat, m) else (sm_cu (qa_up m (7 + 26 * p) (-1)) (m 0).toNat, 0, qa_up m (7 + 26 * p) (-1))
def so_bar (m : Int → Int) (t : Int) : sp_R := if ¬ (1 ≤ t ∧ t ≤ 48) then (-11, 0, m) else (m 1, 0, qa_up m 1 t)
def sm_bf (m : Int → Int) : Int → Int := fun k => m (134 + 2 * k)
def sm_vf (m : Int → Int) : Int → Int := fun k => m (135 + 2 * k)
def sm_e (m : Int → Int) (b : Int) : Int := sp_en (sm_bf m) b (m 2 - 1).toNat
/-- a tempo put in behind entry e - 1 -/
def sm_ins (m : Int → Int) (e b v : Int) : Int → Int := fun q => if q = 2 then m 2 + 1 else if 134 + 2 * e + 2 ≤ q ∧ q < 134 + 2 * (m 2 + 1) then m (q - 2) else if q = 134 + 2 * e then b else if q = 135 + 2 * e then v else m q
def so_tempo (m : Int → Int) (b v : Int) : sp_R :=
  if ¬ ((0 ≤ b ∧ b ≤ 999) ∧ 30 ≤ v ∧ v ≤ 240) then (-11, 0, m) else if sm_bf m (sm_e m b) = b then (m 2, 0, qa_up m (135 + 2 * sm_e m b) v) else if m 2 = 6 then (-7, sm_bf m 5, m) else (m 2 + 1, 0, sm_ins m (sm_e m b + 1) b v)
/-- a tick played -/
def sm_al (m : Int → Int) (tick : Int) : Nat → Int
  | 0 => 0
  | k + 1 => if sm_pi m k tick = -1 then sm_al m tick k else k
def sm_tick (m : Int → Int) (tick : Int) : Int → Int := fun q =>
  if 4 ≤ q ∧ q < 134 ∧ (q - 4) % 26 = 4 ∧ (q - 4) / 26 < m 0 ∧ sm_pi m ((q - 4) / 26) tick ≠ -1 then m q + 1
  else if 4 ≤ q ∧ q < 134 ∧ (q - 4) % 26 = 5 ∧ (q - 4) / 26 < m 0 ∧ sm_so m tick (m 0).toNat = 1 ∧ (q - 4) / 26 = sm_al m tick (m 0).toNat then m q + 1
  else m q
/-! a score after a change -/
theorem sm_cu_ext {m m' : Int → Int} : ∀ n : Nat, (∀ k : Int, 0 ≤ k → k < n → m' (7 + 26 * k) = m (7 + 26 * k)) → sm_cu m' n = sm_cu m n
  | 0, _ => rfl
  | n + 1, h => by
    unfold sm_cu
    rw [sm_cu_ext n (fun k h0 h1 => h k h0 (by omega)), h n (by omega) (by omega)]
theorem sR_Q.to {h h' : qa_H} {c : Nat} {m m' : Int → Int} (H : sR_Q h c m) (hb : 0 ≤ m 0 ∧ m 0 ≤ 5) (hh : ∀ q, c ≤ q → q < c + 3 → h' q = h q) (h0 : m' 0 = m 0) (hm : ∀ k : Int, 0 ≤ k → k < 5 → m' (7 + 26 * k) = m (7 + 26 * k)) : sR_Q h' c m' := by
  obtain ⟨src, mw, h1, h2, h3, h4⟩ := H
  refine ⟨src, mw, ?_, (hh _ (by omega) (by omega)).trans h2, (hh _ (by omega) (by omega)).trans h3, fun j j0 j1 => ?_⟩
  · rw [h0, sm_cu_ext _ (fun k k0 k1 => hm k k0 (by omega))]
    exact (hh _ (by omega) (by omega)).trans h1
  · rw [h4 j j0 j1]
    unfold sm_src
    rw [h0, hm j j0 j1]
theorem sR_T.to {h h' : qa_H} {c : Nat} {m m' : Int → Int} (H : sR_T h c m) (hb : 1 ≤ m 2 ∧ m 2 ≤ 6) (hh : ∀ q, c ≤ q → q < c + 3 → h' q = h q) (h2 : m' 2 = m 2) (hm : ∀ k : Int, 134 ≤ k → k < 146 → m' k = m k) : sR_T h' c m' := by
  obtain ⟨bars, vals, h1, h3, h4, h5⟩ := H
  refine ⟨bars, vals, ?_, (hh _ (by omega) (by omega)).trans h3, (hh _ (by omega) (by omega)).trans h4, fun j j0 j1 => ?_⟩
  · rw [h2]; exact (hh _ (by omega) (by omega)).trans h1
  · rw [h2] at j1
    rw [(h5 j j0 j1).1, (h5 j j0 j1).2]
    exact ⟨(hm _ (by omega) (by omega)).symm, (hm _ (by omega) (by omega)).symm⟩
theorem sR_S.setP {h h' : qa_H} {a : Nat} {m m' : Int → Int} {rf B i : Int} (H : sR_S h a m rf) (hk : sm_ok m B) (hi : 0 ≤ i ∧ i < 5) (hh : ∀ q, (q < sm_pa a i ∨ sm_pa a i + 3 ≤ q) → h' q = h q) (hm : ∀ k : Int, (k < 4 + 26 * i ∨ 30 + 26 * i ≤ k ∨ k = 7 + 26 * i) → m' k = m k) (hP : sR_P h' (sm_pa a i) m' i) : sR_S h' a m' rf := by
  obtain ⟨h1, h2, h3, h4, h5⟩ := H
  have e : ∀ j : Int, 0 ≤ j → sm_pa a j = a + 8 + 3 * j.toNat := fun j _ => rfl
  have ei := e i hi.1
  have m0 : m' 0 = m 0 := hm 0 (by omega)
  refine ⟨?_, (hh _ (by omega)).trans h2, h3.to hk.1 (fun q q0 q1 => hh q (by omega)) m0 (fun k k0 k1 => hm _ (by omega)), h4.to hk.2.2.1 (fun q q0 q1 => hh q (by omega)) (hm 2 (by omega)) (fun k k0 k1 => hm k (by omega)), fun j j0 j1 => ?_⟩
  · rw [m0, hm 1 (by omega), hm 3 (by omega)]
    exact (hh _ (by omega)).trans h1
  · by_cases hj : j = i
    · rw [hj]; exact hP
    · have ej := e j j0
      exact (h5 j j0 j1).to (fun q q0 q1 => hh q (by omega)) (fun k k0 k1 => hm k (by omega)) (hk.2.2.2.2.1 j j0 j1).1 (Or.inl (by rw [m0]))
theorem sR_S.setA {h h' : qa_H} {a : Nat} {m m' : Int → Int} {rf rf' B : Int} (H : sR_S h a m rf) (hk : sm_ok m B) (hh : ∀ q, q ≠ a → h' q = h q) (hm : ∀ k : Int, (k = 0 ∨ k = 2 ∨ 4 ≤ k) → m' k = m k) (hA : h' a = some (qa_ScF a (m' 0) (m' 1) (m' 3) rf')) : sR_S h' a m' rf' := by
  obtain ⟨h1, h2, h3, h4, h5⟩ := H
  have m0 : m' 0 = m 0 := hm 0 (by omega)
  refine ⟨hA, (hh _ (by omega)).trans h2, h3.to hk.1 (fun q q0 q1 => hh q (by omega)) m0 (fun k k0 k1 => hm _ (by omega)), h4.to hk.2.2.1 (fun q q0 q1 => hh q (by omega)) (hm 2 (by omega)) (fun k k0 k1 => hm k (by omega)), fun j j0 j1 => ?_⟩
  have ej : sm_pa a j = a + 8 + 3 * j.toNat := rfl
  exact (h5 j j0 j1).to (fun q q0 q1 => hh q (by omega)) (fun k k0 k1 => hm k (by omega)) (hk.2.2.2.2.1 j j0 j1).1 (Or.inl (by rw [m0]))
theorem sR_S.setQ {h h' : qa_H} {a : Nat} {m m' : Int → Int} {rf B : Int} (H : sR_S h a m rf) (hk : sm_ok m B) (hh : ∀ q, (q < a + 2 ∨ a + 5 ≤ q) → h' q = h q) (hm : ∀ k : Int, (k < 4 ∨ 134 ≤ k ∨ (k - 4) % 26 ≠ 3) → m' k = m k) (hQ : sR_Q h' (a + 2) m') : sR_S h' a m' rf := by
  obtain ⟨h1, h2, h3, h4, h5⟩ := H
  have m0 : m' 0 = m 0 := hm 0 (by omega)
  refine ⟨?_, (hh _ (by omega)).trans h2, hQ, h4.to hk.2.2.1 (fun q q0 q1 => hh q (by omega)) (hm 2 (by omega)) (fun k k0 k1 => hm k (by omega)), fun j j0 j1 => ?_⟩
  · rw [m0, hm 1 (by omega), hm 3 (by omega)]
    exact (hh _ (by omega)).trans h1
  · obtain ⟨p, l, u, d, q1, q2, q3, q4, q5, q6⟩ := h5 j j0 j1
    have ej : sm_pa a j = a + 8 + 3 * j.toNat := rfl
    have hn := (hk.2.2.2.2.1 j j0 j1).1
    have en : sm_n m' j = sm_n m j := hm _ (by omega)
    have el : ∀ x : Int, 0 ≤ x → x < sm_n m j → sm_lf m' j x = sm_lf m j x ∧ sm_pf m' j x = sm_pf m j x := fun x x0 x1 => ⟨hm _ (by omega), hm _ (by omega)⟩
    have ew : sm_wh m' j = sm_wh m j := by
      unfold sm_wh
      rw [en]
      have : ∀ k : Nat, (k : Int) ≤ sm_n m j → sp_su (sm_lf m' j) k = sp_su (sm_lf m j) k := by
        intro k
        induction k with
        | zero => intro _; rfl
        | succ k ih =>
          intro hk
          unfold sp_su
          rw [ih (by omega), (el k (by omega) (by omega)).1]
      exact this _ (by omega)
    refine ⟨p, l, u, d, ?_, (hh _ (by omega)).trans q2, (hh _ (by omega)).trans q3, ?_, ?_, fun x x0 x1 => ?_⟩
    · rw [en, ew, hm (8 + 26 * j) (by omega), hm (9 + 26 * j) (by omega)]
      exact (hh _ (by omega)).trans q1
    · rw [m0, hm (5 + 26 * j) (by omega), hm (6 + 26 * j) (by omega)]; exact q4
    · rw [m0]; exact q5
    · rw [en] at x1
      rw [(q6 x x0 x1).1, (q6 x x0 x1).2, (el x x0 x1).1, (el x x0 x1).2]
      exact ⟨rfl, rfl⟩
theorem sR_S.setT {h h' : qa_H} {a : Nat} {m m' : Int → Int} {rf B : Int} (H : sR_S h a m rf) (hk : sm_ok m B) (hh : ∀ q, (q < a + 5 ∨ a + 8 ≤ q) → h' q = h q) (hm : ∀ k : Int, k < 134 → k ≠ 2 → m' k = m k) (hT : sR_T h' (a + 5) m') : sR_S h' a m' rf := by
  obtain ⟨h1, h2, h3, h4, h5⟩ := H
  have m0 : m' 0 = m 0 := hm 0 (by omega) (by omega)
  refine ⟨?_, (hh _ (by omega)).trans h2, h3.to hk.1 (fun q q0 q1 => hh q (by omega)) m0 (fun k k0 k1 => hm _ (by omega) (by omega)), hT, fun j j0 j1 => ?_⟩
  · rw [m0, hm 1 (by omega) (by omega), hm 3 (by omega) (by omega)]
    exact (hh _ (by omega)).trans h1
  · have ej : sm_pa a j = a + 8 + 3 * j.toNat := rfl
    exact (h5 j j0 j1).to (fun q q0 q1 => hh q (by omega)) (fun k k0 k1 => hm k (by omega) (by omega)) (hk.2.2.2.2.1 j j0 j1).1 (Or.inl (by rw [m0]))
/-- the end of a change -/
def qa_Ch (a : Nat) (σ : qa_S) (rf : Int) (r : sp_R) : qa_O → qa_S → Prop := fun o9 τ => o9 = .inl (some (.int (qa_i r.1))) ∧ τ.2 = σ.2 ∧ (∀ q, (q < a ∨ a + 23 ≤ q) → τ.1 q = σ.1 q) ∧ ∃ rf' : Int, sR_S τ.1 a r.2.2 rf' ∧ (-9 ≤ r.1 → r.1 < 0 → rf' = r.2.1)
theorem sp_su_ext {l l' : Int → Int} {n : Int} (h : ∀ j : Int, 0 ≤ j → j < n → l j = l' j) : ∀ k : Nat, (k : Int) ≤ n → sp_su l k = sp_su l' k
  | 0, _ => rfl
  | k + 1, hk => by unfold sp_su; rw [sp_su_ext h k (by omega), h k (by omega) (by omega)]
theorem qa_Ch.bad {σ : qa_S} {a : Nat} {m : Int → Int} {rf ans : Int} {r : sp_R} (hr : r = (ans, 0, m)) (ha : ans < -9) (H : sR_S σ.1 a m rf) : qa_Ch a σ rf r (.inl (some (.int (qa_i ans)))) σ := by
  subst hr
  exact ⟨rfl, rfl, fun _ _ => rfl, rf, H, fun h => absurd h (by show ¬ (-9 ≤ ans); omega)⟩
theorem qa_Ch.ref {σ τ : qa_S} {a : Nat} {m : Int → Int} {rf why what B : Int} {r : sp_R} (hr : r = (-why, what, m)) (H : sR_S σ.1 a m rf) (hk : sm_ok m B) (he : τ.2 = σ.2) (hA : τ.1 a = some (qa_ScF a (m 0) (m 1) (m 3) what)) (hf : ∀ q, q ≠ a → τ.1 q = σ.1 q) : qa_Ch a σ rf r (.inl (some (.int (qa_i (-why))))) τ := by
  subst hr
  exact ⟨rfl, he, fun q hq => hf q (by omega), what, H.setA hk hf (fun _ _ => rfl) hA, fun _ _ => rfl⟩
theorem qa_Ch.done {σ τ : qa_S} {a : Nat} {m' : Int → Int} {rf rf' ans det : Int} {r : sp_R} (hr : r = (ans, det, m')) (h0 : 0 ≤ ans) (he : τ.2 = σ.2) (hf : ∀ q, (q < a ∨ a + 23 ≤ q) → τ.1 q = σ.1 q) (H : sR_S τ.1 a m' rf') : qa_Ch a σ rf r (.inl (some (.int (qa_i ans)))) τ := by
  subst hr
  exact ⟨rfl, he, hf, rf', H, fun _ h => absurd h (by show ¬ ans < 0; omega)⟩
/-- a part's slice, one place changed -/
theorem sm_up_n {m : Int → Int} {k v i : Int} (h : k ≠ 4 + 26 * i) : sm_n (qa_up m k v) i = sm_n m i := qa_up_ne (Ne.symm h)
theorem sm_wh_ext {m m' : Int → Int} {i : Int} (hn : 0 ≤ sm_n m i) (en : sm_n m' i = sm_n m i) (h : ∀ j : Int, 0 ≤ j → j < sm_n m i → sm_lf m' i j = sm_lf m i j) : sm_wh m' i = sm_wh m i := by
  unfold sm_wh
  rw [en, sp_su_ext h _ (by omega)]
