/-! the model whole -/
def qM_let (j : Int) : Int := match j with | 0 => 112 | 1 => 97 | 2 => 114 | 3 => 116 | 4 => 110 | 5 => 111 | 6 => 116 | 7 => 101 | 8 => 32 | 9 => 114 | 10 => 101 | 11 => 115 | 12 => 116 | 13 => 32 | 14 => 108 | 15 => 97 | 16 => 115 | 17 => 116 | 18 => 32 | 19 => 109 | 20 => 111 | 21 => 118 | 22 => 101 | 23 => 32 | 24 => 116 | 25 => 117 | 26 => 110 | 27 => 101 | 28 => 32 | 29 => 99 | 30 => 117 | 31 => 101 | 32 => 32 | 33 => 97 | 34 => 108 | 35 => 111 | 36 => 110 | 37 => 101 | 38 => 32 | 39 => 98 | 40 => 97 | 41 => 114 | 42 => 32 | 43 => 116 | 44 => 101 | 45 => 109 | 46 => 112 | 47 => 111 | 48 => 32 | 49 => 112 | 50 => 108 | 51 => 97 | 52 => 121 | 53 => 32 | _ => 0
def qM_beg (j : Int) : Int := match j with | 0 => 0 | 1 => 4 | 2 => 9 | 3 => 14 | 4 => 19 | 5 => 24 | 6 => 29 | 7 => 33 | 8 => 39 | 9 => 43 | 10 => 49 | 11 => 54 | _ => 0
def sR_M (h : qa_H) (μ : Nat) (f : Nat → Int) (m sv ps ip li : Int → Int) : Prop :=
  (h μ = some (qa_MoF μ f) ∧ h (μ + 1) = some (qa_ia 146 m)) ∧ (∃ as : Int → Int, h (μ + 2) = some (qa_ia 146 as)) ∧ h (μ + 3) = some (qa_ia 146 sv) ∧ h (μ + 4) = some (qa_ia 1168 ps) ∧ h (μ + 5) = some (qa_ia 60 ip) ∧ (∃ tb : Int → Int, h (μ + 6) = some (qa_ia 121 tb)) ∧ h (μ + 7) = some (qa_ia 120 li) ∧ h (μ + 8) = some (qa_ca 54 qM_let) ∧ h (μ + 9) = some (qa_ia 12 qM_beg) ∧ ∃ cm : Int → Int, h (μ + 10) = some (qa_ia 244 cm)
theorem sR_M.fr {h h' : qa_H} {μ : Nat} {f : Nat → Int} {m sv ps ip li : Int → Int} (H : sR_M h μ f m sv ps ip li) (hf : ∀ q, μ ≤ q → q < μ + 11 → h' q = h q) : sR_M h' μ f m sv ps ip li := by
  obtain ⟨⟨a, b⟩, ⟨as, c⟩, d, e, g, ⟨tb, i⟩, j, k, l, cm, n⟩ := H
  exact ⟨⟨(hf _ (by omega) (by omega)).trans a, (hf _ (by omega) (by omega)).trans b⟩, ⟨as, (hf _ (by omega) (by omega)).trans c⟩, (hf _ (by omega) (by omega)).trans d, (hf _ (by omega) (by omega)).trans e, (hf _ (by omega) (by omega)).trans g, ⟨tb, (hf _ (by omega) (by omega)).trans i⟩, (hf _ (by omega) (by omega)).trans j, (hf _ (by omega) (by omega)).trans k, (hf _ (by omega) (by omega)).trans l, cm, (hf _ (by omega) (by omega)).trans n⟩
theorem sR_M.setF {h h' : qa_H} {μ : Nat} {f f' : Nat → Int} {m sv ps ip li : Int → Int} (H : sR_M h μ f m sv ps ip li) (hf : ∀ q, q ≠ μ → h' q = h q) (hM : h' μ = some (qa_MoF μ f')) : sR_M h' μ f' m sv ps ip li := by
  obtain ⟨⟨a, b⟩, ⟨as, c⟩, d, e, g, ⟨tb, i⟩, j, k, l, cm, n⟩ := H
  exact ⟨⟨hM, (hf _ (by omega)).trans b⟩, ⟨as, (hf _ (by omega)).trans c⟩, (hf _ (by omega)).trans d, (hf _ (by omega)).trans e, (hf _ (by omega)).trans g, ⟨tb, (hf _ (by omega)).trans i⟩, (hf _ (by omega)).trans j, (hf _ (by omega)).trans k, (hf _ (by omega)).trans l, cm, (hf _ (by omega)).trans n⟩
theorem so_pl_b (k : Nat) (a : Int) : 1 ≤ so_pl k a ∧ so_pl k a ≤ 3 := by
  unfold so_pl
  split <;> (repeat' split) <;> omega
/-- what a change leaves in the model, beside its data -/
def sM_ch (f f' : Nat → Int) (ps ps' m : Int → Int) (k : Nat) (r : sp_R) : Prop :=
  f' 12 = (if r.1 < 0 then so_pl k r.1 else 0) ∧ (f' 3 = f 3 ∧ f' 6 = f 6 ∧ f' 14 = f 14 ∧ f' 19 = f 19) ∧ (r.1 < 0 → f' 5 = f 5 ∧ ps' = ps) ∧
  (0 ≤ r.1 → f' 5 = (if f 5 = 8 then 8 else f 5 + 1) ∧ ∀ j q : Int, 0 ≤ j → j < f' 5 → 0 ≤ q → q < 146 → ps' (146 * j + q) = if j = f' 5 - 1 then m q else ps (146 * (if f 5 = 8 then j + 1 else j) + q)) ∧
  (-9 ≤ r.1 ∧ r.1 < 0 → f' 7 = -r.1 ∧ f' 8 = r.2.1 ∧ f' 9 = -1) ∧ (¬ (-9 ≤ r.1 ∧ r.1 < 0) → f' 7 = f 7 ∧ f' 8 = f 8 ∧ f' 9 = f 9)
theorem sM_ph {f : Nat → Int} {as as0 ps m : Int → Int} (h12 : ¬ 0 < f 12) (h5 : 0 ≤ f 5 ∧ f 5 ≤ 8) (ha : as = qa_cp m as0 0 0 146) {n5 : Int} (hn : n5 = if f 5 = 8 then 8 else f 5 + 1) : ∀ j q : Int, 0 ≤ j → j < n5 → 0 ≤ q → q < 146 → sm_ph f as ps (146 * j + q) = if j = n5 - 1 then m q else ps (146 * (if f 5 = 8 then j + 1 else j) + q) := by
  intro j q j0 j1 q0 q1
  unfold sm_ph
  rw [if_neg h12]
  have hm : ∀ x : Int, 0 ≤ x → x < 146 → as x = m x := fun x x0 x1 => by rw [ha, qa_cp_in (by omega)]; congr 1; omega
  by_cases h8 : f 5 = 8
  · rw [if_pos h8] at hn
    rw [if_pos h8, if_pos h8]
    by_cases hj : j = n5 - 1
    · rw [if_pos hj, qa_cp_in (by omega), hm _ (by omega) (by omega)]
      congr 1
      omega
    · rw [if_neg hj, qa_cp_out (by omega), qa_cp_in (by omega)]
      congr 1
      omega
  · rw [if_neg h8] at hn
    rw [if_neg h8, if_neg h8]
    by_cases hj : j = n5 - 1
    · rw [if_pos hj, qa_cp_in (by omega), hm _ (by omega) (by omega)]
      congr 1
      omega
    · rw [if_neg hj, qa_cp_out (by omega)]
theorem sM_ch_of {f : Nat → Int} {as0 ps m : Int → Int} {k : Nat} {r : sp_R} (h5 : 0 ≤ f 5 ∧ f 5 ≤ 8) : sM_ch f (sN_ch (sN_it (sN_put (sN_put f 12 0) 10 0) k r)) ps (sm_ph (sN_it (sN_put (sN_put f 12 0) 10 0) k r) (qa_cp m as0 0 0 146) ps) m k r := by
  have hp := so_pl_b k r.1
  by_cases h1 : r.1 < -9
  · have e2 : sN_it (sN_put (sN_put f 12 0) 10 0) k r = sN_put (sN_put (sN_put f 12 0) 10 0) 12 (so_pl k r.1) := if_pos h1
    rw [e2]
    have e3 : sN_ch (sN_put (sN_put (sN_put f 12 0) 10 0) 12 (so_pl k r.1)) = sN_put (sN_put (sN_put f 12 0) 10 0) 12 (so_pl k r.1) := (if_pos (show 0 < so_pl k r.1 by omega)).trans (if_neg (show ¬ (0 : Int) < 0 by omega))
    have e4 : ∀ as : Int → Int, sm_ph (sN_put (sN_put (sN_put f 12 0) 10 0) 12 (so_pl k r.1)) as ps = ps := fun as => if_pos (show 0 < so_pl k r.1 by omega)
    rw [e3, e4]
    exact ⟨(if_pos (by omega)).symm, ⟨rfl, rfl, rfl, rfl⟩, fun _ => ⟨rfl, rfl⟩, fun h => absurd h (by omega), fun h => absurd h (by omega), fun _ => ⟨rfl, rfl, rfl⟩⟩
  · by_cases h2 : r.1 < 0
    · have e2 : sN_it (sN_put (sN_put f 12 0) 10 0) k r = sN_put (sN_put (sN_put (sN_put (sN_put f 12 0) 10 0) 10 (-r.1)) 11 r.2.1) 12 (so_pl k r.1) := (if_neg h1).trans (if_pos h2)
      rw [e2]
      have e3 : sN_ch (sN_put (sN_put (sN_put (sN_put (sN_put f 12 0) 10 0) 10 (-r.1)) 11 r.2.1) 12 (so_pl k r.1)) = sN_put (sN_put (sN_put (sN_put (sN_put (sN_put (sN_put (sN_put f 12 0) 10 0) 10 (-r.1)) 11 r.2.1) 12 (so_pl k r.1)) 7 (-r.1)) 8 r.2.1) 9 (-1) := (if_pos (show 0 < so_pl k r.1 by omega)).trans (if_pos (show 0 < -r.1 by omega))
      have e4 : ∀ as : Int → Int, sm_ph (sN_put (sN_put (sN_put (sN_put (sN_put f 12 0) 10 0) 10 (-r.1)) 11 r.2.1) 12 (so_pl k r.1)) as ps = ps := fun as => if_pos (show 0 < so_pl k r.1 by omega)
      rw [e3, e4]
      exact ⟨(if_pos h2).symm, ⟨rfl, rfl, rfl, rfl⟩, fun _ => ⟨rfl, rfl⟩, fun h => absurd h (by omega), fun _ => ⟨rfl, rfl, rfl⟩, fun h => absurd (And.intro (by omega) h2) h⟩
    · have e2 : sN_it (sN_put (sN_put f 12 0) 10 0) k r = sN_put (sN_put f 12 0) 10 0 := (if_neg h1).trans (if_neg h2)
      rw [e2]
      have e3 : sN_ch (sN_put (sN_put f 12 0) 10 0) = sN_put (sN_put (sN_put f 12 0) 10 0) 5 (if f 5 = 8 then 8 else f 5 + 1) := if_neg (show ¬ (0 : Int) < 0 by omega)
      rw [e3]
      refine ⟨(if_neg h2).symm, ⟨rfl, rfl, rfl, rfl⟩, fun h => absurd h h2, fun _ => ⟨rfl, ?_⟩, fun h => absurd h.2 h2, fun _ => ⟨rfl, rfl, rfl⟩⟩
      exact sM_ph (f := sN_put (sN_put f 12 0) 10 0) (show ¬ (0 : Int) < 0 by omega) h5 rfl rfl
/-- what change k of the model does: r is its spec -/
def qa_Mc (σ : qa_S) (μ : Nat) (f : Nat → Int) (m sv ps ip li : Int → Int) (k : Nat) (r : sp_R) : qa_O → qa_S → Prop := fun o9 τ => o9 = .inl (some (.int (qa_i (if r.1 < 0 then -1 else r.1)))) ∧ τ.2 = σ.2 ∧ (∀ q, (q < μ ∨ μ + 11 ≤ q) → τ.1 q = σ.1 q) ∧ ∃ (f' : Nat → Int) (m' ps' : Int → Int), sR_M τ.1 μ f' m' sv ps' ip li ∧ sm_eqv m' r.2.2 ∧ sM_ch f f' ps ps' m k r
theorem sN_it_b {f : Nat → Int} {k : Nat} {r : sp_R} {m : Int → Int} {B : Int} (h5 : 0 ≤ f 5 ∧ f 5 ≤ 8) (h : sm_rk m B r) : (0 ≤ sN_it (sN_put (sN_put f 12 0) 10 0) k r 5 ∧ sN_it (sN_put (sN_put f 12 0) 10 0) k r 5 ≤ 8) ∧ qa_in (sN_it (sN_put (sN_put f 12 0) 10 0) k r 12) ∧ qa_in (sN_it (sN_put (sN_put f 12 0) 10 0) k r 10) := by
  have hp := so_pl_b k r.1
  have hr := h.2.1
  unfold sN_it
  split
  · exact ⟨h5, (show qa_in (so_pl k r.1) by omega), (show qa_in 0 by omega)⟩
  · split
    · exact ⟨h5, (show qa_in (so_pl k r.1) by omega), (show qa_in (-r.1) by omega)⟩
    · exact ⟨h5, (show qa_in 0 by omega), (show qa_in 0 by omega)⟩
theorem so_nt_m1 (m : Int → Int) (p y : Int) : so_note m p (-1) y = so_nt m p (-1) y := by
  unfold so_nt
  rw [if_neg (by omega)]
theorem c_M_addPart {E : qa_V} {σ : qa_S} {μ : Nat} {f : Nat → Int} {m sv ps ip li : Int → Int} {B : Int}  (hlo : E.1 ≤ μ) (hR : sR_M σ.1 μ f m sv ps ip li) (hk : sm_ok m B) (h5 : 0 ≤ f 5 ∧ f 5 ≤ 8)  : qa_T E qm_M_addPart 0 0 [.ref μ] σ (qa_Mc σ μ f m sv ps ip li 0 (so_part m)) := by
  refine qa_enterQ (by decide) rfl qm_M_addPart_ok rfl rfl (fun Q9 hQ => ?_)
  obtain ⟨k0, k1, k2, k3, k4, k5, k6, k7, k8⟩ := id hk
  obtain ⟨⟨hM, hm⟩, ⟨as, ha⟩, hsv, hps, hip, ⟨tb, htb⟩, hli, hlt, hbg, cm, hcm⟩ := hR
  refine qa_aload_n (pc' := 1) ⟨rfl, rfl⟩ rfl ?_
  refine qa_callV rfl qf_M_starts ql_10_101 (c_M_starts (E := E) hlo hM hm ha) hM rfl rfl rfl (qa_lt9 rfl) (qa_le9 rfl) (qa_le9 rfl) (qa_le9 rfl) (fun o9 τ9 hq9 => ?_)
  obtain ⟨rfl, e1, hM1, ha1, f1⟩ := hq9
  refine qa_nx (pc' := 4) (st' := []) rfl rfl rfl rfl ?_
  have hm1 := (f1 (μ + 1) (by omega)).trans hm
  refine qa_aload_n (pc' := 5) ⟨rfl, rfl⟩ rfl ?_
  refine qa_aload_n (pc' := 6) ⟨rfl, rfl⟩ rfl ?_
  refine qa_callV rfl qf_M_partIt ql_10_104 (c_M_partIt (E := E) (f := (sN_put (sN_put f 12 0) 10 0)) hlo hM1 hm1 hk) hM1 rfl rfl rfl (qa_lt9 rfl) (qa_le9 rfl) (qa_le9 rfl) (qa_le9 rfl) (fun o9 τ9 hq9 => ?_)
  obtain ⟨rfl, e2, hM2, ⟨m2, hm2, hv2⟩, f2⟩ := hq9
  refine qa_nx (pc' := 9) (st' := [_, _]) rfl rfl rfl rfl ?_
  have ha2 := (f2 (μ + 2) (by omega)).trans ha1
  have hps2 := (f2 (μ + 4) (by omega)).trans ((f1 (μ + 4) (by omega)).trans hps)
  have h9 := sN_it_b (f := f) (k := 0) (r := so_part m) h5 ((so_part_ok hk))
  refine qa_callV rfl qf_M_changed ql_10_108 (c_M_changed (E := E) (f := sN_it (sN_put (sN_put f 12 0) 10 0) 0 (so_part m)) hlo hM2 ha2 hps2 h9.1 h9.2) hM2 rfl rfl rfl (qa_lt9 rfl) (qa_le9 rfl) (qa_le9 rfl) (qa_le9 rfl) (fun o9 τ9 hq9 => ?_)
  obtain ⟨rfl, e3, hM3, hps3, f3⟩ := hq9
  refine qa_nx (pc' := 12) (st' := [_]) rfl rfl rfl rfl ?_
  refine qa_ireturn rfl rfl rfl (hQ _ _ ⟨rfl, e3.trans (e2.trans e1), fun q hq => (f3 q (by omega)).trans ((f2 q (by omega)).trans (f1 q (by omega))), _, m2, _, ⟨⟨hM3, (f3 _ (by omega)).trans hm2⟩, ⟨_, (f3 _ (by omega)).trans ha2⟩, (f3 _ (by omega)).trans ((f2 _ (by omega)).trans ((f1 _ (by omega)).trans hsv)), hps3, (f3 _ (by omega)).trans ((f2 _ (by omega)).trans ((f1 _ (by omega)).trans hip)), ⟨tb, (f3 _ (by omega)).trans ((f2 _ (by omega)).trans ((f1 _ (by omega)).trans htb))⟩, (f3 _ (by omega)).trans ((f2 _ (by omega)).trans ((f1 _ (by omega)).trans hli)), (f3 _ (by omega)).trans ((f2 _ (by omega)).trans ((f1 _ (by omega)).trans hlt)), (f3 _ (by omega)).trans ((f2 _ (by omega)).trans ((f1 _ (by omega)).trans hbg)), cm, (f3 _ (by omega)).trans ((f2 _ (by omega)).trans ((f1 _ (by omega)).trans hcm))⟩, hv2, sM_ch_of h5⟩)
theorem c_M_addNote {E : qa_V} {σ : qa_S} {μ : Nat} {f : Nat → Int} {m sv ps ip li : Int → Int} {B : Int} {p x y : Int} (hlo : E.1 ≤ μ) (hR : sR_M σ.1 μ f m sv ps ip li) (hk : sm_ok m B) (h5 : 0 ≤ f 5 ∧ f 5 ≤ 8) (hp : qa_in p) (hx : qa_in x) (hy : qa_in y) : qa_T E qm_M_addNote 0 0 [.ref μ, .int (qa_i p), .int (qa_i x), .int (qa_i y)] σ (qa_Mc σ μ f m sv ps ip li 1 (so_pitch m p x y)) := by
  refine qa_enterQ (by decide) rfl qm_M_addNote_ok rfl rfl (fun Q9 hQ => ?_)
  obtain ⟨k0, k1, k2, k3, k4, k5, k6, k7, k8⟩ := id hk
  obtain ⟨⟨hM, hm⟩, ⟨as, ha⟩, hsv, hps, hip, ⟨tb, htb⟩, hli, hlt, hbg, cm, hcm⟩ := hR
  refine qa_aload_n (pc' := 1) ⟨rfl, rfl⟩ rfl ?_
  refine qa_callV rfl qf_M_starts ql_10_101 (c_M_starts (E := E) hlo hM hm ha) hM rfl rfl rfl (qa_lt9 rfl) (qa_le9 rfl) (qa_le9 rfl) (qa_le9 rfl) (fun o9 τ9 hq9 => ?_)
  obtain ⟨rfl, e1, hM1, ha1, f1⟩ := hq9
  refine qa_nx (pc' := 4) (st' := []) rfl rfl rfl rfl ?_
  have hm1 := (f1 (μ + 1) (by omega)).trans hm
  rw [so_nt_pitch] at hQ
  refine qa_aload_n (pc' := 5) ⟨rfl, rfl⟩ rfl ?_
  refine qa_aload_n (pc' := 6) ⟨rfl, rfl⟩ rfl ?_
  refine qa_iload_n (pc' := 7) ⟨rfl, rfl⟩ rfl ?_
  refine qa_iload_n (pc' := 8) ⟨rfl, rfl⟩ rfl ?_
  refine qa_if_ge (pc' := 11) (tgt := 16) ⟨rfl, rfl⟩ rfl (by omega) (fun hc1 => ?_) (fun hc1 => ?_)
  · have ex : (if x < 0 then 36 else x) = x := if_neg (by omega)
    rw [ex] at hQ
    have hrk : sm_rk m B (so_nt m p x y) := by have := so_pitch_ok (p := p) (x := x) (y := y) hk; rw [so_nt_pitch, ex] at this; exact this
    refine qa_iload_n (pc' := 17) ⟨rfl, rfl⟩ rfl ?_
    refine qa_iload_n (pc' := 18) ⟨rfl, rfl⟩ rfl ?_
    refine qa_callV rfl qf_M_noteIt ql_10_121 (c_M_noteIt (E := E) (f := (sN_put (sN_put f 12 0) 10 0)) hlo hM1 hm1 hk hp hx hy (k := 1) ⟨rfl, rfl, rfl⟩) hM1 rfl rfl rfl (qa_lt9 rfl) (qa_le9 rfl) (qa_le9 rfl) (qa_le9 rfl) (fun o9 τ9 hq9 => ?_)
    obtain ⟨rfl, e2, hM2, ⟨m2, hm2, hv2⟩, f2⟩ := hq9
    refine qa_nx (pc' := 21) (st' := [_, _]) rfl rfl rfl rfl ?_
    have ha2 := (f2 (μ + 2) (by omega)).trans ha1
    have hps2 := (f2 (μ + 4) (by omega)).trans ((f1 (μ + 4) (by omega)).trans hps)
    have h9 := sN_it_b (f := f) (k := 1) (r := so_nt m p x y) h5 ((hrk))
    refine qa_callV rfl qf_M_changed ql_10_108 (c_M_changed (E := E) (f := sN_it (sN_put (sN_put f 12 0) 10 0) 1 (so_nt m p x y)) hlo hM2 ha2 hps2 h9.1 h9.2) hM2 rfl rfl rfl (qa_lt9 rfl) (qa_le9 rfl) (qa_le9 rfl) (qa_le9 rfl) (fun o9 τ9 hq9 => ?_)
    obtain ⟨rfl, e3, hM3, hps3, f3⟩ := hq9
    refine qa_nx (pc' := 24) (st' := [_]) rfl rfl rfl rfl ?_
    refine qa_ireturn rfl rfl rfl (hQ _ _ ⟨rfl, e3.trans (e2.trans e1), fun q hq => (f3 q (by omega)).trans ((f2 q (by omega)).trans (f1 q (by omega))), _, m2, _, ⟨⟨hM3, (f3 _ (by omega)).trans hm2⟩, ⟨_, (f3 _ (by omega)).trans ha2⟩, (f3 _ (by omega)).trans ((f2 _ (by omega)).trans ((f1 _ (by omega)).trans hsv)), hps3, (f3 _ (by omega)).trans ((f2 _ (by omega)).trans ((f1 _ (by omega)).trans hip)), ⟨tb, (f3 _ (by omega)).trans ((f2 _ (by omega)).trans ((f1 _ (by omega)).trans htb))⟩, (f3 _ (by omega)).trans ((f2 _ (by omega)).trans ((f1 _ (by omega)).trans hli)), (f3 _ (by omega)).trans ((f2 _ (by omega)).trans ((f1 _ (by omega)).trans hlt)), (f3 _ (by omega)).trans ((f2 _ (by omega)).trans ((f1 _ (by omega)).trans hbg)), cm, (f3 _ (by omega)).trans ((f2 _ (by omega)).trans ((f1 _ (by omega)).trans hcm))⟩, hv2, sM_ch_of h5⟩)
  · have ex : (if x < 0 then 36 else x) = 36 := if_pos (by omega)
    rw [ex] at hQ
    have hrk : sm_rk m B (so_nt m p 36 y) := by have := so_pitch_ok (p := p) (x := x) (y := y) hk; rw [so_nt_pitch, ex] at this; exact this
    refine qa_bipush (z := 36) (pc' := 13) ⟨rfl, rfl⟩ rfl ?_
    refine qa_goto (pc' := 16) (tgt := 17) ⟨rfl, rfl⟩ rfl ?_
    refine qa_iload_n (pc' := 18) ⟨rfl, rfl⟩ rfl ?_
    refine qa_callV rfl qf_M_noteIt ql_10_121 (c_M_noteIt (E := E) (f := (sN_put (sN_put f 12 0) 10 0)) hlo hM1 hm1 hk hp (by omega) hy (k := 1) ⟨rfl, rfl, rfl⟩) hM1 rfl rfl rfl (qa_lt9 rfl) (qa_le9 rfl) (qa_le9 rfl) (qa_le9 rfl) (fun o9 τ9 hq9 => ?_)
    obtain ⟨rfl, e2, hM2, ⟨m2, hm2, hv2⟩, f2⟩ := hq9
    refine qa_nx (pc' := 21) (st' := [_, _]) rfl rfl rfl rfl ?_
    have ha2 := (f2 (μ + 2) (by omega)).trans ha1
    have hps2 := (f2 (μ + 4) (by omega)).trans ((f1 (μ + 4) (by omega)).trans hps)
    have h9 := sN_it_b (f := f) (k := 1) (r := so_nt m p 36 y) h5 ((hrk))
    refine qa_callV rfl qf_M_changed ql_10_108 (c_M_changed (E := E) (f := sN_it (sN_put (sN_put f 12 0) 10 0) 1 (so_nt m p 36 y)) hlo hM2 ha2 hps2 h9.1 h9.2) hM2 rfl rfl rfl (qa_lt9 rfl) (qa_le9 rfl) (qa_le9 rfl) (qa_le9 rfl) (fun o9 τ9 hq9 => ?_)
    obtain ⟨rfl, e3, hM3, hps3, f3⟩ := hq9
    refine qa_nx (pc' := 24) (st' := [_]) rfl rfl rfl rfl ?_
    refine qa_ireturn rfl rfl rfl (hQ _ _ ⟨rfl, e3.trans (e2.trans e1), fun q hq => (f3 q (by omega)).trans ((f2 q (by omega)).trans (f1 q (by omega))), _, m2, _, ⟨⟨hM3, (f3 _ (by omega)).trans hm2⟩, ⟨_, (f3 _ (by omega)).trans ha2⟩, (f3 _ (by omega)).trans ((f2 _ (by omega)).trans ((f1 _ (by omega)).trans hsv)), hps3, (f3 _ (by omega)).trans ((f2 _ (by omega)).trans ((f1 _ (by omega)).trans hip)), ⟨tb, (f3 _ (by omega)).trans ((f2 _ (by omega)).trans ((f1 _ (by omega)).trans htb))⟩, (f3 _ (by omega)).trans ((f2 _ (by omega)).trans ((f1 _ (by omega)).trans hli)), (f3 _ (by omega)).trans ((f2 _ (by omega)).trans ((f1 _ (by omega)).trans hlt)), (f3 _ (by omega)).trans ((f2 _ (by omega)).trans ((f1 _ (by omega)).trans hbg)), cm, (f3 _ (by omega)).trans ((f2 _ (by omega)).trans ((f1 _ (by omega)).trans hcm))⟩, hv2, sM_ch_of h5⟩)
theorem c_M_addRest {E : qa_V} {σ : qa_S} {μ : Nat} {f : Nat → Int} {m sv ps ip li : Int → Int} {B : Int} {p y : Int} (hlo : E.1 ≤ μ) (hR : sR_M σ.1 μ f m sv ps ip li) (hk : sm_ok m B) (h5 : 0 ≤ f 5 ∧ f 5 ≤ 8) (hp : qa_in p) (hy : qa_in y) : qa_T E qm_M_addRest 0 0 [.ref μ, .int (qa_i p), .int (qa_i y)] σ (qa_Mc σ μ f m sv ps ip li 2 (so_note m p (-1) y)) := by
  refine qa_enterQ (by decide) rfl qm_M_addRest_ok rfl rfl (fun Q9 hQ => ?_)
  obtain ⟨k0, k1, k2, k3, k4, k5, k6, k7, k8⟩ := id hk
  obtain ⟨⟨hM, hm⟩, ⟨as, ha⟩, hsv, hps, hip, ⟨tb, htb⟩, hli, hlt, hbg, cm, hcm⟩ := hR
  refine qa_aload_n (pc' := 1) ⟨rfl, rfl⟩ rfl ?_
  refine qa_callV rfl qf_M_starts ql_10_101 (c_M_starts (E := E) hlo hM hm ha) hM rfl rfl rfl (qa_lt9 rfl) (qa_le9 rfl) (qa_le9 rfl) (qa_le9 rfl) (fun o9 τ9 hq9 => ?_)
  obtain ⟨rfl, e1, hM1, ha1, f1⟩ := hq9
  refine qa_nx (pc' := 4) (st' := []) rfl rfl rfl rfl ?_
  have hm1 := (f1 (μ + 1) (by omega)).trans hm
  rw [so_nt_m1] at hQ
  have hrk : sm_rk m B (so_nt m p (-1) y) := by rw [← so_nt_m1]; exact so_note_ok hk (by omega)
  refine qa_aload_n (pc' := 5) ⟨rfl, rfl⟩ rfl ?_
  refine qa_aload_n (pc' := 6) ⟨rfl, rfl⟩ rfl ?_
  refine qa_iload_n (pc' := 7) ⟨rfl, rfl⟩ rfl ?_
  refine qa_iconst (pc' := 8) ⟨rfl, rfl⟩ ?_
  refine qa_iload_n (pc' := 9) ⟨rfl, rfl⟩ rfl ?_
  refine qa_callV rfl qf_M_noteIt ql_10_121 (c_M_noteIt (E := E) (f := (sN_put (sN_put f 12 0) 10 0)) hlo hM1 hm1 hk hp (by omega) hy (k := 2) ⟨rfl, rfl, rfl⟩) hM1 rfl rfl rfl (qa_lt9 rfl) (qa_le9 rfl) (qa_le9 rfl) (qa_le9 rfl) (fun o9 τ9 hq9 => ?_)
  obtain ⟨rfl, e2, hM2, ⟨m2, hm2, hv2⟩, f2⟩ := hq9
  refine qa_nx (pc' := 12) (st' := [_, _]) rfl rfl rfl rfl ?_
  have ha2 := (f2 (μ + 2) (by omega)).trans ha1
  have hps2 := (f2 (μ + 4) (by omega)).trans ((f1 (μ + 4) (by omega)).trans hps)
  have h9 := sN_it_b (f := f) (k := 2) (r := so_nt m p (-1) y) h5 ((hrk))
  refine qa_callV rfl qf_M_changed ql_10_108 (c_M_changed (E := E) (f := sN_it (sN_put (sN_put f 12 0) 10 0) 2 (so_nt m p (-1) y)) hlo hM2 ha2 hps2 h9.1 h9.2) hM2 rfl rfl rfl (qa_lt9 rfl) (qa_le9 rfl) (qa_le9 rfl) (qa_le9 rfl) (fun o9 τ9 hq9 => ?_)
  obtain ⟨rfl, e3, hM3, hps3, f3⟩ := hq9
  refine qa_nx (pc' := 15) (st' := [_]) rfl rfl rfl rfl ?_
  refine qa_ireturn rfl rfl rfl (hQ _ _ ⟨rfl, e3.trans (e2.trans e1), fun q hq => (f3 q (by omega)).trans ((f2 q (by omega)).trans (f1 q (by omega))), _, m2, _, ⟨⟨hM3, (f3 _ (by omega)).trans hm2⟩, ⟨_, (f3 _ (by omega)).trans ha2⟩, (f3 _ (by omega)).trans ((f2 _ (by omega)).trans ((f1 _ (by omega)).trans hsv)), hps3, (f3 _ (by omega)).trans ((f2 _ (by omega)).trans ((f1 _ (by omega)).trans hip)), ⟨tb, (f3 _ (by omega)).trans ((f2 _ (by omega)).trans ((f1 _ (by omega)).trans htb))⟩, (f3 _ (by omega)).trans ((f2 _ (by omega)).trans ((f1 _ (by omega)).trans hli)), (f3 _ (by omega)).trans ((f2 _ (by omega)).trans ((f1 _ (by omega)).trans hlt)), (f3 _ (by omega)).trans ((f2 _ (by omega)).trans ((f1 _ (by omega)).trans hbg)), cm, (f3 _ (by omega)).trans ((f2 _ (by omega)).trans ((f1 _ (by omega)).trans hcm))⟩, hv2, sM_ch_of h5⟩)
theorem c_M_removeLast {E : qa_V} {σ : qa_S} {μ : Nat} {f : Nat → Int} {m sv ps ip li : Int → Int} {B : Int} {p : Int} (hlo : E.1 ≤ μ) (hR : sR_M σ.1 μ f m sv ps ip li) (hk : sm_ok m B) (h5 : 0 ≤ f 5 ∧ f 5 ≤ 8) (hp : qa_in p) : qa_T E qm_M_removeLast 0 0 [.ref μ, .int (qa_i p)] σ (qa_Mc σ μ f m sv ps ip li 3 (so_last m p)) := by
  refine qa_enterQ (by decide) rfl qm_M_removeLast_ok rfl rfl (fun Q9 hQ => ?_)
  obtain ⟨k0, k1, k2, k3, k4, k5, k6, k7, k8⟩ := id hk
  obtain ⟨⟨hM, hm⟩, ⟨as, ha⟩, hsv, hps, hip, ⟨tb, htb⟩, hli, hlt, hbg, cm, hcm⟩ := hR
  refine qa_aload_n (pc' := 1) ⟨rfl, rfl⟩ rfl ?_
  refine qa_callV rfl qf_M_starts ql_10_101 (c_M_starts (E := E) hlo hM hm ha) hM rfl rfl rfl (qa_lt9 rfl) (qa_le9 rfl) (qa_le9 rfl) (qa_le9 rfl) (fun o9 τ9 hq9 => ?_)
  obtain ⟨rfl, e1, hM1, ha1, f1⟩ := hq9
  refine qa_nx (pc' := 4) (st' := []) rfl rfl rfl rfl ?_
  have hm1 := (f1 (μ + 1) (by omega)).trans hm
  refine qa_aload_n (pc' := 5) ⟨rfl, rfl⟩ rfl ?_
  refine qa_aload_n (pc' := 6) ⟨rfl, rfl⟩ rfl ?_
  refine qa_iload_n (pc' := 7) ⟨rfl, rfl⟩ rfl ?_
  refine qa_callV rfl qf_M_lastIt ql_10_124 (c_M_lastIt (E := E) (f := (sN_put (sN_put f 12 0) 10 0)) hlo hM1 hm1 hk hp) hM1 rfl rfl rfl (qa_lt9 rfl) (qa_le9 rfl) (qa_le9 rfl) (qa_le9 rfl) (fun o9 τ9 hq9 => ?_)
  obtain ⟨rfl, e2, hM2, ⟨m2, hm2, hv2⟩, f2⟩ := hq9
  refine qa_nx (pc' := 10) (st' := [_, _]) rfl rfl rfl rfl ?_
  have ha2 := (f2 (μ + 2) (by omega)).trans ha1
  have hps2 := (f2 (μ + 4) (by omega)).trans ((f1 (μ + 4) (by omega)).trans hps)
  have h9 := sN_it_b (f := f) (k := 3) (r := so_last m p) h5 ((so_last_ok hk))
  refine qa_callV rfl qf_M_changed ql_10_108 (c_M_changed (E := E) (f := sN_it (sN_put (sN_put f 12 0) 10 0) 3 (so_last m p)) hlo hM2 ha2 hps2 h9.1 h9.2) hM2 rfl rfl rfl (qa_lt9 rfl) (qa_le9 rfl) (qa_le9 rfl) (qa_le9 rfl) (fun o9 τ9 hq9 => ?_)
  obtain ⟨rfl, e3, hM3, hps3, f3⟩ := hq9
  refine qa_nx (pc' := 13) (st' := [_]) rfl rfl rfl rfl ?_
  refine qa_ireturn rfl rfl rfl (hQ _ _ ⟨rfl, e3.trans (e2.trans e1), fun q hq => (f3 q (by omega)).trans ((f2 q (by omega)).trans (f1 q (by omega))), _, m2, _, ⟨⟨hM3, (f3 _ (by omega)).trans hm2⟩, ⟨_, (f3 _ (by omega)).trans ha2⟩, (f3 _ (by omega)).trans ((f2 _ (by omega)).trans ((f1 _ (by omega)).trans hsv)), hps3, (f3 _ (by omega)).trans ((f2 _ (by omega)).trans ((f1 _ (by omega)).trans hip)), ⟨tb, (f3 _ (by omega)).trans ((f2 _ (by omega)).trans ((f1 _ (by omega)).trans htb))⟩, (f3 _ (by omega)).trans ((f2 _ (by omega)).trans ((f1 _ (by omega)).trans hli)), (f3 _ (by omega)).trans ((f2 _ (by omega)).trans ((f1 _ (by omega)).trans hlt)), (f3 _ (by omega)).trans ((f2 _ (by omega)).trans ((f1 _ (by omega)).trans hbg)), cm, (f3 _ (by omega)).trans ((f2 _ (by omega)).trans ((f1 _ (by omega)).trans hcm))⟩, hv2, sM_ch_of h5⟩)
theorem c_M_transpose {E : qa_V} {σ : qa_S} {μ : Nat} {f : Nat → Int} {m sv ps ip li : Int → Int} {B : Int} {p x : Int} (hlo : E.1 ≤ μ) (hR : sR_M σ.1 μ f m sv ps ip li) (hk : sm_ok m B) (h5 : 0 ≤ f 5 ∧ f 5 ≤ 8) (hp : qa_in p) (hx : qa_in x) : qa_T E qm_M_transpose 0 0 [.ref μ, .int (qa_i p), .int (qa_i x)] σ (qa_Mc σ μ f m sv ps ip li 4 (so_move m p x)) := by
  refine qa_enterQ (by decide) rfl qm_M_transpose_ok rfl rfl (fun Q9 hQ => ?_)
  obtain ⟨k0, k1, k2, k3, k4, k5, k6, k7, k8⟩ := id hk
  obtain ⟨⟨hM, hm⟩, ⟨as, ha⟩, hsv, hps, hip, ⟨tb, htb⟩, hli, hlt, hbg, cm, hcm⟩ := hR
  refine qa_aload_n (pc' := 1) ⟨rfl, rfl⟩ rfl ?_
  refine qa_callV rfl qf_M_starts ql_10_101 (c_M_starts (E := E) hlo hM hm ha) hM rfl rfl rfl (qa_lt9 rfl) (qa_le9 rfl) (qa_le9 rfl) (qa_le9 rfl) (fun o9 τ9 hq9 => ?_)
  obtain ⟨rfl, e1, hM1, ha1, f1⟩ := hq9
  refine qa_nx (pc' := 4) (st' := []) rfl rfl rfl rfl ?_
  have hm1 := (f1 (μ + 1) (by omega)).trans hm
  refine qa_aload_n (pc' := 5) ⟨rfl, rfl⟩ rfl ?_
  refine qa_aload_n (pc' := 6) ⟨rfl, rfl⟩ rfl ?_
  refine qa_iload_n (pc' := 7) ⟨rfl, rfl⟩ rfl ?_
  refine qa_iload_n (pc' := 8) ⟨rfl, rfl⟩ rfl ?_
  refine qa_callV rfl qf_M_moveIt ql_10_129 (c_M_moveIt (E := E) (f := (sN_put (sN_put f 12 0) 10 0)) hlo hM1 hm1 hk hp hx) hM1 rfl rfl rfl (qa_lt9 rfl) (qa_le9 rfl) (qa_le9 rfl) (qa_le9 rfl) (fun o9 τ9 hq9 => ?_)
  obtain ⟨rfl, e2, hM2, ⟨m2, hm2, hv2⟩, f2⟩ := hq9
  refine qa_nx (pc' := 11) (st' := [_, _]) rfl rfl rfl rfl ?_
  have ha2 := (f2 (μ + 2) (by omega)).trans ha1
  have hps2 := (f2 (μ + 4) (by omega)).trans ((f1 (μ + 4) (by omega)).trans hps)
  have h9 := sN_it_b (f := f) (k := 4) (r := so_move m p x) h5 ((so_move_ok hk))
  refine qa_callV rfl qf_M_changed ql_10_108 (c_M_changed (E := E) (f := sN_it (sN_put (sN_put f 12 0) 10 0) 4 (so_move m p x)) hlo hM2 ha2 hps2 h9.1 h9.2) hM2 rfl rfl rfl (qa_lt9 rfl) (qa_le9 rfl) (qa_le9 rfl) (qa_le9 rfl) (fun o9 τ9 hq9 => ?_)
  obtain ⟨rfl, e3, hM3, hps3, f3⟩ := hq9
  refine qa_nx (pc' := 14) (st' := [_]) rfl rfl rfl rfl ?_
  refine qa_ireturn rfl rfl rfl (hQ _ _ ⟨rfl, e3.trans (e2.trans e1), fun q hq => (f3 q (by omega)).trans ((f2 q (by omega)).trans (f1 q (by omega))), _, m2, _, ⟨⟨hM3, (f3 _ (by omega)).trans hm2⟩, ⟨_, (f3 _ (by omega)).trans ha2⟩, (f3 _ (by omega)).trans ((f2 _ (by omega)).trans ((f1 _ (by omega)).trans hsv)), hps3, (f3 _ (by omega)).trans ((f2 _ (by omega)).trans ((f1 _ (by omega)).trans hip)), ⟨tb, (f3 _ (by omega)).trans ((f2 _ (by omega)).trans ((f1 _ (by omega)).trans htb))⟩, (f3 _ (by omega)).trans ((f2 _ (by omega)).trans ((f1 _ (by omega)).trans hli)), (f3 _ (by omega)).trans ((f2 _ (by omega)).trans ((f1 _ (by omega)).trans hlt)), (f3 _ (by omega)).trans ((f2 _ (by omega)).trans ((f1 _ (by omega)).trans hbg)), cm, (f3 _ (by omega)).trans ((f2 _ (by omega)).trans ((f1 _ (by omega)).trans hcm))⟩, hv2, sM_ch_of h5⟩)
theorem c_M_setTuning {E : qa_V} {σ : qa_S} {μ : Nat} {f : Nat → Int} {m sv ps ip li : Int → Int} {B : Int} {p x y : Int} (hlo : E.1 ≤ μ) (hR : sR_M σ.1 μ f m sv ps ip li) (hk : sm_ok m B) (h5 : 0 ≤ f 5 ∧ f 5 ≤ 8) (hp : qa_in p) (hx : qa_in x) (hy : qa_in y) : qa_T E qm_M_setTuning 0 0 [.ref μ, .int (qa_i p), .int (qa_i x), .int (qa_i y)] σ (qa_Mc σ μ f m sv ps ip li 5 (so_tune m p x y)) := by
  refine qa_enterQ (by decide) rfl qm_M_setTuning_ok rfl rfl (fun Q9 hQ => ?_)
  obtain ⟨k0, k1, k2, k3, k4, k5, k6, k7, k8⟩ := id hk
  obtain ⟨⟨hM, hm⟩, ⟨as, ha⟩, hsv, hps, hip, ⟨tb, htb⟩, hli, hlt, hbg, cm, hcm⟩ := hR
  refine qa_aload_n (pc' := 1) ⟨rfl, rfl⟩ rfl ?_
  refine qa_callV rfl qf_M_starts ql_10_101 (c_M_starts (E := E) hlo hM hm ha) hM rfl rfl rfl (qa_lt9 rfl) (qa_le9 rfl) (qa_le9 rfl) (qa_le9 rfl) (fun o9 τ9 hq9 => ?_)
  obtain ⟨rfl, e1, hM1, ha1, f1⟩ := hq9
  refine qa_nx (pc' := 4) (st' := []) rfl rfl rfl rfl ?_
  have hm1 := (f1 (μ + 1) (by omega)).trans hm
  refine qa_aload_n (pc' := 5) ⟨rfl, rfl⟩ rfl ?_
  refine qa_aload_n (pc' := 6) ⟨rfl, rfl⟩ rfl ?_
  refine qa_iload_n (pc' := 7) ⟨rfl, rfl⟩ rfl ?_
  refine qa_iload_n (pc' := 8) ⟨rfl, rfl⟩ rfl ?_
  refine qa_iload_n (pc' := 9) ⟨rfl, rfl⟩ rfl ?_
  refine qa_callV rfl qf_M_tuneIt ql_10_137 (c_M_tuneIt (E := E) (f := (sN_put (sN_put f 12 0) 10 0)) hlo hM1 hm1 hk hp hx hy) hM1 rfl rfl rfl (qa_lt9 rfl) (qa_le9 rfl) (qa_le9 rfl) (qa_le9 rfl) (fun o9 τ9 hq9 => ?_)
  obtain ⟨rfl, e2, hM2, ⟨m2, hm2, hv2⟩, f2⟩ := hq9
  refine qa_nx (pc' := 12) (st' := [_, _]) rfl rfl rfl rfl ?_
  have ha2 := (f2 (μ + 2) (by omega)).trans ha1
  have hps2 := (f2 (μ + 4) (by omega)).trans ((f1 (μ + 4) (by omega)).trans hps)
  have h9 := sN_it_b (f := f) (k := 5) (r := so_tune m p x y) h5 ((so_tune_ok hk))
  refine qa_callV rfl qf_M_changed ql_10_108 (c_M_changed (E := E) (f := sN_it (sN_put (sN_put f 12 0) 10 0) 5 (so_tune m p x y)) hlo hM2 ha2 hps2 h9.1 h9.2) hM2 rfl rfl rfl (qa_lt9 rfl) (qa_le9 rfl) (qa_le9 rfl) (qa_le9 rfl) (fun o9 τ9 hq9 => ?_)
  obtain ⟨rfl, e3, hM3, hps3, f3⟩ := hq9
  refine qa_nx (pc' := 15) (st' := [_]) rfl rfl rfl rfl ?_
  refine qa_ireturn rfl rfl rfl (hQ _ _ ⟨rfl, e3.trans (e2.trans e1), fun q hq => (f3 q (by omega)).trans ((f2 q (by omega)).trans (f1 q (by omega))), _, m2, _, ⟨⟨hM3, (f3 _ (by omega)).trans hm2⟩, ⟨_, (f3 _ (by omega)).trans ha2⟩, (f3 _ (by omega)).trans ((f2 _ (by omega)).trans ((f1 _ (by omega)).trans hsv)), hps3, (f3 _ (by omega)).trans ((f2 _ (by omega)).trans ((f1 _ (by omega)).trans hip)), ⟨tb, (f3 _ (by omega)).trans ((f2 _ (by omega)).trans ((f1 _ (by omega)).trans htb))⟩, (f3 _ (by omega)).trans ((f2 _ (by omega)).trans ((f1 _ (by omega)).trans hli)), (f3 _ (by omega)).trans ((f2 _ (by omega)).trans ((f1 _ (by omega)).trans hlt)), (f3 _ (by omega)).trans ((f2 _ (by omega)).trans ((f1 _ (by omega)).trans hbg)), cm, (f3 _ (by omega)).trans ((f2 _ (by omega)).trans ((f1 _ (by omega)).trans hcm))⟩, hv2, sM_ch_of h5⟩)
theorem c_M_setCue {E : qa_V} {σ : qa_S} {μ : Nat} {f : Nat → Int} {m sv ps ip li : Int → Int} {B : Int} {p x : Int} (hlo : E.1 ≤ μ) (hR : sR_M σ.1 μ f m sv ps ip li) (hk : sm_ok m B) (h5 : 0 ≤ f 5 ∧ f 5 ≤ 8) (hp : qa_in p) (hx : qa_in x) : qa_T E qm_M_setCue 0 0 [.ref μ, .int (qa_i p), .int (qa_i x)] σ (qa_Mc σ μ f m sv ps ip li 6 (so_cue m p x)) := by
  refine qa_enterQ (by decide) rfl qm_M_setCue_ok rfl rfl (fun Q9 hQ => ?_)
  obtain ⟨k0, k1, k2, k3, k4, k5, k6, k7, k8⟩ := id hk
  obtain ⟨⟨hM, hm⟩, ⟨as, ha⟩, hsv, hps, hip, ⟨tb, htb⟩, hli, hlt, hbg, cm, hcm⟩ := hR
  refine qa_aload_n (pc' := 1) ⟨rfl, rfl⟩ rfl ?_
  refine qa_callV rfl qf_M_starts ql_10_101 (c_M_starts (E := E) hlo hM hm ha) hM rfl rfl rfl (qa_lt9 rfl) (qa_le9 rfl) (qa_le9 rfl) (qa_le9 rfl) (fun o9 τ9 hq9 => ?_)
  obtain ⟨rfl, e1, hM1, ha1, f1⟩ := hq9
  refine qa_nx (pc' := 4) (st' := []) rfl rfl rfl rfl ?_
  have hm1 := (f1 (μ + 1) (by omega)).trans hm
  refine qa_aload_n (pc' := 5) ⟨rfl, rfl⟩ rfl ?_
  refine qa_aload_n (pc' := 6) ⟨rfl, rfl⟩ rfl ?_
  refine qa_iload_n (pc' := 7) ⟨rfl, rfl⟩ rfl ?_
  refine qa_iload_n (pc' := 8) ⟨rfl, rfl⟩ rfl ?_
  refine qa_callV rfl qf_M_cueIt ql_10_143 (c_M_cueIt (E := E) (f := (sN_put (sN_put f 12 0) 10 0)) hlo hM1 hm1 hk hp hx) hM1 rfl rfl rfl (qa_lt9 rfl) (qa_le9 rfl) (qa_le9 rfl) (qa_le9 rfl) (fun o9 τ9 hq9 => ?_)
  obtain ⟨rfl, e2, hM2, ⟨m2, hm2, hv2⟩, f2⟩ := hq9
  refine qa_nx (pc' := 11) (st' := [_, _]) rfl rfl rfl rfl ?_
  have ha2 := (f2 (μ + 2) (by omega)).trans ha1
  have hps2 := (f2 (μ + 4) (by omega)).trans ((f1 (μ + 4) (by omega)).trans hps)
  have h9 := sN_it_b (f := f) (k := 6) (r := so_cue m p x) h5 ((so_cue_ok hk))
  refine qa_callV rfl qf_M_changed ql_10_108 (c_M_changed (E := E) (f := sN_it (sN_put (sN_put f 12 0) 10 0) 6 (so_cue m p x)) hlo hM2 ha2 hps2 h9.1 h9.2) hM2 rfl rfl rfl (qa_lt9 rfl) (qa_le9 rfl) (qa_le9 rfl) (qa_le9 rfl) (fun o9 τ9 hq9 => ?_)
  obtain ⟨rfl, e3, hM3, hps3, f3⟩ := hq9
  refine qa_nx (pc' := 14) (st' := [_]) rfl rfl rfl rfl ?_
  refine qa_ireturn rfl rfl rfl (hQ _ _ ⟨rfl, e3.trans (e2.trans e1), fun q hq => (f3 q (by omega)).trans ((f2 q (by omega)).trans (f1 q (by omega))), _, m2, _, ⟨⟨hM3, (f3 _ (by omega)).trans hm2⟩, ⟨_, (f3 _ (by omega)).trans ha2⟩, (f3 _ (by omega)).trans ((f2 _ (by omega)).trans ((f1 _ (by omega)).trans hsv)), hps3, (f3 _ (by omega)).trans ((f2 _ (by omega)).trans ((f1 _ (by omega)).trans hip)), ⟨tb, (f3 _ (by omega)).trans ((f2 _ (by omega)).trans ((f1 _ (by omega)).trans htb))⟩, (f3 _ (by omega)).trans ((f2 _ (by omega)).trans ((f1 _ (by omega)).trans hli)), (f3 _ (by omega)).trans ((f2 _ (by omega)).trans ((f1 _ (by omega)).trans hlt)), (f3 _ (by omega)).trans ((f2 _ (by omega)).trans ((f1 _ (by omega)).trans hbg)), cm, (f3 _ (by omega)).trans ((f2 _ (by omega)).trans ((f1 _ (by omega)).trans hcm))⟩, hv2, sM_ch_of h5⟩)
theorem c_M_removeCue {E : qa_V} {σ : qa_S} {μ : Nat} {f : Nat → Int} {m sv ps ip li : Int → Int} {B : Int} {p : Int} (hlo : E.1 ≤ μ) (hR : sR_M σ.1 μ f m sv ps ip li) (hk : sm_ok m B) (h5 : 0 ≤ f 5 ∧ f 5 ≤ 8) (hp : qa_in p) : qa_T E qm_M_removeCue 0 0 [.ref μ, .int (qa_i p)] σ (qa_Mc σ μ f m sv ps ip li 7 (so_alone m p)) := by
  refine qa_enterQ (by decide) rfl qm_M_removeCue_ok rfl rfl (fun Q9 hQ => ?_)
  obtain ⟨k0, k1, k2, k3, k4, k5, k6, k7, k8⟩ := id hk
  obtain ⟨⟨hM, hm⟩, ⟨as, ha⟩, hsv, hps, hip, ⟨tb, htb⟩, hli, hlt, hbg, cm, hcm⟩ := hR
  refine qa_aload_n (pc' := 1) ⟨rfl, rfl⟩ rfl ?_
  refine qa_callV rfl qf_M_starts ql_10_101 (c_M_starts (E := E) hlo hM hm ha) hM rfl rfl rfl (qa_lt9 rfl) (qa_le9 rfl) (qa_le9 rfl) (qa_le9 rfl) (fun o9 τ9 hq9 => ?_)
  obtain ⟨rfl, e1, hM1, ha1, f1⟩ := hq9
  refine qa_nx (pc' := 4) (st' := []) rfl rfl rfl rfl ?_
  have hm1 := (f1 (μ + 1) (by omega)).trans hm
  refine qa_aload_n (pc' := 5) ⟨rfl, rfl⟩ rfl ?_
  refine qa_aload_n (pc' := 6) ⟨rfl, rfl⟩ rfl ?_
  refine qa_iload_n (pc' := 7) ⟨rfl, rfl⟩ rfl ?_
  refine qa_callV rfl qf_M_aloneIt ql_10_146 (c_M_aloneIt (E := E) (f := (sN_put (sN_put f 12 0) 10 0)) hlo hM1 hm1 hk hp) hM1 rfl rfl rfl (qa_lt9 rfl) (qa_le9 rfl) (qa_le9 rfl) (qa_le9 rfl) (fun o9 τ9 hq9 => ?_)
  obtain ⟨rfl, e2, hM2, ⟨m2, hm2, hv2⟩, f2⟩ := hq9
  refine qa_nx (pc' := 10) (st' := [_, _]) rfl rfl rfl rfl ?_
  have ha2 := (f2 (μ + 2) (by omega)).trans ha1
  have hps2 := (f2 (μ + 4) (by omega)).trans ((f1 (μ + 4) (by omega)).trans hps)
  have h9 := sN_it_b (f := f) (k := 7) (r := so_alone m p) h5 ((so_alone_ok hk))
  refine qa_callV rfl qf_M_changed ql_10_108 (c_M_changed (E := E) (f := sN_it (sN_put (sN_put f 12 0) 10 0) 7 (so_alone m p)) hlo hM2 ha2 hps2 h9.1 h9.2) hM2 rfl rfl rfl (qa_lt9 rfl) (qa_le9 rfl) (qa_le9 rfl) (qa_le9 rfl) (fun o9 τ9 hq9 => ?_)
  obtain ⟨rfl, e3, hM3, hps3, f3⟩ := hq9
  refine qa_nx (pc' := 13) (st' := [_]) rfl rfl rfl rfl ?_
  refine qa_ireturn rfl rfl rfl (hQ _ _ ⟨rfl, e3.trans (e2.trans e1), fun q hq => (f3 q (by omega)).trans ((f2 q (by omega)).trans (f1 q (by omega))), _, m2, _, ⟨⟨hM3, (f3 _ (by omega)).trans hm2⟩, ⟨_, (f3 _ (by omega)).trans ha2⟩, (f3 _ (by omega)).trans ((f2 _ (by omega)).trans ((f1 _ (by omega)).trans hsv)), hps3, (f3 _ (by omega)).trans ((f2 _ (by omega)).trans ((f1 _ (by omega)).trans hip)), ⟨tb, (f3 _ (by omega)).trans ((f2 _ (by omega)).trans ((f1 _ (by omega)).trans htb))⟩, (f3 _ (by omega)).trans ((f2 _ (by omega)).trans ((f1 _ (by omega)).trans hli)), (f3 _ (by omega)).trans ((f2 _ (by omega)).trans ((f1 _ (by omega)).trans hlt)), (f3 _ (by omega)).trans ((f2 _ (by omega)).trans ((f1 _ (by omega)).trans hbg)), cm, (f3 _ (by omega)).trans ((f2 _ (by omega)).trans ((f1 _ (by omega)).trans hcm))⟩, hv2, sM_ch_of h5⟩)
theorem c_M_setBar {E : qa_V} {σ : qa_S} {μ : Nat} {f : Nat → Int} {m sv ps ip li : Int → Int} {B : Int} {x : Int} (hlo : E.1 ≤ μ) (hR : sR_M σ.1 μ f m sv ps ip li) (hk : sm_ok m B) (h5 : 0 ≤ f 5 ∧ f 5 ≤ 8) (hx : qa_in x) : qa_T E qm_M_setBar 0 0 [.ref μ, .int (qa_i x)] σ (qa_Mc σ μ f m sv ps ip li 8 (so_bar m x)) := by
  refine qa_enterQ (by decide) rfl qm_M_setBar_ok rfl rfl (fun Q9 hQ => ?_)
  obtain ⟨k0, k1, k2, k3, k4, k5, k6, k7, k8⟩ := id hk
  obtain ⟨⟨hM, hm⟩, ⟨as, ha⟩, hsv, hps, hip, ⟨tb, htb⟩, hli, hlt, hbg, cm, hcm⟩ := hR
  refine qa_aload_n (pc' := 1) ⟨rfl, rfl⟩ rfl ?_
  refine qa_callV rfl qf_M_starts ql_10_101 (c_M_starts (E := E) hlo hM hm ha) hM rfl rfl rfl (qa_lt9 rfl) (qa_le9 rfl) (qa_le9 rfl) (qa_le9 rfl) (fun o9 τ9 hq9 => ?_)
  obtain ⟨rfl, e1, hM1, ha1, f1⟩ := hq9
  refine qa_nx (pc' := 4) (st' := []) rfl rfl rfl rfl ?_
  have hm1 := (f1 (μ + 1) (by omega)).trans hm
  refine qa_aload_n (pc' := 5) ⟨rfl, rfl⟩ rfl ?_
  refine qa_aload_n (pc' := 6) ⟨rfl, rfl⟩ rfl ?_
  refine qa_iload_n (pc' := 7) ⟨rfl, rfl⟩ rfl ?_
  refine qa_callV rfl qf_M_barIt ql_10_151 (c_M_barIt (E := E) (f := (sN_put (sN_put f 12 0) 10 0)) hlo hM1 hm1 hk hx) hM1 rfl rfl rfl (qa_lt9 rfl) (qa_le9 rfl) (qa_le9 rfl) (qa_le9 rfl) (fun o9 τ9 hq9 => ?_)
  obtain ⟨rfl, e2, hM2, ⟨m2, hm2, hv2⟩, f2⟩ := hq9
  refine qa_nx (pc' := 10) (st' := [_, _]) rfl rfl rfl rfl ?_
  have ha2 := (f2 (μ + 2) (by omega)).trans ha1
  have hps2 := (f2 (μ + 4) (by omega)).trans ((f1 (μ + 4) (by omega)).trans hps)
  have h9 := sN_it_b (f := f) (k := 8) (r := so_bar m x) h5 ((so_bar_ok hk))
  refine qa_callV rfl qf_M_changed ql_10_108 (c_M_changed (E := E) (f := sN_it (sN_put (sN_put f 12 0) 10 0) 8 (so_bar m x)) hlo hM2 ha2 hps2 h9.1 h9.2) hM2 rfl rfl rfl (qa_lt9 rfl) (qa_le9 rfl) (qa_le9 rfl) (qa_le9 rfl) (fun o9 τ9 hq9 => ?_)
  obtain ⟨rfl, e3, hM3, hps3, f3⟩ := hq9
  refine qa_nx (pc' := 13) (st' := [_]) rfl rfl rfl rfl ?_
  refine qa_ireturn rfl rfl rfl (hQ _ _ ⟨rfl, e3.trans (e2.trans e1), fun q hq => (f3 q (by omega)).trans ((f2 q (by omega)).trans (f1 q (by omega))), _, m2, _, ⟨⟨hM3, (f3 _ (by omega)).trans hm2⟩, ⟨_, (f3 _ (by omega)).trans ha2⟩, (f3 _ (by omega)).trans ((f2 _ (by omega)).trans ((f1 _ (by omega)).trans hsv)), hps3, (f3 _ (by omega)).trans ((f2 _ (by omega)).trans ((f1 _ (by omega)).trans hip)), ⟨tb, (f3 _ (by omega)).trans ((f2 _ (by omega)).trans ((f1 _ (by omega)).trans htb))⟩, (f3 _ (by omega)).trans ((f2 _ (by omega)).trans ((f1 _ (by omega)).trans hli)), (f3 _ (by omega)).trans ((f2 _ (by omega)).trans ((f1 _ (by omega)).trans hlt)), (f3 _ (by omega)).trans ((f2 _ (by omega)).trans ((f1 _ (by omega)).trans hbg)), cm, (f3 _ (by omega)).trans ((f2 _ (by omega)).trans ((f1 _ (by omega)).trans hcm))⟩, hv2, sM_ch_of h5⟩)
theorem c_M_setTempo {E : qa_V} {σ : qa_S} {μ : Nat} {f : Nat → Int} {m sv ps ip li : Int → Int} {B : Int} {x y : Int} (hlo : E.1 ≤ μ) (hR : sR_M σ.1 μ f m sv ps ip li) (hk : sm_ok m B) (h5 : 0 ≤ f 5 ∧ f 5 ≤ 8) (hx : qa_in x) (hy : qa_in y) : qa_T E qm_M_setTempo 0 0 [.ref μ, .int (qa_i x), .int (qa_i y)] σ (qa_Mc σ μ f m sv ps ip li 9 (so_tempo m x y)) := by
  refine qa_enterQ (by decide) rfl qm_M_setTempo_ok rfl rfl (fun Q9 hQ => ?_)
  obtain ⟨k0, k1, k2, k3, k4, k5, k6, k7, k8⟩ := id hk
  obtain ⟨⟨hM, hm⟩, ⟨as, ha⟩, hsv, hps, hip, ⟨tb, htb⟩, hli, hlt, hbg, cm, hcm⟩ := hR
  refine qa_aload_n (pc' := 1) ⟨rfl, rfl⟩ rfl ?_
  refine qa_callV rfl qf_M_starts ql_10_101 (c_M_starts (E := E) hlo hM hm ha) hM rfl rfl rfl (qa_lt9 rfl) (qa_le9 rfl) (qa_le9 rfl) (qa_le9 rfl) (fun o9 τ9 hq9 => ?_)
  obtain ⟨rfl, e1, hM1, ha1, f1⟩ := hq9
  refine qa_nx (pc' := 4) (st' := []) rfl rfl rfl rfl ?_
  have hm1 := (f1 (μ + 1) (by omega)).trans hm
  refine qa_aload_n (pc' := 5) ⟨rfl, rfl⟩ rfl ?_
  refine qa_aload_n (pc' := 6) ⟨rfl, rfl⟩ rfl ?_
  refine qa_iload_n (pc' := 7) ⟨rfl, rfl⟩ rfl ?_
  refine qa_iload_n (pc' := 8) ⟨rfl, rfl⟩ rfl ?_
  refine qa_callV rfl qf_M_tempoIt ql_10_160 (c_M_tempoIt (E := E) (f := (sN_put (sN_put f 12 0) 10 0)) hlo hM1 hm1 hk hx hy) hM1 rfl rfl rfl (qa_lt9 rfl) (qa_le9 rfl) (qa_le9 rfl) (qa_le9 rfl) (fun o9 τ9 hq9 => ?_)
  obtain ⟨rfl, e2, hM2, ⟨m2, hm2, hv2⟩, f2⟩ := hq9
  refine qa_nx (pc' := 11) (st' := [_, _]) rfl rfl rfl rfl ?_
  have ha2 := (f2 (μ + 2) (by omega)).trans ha1
  have hps2 := (f2 (μ + 4) (by omega)).trans ((f1 (μ + 4) (by omega)).trans hps)
  have h9 := sN_it_b (f := f) (k := 9) (r := so_tempo m x y) h5 ((so_tempo_ok hk))
  refine qa_callV rfl qf_M_changed ql_10_108 (c_M_changed (E := E) (f := sN_it (sN_put (sN_put f 12 0) 10 0) 9 (so_tempo m x y)) hlo hM2 ha2 hps2 h9.1 h9.2) hM2 rfl rfl rfl (qa_lt9 rfl) (qa_le9 rfl) (qa_le9 rfl) (qa_le9 rfl) (fun o9 τ9 hq9 => ?_)
  obtain ⟨rfl, e3, hM3, hps3, f3⟩ := hq9
  refine qa_nx (pc' := 14) (st' := [_]) rfl rfl rfl rfl ?_
  refine qa_ireturn rfl rfl rfl (hQ _ _ ⟨rfl, e3.trans (e2.trans e1), fun q hq => (f3 q (by omega)).trans ((f2 q (by omega)).trans (f1 q (by omega))), _, m2, _, ⟨⟨hM3, (f3 _ (by omega)).trans hm2⟩, ⟨_, (f3 _ (by omega)).trans ha2⟩, (f3 _ (by omega)).trans ((f2 _ (by omega)).trans ((f1 _ (by omega)).trans hsv)), hps3, (f3 _ (by omega)).trans ((f2 _ (by omega)).trans ((f1 _ (by omega)).trans hip)), ⟨tb, (f3 _ (by omega)).trans ((f2 _ (by omega)).trans ((f1 _ (by omega)).trans htb))⟩, (f3 _ (by omega)).trans ((f2 _ (by omega)).trans ((f1 _ (by omega)).trans hli)), (f3 _ (by omega)).trans ((f2 _ (by omega)).trans ((f1 _ (by omega)).trans hlt)), (f3 _ (by omega)).trans ((f2 _ (by omega)).trans ((f1 _ (by omega)).trans hbg)), cm, (f3 _ (by omega)).trans ((f2 _ (by omega)).trans ((f1 _ (by omega)).trans hcm))⟩, hv2, sM_ch_of h5⟩)
theorem c_M_play {E : qa_V} {σ : qa_S} {μ : Nat} {f : Nat → Int} {m sv ps ip li : Int → Int} {B : Int} {x : Int} (hlo : E.1 ≤ μ) (hR : sR_M σ.1 μ f m sv ps ip li) (hk : sm_ok m B) (h5 : 0 ≤ f 5 ∧ f 5 ≤ 8) (hx : qa_in x) (hB9 : B ≤ 1000000000) : qa_T E qm_M_play 0 0 [.ref μ, .int (qa_i x)] σ (qa_Mc σ μ f m sv ps ip li 10 (so_play m x)) := by
  refine qa_enterQ (by decide) rfl qm_M_play_ok rfl rfl (fun Q9 hQ => ?_)
  obtain ⟨k0, k1, k2, k3, k4, k5, k6, k7, k8⟩ := id hk
  obtain ⟨⟨hM, hm⟩, ⟨as, ha⟩, hsv, hps, hip, ⟨tb, htb⟩, hli, hlt, hbg, cm, hcm⟩ := hR
  refine qa_aload_n (pc' := 1) ⟨rfl, rfl⟩ rfl ?_
  refine qa_callV rfl qf_M_starts ql_10_101 (c_M_starts (E := E) hlo hM hm ha) hM rfl rfl rfl (qa_lt9 rfl) (qa_le9 rfl) (qa_le9 rfl) (qa_le9 rfl) (fun o9 τ9 hq9 => ?_)
  obtain ⟨rfl, e1, hM1, ha1, f1⟩ := hq9
  refine qa_nx (pc' := 4) (st' := []) rfl rfl rfl rfl ?_
  have hm1 := (f1 (μ + 1) (by omega)).trans hm
  refine qa_aload_n (pc' := 5) ⟨rfl, rfl⟩ rfl ?_
  refine qa_aload_n (pc' := 6) ⟨rfl, rfl⟩ rfl ?_
  refine qa_iload_n (pc' := 7) ⟨rfl, rfl⟩ rfl ?_
  refine qa_callV rfl qf_M_playIt ql_10_172 (c_M_playIt (E := E) (f := (sN_put (sN_put f 12 0) 10 0)) hlo hM1 hm1 hk hx hB9) hM1 rfl rfl rfl (qa_lt9 rfl) (qa_le9 rfl) (qa_le9 rfl) (qa_le9 rfl) (fun o9 τ9 hq9 => ?_)
  obtain ⟨rfl, e2, hM2, ⟨m2, hm2, hv2⟩, f2⟩ := hq9
  refine qa_nx (pc' := 10) (st' := [_, _]) rfl rfl rfl rfl ?_
  have ha2 := (f2 (μ + 2) (by omega)).trans ha1
  have hps2 := (f2 (μ + 4) (by omega)).trans ((f1 (μ + 4) (by omega)).trans hps)
  have h9 := sN_it_b (f := f) (k := 10) (r := so_play m x) h5 ((so_play_ok hk))
  refine qa_callV rfl qf_M_changed ql_10_108 (c_M_changed (E := E) (f := sN_it (sN_put (sN_put f 12 0) 10 0) 10 (so_play m x)) hlo hM2 ha2 hps2 h9.1 h9.2) hM2 rfl rfl rfl (qa_lt9 rfl) (qa_le9 rfl) (qa_le9 rfl) (qa_le9 rfl) (fun o9 τ9 hq9 => ?_)
  obtain ⟨rfl, e3, hM3, hps3, f3⟩ := hq9
  refine qa_nx (pc' := 13) (st' := [_]) rfl rfl rfl rfl ?_
  refine qa_ireturn rfl rfl rfl (hQ _ _ ⟨rfl, e3.trans (e2.trans e1), fun q hq => (f3 q (by omega)).trans ((f2 q (by omega)).trans (f1 q (by omega))), _, m2, _, ⟨⟨hM3, (f3 _ (by omega)).trans hm2⟩, ⟨_, (f3 _ (by omega)).trans ha2⟩, (f3 _ (by omega)).trans ((f2 _ (by omega)).trans ((f1 _ (by omega)).trans hsv)), hps3, (f3 _ (by omega)).trans ((f2 _ (by omega)).trans ((f1 _ (by omega)).trans hip)), ⟨tb, (f3 _ (by omega)).trans ((f2 _ (by omega)).trans ((f1 _ (by omega)).trans htb))⟩, (f3 _ (by omega)).trans ((f2 _ (by omega)).trans ((f1 _ (by omega)).trans hli)), (f3 _ (by omega)).trans ((f2 _ (by omega)).trans ((f1 _ (by omega)).trans hlt)), (f3 _ (by omega)).trans ((f2 _ (by omega)).trans ((f1 _ (by omega)).trans hbg)), cm, (f3 _ (by omega)).trans ((f2 _ (by omega)).trans ((f1 _ (by omega)).trans hcm))⟩, hv2, sM_ch_of h5⟩)
theorem c_M_undo {E : qa_V} {σ : qa_S} {μ : Nat} {f : Nat → Int} {m sv ps ip li : Int → Int} {B : Int}  (hlo : E.1 ≤ μ) (hR : sR_M σ.1 μ f m sv ps ip li) (hk : sm_ok m B) (h5 : 0 ≤ f 5 ∧ f 5 ≤ 8)  : qa_T E qm_M_undo 0 0 [.ref μ] σ (fun o9 τ => τ.2 = σ.2 ∧ (∀ q, (q < μ ∨ μ + 11 ≤ q) → τ.1 q = σ.1 q) ∧ ((f 5 = 0 ∧ (∃ v : Int, o9 = .inl (some (.int (qa_i v)))) ∧ sR_M τ.1 μ (sN_put f 12 1) m sv ps ip li) ∨ (f 5 ≠ 0 ∧ o9 = .inl (some (.int (qa_i (f 5 - 1)))) ∧ ∃ m1 : Int → Int, sR_M τ.1 μ (sN_put (sN_put f 12 0) 5 (f 5 - 1)) m1 sv ps ip li ∧ ∀ q : Int, 0 ≤ q → q < 146 → m1 q = ps (146 * (f 5 - 1) + q)))) := by
  refine qa_enterQ (by decide) rfl qm_M_undo_ok rfl rfl (fun Q9 hQ => ?_)
  obtain ⟨k0, k1, k2, k3, k4, k5, k6, k7, k8⟩ := id hk
  have hR9 := hR
  obtain ⟨⟨hM, hm⟩, ⟨as, ha⟩, hsv, hps, hip, ⟨tb, htb⟩, hli, hlt, hbg, cm, hcm⟩ := hR
  have e0 : σ.2 = σ.2 := rfl
  have fr : ∀ q, (q ≠ μ ∧ q ≠ μ + 1) → σ.1 q = σ.1 q := fun _ _ => rfl
  refine qa_aload_n (pc' := 1) ⟨rfl, rfl⟩ rfl ?_
  refine qa_iconst (pc' := 2) ⟨rfl, rfl⟩ ?_
  refine qa_putf (fs' := [_, _, _, _, _, _, _, _, _, _, _, _, _, _, _, _, _, _, _, _, _, _, _, _, _, _, _]) (pc' := 5) ⟨rfl, rfl⟩ qg_10_51 qw_9 hM (by omega) rfl (fun r hr => by cases hr; exact ⟨rfl, Or.inl rfl⟩) rfl rfl ?_
  refine qa_gz (fun τ1 e1 w1 f1 => ?_)
  replace hm := (f1 _ (by omega)).trans hm
  replace hps := (f1 _ (by omega)).trans hps
  replace fr := fun q hq => (f1 q (by have := hq; omega)).trans (fr q hq)
  replace e0 := e1.trans e0
  have hM : τ1.1 μ = some (qa_MoF μ (sN_put f 12 0)) := w1
  refine qa_aload_n (pc' := 6) ⟨rfl, rfl⟩ rfl ?_
  refine qa_getf (v := .int (qa_i (f 5))) (pc' := 9) ⟨rfl, rfl⟩ qg_10_67 (by assumption) rfl ?_
  refine qa_if_ne (pc' := 12) (tgt := 18) ⟨rfl, rfl⟩ rfl (by omega) (fun hc1 => ?_) (fun hc1 => ?_)
  · refine qa_aload_n (pc' := 19) ⟨rfl, rfl⟩ rfl ?_
    refine qa_dup (pc' := 20) ⟨rfl, rfl⟩ rfl ?_
    refine qa_getf (v := .int (qa_i (f 5))) (pc' := 23) ⟨rfl, rfl⟩ qg_10_67 (by assumption) rfl ?_
    refine qa_iconst (pc' := 24) ⟨rfl, rfl⟩ ?_
    refine qa_isub (pc' := 25) ⟨rfl, rfl⟩ rfl ?_
    refine qa_putf (fs' := [_, _, _, _, _, _, _, _, _, _, _, _, _, _, _, _, _, _, _, _, _, _, _, _, _, _, _]) (pc' := 28) ⟨rfl, rfl⟩ qg_10_67 qw_9 hM (by omega) rfl (fun r hr => by cases hr; exact ⟨rfl, Or.inl rfl⟩) rfl rfl ?_
    refine qa_gz (fun τ2 e2 w2 f2 => ?_)
    replace hm := (f2 _ (by omega)).trans hm
    replace hps := (f2 _ (by omega)).trans hps
    replace fr := fun q hq => (f2 q (by have := hq; omega)).trans (fr q hq)
    replace e0 := e2.trans e0
    have hM : τ2.1 μ = some (qa_MoF μ (sN_put (sN_put f 12 0) 5 (f 5 - 1))) := w2
    refine qa_iconst (pc' := 29) ⟨rfl, rfl⟩ ?_
    refine qa_istore_n (L' := [(0, _), (1, _)]) (pc' := 30) ⟨rfl, rfl⟩ rfl rfl ?_
    replace hR9 := 0
    have T1 : ∀ (f9 : Nat) (τ : qa_S) (k : Nat), ((k : Int) + f9 = 146 ∧ τ.2 = σ.2 ∧ τ.1 μ = some (qa_MoF μ (sN_put (sN_put f 12 0) 5 (f 5 - 1))) ∧ τ.1 (μ + 1) = some (qa_ia 146 (qa_cp ps m (146 * (f 5 - 1)) 0 k)) ∧ τ.1 (μ + 4) = some (qa_ia 1168 ps) ∧ (∀ q, (q ≠ μ ∧ q ≠ μ + 1) → τ.1 q = σ.1 q)) → qa_W E qm_M_undo Q9 0 0 30 [(0, .ref μ), (1, .int (qa_i k))] [] τ := by
      clear hM hm hps e0 fr
      intro f9
      induction f9 with
      | zero =>
        intro τ k ⟨hkf, e0, hM, hm, hps, fr⟩
        refine qa_iload_n (pc' := 31) ⟨rfl, rfl⟩ rfl ?_
        refine qa_sipush (z := 146) (pc' := 34) ⟨rfl, rfl⟩ rfl ?_
        refine qa_icmp_ge (pc' := 37) (tgt := 64) ⟨rfl, rfl⟩ rfl (by omega) (by omega) (fun hc2 => ?_) (fun hc2 => ?_)
        · refine qa_aload_n (pc' := 65) ⟨rfl, rfl⟩ rfl ?_
          refine qa_getf (v := .int (qa_i (f 5 - 1))) (pc' := 68) ⟨rfl, rfl⟩ qg_10_67 (by assumption) rfl ?_
          have m9 := hm
          refine qa_ireturn rfl rfl rfl (hQ _ _ ⟨e0, fun q hq => fr q (by omega), Or.inr ⟨hc1, rfl, _, ⟨⟨hM, m9⟩, ⟨as, (fr _ (by omega)).trans ha⟩, (fr _ (by omega)).trans hsv, hps, (fr _ (by omega)).trans hip, ⟨tb, (fr _ (by omega)).trans htb⟩, (fr _ (by omega)).trans hli, (fr _ (by omega)).trans hlt, (fr _ (by omega)).trans hbg, cm, (fr _ (by omega)).trans hcm⟩, fun q q0 q1 => ?_⟩⟩)
          rw [show ((k : Nat) : Int) = 146 by omega, qa_cp_in (by omega)]
          congr 1; omega
        · exact absurd hc2 (by omega)
      | succ f9 iT1 =>
        intro τ k ⟨hkf, e0, hM, hm, hps, fr⟩
        refine qa_iload_n (pc' := 31) ⟨rfl, rfl⟩ rfl ?_
        refine qa_sipush (z := 146) (pc' := 34) ⟨rfl, rfl⟩ rfl ?_
        refine qa_icmp_ge (pc' := 37) (tgt := 64) ⟨rfl, rfl⟩ rfl (by omega) (by omega) (fun hc2 => ?_) (fun hc2 => ?_)
        · exact absurd hc2 (by omega)
        · refine qa_aload_n (pc' := 38) ⟨rfl, rfl⟩ rfl ?_
          refine qa_getf (pc' := 41) ⟨rfl, rfl⟩ qg_10_9 (by assumption) rfl ?_
          refine qa_iload_n (pc' := 42) ⟨rfl, rfl⟩ rfl ?_
          refine qa_aload_n (pc' := 43) ⟨rfl, rfl⟩ rfl ?_
          refine qa_getf (pc' := 46) ⟨rfl, rfl⟩ qg_10_19 (by assumption) rfl ?_
          refine qa_sipush (z := 146) (pc' := 49) ⟨rfl, rfl⟩ rfl ?_
          refine qa_aload_n (pc' := 50) ⟨rfl, rfl⟩ rfl ?_
          refine qa_getf (v := .int (qa_i (f 5 - 1))) (pc' := 53) ⟨rfl, rfl⟩ qg_10_67 (by assumption) rfl ?_
          refine qa_imul (z := 146 * (f 5 - 1)) (pc' := 54) ⟨rfl, rfl⟩ (by omega) ?_
          refine qa_iload_n (pc' := 55) ⟨rfl, rfl⟩ rfl ?_
          refine qa_iadd (z := 146 * (f 5 - 1) + k) (pc' := 56) ⟨rfl, rfl⟩ (by omega) ?_
          refine qa_iaload (pc' := 57) ⟨rfl, rfl⟩ hps (by omega) ?_
          refine qa_iastore (pc' := 58) ⟨rfl, rfl⟩ hm (by omega) (by omega) ?_
          refine qa_gz (fun τ61 e61 w61 f61 => ?_)
          replace hM := (f61 _ (by omega)).trans hM
          replace hps := (f61 _ (by omega)).trans hps
          replace fr := fun q hq => (f61 q (by have := hq; omega)).trans (fr q hq)
          replace e0 := e61.trans e0
          have hm : τ61.1 (μ + 1) = some (qa_ia 146 (qa_cp ps m (146 * (f 5 - 1)) 0 ((k + 1 : Nat) : Int))) := by rw [← qa_cp_s, Int.zero_add]; exact w61
          refine qa_iinc (L' := [(0, _), (1, _)]) (z := ((k + 1 : Nat) : Int)) (pc' := 61) ⟨rfl, rfl⟩ rfl (by omega) rfl rfl ?_
          refine qa_goto (pc' := 64) (tgt := 30) ⟨rfl, rfl⟩ rfl ?_
          exact iT1 _ (k + 1) ⟨by omega, e0, hM, hm, hps, fr⟩
    exact T1 146 _ 0 ⟨by omega, e0, hM, by rw [qa_cp_z]; exact hm, hps, fr⟩
  · refine qa_aload_n (pc' := 13) ⟨rfl, rfl⟩ rfl ?_
    refine qa_iconst (pc' := 14) ⟨rfl, rfl⟩ ?_
    refine qa_callV rfl qf_M_throwing ql_10_60 (c_M_throwing (E := E) (f := sN_put f 12 0) (v := 1) hlo hM) hM rfl rfl rfl (qa_lt9 rfl) (qa_le9 rfl) (qa_le9 rfl) (qa_le9 rfl) (fun o9 τ9 hq9 => ?_)
    obtain ⟨rfl, e9, hM, f9⟩ := hq9
    refine qa_nx (pc' := 17) (st' := [_]) rfl rfl rfl rfl ?_
    rw [sN_pp] at hM
    refine qa_ireturn rfl rfl rfl (hQ _ _ ⟨e9.trans e0, fun q hq => (f9 q (by omega)).trans (fr q (by omega)), Or.inl ⟨hc1, ⟨_, rfl⟩, hR9.setF (fun q hq => (f9 q hq).trans (f1 q hq)) hM⟩⟩)
theorem c_M_saveSnapshot {E : qa_V} {σ : qa_S} {μ : Nat} {f : Nat → Int} {m sv ps ip li : Int → Int} {B : Int}  (hlo : E.1 ≤ μ) (hR : sR_M σ.1 μ f m sv ps ip li) (hk : sm_ok m B) (h5 : 0 ≤ f 5 ∧ f 5 ≤ 8)  : qa_T E qm_M_saveSnapshot 0 0 [.ref μ] σ (fun o9 τ => o9 = .inl (some (.int (qa_i (m 0)))) ∧ τ.2 = σ.2 ∧ (∀ q, (q < μ ∨ μ + 11 ≤ q) → τ.1 q = σ.1 q) ∧ ∃ s1 : Int → Int, sR_M τ.1 μ (sN_put (sN_put f 12 0) 3 1) m s1 ps ip li ∧ sm_eqv s1 m) := by
  refine qa_enterQ (by decide) rfl qm_M_saveSnapshot_ok rfl rfl (fun Q9 hQ => ?_)
  obtain ⟨k0, k1, k2, k3, k4, k5, k6, k7, k8⟩ := id hk
  have hR9 := hR
  obtain ⟨⟨hM, hm⟩, ⟨as, ha⟩, hsv, hps, hip, ⟨tb, htb⟩, hli, hlt, hbg, cm, hcm⟩ := hR
  have e0 : σ.2 = σ.2 := rfl
  have fr : ∀ q, (q ≠ μ ∧ q ≠ μ + 3) → σ.1 q = σ.1 q := fun _ _ => rfl
  refine qa_aload_n (pc' := 1) ⟨rfl, rfl⟩ rfl ?_
  refine qa_iconst (pc' := 2) ⟨rfl, rfl⟩ ?_
  refine qa_putf (fs' := [_, _, _, _, _, _, _, _, _, _, _, _, _, _, _, _, _, _, _, _, _, _, _, _, _, _, _]) (pc' := 5) ⟨rfl, rfl⟩ qg_10_51 qw_9 hM (by omega) rfl (fun r hr => by cases hr; exact ⟨rfl, Or.inl rfl⟩) rfl rfl ?_
  refine qa_gz (fun τ1 e1 w1 f1 => ?_)
  replace hm := (f1 _ (by omega)).trans hm
  replace hsv := (f1 _ (by omega)).trans hsv
  replace fr := fun q hq => (f1 q (by have := hq; omega)).trans (fr q hq)
  replace e0 := e1.trans e0
  have hM : τ1.1 μ = some (qa_MoF μ (sN_put f 12 0)) := w1
  refine qa_iconst (pc' := 6) ⟨rfl, rfl⟩ ?_
  refine qa_istore_n (L' := [(0, _), (1, _)]) (pc' := 7) ⟨rfl, rfl⟩ rfl rfl ?_
  have T1 : ∀ (f9 : Nat) (τ : qa_S) (k : Nat), ((k : Int) + f9 = 146 ∧ τ.2 = σ.2 ∧ τ.1 μ = some (qa_MoF μ (sN_put f 12 0)) ∧ τ.1 (μ + 1) = some (qa_ia 146 m) ∧ τ.1 (μ + 3) = some (qa_ia 146 (qa_cp m sv 0 0 k)) ∧ (∀ q, (q ≠ μ ∧ q ≠ μ + 3) → τ.1 q = σ.1 q)) → qa_W E qm_M_saveSnapshot Q9 0 0 7 [(0, .ref μ), (1, .int (qa_i k))] [] τ := by
    clear hM hm hsv e0 fr
    intro f9
    induction f9 with
    | zero =>
      intro τ k ⟨hkf, e0, hM, hm, hsv, fr⟩
      refine qa_iload_n (pc' := 8) ⟨rfl, rfl⟩ rfl ?_
      refine qa_sipush (z := 146) (pc' := 11) ⟨rfl, rfl⟩ rfl ?_
      refine qa_icmp_ge (pc' := 14) (tgt := 32) ⟨rfl, rfl⟩ rfl (by omega) (by omega) (fun hc2 => ?_) (fun hc2 => ?_)
      · refine qa_aload_n (pc' := 33) ⟨rfl, rfl⟩ rfl ?_
        refine qa_iconst (pc' := 34) ⟨rfl, rfl⟩ ?_
        refine qa_putf (fs' := [_, _, _, _, _, _, _, _, _, _, _, _, _, _, _, _, _, _, _, _, _, _, _, _, _, _, _]) (pc' := 37) ⟨rfl, rfl⟩ qg_10_311 qw_9 hM (by omega) rfl (fun r hr => by cases hr; exact ⟨rfl, Or.inl rfl⟩) rfl rfl ?_
        refine qa_gz (fun τ61 e61 w61 f61 => ?_)
        replace hm := (f61 _ (by omega)).trans hm
        replace hsv := (f61 _ (by omega)).trans hsv
        replace fr := fun q hq => (f61 q (by have := hq; omega)).trans (fr q hq)
        replace e0 := e61.trans e0
        have hM : τ61.1 μ = some (qa_MoF μ (sN_put (sN_put f 12 0) 3 1)) := w61
        refine qa_aload_n (pc' := 38) ⟨rfl, rfl⟩ rfl ?_
        refine qa_getf (pc' := 41) ⟨rfl, rfl⟩ qg_10_9 (by assumption) rfl ?_
        refine qa_iconst (pc' := 42) ⟨rfl, rfl⟩ ?_
        refine qa_iaload (pc' := 43) ⟨rfl, rfl⟩ (by assumption) (by omega) ?_
        have sv9 := hsv
        refine qa_ireturn rfl rfl rfl (hQ _ _ ⟨rfl, e0, fun q hq => fr q (by omega), _, ⟨⟨hM, hm⟩, ⟨as, (fr _ (by omega)).trans ha⟩, sv9, (fr _ (by omega)).trans hps, (fr _ (by omega)).trans hip, ⟨tb, (fr _ (by omega)).trans htb⟩, (fr _ (by omega)).trans hli, (fr _ (by omega)).trans hlt, (fr _ (by omega)).trans hbg, cm, (fr _ (by omega)).trans hcm⟩, fun q q0 q1 => ?_⟩)
        rw [show ((k : Nat) : Int) = 146 by omega, qa_cp_in (by omega)]
        congr 1; omega
      · exact absurd hc2 (by omega)
    | succ f9 iT1 =>
      intro τ k ⟨hkf, e0, hM, hm, hsv, fr⟩
      refine qa_iload_n (pc' := 8) ⟨rfl, rfl⟩ rfl ?_
      refine qa_sipush (z := 146) (pc' := 11) ⟨rfl, rfl⟩ rfl ?_
      refine qa_icmp_ge (pc' := 14) (tgt := 32) ⟨rfl, rfl⟩ rfl (by omega) (by omega) (fun hc2 => ?_) (fun hc2 => ?_)
      · exact absurd hc2 (by omega)
      · refine qa_aload_n (pc' := 15) ⟨rfl, rfl⟩ rfl ?_
        refine qa_getf (pc' := 18) ⟨rfl, rfl⟩ qg_10_16 (by assumption) rfl ?_
        refine qa_iload_n (pc' := 19) ⟨rfl, rfl⟩ rfl ?_
        refine qa_aload_n (pc' := 20) ⟨rfl, rfl⟩ rfl ?_
        refine qa_getf (pc' := 23) ⟨rfl, rfl⟩ qg_10_9 (by assumption) rfl ?_
        refine qa_iload_n (pc' := 24) ⟨rfl, rfl⟩ rfl ?_
        refine qa_iaload (pc' := 25) ⟨rfl, rfl⟩ hm (by omega) ?_
        refine qa_iastore (pc' := 26) ⟨rfl, rfl⟩ hsv (by omega) (by omega) ?_
        refine qa_gz (fun τ61 e61 w61 f61 => ?_)
        replace hM := (f61 _ (by omega)).trans hM
        replace hm := (f61 _ (by omega)).trans hm
        replace fr := fun q hq => (f61 q (by have := hq; omega)).trans (fr q hq)
        replace e0 := e61.trans e0
        have hsv : τ61.1 (μ + 3) = some (qa_ia 146 (qa_cp m sv 0 0 ((k + 1 : Nat) : Int))) := by rw [← qa_cp_s, Int.zero_add]; exact w61
        refine qa_iinc (L' := [(0, _), (1, _)]) (z := ((k + 1 : Nat) : Int)) (pc' := 29) ⟨rfl, rfl⟩ rfl (by omega) rfl rfl ?_
        refine qa_goto (pc' := 32) (tgt := 7) ⟨rfl, rfl⟩ rfl ?_
        exact iT1 _ (k + 1) ⟨by omega, e0, hM, hm, hsv, fr⟩
  exact T1 146 _ 0 ⟨by omega, e0, hM, hm, by rw [qa_cp_z]; exact hsv, fr⟩
theorem c_M_restoreSnapshot {E : qa_V} {σ : qa_S} {μ : Nat} {f : Nat → Int} {m sv ps ip li : Int → Int} {B : Int}  (hlo : E.1 ≤ μ) (hR : sR_M σ.1 μ f m sv ps ip li) (hk : sm_ok m B) (h5 : 0 ≤ f 5 ∧ f 5 ≤ 8) (h3 : 0 ≤ f 3 ∧ f 3 ≤ 1) (hs0 : f 3 ≠ 0 → 0 ≤ sv 0 ∧ sv 0 ≤ 5) : qa_T E qm_M_restoreSnapshot 0 0 [.ref μ] σ (fun o9 τ => τ.2 = σ.2 ∧ (∀ q, (q < μ ∨ μ + 11 ≤ q) → τ.1 q = σ.1 q) ∧ ((f 3 = 0 ∧ (∃ v : Int, o9 = .inl (some (.int (qa_i v)))) ∧ sR_M τ.1 μ (sN_put f 12 1) m sv ps ip li) ∨ (f 3 ≠ 0 ∧ o9 = .inl (some (.int (qa_i (sv 0)))) ∧ ∃ m1 : Int → Int, sR_M τ.1 μ (sN_put (sN_put f 12 0) 5 0) m1 sv ps ip li ∧ sm_eqv m1 sv))) := by
  refine qa_enterQ (by decide) rfl qm_M_restoreSnapshot_ok rfl rfl (fun Q9 hQ => ?_)
  obtain ⟨k0, k1, k2, k3, k4, k5, k6, k7, k8⟩ := id hk
  have hR9 := hR
  obtain ⟨⟨hM, hm⟩, ⟨as, ha⟩, hsv, hps, hip, ⟨tb, htb⟩, hli, hlt, hbg, cm, hcm⟩ := hR
  have e0 : σ.2 = σ.2 := rfl
  have fr : ∀ q, (q ≠ μ ∧ q ≠ μ + 1) → σ.1 q = σ.1 q := fun _ _ => rfl
  refine qa_aload_n (pc' := 1) ⟨rfl, rfl⟩ rfl ?_
  refine qa_iconst (pc' := 2) ⟨rfl, rfl⟩ ?_
  refine qa_putf (fs' := [_, _, _, _, _, _, _, _, _, _, _, _, _, _, _, _, _, _, _, _, _, _, _, _, _, _, _]) (pc' := 5) ⟨rfl, rfl⟩ qg_10_51 qw_9 hM (by omega) rfl (fun r hr => by cases hr; exact ⟨rfl, Or.inl rfl⟩) rfl rfl ?_
  refine qa_gz (fun τ1 e1 w1 f1 => ?_)
  replace hm := (f1 _ (by omega)).trans hm
  replace hsv := (f1 _ (by omega)).trans hsv
  replace fr := fun q hq => (f1 q (by have := hq; omega)).trans (fr q hq)
  replace e0 := e1.trans e0
  have hM : τ1.1 μ = some (qa_MoF μ (sN_put f 12 0)) := w1
  refine qa_aload_n (pc' := 6) ⟨rfl, rfl⟩ rfl ?_
  refine qa_getf (v := .int (qa_i (f 3))) (pc' := 9) ⟨rfl, rfl⟩ qg_10_311 (by assumption) rfl ?_
  refine qa_if_ne (pc' := 12) (tgt := 18) ⟨rfl, rfl⟩ rfl (by omega) (fun hc1 => ?_) (fun hc1 => ?_)
  · replace hR9 := 0
    refine qa_iconst (pc' := 19) ⟨rfl, rfl⟩ ?_
    refine qa_istore_n (L' := [(0, _), (1, _)]) (pc' := 20) ⟨rfl, rfl⟩ rfl rfl ?_
    have T1 : ∀ (f9 : Nat) (τ : qa_S) (k : Nat), ((k : Int) + f9 = 146 ∧ τ.2 = σ.2 ∧ τ.1 μ = some (qa_MoF μ (sN_put f 12 0)) ∧ τ.1 (μ + 1) = some (qa_ia 146 (qa_cp sv m 0 0 k)) ∧ τ.1 (μ + 3) = some (qa_ia 146 sv) ∧ (∀ q, (q ≠ μ ∧ q ≠ μ + 1) → τ.1 q = σ.1 q)) → qa_W E qm_M_restoreSnapshot Q9 0 0 20 [(0, .ref μ), (1, .int (qa_i k))] [] τ := by
      clear hM hm hsv e0 fr
      intro f9
      induction f9 with
      | zero =>
        intro τ k ⟨hkf, e0, hM, hm, hsv, fr⟩
        refine qa_iload_n (pc' := 21) ⟨rfl, rfl⟩ rfl ?_
        refine qa_sipush (z := 146) (pc' := 24) ⟨rfl, rfl⟩ rfl ?_
        refine qa_icmp_ge (pc' := 27) (tgt := 45) ⟨rfl, rfl⟩ rfl (by omega) (by omega) (fun hc2 => ?_) (fun hc2 => ?_)
        · refine qa_aload_n (pc' := 46) ⟨rfl, rfl⟩ rfl ?_
          refine qa_iconst (pc' := 47) ⟨rfl, rfl⟩ ?_
          refine qa_putf (fs' := [_, _, _, _, _, _, _, _, _, _, _, _, _, _, _, _, _, _, _, _, _, _, _, _, _, _, _]) (pc' := 50) ⟨rfl, rfl⟩ qg_10_67 qw_9 hM (by omega) rfl (fun r hr => by cases hr; exact ⟨rfl, Or.inl rfl⟩) rfl rfl ?_
          refine qa_gz (fun τ61 e61 w61 f61 => ?_)
          replace hm := (f61 _ (by omega)).trans hm
          replace hsv := (f61 _ (by omega)).trans hsv
          replace fr := fun q hq => (f61 q (by have := hq; omega)).trans (fr q hq)
          replace e0 := e61.trans e0
          have hM : τ61.1 μ = some (qa_MoF μ (sN_put (sN_put f 12 0) 5 0)) := w61
          refine qa_aload_n (pc' := 51) ⟨rfl, rfl⟩ rfl ?_
          refine qa_getf (pc' := 54) ⟨rfl, rfl⟩ qg_10_9 (by assumption) rfl ?_
          refine qa_iconst (pc' := 55) ⟨rfl, rfl⟩ ?_
          refine qa_iaload (pc' := 56) ⟨rfl, rfl⟩ (by assumption) (by omega) ?_
          have e9 : qa_cp sv m 0 0 ((k : Nat) : Int) 0 = sv 0 := by rw [qa_cp_in (by omega)]; congr 1
          rw [e9]
          have m9 := hm
          refine qa_ireturn rfl rfl rfl (hQ _ _ ⟨e0, fun q hq => fr q (by omega), Or.inr ⟨hc1, rfl, _, ⟨⟨hM, m9⟩, ⟨as, (fr _ (by omega)).trans ha⟩, hsv, (fr _ (by omega)).trans hps, (fr _ (by omega)).trans hip, ⟨tb, (fr _ (by omega)).trans htb⟩, (fr _ (by omega)).trans hli, (fr _ (by omega)).trans hlt, (fr _ (by omega)).trans hbg, cm, (fr _ (by omega)).trans hcm⟩, fun q q0 q1 => ?_⟩⟩)
          rw [show ((k : Nat) : Int) = 146 by omega, qa_cp_in (by omega)]
          congr 1; omega
        · exact absurd hc2 (by omega)
      | succ f9 iT1 =>
        intro τ k ⟨hkf, e0, hM, hm, hsv, fr⟩
        refine qa_iload_n (pc' := 21) ⟨rfl, rfl⟩ rfl ?_
        refine qa_sipush (z := 146) (pc' := 24) ⟨rfl, rfl⟩ rfl ?_
        refine qa_icmp_ge (pc' := 27) (tgt := 45) ⟨rfl, rfl⟩ rfl (by omega) (by omega) (fun hc2 => ?_) (fun hc2 => ?_)
        · exact absurd hc2 (by omega)
        · refine qa_aload_n (pc' := 28) ⟨rfl, rfl⟩ rfl ?_
          refine qa_getf (pc' := 31) ⟨rfl, rfl⟩ qg_10_9 (by assumption) rfl ?_
          refine qa_iload_n (pc' := 32) ⟨rfl, rfl⟩ rfl ?_
          refine qa_aload_n (pc' := 33) ⟨rfl, rfl⟩ rfl ?_
          refine qa_getf (pc' := 36) ⟨rfl, rfl⟩ qg_10_16 (by assumption) rfl ?_
          refine qa_iload_n (pc' := 37) ⟨rfl, rfl⟩ rfl ?_
          refine qa_iaload (pc' := 38) ⟨rfl, rfl⟩ hsv (by omega) ?_
          refine qa_iastore (pc' := 39) ⟨rfl, rfl⟩ hm (by omega) (by omega) ?_
          refine qa_gz (fun τ61 e61 w61 f61 => ?_)
          replace hM := (f61 _ (by omega)).trans hM
          replace hsv := (f61 _ (by omega)).trans hsv
          replace fr := fun q hq => (f61 q (by have := hq; omega)).trans (fr q hq)
          replace e0 := e61.trans e0
          have hm : τ61.1 (μ + 1) = some (qa_ia 146 (qa_cp sv m 0 0 ((k + 1 : Nat) : Int))) := by rw [← qa_cp_s, Int.zero_add]; exact w61
          refine qa_iinc (L' := [(0, _), (1, _)]) (z := ((k + 1 : Nat) : Int)) (pc' := 42) ⟨rfl, rfl⟩ rfl (by omega) rfl rfl ?_
          refine qa_goto (pc' := 45) (tgt := 20) ⟨rfl, rfl⟩ rfl ?_
          exact iT1 _ (k + 1) ⟨by omega, e0, hM, hm, hsv, fr⟩
    exact T1 146 _ 0 ⟨by omega, e0, hM, by rw [qa_cp_z]; exact hm, hsv, fr⟩
  · refine qa_aload_n (pc' := 13) ⟨rfl, rfl⟩ rfl ?_
    refine qa_iconst (pc' := 14) ⟨rfl, rfl⟩ ?_
    refine qa_callV rfl qf_M_throwing ql_10_60 (c_M_throwing (E := E) (f := sN_put f 12 0) (v := 1) hlo hM) hM rfl rfl rfl (qa_lt9 rfl) (qa_le9 rfl) (qa_le9 rfl) (qa_le9 rfl) (fun o9 τ9 hq9 => ?_)
    obtain ⟨rfl, e9, hM, f9⟩ := hq9
    refine qa_nx (pc' := 17) (st' := [_]) rfl rfl rfl rfl ?_
    rw [sN_pp] at hM
    refine qa_ireturn rfl rfl rfl (hQ _ _ ⟨e9.trans e0, fun q hq => (f9 q (by omega)).trans (fr q (by omega)), Or.inl ⟨hc1, ⟨_, rfl⟩, hR9.setF (fun q hq => (f9 q hq).trans (f1 q hq)) hM⟩⟩)
theorem c_M_appendInput {E : qa_V} {σ : qa_S} {μ : Nat} {f : Nat → Int} {m sv ps ip li : Int → Int} {B : Int} {x : Int} (hlo : E.1 ≤ μ) (hR : sR_M σ.1 μ f m sv ps ip li) (hk : sm_ok m B) (h5 : 0 ≤ f 5 ∧ f 5 ≤ 8) (hx : 0 ≤ x ∧ x ≤ 65535) (h14 : 0 ≤ f 14 ∧ f 14 ≤ 60) : qa_T E qm_M_appendInput 0 0 [.ref μ, .int (qa_i x)] σ (fun o9 τ => τ.2 = σ.2 ∧ (∀ q, (q < μ ∨ μ + 11 ≤ q) → τ.1 q = σ.1 q) ∧ ((¬ (32 ≤ x ∧ x ≤ 126) ∧ (∃ v : Int, o9 = .inl (some (.int (qa_i v)))) ∧ sR_M τ.1 μ (sN_put f 12 1) m sv ps ip li) ∨ ((32 ≤ x ∧ x ≤ 126) ∧ f 14 = 60 ∧ (∃ v : Int, o9 = .inl (some (.int (qa_i v)))) ∧ sR_M τ.1 μ (sN_put f 12 2) m sv ps ip li) ∨ ((32 ≤ x ∧ x ≤ 126) ∧ f 14 ≠ 60 ∧ o9 = .inl (some (.int (qa_i (f 14 + 1)))) ∧ sR_M τ.1 μ (sN_put (sN_put f 12 0) 14 (f 14 + 1)) m sv ps (qa_up ip (f 14) x) li))) := by
  refine qa_enterQ (by decide) rfl qm_M_appendInput_ok rfl rfl (fun Q9 hQ => ?_)
  obtain ⟨k0, k1, k2, k3, k4, k5, k6, k7, k8⟩ := id hk
  have hR9 := hR
  obtain ⟨⟨hM, hm⟩, ⟨as, ha⟩, hsv, hps, hip, ⟨tb, htb⟩, hli, hlt, hbg, cm, hcm⟩ := hR
  have e0 : σ.2 = σ.2 := rfl
  have fr : ∀ q, (q ≠ μ ∧ q ≠ μ + 5) → σ.1 q = σ.1 q := fun _ _ => rfl
  refine qa_aload_n (pc' := 1) ⟨rfl, rfl⟩ rfl ?_
  refine qa_iconst (pc' := 2) ⟨rfl, rfl⟩ ?_
  refine qa_putf (fs' := [_, _, _, _, _, _, _, _, _, _, _, _, _, _, _, _, _, _, _, _, _, _, _, _, _, _, _]) (pc' := 5) ⟨rfl, rfl⟩ qg_10_51 qw_9 hM (by omega) rfl (fun r hr => by cases hr; exact ⟨rfl, Or.inl rfl⟩) rfl rfl ?_
  refine qa_gz (fun τ1 e1 w1 f1 => ?_)
  replace hip := (f1 _ (by omega)).trans hip
  replace fr := fun q hq => (f1 q (by have := hq; omega)).trans (fr q hq)
  replace e0 := e1.trans e0
  have hM : τ1.1 μ = some (qa_MoF μ (sN_put f 12 0)) := w1
  refine qa_iload_n (pc' := 6) ⟨rfl, rfl⟩ rfl ?_
  refine qa_i2l (pc' := 7) ⟨rfl, rfl⟩ (by omega) ?_
  refine qa_ldc2 (z := 32) (pc' := 10) ⟨rfl, rfl⟩ qk_10_255 ?_
  refine qa_ldc2 (z := 126) (pc' := 13) ⟨rfl, rfl⟩ qk_10_257 ?_
  refine qa_callS rfl qf_M_in rfl ql_10_70 (c_M_in (E := E) (by omega) (by omega) (by omega)) rfl rfl (qa_lt9 rfl) (qa_le9 rfl) (qa_le9 rfl) (qa_le9 rfl) (fun o9 τ9 hq9 => ?_)
  obtain ⟨rfl, hq9⟩ := hq9
  replace hq9 := hq9.symm; subst hq9
  refine qa_nx (pc' := 16) (st' := [_]) rfl rfl rfl rfl ?_
  by_cases hi9 : 32 ≤ x ∧ x ≤ 126
  · rw [if_pos hi9]
    refine qa_if_ne (pc' := 19) (tgt := 25) ⟨rfl, rfl⟩ rfl (by omega) (fun hi99 => ?_) (fun hi99 => ?_)
    · refine qa_aload_n (pc' := 26) ⟨rfl, rfl⟩ rfl ?_
      refine qa_getf (v := .int (qa_i (f 14))) (pc' := 29) ⟨rfl, rfl⟩ qg_10_259 (by assumption) rfl ?_
      refine qa_bipush (z := 60) (pc' := 31) ⟨rfl, rfl⟩ rfl ?_
      refine qa_icmp_ne (pc' := 34) (tgt := 40) ⟨rfl, rfl⟩ rfl (by omega) (by omega) (fun hc2 => ?_) (fun hc2 => ?_)
      · refine qa_aload_n (pc' := 41) ⟨rfl, rfl⟩ rfl ?_
        refine qa_getf (pc' := 44) ⟨rfl, rfl⟩ qg_10_32 (by assumption) rfl ?_
        refine qa_aload_n (pc' := 45) ⟨rfl, rfl⟩ rfl ?_
        refine qa_getf (v := .int (qa_i (f 14))) (pc' := 48) ⟨rfl, rfl⟩ qg_10_259 (by assumption) rfl ?_
        refine qa_iload_n (pc' := 49) ⟨rfl, rfl⟩ rfl ?_
        refine qa_iastore (pc' := 50) ⟨rfl, rfl⟩ hip (by omega) (by omega) ?_
        refine qa_gz (fun τ2 e2 w2 f2 => ?_)
        replace hM := (f2 _ (by omega)).trans hM
        replace fr := fun q hq => (f2 q (by have := hq; omega)).trans (fr q hq)
        replace e0 := e2.trans e0
        have hip := w2
        refine qa_aload_n (pc' := 51) ⟨rfl, rfl⟩ rfl ?_
        refine qa_dup (pc' := 52) ⟨rfl, rfl⟩ rfl ?_
        refine qa_getf (v := .int (qa_i (f 14))) (pc' := 55) ⟨rfl, rfl⟩ qg_10_259 (by assumption) rfl ?_
        refine qa_iconst (pc' := 56) ⟨rfl, rfl⟩ ?_
        refine qa_iadd (pc' := 57) ⟨rfl, rfl⟩ rfl ?_
        refine qa_putf (fs' := [_, _, _, _, _, _, _, _, _, _, _, _, _, _, _, _, _, _, _, _, _, _, _, _, _, _, _]) (pc' := 60) ⟨rfl, rfl⟩ qg_10_259 qw_9 hM (by omega) rfl (fun r hr => by cases hr; exact ⟨rfl, Or.inl rfl⟩) rfl rfl ?_
        refine qa_gz (fun τ3 e3 w3 f3 => ?_)
        replace hip := (f3 _ (by omega)).trans hip
        replace fr := fun q hq => (f3 q (by have := hq; omega)).trans (fr q hq)
        replace e0 := e3.trans e0
        have hM : τ3.1 μ = some (qa_MoF μ (sN_put (sN_put f 12 0) 14 (f 14 + 1))) := w3
        refine qa_aload_n (pc' := 61) ⟨rfl, rfl⟩ rfl ?_
        refine qa_getf (v := .int (qa_i (f 14 + 1))) (pc' := 64) ⟨rfl, rfl⟩ qg_10_259 (by assumption) rfl ?_
        have ip9 := hip
        refine qa_ireturn rfl rfl rfl (hQ _ _ ⟨e0, fun q hq => fr q (by omega), Or.inr (Or.inr ⟨hi9, hc2, rfl, ⟨⟨hM, (fr _ (by omega)).trans hm⟩, ⟨as, (fr _ (by omega)).trans ha⟩, (fr _ (by omega)).trans hsv, (fr _ (by omega)).trans hps, ip9, ⟨tb, (fr _ (by omega)).trans htb⟩, (fr _ (by omega)).trans hli, (fr _ (by omega)).trans hlt, (fr _ (by omega)).trans hbg, cm, (fr _ (by omega)).trans hcm⟩⟩)⟩)
      · refine qa_aload_n (pc' := 35) ⟨rfl, rfl⟩ rfl ?_
        refine qa_iconst (pc' := 36) ⟨rfl, rfl⟩ ?_
        refine qa_callV rfl qf_M_throwing ql_10_60 (c_M_throwing (E := E) (f := sN_put f 12 0) (v := 2) hlo hM) hM rfl rfl rfl (qa_lt9 rfl) (qa_le9 rfl) (qa_le9 rfl) (qa_le9 rfl) (fun o9 τ9 hq9 => ?_)
        obtain ⟨rfl, e9, hM, f9⟩ := hq9
        refine qa_nx (pc' := 39) (st' := [_]) rfl rfl rfl rfl ?_
        rw [sN_pp] at hM
        refine qa_ireturn rfl rfl rfl (hQ _ _ ⟨e9.trans e0, fun q hq => (f9 q (by omega)).trans (fr q (by omega)), Or.inr (Or.inl ⟨hi9, hc2, ⟨_, rfl⟩, hR9.setF (fun q hq => (f9 q hq).trans (f1 q hq)) hM⟩)⟩)
    · exact absurd hi99 (by omega)
  · rw [if_neg hi9]
    refine qa_if_ne (pc' := 19) (tgt := 25) ⟨rfl, rfl⟩ rfl (by omega) (fun hi99 => ?_) (fun hi99 => ?_)
    · exact absurd hi99 (by omega)
    · refine qa_aload_n (pc' := 20) ⟨rfl, rfl⟩ rfl ?_
      refine qa_iconst (pc' := 21) ⟨rfl, rfl⟩ ?_
      refine qa_callV rfl qf_M_throwing ql_10_60 (c_M_throwing (E := E) (f := sN_put f 12 0) (v := 1) hlo hM) hM rfl rfl rfl (qa_lt9 rfl) (qa_le9 rfl) (qa_le9 rfl) (qa_le9 rfl) (fun o9 τ9 hq9 => ?_)
      obtain ⟨rfl, e9, hM, f9⟩ := hq9
      refine qa_nx (pc' := 24) (st' := [_]) rfl rfl rfl rfl ?_
      rw [sN_pp] at hM
      refine qa_ireturn rfl rfl rfl (hQ _ _ ⟨e9.trans e0, fun q hq => (f9 q (by omega)).trans (fr q (by omega)), Or.inl ⟨hi9, ⟨_, rfl⟩, hR9.setF (fun q hq => (f9 q hq).trans (f1 q hq)) hM⟩⟩)
