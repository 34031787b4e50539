/-! depths and circles of cues: all ways come to the same, for every table of 5 sources -/
def sq_v (n : Nat) (j : Int) : Int := if n / 5 ^ j.toNat % 5 = 0 then -1 else if ((n / 5 ^ j.toNat % 5 : Nat) : Int) - 1 < j then ((n / 5 ^ j.toNat % 5 : Nat) : Int) - 1 else ((n / 5 ^ j.toNat % 5 : Nat) : Int)
def sq_A (d md : Int) : Bool := if d = -1 then decide (5 < md) else decide (d = md ∧ md ≤ 5)
def sq_B (a b c : Int) : Bool := decide (a = c ∧ b = c ∧ 0 ≤ c ∧ c ≤ 5)
def sq_c (s : Int → Int) (p : Int) : Bool := sq_A (sp_dp s 5 p 0) (sp_md s 6 p 0) && sq_B (sp_ts s 10 p p) (sp_mk s 6 p 0 (fun _ => -1)) (sp_mc s 5 p)
def sq_s (n : Nat) : Bool := sq_c (sq_v n) 0 && (sq_c (sq_v n) 1 && (sq_c (sq_v n) 2 && (sq_c (sq_v n) 3 && sq_c (sq_v n) 4)))
def sq_r (k : Nat) : Bool := (List.range 125).all (fun n => sq_s (n + 125 * k))
set_option maxRecDepth 100000 in
theorem sq_r0 : (List.range 5).all (fun k => sq_r k) = true := by decide +kernel
set_option maxRecDepth 100000 in
theorem sq_r1 : (List.range 5).all (fun k => sq_r (k + 5)) = true := by decide +kernel
set_option maxRecDepth 100000 in
theorem sq_r2 : (List.range 5).all (fun k => sq_r (k + 10)) = true := by decide +kernel
set_option maxRecDepth 100000 in
theorem sq_r3 : (List.range 5).all (fun k => sq_r (k + 15)) = true := by decide +kernel
set_option maxRecDepth 100000 in
theorem sq_r4 : (List.range 5).all (fun k => sq_r (k + 20)) = true := by decide +kernel
theorem sq_all (n : Nat) (hn : n < 3125) : sq_s n = true := by
  have key : sq_r (n / 125) = true := by
    have h0 := List.all_eq_true.mp sq_r0
    have h1 := List.all_eq_true.mp sq_r1
    have h2 := List.all_eq_true.mp sq_r2
    have h3 := List.all_eq_true.mp sq_r3
    have h4 := List.all_eq_true.mp sq_r4
    rcases (show n / 125 < 5 ∨ (5 ≤ n / 125 ∧ n / 125 < 10) ∨ (10 ≤ n / 125 ∧ n / 125 < 15) ∨ (15 ≤ n / 125 ∧ n / 125 < 20) ∨ (20 ≤ n / 125 ∧ n / 125 < 25) by omega) with h | h | h | h | h
    · exact h0 _ (List.mem_range.mpr h)
    · have := h1 (n / 125 - 5) (List.mem_range.mpr (by omega))
      rwa [show n / 125 - 5 + 5 = n / 125 by omega] at this
    · have := h2 (n / 125 - 10) (List.mem_range.mpr (by omega))
      rwa [show n / 125 - 10 + 10 = n / 125 by omega] at this
    · have := h3 (n / 125 - 15) (List.mem_range.mpr (by omega))
      rwa [show n / 125 - 15 + 15 = n / 125 by omega] at this
    · have := h4 (n / 125 - 20) (List.mem_range.mpr (by omega))
      rwa [show n / 125 - 20 + 20 = n / 125 by omega] at this
  have h := (List.all_eq_true.mp key) (n % 125) (List.mem_range.mpr (by omega))
  rwa [show n % 125 + 125 * (n / 125) = n by omega] at h
theorem sq_tab (s : Int → Int) (h : ∀ j : Int, 0 ≤ j → j < 5 → -1 ≤ s j ∧ s j ≤ 4 ∧ s j ≠ j) : ∃ n : Nat, n < 3125 ∧ ∀ j : Int, 0 ≤ j → j < 5 → sq_v n j = s j := by
  have e : ∀ j : Int, 0 ≤ j → j < 5 → ∃ x : Nat, x < 5 ∧ (if x = 0 then (-1 : Int) else if (x : Int) - 1 < j then (x : Int) - 1 else x) = s j := by
    intro j j0 j1
    have hj := h j j0 j1
    by_cases h1 : s j = -1
    · exact ⟨0, by omega, by rw [if_pos rfl, h1]⟩
    · by_cases h2 : s j < j
      · exact ⟨(s j + 1).toNat, by omega, by rw [if_neg (by omega), if_pos (by omega)]; omega⟩
      · exact ⟨(s j).toNat, by omega, by rw [if_neg (by omega), if_neg (by omega)]; omega⟩
  obtain ⟨x0, b0, e0⟩ := e 0 (by omega) (by omega)
  obtain ⟨x1, b1, e1⟩ := e 1 (by omega) (by omega)
  obtain ⟨x2, b2, e2⟩ := e 2 (by omega) (by omega)
  obtain ⟨x3, b3, e3⟩ := e 3 (by omega) (by omega)
  obtain ⟨x4, b4, e4⟩ := e 4 (by omega) (by omega)
  refine ⟨x0 + 5 * x1 + 25 * x2 + 125 * x3 + 625 * x4, by omega, fun j j0 j1 => ?_⟩
  have dg : ∀ (x j : Nat), (x0 + 5 * x1 + 25 * x2 + 125 * x3 + 625 * x4) / 5 ^ j % 5 = x → ∀ v : Int, (if x = 0 then (-1 : Int) else if (x : Int) - 1 < ((j : Nat) : Int) then (x : Int) - 1 else x) = v → sq_v (x0 + 5 * x1 + 25 * x2 + 125 * x3 + 625 * x4) ((j : Nat) : Int) = v := by
    intro x j hx v hv
    unfold sq_v
    rw [Int.toNat_natCast, hx]
    exact hv
  obtain ⟨k, rfl⟩ : ∃ k : Nat, j = k := ⟨j.toNat, by omega⟩
  rcases (show k = 0 ∨ k = 1 ∨ k = 2 ∨ k = 3 ∨ k = 4 by omega) with rfl | rfl | rfl | rfl | rfl
  · exact dg x0 0 (by omega) _ e0
  · exact dg x1 1 (by omega) _ e1
  · exact dg x2 2 (by omega) _ e2
  · exact dg x3 3 (by omega) _ e3
  · exact dg x4 4 (by omega) _ e4
theorem sp_md_ext {f g : Int → Int} (h : ∀ i, sp_af f i = sp_af g i) : ∀ (k : Nat) (a d : Int), sp_md f k a d = sp_md g k a d
  | 0, _, _ => rfl
  | k + 1, a, d => by rw [sp_md_s, sp_md_s, h a, sp_md_ext h k]
theorem sp_mw_ext {f g : Int → Int} (h : ∀ i, sp_af f i = sp_af g i) (a : Int) : ∀ (k : Nat) (x d : Int), sp_mw f a k x d = sp_mw g a k x d
  | 0, _, _ => rfl
  | k + 1, x, d => by rw [sp_mw_s, sp_mw_s, h x, sp_mw_ext h a k]
theorem sp_mc_ext {f g : Int → Int} (h : ∀ i, sp_af f i = sp_af g i) : ∀ (k : Nat) (a : Int), sp_mc f k a = sp_mc g k a
  | 0, a => by
    show sp_mw f a 7 (sp_af f a) 1 = sp_mw g a 7 (sp_af g a) 1
    rw [h a, sp_mw_ext h]
  | k + 1, a => by rw [sp_mc_s, sp_mc_s, h a, sp_mc_ext h k]
theorem sq_any {s : Int → Int} (h : ∀ j : Int, 0 ≤ j → j < 5 → -1 ≤ s j ∧ s j ≤ 4 ∧ s j ≠ j) {p : Int} (hp : 0 ≤ p ∧ p < 5) : ((sp_dp s 5 p 0 = -1 ∧ 5 < sp_md s 6 p 0) ∨ (sp_dp s 5 p 0 ≠ -1 ∧ sp_dp s 5 p 0 = sp_md s 6 p 0 ∧ sp_md s 6 p 0 ≤ 5)) ∧ sp_ts s 10 p p = sp_mc s 5 p ∧ sp_mk s 6 p 0 (fun _ => -1) = sp_mc s 5 p ∧ 0 ≤ sp_mc s 5 p ∧ sp_mc s 5 p ≤ 5 := by
  obtain ⟨n, hn, hv⟩ := sq_tab s h
  have ha : ∀ i, sp_af s i = sp_af (sq_v n) i := by
    intro i
    unfold sp_af
    split
    · exact (hv i (by omega) (by omega)).symm
    · rfl
  rw [sp_dp_ext ha, sp_md_ext ha, sp_ts_ext ha, sp_mc_ext ha, sp_mk_ext2 (f := s) (g := sq_v n) (fun i a b => (hv i a (by omega)).symm)]
  have hs := sq_all n hn
  unfold sq_s at hs
  rw [Bool.and_eq_true, Bool.and_eq_true, Bool.and_eq_true, Bool.and_eq_true] at hs
  have hc : sq_c (sq_v n) p = true := by
    rcases (show p = 0 ∨ p = 1 ∨ p = 2 ∨ p = 3 ∨ p = 4 by omega) with rfl | rfl | rfl | rfl | rfl
    · exact hs.1
    · exact hs.2.1
    · exact hs.2.2.1
    · exact hs.2.2.2.1
    · exact hs.2.2.2.2
  unfold sq_c at hc
  rw [Bool.and_eq_true] at hc
  obtain ⟨h1, h2⟩ := hc
  unfold sq_B at h2
  have h3 := of_decide_eq_true h2
  refine ⟨?_, h3.1, h3.2.1, h3.2.2⟩
  unfold sq_A at h1
  split at h1
  · rename_i h4
    exact Or.inl ⟨h4, of_decide_eq_true h1⟩
  · rename_i h4
    exact Or.inr ⟨h4, of_decide_eq_true h1⟩
theorem sm_src_ok {m : Int → Int} {B : Int} (hk : sm_ok m B) (j : Int) (j0 : 0 ≤ j) (j1 : j < 5) : -1 ≤ sm_src m j ∧ sm_src m j ≤ 4 ∧ sm_src m j ≠ j := by
  have k0 := hk.1
  unfold sm_src
  split
  · have h := (hk.2.2.2.2.2.1 j j0 (by assumption)).2.2.1
    omega
  · omega
theorem sq_m {m : Int → Int} {B : Int} (hk : sm_ok m B) {p : Int} (hp : sm_is m p) : fo_cd m p (sp_md (sm_src m) 6 p 0) = fo_foundP m p (sp_dp (sm_src m) 5 p 0) ∧ sp_ts (sm_src m) 10 p p = sp_mc (sm_src m) 5 p ∧ sp_mk (sm_src m) 6 p 0 (fun _ => -1) = sp_mc (sm_src m) 5 p ∧ 0 ≤ sp_mc (sm_src m) 5 p ∧ sp_mc (sm_src m) 5 p ≤ 5 := by
  have k0 := hk.1
  obtain ⟨h1, h2⟩ := sq_any (sm_src_ok hk) (p := p) ⟨hp.1, by have := hp.2; omega⟩
  refine ⟨?_, h2⟩
  unfold fo_cd fo_foundP
  rw [if_pos hp, if_pos hp]
  rcases h1 with ⟨h3, h4⟩ | ⟨h3, h4, h5⟩
  · rw [if_pos h4, if_pos h3]
  · rw [if_neg (by omega), if_neg h3, h4]
