/-! what the tables say -/
theorem sf_nn {x : UInt32} (h : sf_n x = true) : vf_n32 x := (of_decide_eq_true h : x &&& 0x7fffffff ≤ 0x7f800000)
theorem sf_ww {x : UInt64} (h : sf_w x = true) : vf_n64 x ∧ FP.dcmp x x = some .eq := by
  unfold sf_w at h
  rw [Bool.and_eq_true] at h
  exact ⟨(of_decide_eq_true h.1 : x &&& 0x7fffffffffffffff ≤ 0x7ff0000000000000), of_decide_eq_true h.2⟩
theorem sf_rr {k : Nat} (h : (List.range 10).all (fun t => sf_r (t + 10 * k)) = true) {t : Nat} (h1 : 10 * k ≤ t) (h2 : t < 10 * k + 10) : sf_r t = true := by
  have := (List.all_eq_true.mp h) (t - 10 * k) (List.mem_range.mpr (by omega))
  rwa [show t - 10 * k + 10 * k = t by omega] at this
theorem sf_ra (t : Nat) (ht : t < 120) : sf_r t = true := by
  rcases (show (10 * 0 ≤ t ∧ t < 10 * 0 + 10) ∨ (10 * 1 ≤ t ∧ t < 10 * 1 + 10) ∨ (10 * 2 ≤ t ∧ t < 10 * 2 + 10) ∨ (10 * 3 ≤ t ∧ t < 10 * 3 + 10) ∨ (10 * 4 ≤ t ∧ t < 10 * 4 + 10) ∨ (10 * 5 ≤ t ∧ t < 10 * 5 + 10) ∨ (10 * 6 ≤ t ∧ t < 10 * 6 + 10) ∨ (10 * 7 ≤ t ∧ t < 10 * 7 + 10) ∨ (10 * 8 ≤ t ∧ t < 10 * 8 + 10) ∨ (10 * 9 ≤ t ∧ t < 10 * 9 + 10) ∨ (10 * 10 ≤ t ∧ t < 10 * 10 + 10) ∨ (10 * 11 ≤ t ∧ t < 10 * 11 + 10) by omega) with ⟨h, h2⟩ | ⟨h, h2⟩ | ⟨h, h2⟩ | ⟨h, h2⟩ | ⟨h, h2⟩ | ⟨h, h2⟩ | ⟨h, h2⟩ | ⟨h, h2⟩ | ⟨h, h2⟩ | ⟨h, h2⟩ | ⟨h, h2⟩ | ⟨h, h2⟩
  · exact sf_rr (k := 0) sf_r0 h h2
  · exact sf_rr (k := 1) sf_r1 h h2
  · exact sf_rr (k := 2) sf_r2 h h2
  · exact sf_rr (k := 3) sf_r3 h h2
  · exact sf_rr (k := 4) sf_r4 h h2
  · exact sf_rr (k := 5) sf_r5 h h2
  · exact sf_rr (k := 6) sf_r6 h h2
  · exact sf_rr (k := 7) sf_r7 h h2
  · exact sf_rr (k := 8) sf_r8 h h2
  · exact sf_rr (k := 9) sf_r9 h h2
  · exact sf_rr (k := 10) sf_r10 h h2
  · exact sf_rr (k := 11) sf_r11 h h2
theorem sf_all {r t : Int} (hr : 0 ≤ r ∧ r ≤ t) (ht : 1 ≤ t ∧ t ≤ 120) : sf_t r (sf_x r t) = true := by
  have h := (List.all_eq_true.mp (sf_ra (t.toNat - 1) (by omega))) r.toNat (List.mem_range.mpr (by omega))
  rw [show ((r.toNat : Nat) : Int) = r by omega, show (((t.toNat - 1 : Nat) : Int) + 1) = t by omega] at h
  exact h
theorem sf_kk {s n : Int} (hs : 0 ≤ s ∧ s ≤ 350) (hn : 1 ≤ n ∧ n ≤ 10) : vf_n64 (sf_d s n) ∧ FP.dcmp (sf_d s n) (sf_d s n) = some .eq := by
  have h := (List.all_eq_true.mp ((List.all_eq_true.mp sf_k0) (n.toNat - 1) (List.mem_range.mpr (by omega)))) s.toNat (List.mem_range.mpr (by omega))
  rw [show ((s.toNat : Nat) : Int) = s by omega, show (((n.toNat - 1 : Nat) : Int) + 1) = n by omega] at h
  exact sf_ww h
/-- what is known of a share -/
theorem sf_xx {r t : Int} (hr : 0 ≤ r ∧ r ≤ t) (ht : 1 ≤ t ∧ t ≤ 120) : vf_n32 (sf_x r t) ∧ FP.fcmp (sf_x r t) (sf_x r t) = some .eq ∧ (vf_n64 (FP.f2d (sf_x r t)) ∧ FP.dcmp (FP.f2d (sf_x r t)) (FP.f2d (sf_x r t)) = some .eq) ∧
    ((r = 0 → sf_o 1 (FP.fcmp (sf_x r t) FP.fconst0) ≤ 0 ∧ qa_i 0 = (sf_x r t).toInt32) ∧ (r ≠ 0 → 0 < sf_o 1 (FP.fcmp (sf_x r t) FP.fconst0) ∧ ∃ (y : UInt32) (e : Int), sf_go 127 (sf_x r t) 127 = some (y, e) ∧ (0 ≤ e ∧ e ≤ 127) ∧ vf_n32 (sf_y y) ∧ qa_i (e * 8388608 + (FP.f2i (sf_y y)).toInt - 8388608) = (sf_x r t).toInt32)) := by
  have h := sf_all hr ht
  generalize sf_x r t = x at *
  unfold sf_t at h
  rw [Bool.and_eq_true, Bool.and_eq_true, Bool.and_eq_true] at h
  obtain ⟨h1, h2, h3, h4⟩ := h
  refine ⟨sf_nn h1, of_decide_eq_true h2, sf_ww h3, fun h5 => ?_, fun h5 => ?_⟩
  · rw [if_pos h5, Bool.and_eq_true] at h4
    exact ⟨of_decide_eq_true h4.1, of_decide_eq_true h4.2⟩
  · rw [if_neg h5, Bool.and_eq_true] at h4
    refine ⟨of_decide_eq_true h4.1, ?_⟩
    have h6 := h4.2
    generalize sf_go 127 x 127 = p at *
    cases p with
    | none => exact absurd (show false = true from h6) (by decide)
    | some p =>
      obtain ⟨y, e⟩ := p
      unfold sf_z at h6
      have h7 : (decide (0 ≤ e ∧ e ≤ 127) && (sf_n (sf_y y) && decide (qa_i (e * 8388608 + (FP.f2i (sf_y y)).toInt - 8388608) = x.toInt32))) = true := h6
      rw [Bool.and_eq_true, Bool.and_eq_true] at h7
      exact ⟨y, e, rfl, of_decide_eq_true h7.1, sf_nn h7.2.1, of_decide_eq_true h7.2.2⟩
theorem sf_shl {e : Int} (h : 0 ≤ e ∧ e ≤ 127) : qa_i e <<< (qa_i 23 &&& 31) = qa_i (e * 8388608) := by
  have key : ∀ n : Fin 128, qa_i (n.val : Int) <<< (qa_i 23 &&& 31) = qa_i ((n.val : Int) * 8388608) := by decide +kernel
  obtain ⟨n, rfl⟩ : ∃ n : Nat, e = n := ⟨e.toNat, by omega⟩
  exact key ⟨n, by omega⟩
theorem sf_i (x : Int32) : qa_i x.toInt = x := Int32.ofInt_toInt x
/-- rests are a part of the whole -/
theorem sp_rs_su {p l : Int → Int} {n : Int} (hl : sp_Ln n l) : ∀ k : Nat, (k : Int) ≤ n → 0 ≤ sp_rs p l k ∧ sp_rs p l k ≤ sp_su l k
  | 0, _ => ⟨Int.le_refl _, Int.le_refl _⟩
  | k + 1, h => by
    have ih := sp_rs_su (p := p) hl k (by omega)
    have := hl k (by omega) (by omega)
    unfold sp_rs sp_su
    split <;> omega
theorem sp_ps_su {p : Int → Int} {n : Int} (hp : sp_P n p) : ∀ k : Nat, (k : Int) ≤ n → 0 ≤ sp_ps p k ∧ sp_ps p k ≤ 35 * k
  | 0, _ => ⟨Int.le_refl _, Int.le_refl _⟩
  | k + 1, h => by
    have ih := sp_ps_su hp k (by omega)
    have := hp k (by omega) (by omega)
    unfold sp_ps
    split <;> omega
def sm_rs (m : Int → Int) (p : Int) : UInt32 := sf_x (sp_rs (sm_pf m p) (sm_lf m p) (sm_n m p).toNat) (sm_wh m p)
def sm_md (m : Int → Int) (p : Int) : UInt64 := sf_d (sp_ps (sm_pf m p) (sm_n m p).toNat) (sp_ct (sm_pf m p) (sm_n m p).toNat)
/-- where a mean or a share is asked for: where it is thrown -/
def fo_mk (m : Int → Int) (p : Int) : Int := if sm_is m p then (if sp_ct (sm_pf m p) (sm_n m p).toNat = 0 then 2 else 0) else 1
def fo_rk (m : Int → Int) (p : Int) : Int := if sm_is m p then (if sm_n m p = 0 then 2 else 0) else 1
theorem sm_rs_b {m : Int → Int} {p : Int} (hk : sm_okp m p) : (0 ≤ sp_rs (sm_pf m p) (sm_lf m p) (sm_n m p).toNat ∧ sp_rs (sm_pf m p) (sm_lf m p) (sm_n m p).toNat ≤ sm_wh m p) ∧ (0 ≤ sp_ps (sm_pf m p) (sm_n m p).toNat ∧ sp_ps (sm_pf m p) (sm_n m p).toNat ≤ 350) ∧ (0 ≤ sp_ct (sm_pf m p) (sm_n m p).toNat ∧ sp_ct (sm_pf m p) (sm_n m p).toNat ≤ 10) := by
  have kn := hk.1
  have h2 := sp_ps_su hk.2.1 (sm_n m p).toNat (by omega)
  have h3 := sp_ct_b (sm_pf m p) (sm_n m p).toNat
  exact ⟨sp_rs_su hk.2.2 _ (by omega), by omega, by omega⟩
