/-! execute of the model -/
theorem sc_dg_p (t : List Int) : ∀ (f : Nat) (o v : Int), 0 ≤ v → 0 ≤ (sc_dg t f o v).1
  | 0, _, _, h => h
  | f + 1, o, v, h => by
    rw [sc_dg_s]
    split
    · exact sc_dg_p t f _ _ (by omega)
    · exact h
theorem sc_nm_p {t : List Int} {md : Nat} {o : Int} : ∀ y ∈ (sc_nm t md 1 o).2.2, 0 ≤ y := by
  intro y hy
  unfold sc_nm at hy
  split at hy
  · exact absurd hy List.not_mem_nil
  · rw [List.mem_singleton.mp hy, Int.mul_one]
    exact sc_dg_p t md o 0 (Int.le_refl _)
theorem sc_fm_p {t : List Int} {F : Int → Int} {o : Int} : ∀ k : Nat, (∀ j : Nat, j < k → F j ≠ 83) → ∀ y ∈ (sc_fm t F k (1, o, [])).2.2, 0 ≤ y
  | 0, _ => fun y hy => absurd hy List.not_mem_nil
  | k + 1, h => by
    have ih := sc_fm_p (t := t) (F := F) (o := o) k (fun j hj => h j (by omega))
    have h8 := h k (by omega)
    rw [sc_fm_s]
    unfold sc_st
    split
    · exact ih
    · intro y hy
      rcases List.mem_append.mp hy with hy | hy
      · exact ih y hy
      · unfold sc_sg at hy
        split at hy
        · exact sc_nm_p y hy
        · split at hy
          · exact sc_nm_p y hy
          · (first | rw [if_neg h8] at hy | skip)
            split at hy <;> exact absurd hy List.not_mem_nil
def sc_good (x : Nat × List Int) : Prop := sc_well x ∧ (∀ y ∈ x.2, -999 ≤ y ∧ y ≤ 999) ∧ (x.1 = 1 → 0 ≤ x.2.getD 1 0)
theorem qz_83 : ∀ j : Fin 10, qz_frm 1 (j.val : Int) ≠ 83 := by decide +kernel
theorem sc_tr_p {t : List Int} {o : Int} : ∀ (f k : Nat) (far : Int), (sc_tr t o f k far).1 ≠ 0 → (sc_tr t o f k far).2.2.1 = 1 → ∀ y ∈ (sc_tr t o f k far).2.2.2, 0 ≤ y
  | 0, k, far, h, _ => absurd rfl h
  | f + 1, k, far, h, h1 => by
    rw [sc_tr_s] at h h1 ⊢
    by_cases h0 : (sc_k t o k).1 = 0
    · rw [if_pos h0] at h h1 ⊢
      exact sc_tr_p f (k + 1) _ h h1
    · rw [if_neg h0] at h1 ⊢
      obtain rfl : k = 1 := h1
      exact sc_fm_p _ (fun j hj => qz_83 ⟨j, hj⟩)
theorem sc_tr_g {t : List Int} {o : Int} (ho : 0 ≤ o ∧ o ≤ t.length) (h : (sc_tr t o 11 0 o).1 ≠ 0) : sc_good (sc_tr t o 11 0 o).2.2 := by
  obtain ⟨b0, -, -, b3⟩ := sc_tr_b ho 11 0 o rfl ⟨Int.le_refl _, ho.2⟩
  obtain ⟨-, b4, b5⟩ := b3 (b0.resolve_left h)
  refine ⟨sc_tr_n 11 0 o rfl h, b5, fun h1 => ?_⟩
  have hp := sc_tr_p 11 0 o h h1
  generalize (sc_tr t o 11 0 o).2.2.2 = l at *
  match l with
  | [] => exact Int.le_refl _
  | [_] => exact Int.le_refl _
  | _ :: y :: _ => exact hp y (by simp)
theorem sc_all_s (t : List Int) (f : Nat) (o : Int) (cs : sc_C) : sc_all t (f + 1) o cs = if (sc_tr t o 11 0 o).1 = 0 then ((sc_tr t o 11 0 o).2.1, cs) else if (sc_tr t o 11 0 o).2.1 = t.length then (-1, cs ++ [(sc_tr t o 11 0 o).2.2])
    else if (sc_tr t o 11 0 o).2.1 < t.length ∧ sc_at t (sc_tr t o 11 0 o).2.1 = 59 then sc_all t f ((sc_tr t o 11 0 o).2.1 + 1) (cs ++ [(sc_tr t o 11 0 o).2.2]) else ((sc_tr t o 11 0 o).2.1, cs ++ [(sc_tr t o 11 0 o).2.2]) := rfl
theorem sc_all_g {t : List Int} : ∀ (f : Nat) (o : Int) (cs : sc_C), (0 ≤ o ∧ o ≤ t.length) → (∀ x ∈ cs, sc_good x) → ∀ x ∈ (sc_all t f o cs).2, sc_good x
  | 0, o, cs, _, h => h
  | f + 1, o, cs, ho, h => by
    obtain ⟨-, b1, b2, -⟩ := sc_tr_b ho 11 0 o rfl ⟨Int.le_refl _, ho.2⟩
    rw [sc_all_s]
    by_cases h0 : (sc_tr t o 11 0 o).1 = 0
    · rw [if_pos h0]; exact h
    rw [if_neg h0]
    have hx : ∀ x ∈ cs ++ [(sc_tr t o 11 0 o).2.2], sc_good x := by
      intro x hx
      rcases List.mem_append.mp hx with h1 | h1
      · exact h x h1
      · rw [List.mem_singleton.mp h1]; exact sc_tr_g ho h0
    by_cases h1 : (sc_tr t o 11 0 o).2.1 = t.length
    · rw [if_pos h1]; exact hx
    rw [if_neg h1]
    split
    · exact sc_all_g f _ _ (by omega) hx
    · exact hx
theorem sN_7 (G : Nat → Int) : sN_put (sN_put (sN_put G 24 0) 23 0) 26 0 = pm_F (sN_put G 23 0) (1, 0, []) := by
  funext k
  unfold pm_F
  unfold sN_put
  by_cases h : k = 24 <;> by_cases h2 : k = 26 <;> by_cases h3 : k = 23 <;> simp [h, h2, h3]
/-- the commands as the model keeps them -/
def sc_kept (cm : Int → Int) (cs : sc_C) : Prop := ∀ (i : Nat) (x : Nat × List Int), cs[i]? = some x → cm (4 * (i : Int)) = (x.1 : Int) ∧ ∀ j : Nat, j < x.2.length → x.2[j]? = some (cm (4 * (i : Int) + 1 + j))
theorem sc_kept.add {cm cm1 : Int → Int} {cs : sc_C} {x : Nat × List Int} (h : sc_kept cm cs) (hq : ∀ q : Int, q < 4 * (cs.length : Int) → cm1 q = cm q) (hl : ∀ y ∈ cs, y.2.length ≤ 3) (hx : cm1 (4 * (cs.length : Int)) = (x.1 : Int) ∧ ∀ j : Nat, j < x.2.length → x.2[j]? = some (cm1 (4 * (cs.length : Int) + 1 + j))) : sc_kept cm1 (cs ++ [x]) := by
  intro i y hy
  by_cases hi : i < cs.length
  · rw [List.getElem?_append_left hi] at hy
    obtain ⟨h1, h2⟩ := h i y hy
    have hy3 := hl y (List.mem_of_getElem? hy)
    exact ⟨by rw [hq _ (by omega)]; exact h1, fun j hj => by rw [hq _ (by omega)]; exact h2 j hj⟩
  · rw [List.getElem?_append_right (by omega)] at hy
    have hi2 : i = cs.length := by
      rcases Nat.lt_or_ge (i - cs.length) 1 with h3 | h3
      · omega
      · rw [List.getElem?_eq_none (by simpa using h3)] at hy; cases hy
    subst hi2
    rw [Nat.sub_self] at hy
    obtain rfl : x = y := Option.some.inj hy
    exact hx
theorem sc_ct_le : ∀ k : Fin 11, sc_ct (qz_frm k.val) (qz_len k.val) ≤ 3 := by decide +kernel
theorem sc_good.l3 {x : Nat × List Int} (h : sc_good x) : x.2.length ≤ 3 := by
  have h1 := h.1.2
  unfold sc_full at h1
  rw [h1]
  exact sc_ct_le ⟨x.1, h.1.1⟩
theorem sc_at9 {l : List Int} {j : Nat} {v : Int} (h : l[j]? = some v) : l.getD j 0 = v := by rw [List.getD_eq_getElem?_getD, h]; rfl
theorem qa_nm {l : List Int} {n : Nat} {z : Int} {j : Nat} (hl : l.length = n) (hr : ∀ y ∈ l, -999 ≤ y ∧ y ≤ 999) (hz : ∀ j : Nat, j < l.length → j < 3 → True) (h : j < l.length → l[j]? = some z) : j + 1 ≤ n → (qa_i z).toInt = l.getD j 0 := by
  intro hj
  have h1 := h (by omega)
  have h2 := hr z (List.mem_of_getElem? h1)
  rw [sc_at9 h1, qa_i_toInt (by omega)]
theorem c_M_does {E : qa_V} {σ : qa_S} {μ : Nat} {f : Nat → Int} {m cm : Int → Int} {B w : Int} {x : Nat × List Int} (hlo : E.1 ≤ μ) (hM : σ.1 μ = some (qa_MoF μ f)) (hm : σ.1 (μ + 1) = some (qa_ia 146 m)) (hk : sm_ok m B) (hB9 : B ≤ 1000000000) (hcm : σ.1 (μ + 10) = some (qa_ia 244 cm)) (hw : 0 ≤ w ∧ w ≤ 240) (hx : sc_good x) (h0 : cm w = (x.1 : Int)) (ha : ∀ j : Nat, j < x.2.length → x.2[j]? = some (cm (w + 1 + j))) : qa_T E qm_M_does 0 0 [.ref μ, .int (qa_i w)] σ (fun o9 τ => o9 = .inl none ∧ τ.2 = σ.2 ∧ τ.1 μ = some (qa_MoF μ (sN_it f x.1 (so_cmd m x))) ∧ τ.1 (μ + 1) = some (qa_ia 146 (so_cmd m x).2.2) ∧ ∀ q, (q ≠ μ ∧ q ≠ μ + 1) → τ.1 q = σ.1 q) := by
  refine qa_enterQ (by decide) rfl qm_M_does_ok rfl rfl (fun Q9 hQ => ?_)
  obtain ⟨k, vs⟩ := x
  obtain ⟨⟨k9, hf⟩, hv, hn⟩ := hx
  replace k9 : k < 11 := k9
  replace hf : vs.length = sc_ct (qz_frm k) (qz_len k) := hf
  replace hv : ∀ y ∈ vs, -999 ≤ y ∧ y ≤ 999 := hv
  replace hn : k = 1 → 0 ≤ vs.getD 1 0 := hn
  replace h0 : cm w = (k : Int) := h0
  replace ha : ∀ j : Nat, j < vs.length → vs[j]? = some (cm (w + 1 + j)) := ha
  obtain ⟨a, eA⟩ : ∃ a, a = (qa_i (cm (w + 1))).toInt := ⟨_, rfl⟩
  obtain ⟨b, eB⟩ : ∃ b, b = (qa_i (cm (w + 2))).toInt := ⟨_, rfl⟩
  obtain ⟨c, eC⟩ : ∃ c, c = (qa_i (cm (w + 3))).toInt := ⟨_, rfl⟩
  have ia := qa_i_in (qa_i (cm (w + 1)))
  have ib := qa_i_in (qa_i (cm (w + 2)))
  have ic := qa_i_in (qa_i (cm (w + 3)))
  rw [← eA] at ia
  rw [← eB] at ib
  rw [← eC] at ic
  have na : 1 ≤ sc_ct (qz_frm k) (qz_len k) → a = vs.getD 0 0 := fun h => eA.trans (qa_nm (j := 0) hf hv (fun _ _ _ => trivial) (fun h9 => by have h8 := ha 0 h9; rw [show w + 1 + ((0 : Nat) : Int) = w + 1 by omega] at h8; exact h8) h)
  have nb : 2 ≤ sc_ct (qz_frm k) (qz_len k) → b = vs.getD 1 0 := fun h => eB.trans (qa_nm (j := 1) hf hv (fun _ _ _ => trivial) (fun h9 => by have h8 := ha 1 h9; rw [show w + 1 + ((1 : Nat) : Int) = w + 2 by omega] at h8; exact h8) h)
  have nc : 3 ≤ sc_ct (qz_frm k) (qz_len k) → c = vs.getD 2 0 := fun h => eC.trans (qa_nm (j := 2) hf hv (fun _ _ _ => trivial) (fun h9 => by have h8 := ha 2 h9; rw [show w + 1 + ((2 : Nat) : Int) = w + 3 by omega] at h8; exact h8) h)
  have hso : so_do m k a b c = so_cmd m (k, vs) := so_do_ext ⟨na, nb, nc⟩ k9
  refine qa_aload_n (pc' := 1) ⟨rfl, rfl⟩ rfl ?_
  refine qa_getf (pc' := 4) ⟨rfl, rfl⟩ qg_10_48 (by assumption) rfl ?_
  refine qa_iload_n (pc' := 5) ⟨rfl, rfl⟩ rfl ?_
  refine qa_iconst (pc' := 6) ⟨rfl, rfl⟩ ?_
  refine qa_iadd (pc' := 7) ⟨rfl, rfl⟩ rfl ?_
  refine qa_iaload (pc' := 8) ⟨rfl, rfl⟩ hcm (by omega) ?_
  refine qa_istore_n (L' := [(0, _), (1, _), (2, _)]) (pc' := 9) ⟨rfl, rfl⟩ rfl rfl ?_
  refine qa_aload_n (pc' := 10) ⟨rfl, rfl⟩ rfl ?_
  refine qa_getf (pc' := 13) ⟨rfl, rfl⟩ qg_10_48 (by assumption) rfl ?_
  refine qa_iload_n (pc' := 14) ⟨rfl, rfl⟩ rfl ?_
  refine qa_iconst (pc' := 15) ⟨rfl, rfl⟩ ?_
  refine qa_iadd (pc' := 16) ⟨rfl, rfl⟩ rfl ?_
  refine qa_iaload (pc' := 17) ⟨rfl, rfl⟩ hcm (by omega) ?_
  refine qa_istore_n (L' := [(0, _), (1, _), (2, _), (3, _)]) (pc' := 18) ⟨rfl, rfl⟩ rfl rfl ?_
  refine qa_aload_n (pc' := 19) ⟨rfl, rfl⟩ rfl ?_
  refine qa_getf (pc' := 22) ⟨rfl, rfl⟩ qg_10_48 (by assumption) rfl ?_
  refine qa_iload_n (pc' := 23) ⟨rfl, rfl⟩ rfl ?_
  refine qa_iconst (pc' := 24) ⟨rfl, rfl⟩ ?_
  refine qa_iadd (pc' := 25) ⟨rfl, rfl⟩ rfl ?_
  refine qa_iaload (pc' := 26) ⟨rfl, rfl⟩ hcm (by omega) ?_
  refine qa_istore (L' := [(0, _), (1, _), (2, _), (3, _), (4, _)]) (pc' := 28) ⟨rfl, rfl⟩ rfl rfl ?_
  refine qa_aload_n (pc' := 29) ⟨rfl, rfl⟩ rfl ?_
  refine qa_getf (pc' := 32) ⟨rfl, rfl⟩ qg_10_48 (by assumption) rfl ?_
  refine qa_iload_n (pc' := 33) ⟨rfl, rfl⟩ rfl ?_
  refine qa_iaload (pc' := 34) ⟨rfl, rfl⟩ hcm (by omega) ?_
  rw [h0, show qa_i (cm (w + 1)) = qa_i a by rw [eA, sf_i], show qa_i (cm (w + 2)) = qa_i b by rw [eB, sf_i], show qa_i (cm (w + 3)) = qa_i c by rw [eC, sf_i]]
  clear h0 ha hcm eA eB eC
  obtain rfl | rfl | rfl | rfl | rfl | rfl | rfl | rfl | rfl | rfl | rfl : k = 0 ∨ k = 1 ∨ k = 2 ∨ k = 3 ∨ k = 4 ∨ k = 5 ∨ k = 6 ∨ k = 7 ∨ k = 8 ∨ k = 9 ∨ k = 10 := by omega
  · refine qa_tabIn (off := 54) (tgt := 88) rfl (by omega) (by omega) (by omega) rfl rfl ?_
    refine qa_aload_n (pc' := 89) ⟨rfl, rfl⟩ rfl ?_
    refine qa_callV rfl qf_M_partIt ql_10_104 (qa_Mt.x (c_M_partIt (E := E) hlo hM hm hk)) hM rfl rfl rfl (qa_lt9 rfl) (qa_le9 rfl) (qa_le9 rfl) (qa_le9 rfl) (fun o9 τ9 hq9 => ?_)
    obtain ⟨rfl, e9, hM9, hm9, f9⟩ := hq9
    refine qa_nx (pc' := 92) (st' := [_]) rfl rfl rfl rfl ?_
    have ho : so_part m = so_cmd m (0, vs) := hso
    rw [ho] at hM9 hm9
    refine qa_pop (pc' := 93) ⟨rfl, rfl⟩ rfl ?_
    refine qa_goto (pc' := 96) (tgt := 194) ⟨rfl, rfl⟩ rfl ?_
    refine qa_return rfl rfl (hQ _ _ ⟨rfl, e9, hM9, hm9, f9⟩)
  · refine qa_tabIn (off := 62) (tgt := 96) rfl (by omega) (by omega) (by omega) rfl rfl ?_
    refine qa_aload_n (pc' := 97) ⟨rfl, rfl⟩ rfl ?_
    refine qa_iload_n (pc' := 98) ⟨rfl, rfl⟩ rfl ?_
    refine qa_iload_n (pc' := 99) ⟨rfl, rfl⟩ rfl ?_
    refine qa_iload (pc' := 101) ⟨rfl, rfl⟩ rfl ?_
    refine qa_callV rfl qf_M_noteIt ql_10_121 (qa_Mt.x (c_M_noteIt (E := E) hlo hM hm hk ia ib ic (k := 1) ⟨rfl, rfl, rfl⟩)) hM rfl rfl rfl (qa_lt9 rfl) (qa_le9 rfl) (qa_le9 rfl) (qa_le9 rfl) (fun o9 τ9 hq9 => ?_)
    obtain ⟨rfl, e9, hM9, hm9, f9⟩ := hq9
    refine qa_nx (pc' := 104) (st' := [_]) rfl rfl rfl rfl ?_
    have hb0 : 0 ≤ b := by rw [nb (by decide +kernel)]; exact hn rfl
    have ho : so_nt m a b c = so_cmd m (1, vs) := by
      rw [← hso]
      show _ = so_pitch m a b c
      rw [so_nt_pitch, if_neg (by omega)]
    rw [ho] at hM9 hm9
    refine qa_pop (pc' := 105) ⟨rfl, rfl⟩ rfl ?_
    refine qa_goto (pc' := 108) (tgt := 194) ⟨rfl, rfl⟩ rfl ?_
    refine qa_return rfl rfl (hQ _ _ ⟨rfl, e9, hM9, hm9, f9⟩)
  · refine qa_tabIn (off := 74) (tgt := 108) rfl (by omega) (by omega) (by omega) rfl rfl ?_
    refine qa_aload_n (pc' := 109) ⟨rfl, rfl⟩ rfl ?_
    refine qa_iload_n (pc' := 110) ⟨rfl, rfl⟩ rfl ?_
    refine qa_iconst (pc' := 111) ⟨rfl, rfl⟩ ?_
    refine qa_iload_n (pc' := 112) ⟨rfl, rfl⟩ rfl ?_
    refine qa_callV rfl qf_M_noteIt ql_10_121 (qa_Mt.x (c_M_noteIt (E := E) hlo hM hm hk ia (by omega) ib (k := 2) ⟨rfl, rfl, rfl⟩)) hM rfl rfl rfl (qa_lt9 rfl) (qa_le9 rfl) (qa_le9 rfl) (qa_le9 rfl) (fun o9 τ9 hq9 => ?_)
    obtain ⟨rfl, e9, hM9, hm9, f9⟩ := hq9
    refine qa_nx (pc' := 115) (st' := [_]) rfl rfl rfl rfl ?_
    have ho : so_nt m a (-1) b = so_cmd m (2, vs) := by rw [← hso]; exact (so_nt_m1 m a b).symm
    rw [ho] at hM9 hm9
    refine qa_pop (pc' := 116) ⟨rfl, rfl⟩ rfl ?_
    refine qa_goto (pc' := 119) (tgt := 194) ⟨rfl, rfl⟩ rfl ?_
    refine qa_return rfl rfl (hQ _ _ ⟨rfl, e9, hM9, hm9, f9⟩)
  · refine qa_tabIn (off := 85) (tgt := 119) rfl (by omega) (by omega) (by omega) rfl rfl ?_
    refine qa_aload_n (pc' := 120) ⟨rfl, rfl⟩ rfl ?_
    refine qa_iload_n (pc' := 121) ⟨rfl, rfl⟩ rfl ?_
    refine qa_callV rfl qf_M_lastIt ql_10_124 (qa_Mt.x (c_M_lastIt (E := E) hlo hM hm hk ia)) hM rfl rfl rfl (qa_lt9 rfl) (qa_le9 rfl) (qa_le9 rfl) (qa_le9 rfl) (fun o9 τ9 hq9 => ?_)
    obtain ⟨rfl, e9, hM9, hm9, f9⟩ := hq9
    refine qa_nx (pc' := 124) (st' := [_]) rfl rfl rfl rfl ?_
    have ho : so_last m a = so_cmd m (3, vs) := hso
    rw [ho] at hM9 hm9
    refine qa_pop (pc' := 125) ⟨rfl, rfl⟩ rfl ?_
    refine qa_goto (pc' := 128) (tgt := 194) ⟨rfl, rfl⟩ rfl ?_
    refine qa_return rfl rfl (hQ _ _ ⟨rfl, e9, hM9, hm9, f9⟩)
  · refine qa_tabIn (off := 94) (tgt := 128) rfl (by omega) (by omega) (by omega) rfl rfl ?_
    refine qa_aload_n (pc' := 129) ⟨rfl, rfl⟩ rfl ?_
    refine qa_iload_n (pc' := 130) ⟨rfl, rfl⟩ rfl ?_
    refine qa_iload_n (pc' := 131) ⟨rfl, rfl⟩ rfl ?_
    refine qa_callV rfl qf_M_moveIt ql_10_129 (qa_Mt.x (c_M_moveIt (E := E) hlo hM hm hk ia ib)) hM rfl rfl rfl (qa_lt9 rfl) (qa_le9 rfl) (qa_le9 rfl) (qa_le9 rfl) (fun o9 τ9 hq9 => ?_)
    obtain ⟨rfl, e9, hM9, hm9, f9⟩ := hq9
    refine qa_nx (pc' := 134) (st' := [_]) rfl rfl rfl rfl ?_
    have ho : so_move m a b = so_cmd m (4, vs) := hso
    rw [ho] at hM9 hm9
    refine qa_pop (pc' := 135) ⟨rfl, rfl⟩ rfl ?_
    refine qa_goto (pc' := 138) (tgt := 194) ⟨rfl, rfl⟩ rfl ?_
    refine qa_return rfl rfl (hQ _ _ ⟨rfl, e9, hM9, hm9, f9⟩)
  · refine qa_tabIn (off := 104) (tgt := 138) rfl (by omega) (by omega) (by omega) rfl rfl ?_
    refine qa_aload_n (pc' := 139) ⟨rfl, rfl⟩ rfl ?_
    refine qa_iload_n (pc' := 140) ⟨rfl, rfl⟩ rfl ?_
    refine qa_iload_n (pc' := 141) ⟨rfl, rfl⟩ rfl ?_
    refine qa_iload (pc' := 143) ⟨rfl, rfl⟩ rfl ?_
    refine qa_callV rfl qf_M_tuneIt ql_10_137 (qa_Mt.x (c_M_tuneIt (E := E) hlo hM hm hk ia ib ic)) hM rfl rfl rfl (qa_lt9 rfl) (qa_le9 rfl) (qa_le9 rfl) (qa_le9 rfl) (fun o9 τ9 hq9 => ?_)
    obtain ⟨rfl, e9, hM9, hm9, f9⟩ := hq9
    refine qa_nx (pc' := 146) (st' := [_]) rfl rfl rfl rfl ?_
    have ho : so_tune m a b c = so_cmd m (5, vs) := hso
    rw [ho] at hM9 hm9
    refine qa_pop (pc' := 147) ⟨rfl, rfl⟩ rfl ?_
    refine qa_goto (pc' := 150) (tgt := 194) ⟨rfl, rfl⟩ rfl ?_
    refine qa_return rfl rfl (hQ _ _ ⟨rfl, e9, hM9, hm9, f9⟩)
  · refine qa_tabIn (off := 116) (tgt := 150) rfl (by omega) (by omega) (by omega) rfl rfl ?_
    refine qa_aload_n (pc' := 151) ⟨rfl, rfl⟩ rfl ?_
    refine qa_iload_n (pc' := 152) ⟨rfl, rfl⟩ rfl ?_
    refine qa_iload_n (pc' := 153) ⟨rfl, rfl⟩ rfl ?_
    refine qa_callV rfl qf_M_cueIt ql_10_143 (qa_Mt.x (c_M_cueIt (E := E) hlo hM hm hk ia ib)) hM rfl rfl rfl (qa_lt9 rfl) (qa_le9 rfl) (qa_le9 rfl) (qa_le9 rfl) (fun o9 τ9 hq9 => ?_)
    obtain ⟨rfl, e9, hM9, hm9, f9⟩ := hq9
    refine qa_nx (pc' := 156) (st' := [_]) rfl rfl rfl rfl ?_
    have ho : so_cue m a b = so_cmd m (6, vs) := hso
    rw [ho] at hM9 hm9
    refine qa_pop (pc' := 157) ⟨rfl, rfl⟩ rfl ?_
    refine qa_goto (pc' := 160) (tgt := 194) ⟨rfl, rfl⟩ rfl ?_
    refine qa_return rfl rfl (hQ _ _ ⟨rfl, e9, hM9, hm9, f9⟩)
  · refine qa_tabIn (off := 126) (tgt := 160) rfl (by omega) (by omega) (by omega) rfl rfl ?_
    refine qa_aload_n (pc' := 161) ⟨rfl, rfl⟩ rfl ?_
    refine qa_iload_n (pc' := 162) ⟨rfl, rfl⟩ rfl ?_
    refine qa_callV rfl qf_M_aloneIt ql_10_146 (qa_Mt.x (c_M_aloneIt (E := E) hlo hM hm hk ia)) hM rfl rfl rfl (qa_lt9 rfl) (qa_le9 rfl) (qa_le9 rfl) (qa_le9 rfl) (fun o9 τ9 hq9 => ?_)
    obtain ⟨rfl, e9, hM9, hm9, f9⟩ := hq9
    refine qa_nx (pc' := 165) (st' := [_]) rfl rfl rfl rfl ?_
    have ho : so_alone m a = so_cmd m (7, vs) := hso
    rw [ho] at hM9 hm9
    refine qa_pop (pc' := 166) ⟨rfl, rfl⟩ rfl ?_
    refine qa_goto (pc' := 169) (tgt := 194) ⟨rfl, rfl⟩ rfl ?_
    refine qa_return rfl rfl (hQ _ _ ⟨rfl, e9, hM9, hm9, f9⟩)
  · refine qa_tabIn (off := 135) (tgt := 169) rfl (by omega) (by omega) (by omega) rfl rfl ?_
    refine qa_aload_n (pc' := 170) ⟨rfl, rfl⟩ rfl ?_
    refine qa_iload_n (pc' := 171) ⟨rfl, rfl⟩ rfl ?_
    refine qa_callV rfl qf_M_barIt ql_10_151 (qa_Mt.x (c_M_barIt (E := E) hlo hM hm hk ia)) hM rfl rfl rfl (qa_lt9 rfl) (qa_le9 rfl) (qa_le9 rfl) (qa_le9 rfl) (fun o9 τ9 hq9 => ?_)
    obtain ⟨rfl, e9, hM9, hm9, f9⟩ := hq9
    refine qa_nx (pc' := 174) (st' := [_]) rfl rfl rfl rfl ?_
    have ho : so_bar m a = so_cmd m (8, vs) := hso
    rw [ho] at hM9 hm9
    refine qa_pop (pc' := 175) ⟨rfl, rfl⟩ rfl ?_
    refine qa_goto (pc' := 178) (tgt := 194) ⟨rfl, rfl⟩ rfl ?_
    refine qa_return rfl rfl (hQ _ _ ⟨rfl, e9, hM9, hm9, f9⟩)
  · refine qa_tabIn (off := 144) (tgt := 178) rfl (by omega) (by omega) (by omega) rfl rfl ?_
    refine qa_aload_n (pc' := 179) ⟨rfl, rfl⟩ rfl ?_
    refine qa_iload_n (pc' := 180) ⟨rfl, rfl⟩ rfl ?_
    refine qa_iload_n (pc' := 181) ⟨rfl, rfl⟩ rfl ?_
    refine qa_callV rfl qf_M_tempoIt ql_10_160 (qa_Mt.x (c_M_tempoIt (E := E) hlo hM hm hk ia ib)) hM rfl rfl rfl (qa_lt9 rfl) (qa_le9 rfl) (qa_le9 rfl) (qa_le9 rfl) (fun o9 τ9 hq9 => ?_)
    obtain ⟨rfl, e9, hM9, hm9, f9⟩ := hq9
    refine qa_nx (pc' := 184) (st' := [_]) rfl rfl rfl rfl ?_
    have ho : so_tempo m a b = so_cmd m (9, vs) := hso
    rw [ho] at hM9 hm9
    refine qa_pop (pc' := 185) ⟨rfl, rfl⟩ rfl ?_
    refine qa_goto (pc' := 188) (tgt := 194) ⟨rfl, rfl⟩ rfl ?_
    refine qa_return rfl rfl (hQ _ _ ⟨rfl, e9, hM9, hm9, f9⟩)
  · refine qa_tabOut (tgt := 188) rfl (by omega) (by omega) rfl ?_
    refine qa_aload_n (pc' := 189) ⟨rfl, rfl⟩ rfl ?_
    refine qa_iload_n (pc' := 190) ⟨rfl, rfl⟩ rfl ?_
    refine qa_callV rfl qf_M_playIt ql_10_172 (qa_Mt.x (c_M_playIt (E := E) hlo hM hm hk ia hB9)) hM rfl rfl rfl (qa_lt9 rfl) (qa_le9 rfl) (qa_le9 rfl) (qa_le9 rfl) (fun o9 τ9 hq9 => ?_)
    obtain ⟨rfl, e9, hM9, hm9, f9⟩ := hq9
    refine qa_nx (pc' := 193) (st' := [_]) rfl rfl rfl rfl ?_
    have ho : so_play m a = so_cmd m (10, vs) := hso
    rw [ho] at hM9 hm9
    refine qa_pop (pc' := 194) ⟨rfl, rfl⟩ rfl ?_
    refine qa_return rfl rfl (hQ _ _ ⟨rfl, e9, hM9, hm9, f9⟩)
theorem c_M_stops {E : qa_V} {σ : qa_S} {μ : Nat} {f : Nat → Int} {m as : Int → Int} {i : Int} (hlo : E.1 ≤ μ) (hM : σ.1 μ = some (qa_MoF μ f)) (hm : σ.1 (μ + 1) = some (qa_ia 146 m)) (ha : σ.1 (μ + 2) = some (qa_ia 146 as)) (h10 : qa_in (f 10)) : qa_T E qm_M_stops 0 0 [.ref μ, .int (qa_i i)] σ (fun o9 τ => o9 = .inl (some (.int (qa_i (-1)))) ∧ τ.2 = σ.2 ∧ τ.1 μ = some (qa_MoF μ (if f 10 = 0 then sN_put f 12 2 else sN_put (sN_put (sN_put (sN_put f 7 9) 8 i) 9 (f 10)) 12 3)) ∧ τ.1 (μ + 1) = some (qa_ia 146 (qa_cp as m 0 0 146)) ∧ ∀ q, (q ≠ μ ∧ q ≠ μ + 1) → τ.1 q = σ.1 q) := by
  refine qa_enterQ (by decide) rfl qm_M_stops_ok rfl rfl (fun Q9 hQ => ?_)
  have e0 : σ.2 = σ.2 := rfl
  have fr : ∀ q, (q ≠ μ ∧ q ≠ μ + 1) → σ.1 q = σ.1 q := fun _ _ => rfl
  refine qa_iconst (pc' := 1) ⟨rfl, rfl⟩ ?_
  refine qa_istore_n (L' := [(0, _), (1, _), (2, _)]) (pc' := 2) ⟨rfl, rfl⟩ rfl rfl ?_
  have T1 : ∀ (f9 : Nat) (τ : qa_S) (k : Nat), ((k : Int) + f9 = 146 ∧ τ.2 = σ.2 ∧ τ.1 μ = some (qa_MoF μ f) ∧ τ.1 (μ + 1) = some (qa_ia 146 (qa_cp as m 0 0 k)) ∧ τ.1 (μ + 2) = some (qa_ia 146 as) ∧ (∀ q, (q ≠ μ ∧ q ≠ μ + 1) → τ.1 q = σ.1 q)) → qa_W E qm_M_stops Q9 0 0 2 [(0, .ref μ), (1, .int (qa_i i)), (2, .int (qa_i k))] [] τ := by
    clear hM hm ha e0 fr
    intro f9
    induction f9 with
    | zero =>
      intro τ k ⟨hkf, e0, hM, hm, ha, fr⟩
      refine qa_iload_n (pc' := 3) ⟨rfl, rfl⟩ rfl ?_
      refine qa_sipush (z := 146) (pc' := 6) ⟨rfl, rfl⟩ rfl ?_
      refine qa_icmp_ge (pc' := 9) (tgt := 27) ⟨rfl, rfl⟩ rfl (by omega) (by omega) (fun hc1 => ?_) (fun hc1 => ?_)
      · rw [show (k : Int) = 146 by omega] at hm
        refine qa_aload_n (pc' := 28) ⟨rfl, rfl⟩ rfl ?_
        refine qa_getf (v := .int (qa_i (f 10))) (pc' := 31) ⟨rfl, rfl⟩ qg_10_54 hM rfl ?_
        refine qa_if_ne (pc' := 34) (tgt := 40) ⟨rfl, rfl⟩ rfl (by omega) (fun hc2 => ?_) (fun hc2 => ?_)
        · refine qa_aload_n (pc' := 41) ⟨rfl, rfl⟩ rfl ?_
          refine qa_bipush (z := 9) (pc' := 43) ⟨rfl, rfl⟩ rfl ?_
          refine qa_putf (fs' := [_, _, _, _, _, _, _, _, _, _, _, _, _, _, _, _, _, _, _, _, _, _, _, _, _, _, _]) (pc' := 46) ⟨rfl, rfl⟩ qg_10_26 qw_9 hM (by omega) rfl (fun r hr => by cases hr; exact ⟨rfl, Or.inl rfl⟩) rfl rfl ?_
          refine qa_gz (fun τ61 e61 w61 f61 => ?_)
          replace hm := (f61 _ (by omega)).trans hm
          replace ha := (f61 _ (by omega)).trans ha
          replace fr := fun q hq => (f61 q (by have := hq; omega)).trans (fr q hq)
          replace e0 := e61.trans e0
          have hM : τ61.1 μ = some (qa_MoF μ (sN_put f 7 9)) := w61
          refine qa_aload_n (pc' := 47) ⟨rfl, rfl⟩ rfl ?_
          refine qa_iload_n (pc' := 48) ⟨rfl, rfl⟩ rfl ?_
          refine qa_putf (fs' := [_, _, _, _, _, _, _, _, _, _, _, _, _, _, _, _, _, _, _, _, _, _, _, _, _, _, _]) (pc' := 51) ⟨rfl, rfl⟩ qg_10_64 qw_9 hM (by omega) rfl (fun r hr => by cases hr; exact ⟨rfl, Or.inl rfl⟩) rfl rfl ?_
          refine qa_gz (fun τ62 e62 w62 f62 => ?_)
          replace hm := (f62 _ (by omega)).trans hm
          replace ha := (f62 _ (by omega)).trans ha
          replace fr := fun q hq => (f62 q (by have := hq; omega)).trans (fr q hq)
          replace e0 := e62.trans e0
          have hM : τ62.1 μ = some (qa_MoF μ (sN_put (sN_put f 7 9) 8 i)) := w62
          refine qa_aload_n (pc' := 52) ⟨rfl, rfl⟩ rfl ?_
          refine qa_aload_n (pc' := 53) ⟨rfl, rfl⟩ rfl ?_
          refine qa_getf (v := .int (qa_i (f 10))) (pc' := 56) ⟨rfl, rfl⟩ qg_10_54 hM rfl ?_
          refine qa_putf (fs' := [_, _, _, _, _, _, _, _, _, _, _, _, _, _, _, _, _, _, _, _, _, _, _, _, _, _, _]) (pc' := 59) ⟨rfl, rfl⟩ qg_10_29 qw_9 hM (by omega) rfl (fun r hr => by cases hr; exact ⟨rfl, Or.inl rfl⟩) rfl rfl ?_
          refine qa_gz (fun τ63 e63 w63 f63 => ?_)
          replace hm := (f63 _ (by omega)).trans hm
          replace ha := (f63 _ (by omega)).trans ha
          replace fr := fun q hq => (f63 q (by have := hq; omega)).trans (fr q hq)
          replace e0 := e63.trans e0
          have hM : τ63.1 μ = some (qa_MoF μ (sN_put (sN_put (sN_put f 7 9) 8 i) 9 (f 10))) := w63
          refine qa_aload_n (pc' := 60) ⟨rfl, rfl⟩ rfl ?_
          refine qa_iconst (pc' := 61) ⟨rfl, rfl⟩ ?_
          refine qa_callV rfl qf_M_throwing ql_10_60 (c_M_throwing (E := E) (f := (sN_put (sN_put (sN_put f 7 9) 8 i) 9 (f 10))) (v := 3) hlo hM) hM rfl rfl rfl (qa_lt9 rfl) (qa_le9 rfl) (qa_le9 rfl) (qa_le9 rfl) (fun o9 τ9 hq9 => ?_)
          obtain ⟨rfl, e9, hM, f9⟩ := hq9
          refine qa_nx (pc' := 64) (st' := [_]) rfl rfl rfl rfl ?_
          refine qa_ireturn rfl rfl rfl (hQ _ _ ⟨rfl, e9.trans e0, by rw [if_neg hc2]; exact hM, (f9 _ (by omega)).trans hm, fun q hq => (f9 q (by omega)).trans (fr q hq)⟩)
        · refine qa_aload_n (pc' := 35) ⟨rfl, rfl⟩ rfl ?_
          refine qa_iconst (pc' := 36) ⟨rfl, rfl⟩ ?_
          refine qa_callV rfl qf_M_throwing ql_10_60 (c_M_throwing (E := E) (f := f) (v := 2) hlo hM) hM rfl rfl rfl (qa_lt9 rfl) (qa_le9 rfl) (qa_le9 rfl) (qa_le9 rfl) (fun o9 τ9 hq9 => ?_)
          obtain ⟨rfl, e9, hM, f9⟩ := hq9
          refine qa_nx (pc' := 39) (st' := [_]) rfl rfl rfl rfl ?_
          refine qa_ireturn rfl rfl rfl (hQ _ _ ⟨rfl, e9.trans e0, by rw [if_pos hc2]; exact hM, (f9 _ (by omega)).trans hm, fun q hq => (f9 q (by omega)).trans (fr q hq)⟩)
      · exact absurd hc1 (by omega)
    | succ f9 iT1 =>
      intro τ k ⟨hkf, e0, hM, hm, ha, fr⟩
      refine qa_iload_n (pc' := 3) ⟨rfl, rfl⟩ rfl ?_
      refine qa_sipush (z := 146) (pc' := 6) ⟨rfl, rfl⟩ rfl ?_
      refine qa_icmp_ge (pc' := 9) (tgt := 27) ⟨rfl, rfl⟩ rfl (by omega) (by omega) (fun hc1 => ?_) (fun hc1 => ?_)
      · exact absurd hc1 (by omega)
      · refine qa_aload_n (pc' := 10) ⟨rfl, rfl⟩ rfl ?_
        refine qa_getf (pc' := 13) ⟨rfl, rfl⟩ qg_10_9 (by assumption) rfl ?_
        refine qa_iload_n (pc' := 14) ⟨rfl, rfl⟩ rfl ?_
        refine qa_aload_n (pc' := 15) ⟨rfl, rfl⟩ rfl ?_
        refine qa_getf (pc' := 18) ⟨rfl, rfl⟩ qg_10_13 (by assumption) rfl ?_
        refine qa_iload_n (pc' := 19) ⟨rfl, rfl⟩ rfl ?_
        refine qa_iaload (pc' := 20) ⟨rfl, rfl⟩ ha (by omega) ?_
        refine qa_iastore (pc' := 21) ⟨rfl, rfl⟩ hm (by omega) (by omega) ?_
        refine qa_gz (fun τ61 e61 w61 f61 => ?_)
        replace hM := (f61 _ (by omega)).trans hM
        replace ha := (f61 _ (by omega)).trans ha
        replace fr := fun q hq => (f61 q (by have := hq; omega)).trans (fr q hq)
        replace e0 := e61.trans e0
        have hm : τ61.1 (μ + 1) = some (qa_ia 146 (qa_cp as m 0 0 ((k + 1 : Nat) : Int))) := by rw [← qa_cp_s, Int.zero_add]; exact w61
        refine qa_iinc (L' := [(0, _), (1, _), (2, _)]) (z := ((k + 1 : Nat) : Int)) (pc' := 24) ⟨rfl, rfl⟩ rfl (by omega) rfl rfl ?_
        refine qa_goto (pc' := 27) (tgt := 2) ⟨rfl, rfl⟩ rfl ?_
        exact iT1 _ (k + 1) ⟨by omega, e0, hM, hm, ha, fr⟩
  exact T1 146 _ 0 ⟨by omega, e0, hM, by rw [qa_cp_z]; exact hm, ha, fr⟩
theorem c_M_execute {E : qa_V} {σ : qa_S} {μ : Nat} {f : Nat → Int} {m sv ps ip li : Int → Int} {B : Int} {t : List Int} (hlo : E.1 ≤ μ) (hR : sR_M σ.1 μ f m sv ps ip li) (hk : sm_ok m B) (hB9 : B ≤ 900000000) (h5 : 0 ≤ f 5 ∧ f 5 ≤ 8) (h14 : f 14 = (t.length : Int)) (hg : ∀ j : Nat, j < t.length → t[j]? = some (ip j)) (hch : ∀ j : Int, 0 ≤ j → j < t.length → 0 ≤ sc_at t j ∧ sc_at t j ≤ 127) (hl : t.length ≤ 60) : qa_T E qm_M_execute 0 0 [.ref μ] σ (fun o9 τ => (∃ v : Int, o9 = .inl (some (.int (qa_i v))) ∧ ((sc_all t 13 0 []).1 = -1 → (so_ex m (sc_all t 13 0 []).2 0).1 = 0 → v = ((sc_all t 13 0 []).2.length : Int))) ∧ τ.2 = σ.2 ∧ (∀ q, (q < μ ∨ μ + 11 ≤ q) → τ.1 q = σ.1 q) ∧ ∃ (f1 : Nat → Int) (m1 ps1 : Int → Int), sR_M τ.1 μ f1 m1 sv ps1 ip li ∧ (f1 3 = f 3 ∧ f1 14 = 0 ∧ f1 19 = f 19) ∧   (((sc_all t 13 0 []).1 ≠ -1 ∧ f1 12 = 1 ∧ m1 = m ∧ ps1 = ps ∧ f1 5 = f 5 ∧ f1 6 = (sc_all t 13 0 []).1 ∧ f1 7 = f 7 ∧ f1 8 = f 8 ∧ f1 9 = f 9) ∨    ((sc_all t 13 0 []).1 = -1 ∧ (so_ex m (sc_all t 13 0 []).2 0).1 = 0 ∧ f1 12 = 0 ∧ m1 = (so_ex m (sc_all t 13 0 []).2 0).2.2.2 ∧ (f1 5 = (if f 5 = 8 then 8 else f 5 + 1) ∧ ∀ j q : Int, 0 ≤ j → j < f1 5 → 0 ≤ q → q < 146 → ps1 (146 * j + q) = if j = f1 5 - 1 then m q else ps (146 * (if f 5 = 8 then j + 1 else j) + q)) ∧ f1 6 = f 6 ∧ f1 7 = f 7 ∧ f1 8 = f 8 ∧ f1 9 = f 9) ∨    ((sc_all t 13 0 []).1 = -1 ∧ (so_ex m (sc_all t 13 0 []).2 0).1 = 1 ∧ (so_ex m (sc_all t 13 0 []).2 0).2.2.1 < -9 ∧ f1 12 = 2 ∧ m1 = m ∧ ps1 = ps ∧ f1 5 = f 5 ∧ f1 6 = f 6 ∧ f1 7 = f 7 ∧ f1 8 = f 8 ∧ f1 9 = f 9) ∨    ((sc_all t 13 0 []).1 = -1 ∧ (so_ex m (sc_all t 13 0 []).2 0).1 = 1 ∧ (-9 ≤ (so_ex m (sc_all t 13 0 []).2 0).2.2.1 ∧ (so_ex m (sc_all t 13 0 []).2 0).2.2.1 < 0) ∧ f1 12 = 3 ∧ m1 = m ∧ ps1 = ps ∧ f1 5 = f 5 ∧ f1 6 = f 6 ∧ f1 7 = 9 ∧ f1 8 = (so_ex m (sc_all t 13 0 []).2 0).2.1 ∧ f1 9 = -(so_ex m (sc_all t 13 0 []).2 0).2.2.1))) := by
  refine qa_enterQ (by decide) rfl qm_M_execute_ok rfl rfl (fun Q9 hQ => ?_)
  obtain ⟨⟨hM, hm⟩, ⟨as, ha⟩, hsv, hps, hip, ⟨tb, htb⟩, hli, hlt, hbg, cm, hcm⟩ := hR
  obtain ⟨F0, hF0⟩ : ∃ F0, F0 = sN_put (sN_put (sN_put (sN_put f 12 0) 10 0) 25 (f 14)) 14 0 := ⟨_, rfl⟩
  obtain ⟨ce, hce⟩ : ∃ x, x = sc_all t 13 0 [] := ⟨_, rfl⟩
  rw [← hce] at hQ
  have hgood := sc_all_g (t := t) 13 0 [] (by omega) (fun x h => absurd h List.not_mem_nil)
  rw [← hce] at hgood
  refine qa_aload_n (pc' := 1) ⟨rfl, rfl⟩ rfl ?_
  refine qa_callV rfl qf_M_starts ql_10_101 (c_M_starts (E := E) hlo hM hm ha) hM rfl rfl rfl (qa_lt9 rfl) (qa_le9 rfl) (qa_le9 rfl) (qa_le9 rfl) (fun o9 τ9 hq9 => ?_)
  obtain ⟨rfl, e0, hM, ha1, f1⟩ := hq9
  refine qa_nx (pc' := 4) (st' := []) rfl rfl rfl rfl ?_
  have hi := (f1 (μ + 5) (by omega)).trans hip
  have hlt1 := (f1 (μ + 8) (by omega)).trans hlt
  have hbg1 := (f1 (μ + 9) (by omega)).trans hbg
  have hcm1 := (f1 (μ + 10) (by omega)).trans hcm
  have hm1 := (f1 (μ + 1) (by omega)).trans hm
  have fr : ∀ q, (q ≠ μ ∧ q ≠ μ + 1 ∧ q ≠ μ + 2 ∧ q ≠ μ + 10) → τ9.1 q = σ.1 q := fun q hq => f1 q (by omega)
  refine qa_aload_n (pc' := 5) ⟨rfl, rfl⟩ rfl ?_
  refine qa_aload_n (pc' := 6) ⟨rfl, rfl⟩ rfl ?_
  refine qa_getf (v := .int (qa_i (f 14))) (pc' := 9) ⟨rfl, rfl⟩ qg_10_259 hM rfl ?_
  refine qa_putf (fs' := [_, _, _, _, _, _, _, _, _, _, _, _, _, _, _, _, _, _, _, _, _, _, _, _, _, _, _]) (pc' := 12) ⟨rfl, rfl⟩ qg_10_265 qw_9 hM (by omega) rfl (fun r hr => by cases hr; exact ⟨rfl, Or.inl rfl⟩) rfl rfl ?_
  refine qa_gz (fun τ1 e1 w1 f1 => ?_)
  replace ha1 := (f1 _ (by omega)).trans ha1
  replace hi := (f1 _ (by omega)).trans hi
  replace hlt1 := (f1 _ (by omega)).trans hlt1
  replace hbg1 := (f1 _ (by omega)).trans hbg1
  replace hcm1 := (f1 _ (by omega)).trans hcm1
  replace hm1 := (f1 _ (by omega)).trans hm1
  replace fr := fun q hq => (f1 q (by have := hq; omega)).trans (fr q hq)
  replace e0 := e1.trans e0
  have hM : τ1.1 μ = some (qa_MoF μ (sN_put (sN_put (sN_put f 12 0) 10 0) 25 (f 14))) := w1
  refine qa_aload_n (pc' := 13) ⟨rfl, rfl⟩ rfl ?_
  refine qa_iconst (pc' := 14) ⟨rfl, rfl⟩ ?_
  refine qa_putf (fs' := [_, _, _, _, _, _, _, _, _, _, _, _, _, _, _, _, _, _, _, _, _, _, _, _, _, _, _]) (pc' := 17) ⟨rfl, rfl⟩ qg_10_259 qw_9 hM (by omega) rfl (fun r hr => by cases hr; exact ⟨rfl, Or.inl rfl⟩) rfl rfl ?_
  refine qa_gz (fun τ2 e2 w2 f2 => ?_)
  replace ha1 := (f2 _ (by omega)).trans ha1
  replace hi := (f2 _ (by omega)).trans hi
  replace hlt1 := (f2 _ (by omega)).trans hlt1
  replace hbg1 := (f2 _ (by omega)).trans hbg1
  replace hcm1 := (f2 _ (by omega)).trans hcm1
  replace hm1 := (f2 _ (by omega)).trans hm1
  replace fr := fun q hq => (f2 q (by have := hq; omega)).trans (fr q hq)
  replace e0 := e2.trans e0
  have hM : τ2.1 μ = some (qa_MoF μ (sN_put (sN_put (sN_put (sN_put f 12 0) 10 0) 25 (f 14)) 14 0)) := w2
  refine qa_aload_n (pc' := 18) ⟨rfl, rfl⟩ rfl ?_
  refine qa_iconst (pc' := 19) ⟨rfl, rfl⟩ ?_
  refine qa_putf (fs' := [_, _, _, _, _, _, _, _, _, _, _, _, _, _, _, _, _, _, _, _, _, _, _, _, _, _, _]) (pc' := 22) ⟨rfl, rfl⟩ qg_10_262 qw_9 hM (by omega) rfl (fun r hr => by cases hr; exact ⟨rfl, Or.inl rfl⟩) rfl rfl ?_
  refine qa_gz (fun τ3 e3 w3 f3 => ?_)
  replace ha1 := (f3 _ (by omega)).trans ha1
  replace hi := (f3 _ (by omega)).trans hi
  replace hlt1 := (f3 _ (by omega)).trans hlt1
  replace hbg1 := (f3 _ (by omega)).trans hbg1
  replace hcm1 := (f3 _ (by omega)).trans hcm1
  replace hm1 := (f3 _ (by omega)).trans hm1
  replace fr := fun q hq => (f3 q (by have := hq; omega)).trans (fr q hq)
  replace e0 := e3.trans e0
  have hM : τ3.1 μ = some (qa_MoF μ (sN_put (sN_put (sN_put (sN_put (sN_put f 12 0) 10 0) 25 (f 14)) 14 0) 24 0)) := w3
  refine qa_aload_n (pc' := 23) ⟨rfl, rfl⟩ rfl ?_
  refine qa_iconst (pc' := 24) ⟨rfl, rfl⟩ ?_
  refine qa_putf (fs' := [_, _, _, _, _, _, _, _, _, _, _, _, _, _, _, _, _, _, _, _, _, _, _, _, _, _, _]) (pc' := 27) ⟨rfl, rfl⟩ qg_10_292 qw_9 hM (by omega) rfl (fun r hr => by cases hr; exact ⟨rfl, Or.inl rfl⟩) rfl rfl ?_
  refine qa_gz (fun τ4 e4 w4 f4 => ?_)
  replace ha1 := (f4 _ (by omega)).trans ha1
  replace hi := (f4 _ (by omega)).trans hi
  replace hlt1 := (f4 _ (by omega)).trans hlt1
  replace hbg1 := (f4 _ (by omega)).trans hbg1
  replace hcm1 := (f4 _ (by omega)).trans hcm1
  replace hm1 := (f4 _ (by omega)).trans hm1
  replace fr := fun q hq => (f4 q (by have := hq; omega)).trans (fr q hq)
  replace e0 := e4.trans e0
  have hM : τ4.1 μ = some (qa_MoF μ (sN_put (sN_put (sN_put (sN_put (sN_put (sN_put f 12 0) 10 0) 25 (f 14)) 14 0) 24 0) 23 0)) := w4
  refine qa_aload_n (pc' := 28) ⟨rfl, rfl⟩ rfl ?_
  refine qa_iconst (pc' := 29) ⟨rfl, rfl⟩ ?_
  refine qa_putf (fs' := [_, _, _, _, _, _, _, _, _, _, _, _, _, _, _, _, _, _, _, _, _, _, _, _, _, _, _]) (pc' := 32) ⟨rfl, rfl⟩ qg_10_268 qw_9 hM (by omega) rfl (fun r hr => by cases hr; exact ⟨rfl, Or.inl rfl⟩) rfl rfl ?_
  refine qa_gz (fun τ5 e5 w5 f5 => ?_)
  replace ha1 := (f5 _ (by omega)).trans ha1
  replace hi := (f5 _ (by omega)).trans hi
  replace hlt1 := (f5 _ (by omega)).trans hlt1
  replace hbg1 := (f5 _ (by omega)).trans hbg1
  replace hcm1 := (f5 _ (by omega)).trans hcm1
  replace hm1 := (f5 _ (by omega)).trans hm1
  replace fr := fun q hq => (f5 q (by have := hq; omega)).trans (fr q hq)
  replace e0 := e5.trans e0
  have hM : τ5.1 μ = some (qa_MoF μ (sN_put (sN_put (sN_put (sN_put (sN_put (sN_put (sN_put f 12 0) 10 0) 25 (f 14)) 14 0) 24 0) 23 0) 26 0)) := w5
  rw [sN_7, ← hF0] at hM
  refine qa_iconst (pc' := 33) ⟨rfl, rfl⟩ ?_
  refine qa_istore_n (L' := [(0, _), (1, _)]) (pc' := 34) ⟨rfl, rfl⟩ rfl rfl ?_
  have TErr : ∀ (τ : qa_S) (n1 p : Int) (cm : Int → Int), (ce.1 = p ∧ 0 ≤ p ∧ τ.1 μ = some (qa_MoF μ (pm_F (sN_put F0 23 n1) (0, p, []))) ∧ τ.1 (μ + 1) = some (qa_ia 146 m) ∧ τ.1 (μ + 10) = some (qa_ia 244 cm) ∧ τ.2 = σ.2 ∧ τ.1 (μ + 2) = some (qa_ia 146 (qa_cp m as 0 0 146)) ∧ τ.1 (μ + 5) = some (qa_ia 60 ip) ∧ τ.1 (μ + 8) = some (qa_ca 54 qM_let) ∧ τ.1 (μ + 9) = some (qa_ia 12 qM_beg) ∧ (∀ q, (q ≠ μ ∧ q ≠ μ + 1 ∧ q ≠ μ + 2 ∧ q ≠ μ + 10) → τ.1 q = σ.1 q)) → qa_W E qm_M_execute Q9 0 0 92 [(0, .ref μ), (1, .int (qa_i 0))] [] τ := by
    clear hM ha1 hi hlt1 hbg1 hcm1 hm1 e0 fr
    intro τ n1 p cm ⟨hp, hp0, hM, hm1, hcm1, e0, ha1, hi, hlt1, hbg1, fr⟩
    refine qa_aload_n (pc' := 93) ⟨rfl, rfl⟩ rfl ?_
    refine qa_getf (v := .int (qa_i (1 - 0))) (pc' := 96) ⟨rfl, rfl⟩ qg_10_268 hM rfl ?_
    refine qa_if_eq (pc' := 99) (tgt := 113) ⟨rfl, rfl⟩ rfl (by omega) (fun hc1 => ?_) (fun hc1 => ?_)
    · exact absurd hc1 (by decide)
    · refine qa_aload_n (pc' := 100) ⟨rfl, rfl⟩ rfl ?_
      refine qa_aload_n (pc' := 101) ⟨rfl, rfl⟩ rfl ?_
      refine qa_getf (v := .int (qa_i p)) (pc' := 104) ⟨rfl, rfl⟩ qg_10_262 hM rfl ?_
      refine qa_putf (fs' := [_, _, _, _, _, _, _, _, _, _, _, _, _, _, _, _, _, _, _, _, _, _, _, _, _, _, _]) (pc' := 107) ⟨rfl, rfl⟩ qg_10_22 qw_9 hM (by omega) rfl (fun r hr => by cases hr; exact ⟨rfl, Or.inl rfl⟩) rfl rfl ?_
      refine qa_gz (fun τ61 e61 w61 f61 => ?_)
      replace ha1 := (f61 _ (by omega)).trans ha1
      replace hi := (f61 _ (by omega)).trans hi
      replace hlt1 := (f61 _ (by omega)).trans hlt1
      replace hbg1 := (f61 _ (by omega)).trans hbg1
      replace hcm1 := (f61 _ (by omega)).trans hcm1
      replace hm1 := (f61 _ (by omega)).trans hm1
      replace fr := fun q hq => (f61 q (by have := hq; omega)).trans (fr q hq)
      replace e0 := e61.trans e0
      have hM : τ61.1 μ = some (qa_MoF μ (sN_put (pm_F (sN_put F0 23 n1) (0, p, [])) 6 p)) := w61
      refine qa_aload_n (pc' := 108) ⟨rfl, rfl⟩ rfl ?_
      refine qa_iconst (pc' := 109) ⟨rfl, rfl⟩ ?_
      refine qa_callV rfl qf_M_throwing ql_10_60 (c_M_throwing (E := E) (f := (sN_put (pm_F (sN_put F0 23 n1) (0, p, [])) 6 p)) (v := 1) hlo hM) hM rfl rfl rfl (qa_lt9 rfl) (qa_le9 rfl) (qa_le9 rfl) (qa_le9 rfl) (fun o9 τ9 hq9 => ?_)
      obtain ⟨rfl, e9, hM9, f9⟩ := hq9
      refine qa_nx (pc' := 112) (st' := [_]) rfl rfl rfl rfl ?_
      replace e0 := e9.trans e0
      replace fr := fun q hq => (f9 q (by have := hq; omega)).trans (fr q hq)
      replace ha1 := (f9 _ (by omega)).trans ha1
      replace hi := (f9 _ (by omega)).trans hi
      replace hlt1 := (f9 _ (by omega)).trans hlt1
      replace hbg1 := (f9 _ (by omega)).trans hbg1
      replace hcm1 := (f9 _ (by omega)).trans hcm1
      replace hm1 := (f9 _ (by omega)).trans hm1
      refine qa_ireturn rfl rfl rfl (hQ _ _ ⟨⟨_, rfl, fun h9 => absurd (hp.symm.trans h9) (by omega)⟩, e0, fun q hq => fr q (by omega), _, m, ps, ⟨⟨hM9, hm1⟩, ⟨_, ha1⟩, (fr _ (by omega)).trans hsv, (fr _ (by omega)).trans hps, hi, ⟨tb, (fr _ (by omega)).trans htb⟩, (fr _ (by omega)).trans hli, hlt1, hbg1, _, hcm1⟩, by subst hF0; exact ⟨rfl, rfl, rfl⟩, Or.inl (by subst hF0; exact ⟨by omega, rfl, rfl, rfl, rfl, hp.symm, rfl, rfl, rfl⟩)⟩)
  have TOk : ∀ (τ : qa_S) (cm : Int → Int), (ce.1 = -1 ∧ sc_kept cm ce.2 ∧ ce.2.length ≤ 13 ∧ τ.1 μ = some (qa_MoF μ (pm_F (sN_put F0 23 (ce.2.length : Int)) (1, (t.length : Int), []))) ∧ τ.1 (μ + 1) = some (qa_ia 146 m) ∧ τ.1 (μ + 10) = some (qa_ia 244 cm) ∧ τ.2 = σ.2 ∧ τ.1 (μ + 2) = some (qa_ia 146 (qa_cp m as 0 0 146)) ∧ τ.1 (μ + 5) = some (qa_ia 60 ip) ∧ τ.1 (μ + 8) = some (qa_ca 54 qM_let) ∧ τ.1 (μ + 9) = some (qa_ia 12 qM_beg) ∧ (∀ q, (q ≠ μ ∧ q ≠ μ + 1 ∧ q ≠ μ + 2 ∧ q ≠ μ + 10) → τ.1 q = σ.1 q)) → qa_W E qm_M_execute Q9 0 0 92 [(0, .ref μ), (1, .int (qa_i 0))] [] τ := by
    clear TErr hM ha1 hi hlt1 hbg1 hcm1 hm1 e0 fr
    intro τ cm ⟨hp, hkp, hcl, hM, hm1, hcm1, e0, ha1, hi, hlt1, hbg1, fr⟩
    obtain ⟨Ff, hFf⟩ : ∃ Ff, Ff = pm_F (sN_put F0 23 (ce.2.length : Int)) (1, (t.length : Int), []) := ⟨_, rfl⟩
    rw [← hFf] at hM
    have hFv : (Ff 12 = 0 ∧ Ff 10 = 0 ∧ Ff 23 = (ce.2.length : Int) ∧ Ff 26 = 0) ∧ (Ff 3 = f 3 ∧ Ff 14 = 0 ∧ Ff 19 = f 19) ∧ Ff 5 = f 5 ∧ Ff 6 = f 6 ∧ Ff 7 = f 7 ∧ Ff 8 = f 8 ∧ Ff 9 = f 9 := by subst hFf; subst hF0; exact ⟨⟨rfl, rfl, rfl, rfl⟩, ⟨rfl, rfl, rfl⟩, rfl, rfl, rfl, rfl, rfl⟩
    obtain ⟨⟨v12, v10, v23, v26⟩, vS, v5, v6, v7, v8, v9⟩ := hFv
    refine qa_aload_n (pc' := 93) ⟨rfl, rfl⟩ rfl ?_
    refine qa_getf (v := .int (qa_i (Ff 26))) (pc' := 96) ⟨rfl, rfl⟩ qg_10_268 hM rfl ?_
    refine qa_if_eq (pc' := 99) (tgt := 113) ⟨rfl, rfl⟩ rfl (by omega) (fun hc1 => ?_) (fun hc1 => ?_)
    · refine qa_iconst (pc' := 114) ⟨rfl, rfl⟩ ?_
      refine qa_istore_n (L' := [(0, _), (1, _), (2, _)]) (pc' := 115) ⟨rfl, rfl⟩ rfl rfl ?_
      have T2 : ∀ (f9 : Nat) (τ : qa_S) (i : Nat) (mi : Int → Int), ((i : Int) + f9 = ce.2.length ∧ so_ex m ce.2 0 = so_ex mi (ce.2.drop i) i ∧ sm_ok mi (B + 960 * i) ∧ τ.1 μ = some (qa_MoF μ Ff) ∧ τ.1 (μ + 1) = some (qa_ia 146 mi) ∧ τ.1 (μ + 10) = some (qa_ia 244 cm) ∧ τ.2 = σ.2 ∧ τ.1 (μ + 2) = some (qa_ia 146 (qa_cp m as 0 0 146)) ∧ τ.1 (μ + 5) = some (qa_ia 60 ip) ∧ τ.1 (μ + 8) = some (qa_ca 54 qM_let) ∧ τ.1 (μ + 9) = some (qa_ia 12 qM_beg) ∧ (∀ q, (q ≠ μ ∧ q ≠ μ + 1 ∧ q ≠ μ + 2 ∧ q ≠ μ + 10) → τ.1 q = σ.1 q)) → qa_W E qm_M_execute Q9 0 0 115 [(0, .ref μ), (1, .int (qa_i 0)), (2, .int (qa_i i))] [] τ := by
        clear hM hm1 hcm1 e0 ha1 hi hlt1 hbg1 fr
        intro f9
        induction f9 with
        | zero =>
          intro τ i mi ⟨hif, hex, hki, hM, hm1, hcm1, e0, ha1, hi, hlt1, hbg1, fr⟩
          refine qa_iload_n (pc' := 116) ⟨rfl, rfl⟩ rfl ?_
          refine qa_aload_n (pc' := 117) ⟨rfl, rfl⟩ rfl ?_
          refine qa_getf (v := .int (qa_i (Ff 23))) (pc' := 120) ⟨rfl, rfl⟩ qg_10_292 hM rfl ?_
          refine qa_icmp_ge (pc' := 123) (tgt := 149) ⟨rfl, rfl⟩ rfl (by omega) (by omega) (fun hc2 => ?_) (fun hc2 => ?_)
          · have hx9 : so_ex m ce.2 0 = (0, 0, 0, mi) := by rw [hex, List.drop_eq_nil_of_le (by omega)]; rfl
            refine qa_aload_n (pc' := 150) ⟨rfl, rfl⟩ rfl ?_
            refine qa_aload_n (pc' := 151) ⟨rfl, rfl⟩ rfl ?_
            refine qa_getf (v := .int (qa_i (Ff 23))) (pc' := 154) ⟨rfl, rfl⟩ qg_10_292 hM rfl ?_
            refine qa_callV rfl qf_M_changed ql_10_108 (c_M_changed (E := E) (f := Ff) hlo hM ha1 ((fr (μ + 4) (by omega)).trans hps) (by omega) ⟨by omega, by omega⟩) hM rfl rfl rfl (qa_lt9 rfl) (qa_le9 rfl) (qa_le9 rfl) (qa_le9 rfl) (fun o9 τ9 hq9 => ?_)
            obtain ⟨rfl, e9, hM9, hps9, f9⟩ := hq9
            refine qa_nx (pc' := 157) (st' := [_]) rfl rfl rfl rfl ?_
            replace e0 := e9.trans e0
            replace fr : ∀ q, (q ≠ μ ∧ q ≠ μ + 1 ∧ q ≠ μ + 2 ∧ q ≠ μ + 4 ∧ q ≠ μ + 10) → _ = σ.1 q := fun q hq => (f9 q (by omega)).trans (fr q (by omega))
            replace ha1 := (f9 _ (by omega)).trans ha1
            replace hi := (f9 _ (by omega)).trans hi
            replace hlt1 := (f9 _ (by omega)).trans hlt1
            replace hbg1 := (f9 _ (by omega)).trans hbg1
            replace hcm1 := (f9 _ (by omega)).trans hcm1
            replace hm1 := (f9 _ (by omega)).trans hm1
            have eC : sN_ch Ff = sN_put Ff 5 (if f 5 = 8 then 8 else f 5 + 1) := by unfold sN_ch; rw [if_neg (by omega), v5]
            rw [eC] at hM9
            have hph := sM_ph (f := Ff) (as0 := as) (ps := ps) (m := m) (as := qa_cp m as 0 0 146) (by omega) (by omega) rfl (n5 := if f 5 = 8 then 8 else f 5 + 1) (by rw [v5])
            rw [v5] at hph
            refine qa_ireturn rfl rfl rfl (hQ _ _ ⟨⟨_, rfl, fun _ _ => v23⟩, e0, fun q hq => fr q (by omega), _, mi, _, ⟨⟨hM9, hm1⟩, ⟨_, ha1⟩, (fr _ (by omega)).trans hsv, hps9, hi, ⟨tb, (fr _ (by omega)).trans htb⟩, (fr _ (by omega)).trans hli, hlt1, hbg1, _, hcm1⟩, vS, Or.inr (Or.inl ⟨hp, by rw [hx9], v12, by rw [hx9], ⟨rfl, hph⟩, v6, v7, v8, v9⟩)⟩)
          · exact absurd hc2 (by omega)
        | succ f9 iT2 =>
          intro τ i mi ⟨hif, hex, hki, hM, hm1, hcm1, e0, ha1, hi, hlt1, hbg1, fr⟩
          refine qa_iload_n (pc' := 116) ⟨rfl, rfl⟩ rfl ?_
          refine qa_aload_n (pc' := 117) ⟨rfl, rfl⟩ rfl ?_
          refine qa_getf (v := .int (qa_i (Ff 23))) (pc' := 120) ⟨rfl, rfl⟩ qg_10_292 hM rfl ?_
          refine qa_icmp_ge (pc' := 123) (tgt := 149) ⟨rfl, rfl⟩ rfl (by omega) (by omega) (fun hc2 => ?_) (fun hc2 => ?_)
          · exact absurd hc2 (by omega)
          · obtain ⟨x, hx⟩ : ∃ x, x = ce.2[i] := ⟨_, rfl⟩
            have hix : ce.2[i]? = some x := by rw [hx]; exact List.getElem?_eq_getElem (by omega)
            have hgx := hgood x (hx ▸ List.getElem_mem (by omega))
            have hex1 : so_ex m ce.2 0 = so_ex mi (x :: ce.2.drop (i + 1)) i := by rw [hex, hx, List.drop_eq_getElem_cons (by omega)]
            rw [so_ex_s] at hex1
            have hrk := so_do_ok (k := x.1) (x := x.2.getD 0 0) (y := x.2.getD 1 0) (z := x.2.getD 2 0) hki hgx.1.1
            have eC : so_do mi x.1 (x.2.getD 0 0) (x.2.getD 1 0) (x.2.getD 2 0) = so_cmd mi x := rfl
            rw [eC] at hrk
            obtain ⟨kp1, kp2⟩ := hkp i x hix
            refine qa_aload_n (pc' := 124) ⟨rfl, rfl⟩ rfl ?_
            refine qa_iconst (pc' := 125) ⟨rfl, rfl⟩ ?_
            refine qa_iload_n (pc' := 126) ⟨rfl, rfl⟩ rfl ?_
            refine qa_imul (z := 4 * (i : Int)) (pc' := 127) ⟨rfl, rfl⟩ (by omega) ?_
            refine qa_callV rfl qf_M_does ql_10_305 (c_M_does (E := E) hlo hM hm1 hki (by omega) hcm1 (by omega) hgx kp1 kp2) hM rfl rfl rfl (qa_lt9 rfl) (qa_le9 rfl) (qa_le9 rfl) (qa_le9 rfl) (fun o9 τ9 hq9 => ?_)
            obtain ⟨rfl, e9, hM9, hm9, f9⟩ := hq9
            refine qa_nx (pc' := 130) (st' := []) rfl rfl rfl rfl ?_
            replace e0 := e9.trans e0
            replace fr := fun q hq => (f9 q (by have := hq; omega)).trans (fr q hq)
            replace ha1 := (f9 _ (by omega)).trans ha1
            replace hi := (f9 _ (by omega)).trans hi
            replace hlt1 := (f9 _ (by omega)).trans hlt1
            replace hbg1 := (f9 _ (by omega)).trans hbg1
            replace hcm1 := (f9 _ (by omega)).trans hcm1
            clear hM hm1
            obtain ⟨hr0, hr1, hr2⟩ := hrk
            have hpl := so_pl_b x.1 (so_cmd mi x).1
            generalize so_cmd mi x = r at *
            have hcase : (0 ≤ r.1 ∧ sN_it Ff x.1 r = Ff) ∨ (r.1 < -9 ∧ sN_it Ff x.1 r = sN_put Ff 12 (so_pl x.1 r.1)) ∨ ((-9 ≤ r.1 ∧ r.1 < 0) ∧ sN_it Ff x.1 r = sN_put (sN_put (sN_put Ff 10 (-r.1)) 11 r.2.1) 12 (so_pl x.1 r.1)) := by
              unfold sN_it
              by_cases h1 : r.1 < -9
              · exact Or.inr (Or.inl ⟨h1, if_pos h1⟩)
              · by_cases h2 : r.1 < 0
                · exact Or.inr (Or.inr ⟨by omega, (if_neg h1).trans (if_pos h2)⟩)
                · exact Or.inl ⟨by omega, (if_neg h1).trans (if_neg h2)⟩
            rcases hcase with ⟨hra, hrb⟩ | ⟨hra, hrb⟩ | ⟨hra, hrb⟩
            · rw [hrb] at hM9
              rw [if_neg (by omega)] at hex1
              refine qa_aload_n (pc' := 131) ⟨rfl, rfl⟩ rfl ?_
              refine qa_getf (v := .int (qa_i (Ff 12))) (pc' := 134) ⟨rfl, rfl⟩ qg_10_51 hM9 rfl ?_
              refine qa_if_le (pc' := 137) (tgt := 143) ⟨rfl, rfl⟩ rfl (by omega) (fun hc3 => ?_) (fun hc3 => ?_)
              · refine qa_iinc (L' := [(0, _), (1, _), (2, _)]) (z := ((i + 1 : Nat) : Int)) (pc' := 146) ⟨rfl, rfl⟩ rfl (by omega) rfl rfl ?_
                refine qa_goto (pc' := 149) (tgt := 115) ⟨rfl, rfl⟩ rfl ?_
                exact iT2 _ (i + 1) _ ⟨by omega, hex1, by rw [show B + 960 * ((i + 1 : Nat) : Int) = B + 960 * i + 960 by omega]; exact hr0, hM9, hm9, hcm1, e0, ha1, hi, hlt1, hbg1, fr⟩
              · exact absurd hc3 (by omega)
            · rw [hrb] at hM9
              rw [if_pos (by omega)] at hex1
              refine qa_aload_n (pc' := 131) ⟨rfl, rfl⟩ rfl ?_
              refine qa_getf (v := .int (qa_i (so_pl x.1 r.1))) (pc' := 134) ⟨rfl, rfl⟩ qg_10_51 hM9 rfl ?_
              refine qa_if_le (pc' := 137) (tgt := 143) ⟨rfl, rfl⟩ rfl (by omega) (fun hc3 => ?_) (fun hc3 => ?_)
              · exact absurd hc3 (by omega)
              · refine qa_aload_n (pc' := 138) ⟨rfl, rfl⟩ rfl ?_
                refine qa_iload_n (pc' := 139) ⟨rfl, rfl⟩ rfl ?_
                refine qa_callV rfl qf_M_stops ql_10_308 (c_M_stops (E := E) (f := (sN_put Ff 12 (so_pl x.1 r.1))) hlo hM9 hm9 ha1 (show qa_in (Ff 10) by omega)) hM9 rfl rfl rfl (qa_lt9 rfl) (qa_le9 rfl) (qa_le9 rfl) (qa_le9 rfl) (fun o9 τ9 hq9 => ?_)
                obtain ⟨rfl, e8, hM8, hm8, f8⟩ := hq9
                refine qa_nx (pc' := 142) (st' := [_]) rfl rfl rfl rfl ?_
                replace e0 := e8.trans e0
                replace fr := fun q hq => (f8 q (by have := hq; omega)).trans (fr q hq)
                replace ha1 := (f8 _ (by omega)).trans ha1
                replace hi := (f8 _ (by omega)).trans hi
                replace hlt1 := (f8 _ (by omega)).trans hlt1
                replace hbg1 := (f8 _ (by omega)).trans hbg1
                replace hcm1 := (f8 _ (by omega)).trans hcm1
                rw [if_pos (show (sN_put Ff 12 (so_pl x.1 r.1)) 10 = 0 from v10)] at hM8
                have hlk := qa_lk.set (g := m) hm8 (fun j j0 j1 => by rw [qa_cp_in (by omega), qa_cp_in (by omega)]; congr 1; omega)
                refine qa_W.lk hlk ?_
                have ne9 : ∀ {h9 : qa_H} {q : Nat}, q ≠ μ + 1 → (qa_set h9 (μ + 1) (qa_ia 146 m)) q = h9 q := fun hq => qa_set_ne hq
                replace ha1 := (ne9 (by omega)).trans ha1
                replace hi := (ne9 (by omega)).trans hi
                replace hlt1 := (ne9 (by omega)).trans hlt1
                replace hbg1 := (ne9 (by omega)).trans hbg1
                replace hcm1 := (ne9 (by omega)).trans hcm1
                replace hM8 := (ne9 (by omega)).trans hM8
                replace fr := fun q hq => (ne9 (by have := hq; omega)).trans (fr q hq)
                skip
                refine qa_ireturn rfl rfl rfl (hQ _ _ ⟨⟨_, rfl, fun _ h9 => absurd h9 (by rw [hex1]; show ¬ (1 : Int) = 0; decide)⟩, e0, fun q hq => fr q (by omega), _, m, ps, ⟨⟨hM8, qa_set_up⟩, ⟨_, ha1⟩, (fr _ (by omega)).trans hsv, (fr _ (by omega)).trans hps, hi, ⟨tb, (fr _ (by omega)).trans htb⟩, (fr _ (by omega)).trans hli, hlt1, hbg1, _, hcm1⟩, vS, Or.inr (Or.inr (Or.inl ⟨hp, by rw [hex1], by rw [hex1]; exact hra, rfl, rfl, rfl, v5, v6, v7, v8, v9⟩))⟩)
            · rw [hrb] at hM9
              rw [if_pos (by omega)] at hex1
              refine qa_aload_n (pc' := 131) ⟨rfl, rfl⟩ rfl ?_
              refine qa_getf (v := .int (qa_i (so_pl x.1 r.1))) (pc' := 134) ⟨rfl, rfl⟩ qg_10_51 hM9 rfl ?_
              refine qa_if_le (pc' := 137) (tgt := 143) ⟨rfl, rfl⟩ rfl (by omega) (fun hc3 => ?_) (fun hc3 => ?_)
              · exact absurd hc3 (by omega)
              · refine qa_aload_n (pc' := 138) ⟨rfl, rfl⟩ rfl ?_
                refine qa_iload_n (pc' := 139) ⟨rfl, rfl⟩ rfl ?_
                refine qa_callV rfl qf_M_stops ql_10_308 (c_M_stops (E := E) (f := (sN_put (sN_put (sN_put Ff 10 (-r.1)) 11 r.2.1) 12 (so_pl x.1 r.1))) hlo hM9 hm9 ha1 (show qa_in (-r.1) by omega)) hM9 rfl rfl rfl (qa_lt9 rfl) (qa_le9 rfl) (qa_le9 rfl) (qa_le9 rfl) (fun o9 τ9 hq9 => ?_)
                obtain ⟨rfl, e8, hM8, hm8, f8⟩ := hq9
                refine qa_nx (pc' := 142) (st' := [_]) rfl rfl rfl rfl ?_
                replace e0 := e8.trans e0
                replace fr := fun q hq => (f8 q (by have := hq; omega)).trans (fr q hq)
                replace ha1 := (f8 _ (by omega)).trans ha1
                replace hi := (f8 _ (by omega)).trans hi
                replace hlt1 := (f8 _ (by omega)).trans hlt1
                replace hbg1 := (f8 _ (by omega)).trans hbg1
                replace hcm1 := (f8 _ (by omega)).trans hcm1
                rw [if_neg (show ¬ (sN_put (sN_put (sN_put Ff 10 (-r.1)) 11 r.2.1) 12 (so_pl x.1 r.1)) 10 = 0 from (show ¬ (-r.1) = 0 by omega))] at hM8
                have hlk := qa_lk.set (g := m) hm8 (fun j j0 j1 => by rw [qa_cp_in (by omega), qa_cp_in (by omega)]; congr 1; omega)
                refine qa_W.lk hlk ?_
                have ne9 : ∀ {h9 : qa_H} {q : Nat}, q ≠ μ + 1 → (qa_set h9 (μ + 1) (qa_ia 146 m)) q = h9 q := fun hq => qa_set_ne hq
                replace ha1 := (ne9 (by omega)).trans ha1
                replace hi := (ne9 (by omega)).trans hi
                replace hlt1 := (ne9 (by omega)).trans hlt1
                replace hbg1 := (ne9 (by omega)).trans hbg1
                replace hcm1 := (ne9 (by omega)).trans hcm1
                replace hM8 := (ne9 (by omega)).trans hM8
                replace fr := fun q hq => (ne9 (by have := hq; omega)).trans (fr q hq)
                skip
                refine qa_ireturn rfl rfl rfl (hQ _ _ ⟨⟨_, rfl, fun _ h9 => absurd h9 (by rw [hex1]; show ¬ (1 : Int) = 0; decide)⟩, e0, fun q hq => fr q (by omega), _, m, ps, ⟨⟨hM8, qa_set_up⟩, ⟨_, ha1⟩, (fr _ (by omega)).trans hsv, (fr _ (by omega)).trans hps, hi, ⟨tb, (fr _ (by omega)).trans htb⟩, (fr _ (by omega)).trans hli, hlt1, hbg1, _, hcm1⟩, vS, Or.inr (Or.inr (Or.inr ⟨hp, by rw [hex1], by rw [hex1]; exact hra, rfl, rfl, rfl, v5, v6, rfl, by rw [hex1]; rfl, by rw [hex1]; rfl⟩))⟩)
      exact T2 ce.2.length _ 0 m ⟨by omega, rfl, by rw [show B + 960 * ((0 : Nat) : Int) = B by omega]; exact hk, hM, hm1, hcm1, e0, ha1, hi, hlt1, hbg1, fr⟩
    · exact absurd v26 hc1
  have T1 : ∀ (f9 : Nat) (τ : qa_S) (o : Int) (cs : sc_C) (cm : Int → Int), (cs.length + f9 = 13 ∧ ce = sc_all t f9 o cs ∧ (0 ≤ o ∧ o ≤ t.length) ∧ 5 * (cs.length : Int) ≤ o ∧ (∀ y ∈ cs, sc_good y) ∧ sc_kept cm cs ∧ τ.1 μ = some (qa_MoF μ (pm_F (sN_put F0 23 (cs.length : Int)) (1, o, []))) ∧ τ.1 (μ + 1) = some (qa_ia 146 m) ∧ τ.1 (μ + 10) = some (qa_ia 244 cm) ∧ τ.2 = σ.2 ∧ τ.1 (μ + 2) = some (qa_ia 146 (qa_cp m as 0 0 146)) ∧ τ.1 (μ + 5) = some (qa_ia 60 ip) ∧ τ.1 (μ + 8) = some (qa_ca 54 qM_let) ∧ τ.1 (μ + 9) = some (qa_ia 12 qM_beg) ∧ (∀ q, (q ≠ μ ∧ q ≠ μ + 1 ∧ q ≠ μ + 2 ∧ q ≠ μ + 10) → τ.1 q = σ.1 q)) → qa_W E qm_M_execute Q9 0 0 34 [(0, .ref μ), (1, .int (qa_i 1))] [] τ := by
    clear hM hm1 hcm1 e0 ha1 hi hlt1 hbg1 fr
    intro f9
    induction f9 with
    | zero =>
      intro τ o cs cm ⟨hcf, hall, ho, hof, hgs, hkp, hM, hm1, hcm1, e0, ha1, hi, hlt1, hbg1, fr⟩
      exact absurd hof (by omega)
    | succ f9 iT1 =>
      intro τ o cs cm ⟨hcf, hall, ho, hof, hgs, hkp, hM, hm1, hcm1, e0, ha1, hi, hlt1, hbg1, fr⟩
      refine qa_iload_n (pc' := 35) ⟨rfl, rfl⟩ rfl ?_
      refine qa_if_eq (pc' := 38) (tgt := 92) ⟨rfl, rfl⟩ rfl (by omega) (fun hc4 => ?_) (fun hc4 => ?_)
      · exact absurd hc4 (by decide)
      · have hB := sc_tr_b ho 11 0 o rfl ⟨Int.le_refl _, ho.2⟩
        obtain ⟨b0, b1, b2, b3⟩ := hB
        rw [sc_all_s] at hall
        refine qa_aload_n (pc' := 39) ⟨rfl, rfl⟩ rfl ?_
        refine qa_callV rfl qf_M_readCommand ql_10_302 (c_M_readCommand (E := E) (cn := (cs.length : Int)) (F := sN_put F0 23 (cs.length : Int)) hlo hM hi hg hch hl hlt1 hbg1 hcm1 (by subst hF0; exact h14) rfl (by omega) ho) hM rfl rfl rfl (qa_lt9 rfl) (qa_le9 rfl) (qa_le9 rfl) (qa_le9 rfl) (fun o9 τ9 hq9 => ?_)
        obtain ⟨rfl, e9, ⟨n1, hM9, hn1⟩, ⟨cm1, hcm9, hq1, hl1⟩, f9⟩ := hq9
        refine qa_nx (pc' := 42) (st' := []) rfl rfl rfl rfl ?_
        rw [sN_pp] at hM9
        replace e0 := e9.trans e0
        replace fr := fun q hq => (f9 q (by have := hq; omega)).trans (fr q hq)
        replace ha1 := (f9 _ (by omega)).trans ha1
        replace hi := (f9 _ (by omega)).trans hi
        replace hlt1 := (f9 _ (by omega)).trans hlt1
        replace hbg1 := (f9 _ (by omega)).trans hbg1
        replace hm1 := (f9 _ (by omega)).trans hm1
        clear hM hcm1 e9 f9
        obtain ⟨T, hT⟩ : ∃ T, T = sc_tr t o 11 0 o := ⟨_, rfl⟩
        have hgd := sc_tr_g ho
        rw [← hT] at hall b0 b1 b2 b3 hM9 hn1 hl1 hgd
        refine qa_aload_n (pc' := 43) ⟨rfl, rfl⟩ rfl ?_
        refine qa_getf (v := .int (qa_i (1 - T.1))) (pc' := 46) ⟨rfl, rfl⟩ qg_10_268 hM9 rfl ?_
        refine qa_if_ne (pc' := 49) (tgt := 64) ⟨rfl, rfl⟩ rfl (by omega) (fun hc5 => ?_) (fun hc5 => ?_)
        · have t0 : T.1 = 0 := by omega
          rw [if_pos t0] at hall
          refine qa_iconst (pc' := 65) ⟨rfl, rfl⟩ ?_
          refine qa_istore_n (L' := [(0, _), (1, _)]) (pc' := 66) ⟨rfl, rfl⟩ rfl rfl ?_
          refine qa_iload_n (pc' := 67) ⟨rfl, rfl⟩ rfl ?_
          refine qa_if_eq (pc' := 70) (tgt := 34) ⟨rfl, rfl⟩ rfl (by omega) (fun hc7 => ?_) (fun hc7 => ?_)
          · refine qa_iload_n (pc' := 35) ⟨rfl, rfl⟩ rfl ?_
            refine qa_if_eq (pc' := 38) (tgt := 92) ⟨rfl, rfl⟩ rfl (by omega) (fun hc9 => ?_) (fun hc9 => ?_)
            · exact TErr _ n1 T.2.1 cm1 ⟨by rw [hall], by omega, by rw [t0] at hM9; exact hM9, hm1, hcm9, e0, ha1, hi, hlt1, hbg1, fr⟩
            · exact absurd rfl hc9
          · exact absurd rfl hc7
        · have t1 : T.1 = 1 := by omega
          rw [if_neg (by omega)] at hall
          obtain ⟨b4, b5, b6⟩ := b3 t1
          obtain ⟨l1, l2⟩ := hl1 t1
          rw [hn1 t1] at hM9
          have hgd2 := hgd (by omega)
          have hkp2 : sc_kept cm1 (cs ++ [T.2.2]) := hkp.add hq1 (fun y hy => (hgs y hy).l3) ⟨l1, l2⟩
          have hln : (cs ++ [T.2.2]).length = cs.length + 1 := by rw [List.length_append]; rfl
          have hgs2 : ∀ y ∈ cs ++ [T.2.2], sc_good y := fun y hy => (List.mem_append.mp hy).elim (hgs y) (fun h9 => by rw [List.mem_singleton.mp h9]; exact hgd2)
          rw [t1] at hM9
          rw [show (cs.length : Int) + 1 = ((cs ++ [T.2.2]).length : Int) by omega] at hM9
          have h25 : F0 25 = (t.length : Int) := by subst hF0; exact h14
          refine qa_aload_n (pc' := 50) ⟨rfl, rfl⟩ rfl ?_
          refine qa_getf (v := .int (qa_i T.2.1)) (pc' := 53) ⟨rfl, rfl⟩ qg_10_262 hM9 rfl ?_
          refine qa_aload_n (pc' := 54) ⟨rfl, rfl⟩ rfl ?_
          refine qa_getf (v := .int (qa_i (F0 25))) (pc' := 57) ⟨rfl, rfl⟩ qg_10_265 hM9 rfl ?_
          refine qa_icmp_ge (pc' := 60) (tgt := 64) ⟨rfl, rfl⟩ rfl (by omega) (by omega) (fun hc6 => ?_) (fun hc6 => ?_)
          · have teq : T.2.1 = (t.length : Int) := by omega
            rw [if_pos teq] at hall
            refine qa_iconst (pc' := 65) ⟨rfl, rfl⟩ ?_
            refine qa_istore_n (L' := [(0, _), (1, _)]) (pc' := 66) ⟨rfl, rfl⟩ rfl rfl ?_
            refine qa_iload_n (pc' := 67) ⟨rfl, rfl⟩ rfl ?_
            refine qa_if_eq (pc' := 70) (tgt := 34) ⟨rfl, rfl⟩ rfl (by omega) (fun hc7 => ?_) (fun hc7 => ?_)
            · refine qa_iload_n (pc' := 35) ⟨rfl, rfl⟩ rfl ?_
              refine qa_if_eq (pc' := 38) (tgt := 92) ⟨rfl, rfl⟩ rfl (by omega) (fun hc9 => ?_) (fun hc9 => ?_)
              · exact TOk _ cm1 ⟨by rw [hall], by rw [hall]; exact hkp2, by rw [hall]; show (cs ++ [T.2.2]).length ≤ 13; omega, by rw [hall]; rw [teq] at hM9; exact hM9, hm1, hcm9, e0, ha1, hi, hlt1, hbg1, fr⟩
              · exact absurd rfl hc9
            · exact absurd rfl hc7
          · rw [if_neg (by omega)] at hall
            refine qa_iconst (pc' := 61) ⟨rfl, rfl⟩ ?_
            refine qa_goto (pc' := 64) (tgt := 65) ⟨rfl, rfl⟩ rfl ?_
            refine qa_istore_n (L' := [(0, _), (1, _)]) (pc' := 66) ⟨rfl, rfl⟩ rfl rfl ?_
            refine qa_iload_n (pc' := 67) ⟨rfl, rfl⟩ rfl ?_
            refine qa_if_eq (pc' := 70) (tgt := 34) ⟨rfl, rfl⟩ rfl (by omega) (fun hc7 => ?_) (fun hc7 => ?_)
            · exact absurd hc7 (by decide)
            · refine qa_aload_n (pc' := 71) ⟨rfl, rfl⟩ rfl ?_
              refine qa_bipush (z := 59) (pc' := 73) ⟨rfl, rfl⟩ rfl ?_
              refine qa_callV rfl qf_M_expects ql_10_280 (c_M_expects (E := E) (R := (1, T.2.1, [])) (x := 59) hlo hM9 hi hg hch hl (show sN_put F0 23 _ 25 = _ from h25) ⟨Or.inr rfl, by show 0 ≤ T.2.1; omega, b2⟩ (by omega)) hM9 rfl rfl rfl (qa_lt9 rfl) (qa_le9 rfl) (qa_le9 rfl) (qa_le9 rfl) (fun o9 τ9 hq9 => ?_)
              obtain ⟨rfl, e9, hM, f9⟩ := hq9
              refine qa_nx (pc' := 76) (st' := []) rfl rfl rfl rfl ?_
              replace e0 := e9.trans e0
              replace fr := fun q hq => (f9 q (by have := hq; omega)).trans (fr q hq)
              replace ha1 := (f9 _ (by omega)).trans ha1
              replace hi := (f9 _ (by omega)).trans hi
              replace hlt1 := (f9 _ (by omega)).trans hlt1
              replace hbg1 := (f9 _ (by omega)).trans hbg1
              replace hm1 := (f9 _ (by omega)).trans hm1
              replace hcm9 := (f9 _ (by omega)).trans hcm9
              clear hM9
              rw [sc_st_p (R := (1, T.2.1, [])) rfl (by omega)] at hM
              by_cases hsc : T.2.1 < t.length ∧ sc_at t T.2.1 = 59
              · rw [if_pos (show ((1, T.2.1, []) : sc_R).2.1 < t.length ∧ sc_at t ((1, T.2.1, []) : sc_R).2.1 = 59 from hsc)] at hM
                rw [if_pos hsc] at hall
                refine qa_aload_n (pc' := 77) ⟨rfl, rfl⟩ rfl ?_
                refine qa_getf (v := .int (qa_i (1 - 1))) (pc' := 80) ⟨rfl, rfl⟩ qg_10_268 hM rfl ?_
                refine qa_if_ne (pc' := 83) (tgt := 87) ⟨rfl, rfl⟩ rfl (by omega) (fun hc8 => ?_) (fun hc8 => ?_)
                · exact absurd rfl hc8
                · refine qa_iconst (pc' := 84) ⟨rfl, rfl⟩ ?_
                  refine qa_goto (pc' := 87) (tgt := 88) ⟨rfl, rfl⟩ rfl ?_
                  refine qa_istore_n (L' := [(0, _), (1, _)]) (pc' := 89) ⟨rfl, rfl⟩ rfl rfl ?_
                  refine qa_goto (pc' := 92) (tgt := 34) ⟨rfl, rfl⟩ rfl ?_
                  exact iT1 _ (T.2.1 + 1) (cs ++ [T.2.2]) _ ⟨by omega, hall, by omega, by omega, hgs2, hkp2, hM, hm1, hcm9, e0, ha1, hi, hlt1, hbg1, fr⟩
              · rw [if_neg (show ¬ (((1, T.2.1, []) : sc_R).2.1 < t.length ∧ sc_at t ((1, T.2.1, []) : sc_R).2.1 = 59) from hsc)] at hM
                rw [if_neg hsc] at hall
                refine qa_aload_n (pc' := 77) ⟨rfl, rfl⟩ rfl ?_
                refine qa_getf (v := .int (qa_i (1 - 0))) (pc' := 80) ⟨rfl, rfl⟩ qg_10_268 hM rfl ?_
                refine qa_if_ne (pc' := 83) (tgt := 87) ⟨rfl, rfl⟩ rfl (by omega) (fun hc8 => ?_) (fun hc8 => ?_)
                · refine qa_iconst (pc' := 88) ⟨rfl, rfl⟩ ?_
                  refine qa_istore_n (L' := [(0, _), (1, _)]) (pc' := 89) ⟨rfl, rfl⟩ rfl rfl ?_
                  refine qa_goto (pc' := 92) (tgt := 34) ⟨rfl, rfl⟩ rfl ?_
                  refine qa_iload_n (pc' := 35) ⟨rfl, rfl⟩ rfl ?_
                  refine qa_if_eq (pc' := 38) (tgt := 92) ⟨rfl, rfl⟩ rfl (by omega) (fun hc9 => ?_) (fun hc9 => ?_)
                  · exact TErr _ _ T.2.1 cm1 ⟨by rw [hall], by omega, hM, hm1, hcm9, e0, ha1, hi, hlt1, hbg1, fr⟩
                  · exact absurd rfl hc9
                · exact absurd hc8 (by decide)
  exact T1 13 _ 0 [] _ ⟨rfl, hce, by omega, by decide, fun y hy => absurd hy List.not_mem_nil, fun i x hx => absurd hx (by simp), hM, hm1, hcm1, e0, ha1, hi, hlt1, hbg1, fr⟩
