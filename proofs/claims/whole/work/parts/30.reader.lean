/-! the language of commands: t the input; 68 a digit, 78 a number, 83 a number with a sign -/
def sc_at (t : List Int) (o : Int) : Int := t.getD o.toNat 0
def sc_isd (t : List Int) (o : Int) : Prop := o < t.length ∧ 48 ≤ sc_at t o ∧ sc_at t o ≤ 57
def sc_dg (t : List Int) : Nat → Int → Int → Int × Int
  | 0, o, v => (v, o)
  | f + 1, o, v => if o < t.length ∧ 48 ≤ sc_at t o ∧ sc_at t o ≤ 57 then sc_dg t f (o + 1) (v * 10 + sc_at t o - 48) else (v, o)
theorem sc_dg_o (t : List Int) : ∀ (f : Nat) (o v : Int), o ≤ (sc_dg t f o v).2 ∧ (sc_dg t f o v).2 ≤ o + f ∧ (o ≤ t.length → (sc_dg t f o v).2 ≤ t.length)
  | 0, o, v => ⟨Int.le_refl _, by show o ≤ o + 0; omega, fun h => h⟩
  | f + 1, o, v => by
    unfold sc_dg
    split
    · have := sc_dg_o t f (o + 1) (v * 10 + sc_at t o - 48)
      refine ⟨by omega, by omega, fun h => this.2.2 (by omega)⟩
    · refine ⟨Int.le_refl _, by show o ≤ _; omega, fun h => h⟩
theorem sc_dg_v {t : List Int} {o v : Int} (hv : 0 ≤ v ∧ v ≤ 0) : 0 ≤ (sc_dg t 3 o v).1 ∧ (sc_dg t 3 o v).1 ≤ 999 := by
  unfold sc_dg; split
  · unfold sc_dg; split
    · unfold sc_dg; split
      · unfold sc_dg; simp only; omega
      · simp only; omega
    · simp only; omega
  · simp only; omega
theorem sc_dg_w {t : List Int} {o v : Int} (hv : 0 ≤ v ∧ v ≤ 0) : 0 ≤ (sc_dg t 1 o v).1 ∧ (sc_dg t 1 o v).1 ≤ 9 := by
  unfold sc_dg; split
  · unfold sc_dg; simp only; omega
  · simp only; omega
/-- (1 or 0, where it stops, what it tells) -/
abbrev sc_R : Type := Int × Int × List Int
def sc_nm (t : List Int) (md : Nat) (fac o : Int) : sc_R := if (sc_dg t md o 0).2 = o then (0, o, []) else (1, (sc_dg t md o 0).2, [(sc_dg t md o 0).1 * fac])
def sc_sg (t : List Int) (x o : Int) : sc_R :=
  if x = 68 then sc_nm t 1 1 o else if x = 78 then sc_nm t 3 1 o else if x = 83 then (if o < t.length ∧ sc_at t o = 45 then sc_nm t 3 (-1) (o + 1) else sc_nm t 3 1 o)
  else if o < t.length ∧ sc_at t o = x then (1, o + 1, []) else (0, o, [])
def sc_st (t : List Int) (x : Int) (s : sc_R) : sc_R := if s.1 = 0 then s else ((sc_sg t x s.2.1).1, (sc_sg t x s.2.1).2.1, s.2.2 ++ (sc_sg t x s.2.1).2.2)
def sc_fm (t : List Int) (F : Int → Int) : Nat → sc_R → sc_R
  | 0, s => s
  | k + 1, s => sc_st t (F k) (sc_fm t F k s)
def sc_k (t : List Int) (o : Int) (k : Nat) : sc_R := sc_fm t (qz_frm k) (qz_len k) (1, o, [])
/-- .. of all forms: (1 or 0, where, which, what) -/
def sc_tr (t : List Int) (o : Int) : Nat → Nat → Int → Int × Int × Nat × List Int
  | 0, k, far => (0, far, k, [])
  | f + 1, k, far => if (sc_k t o k).1 = 0 then sc_tr t o f (k + 1) (if (sc_k t o k).2.1 ≤ far then far else (sc_k t o k).2.1) else (1, (sc_k t o k).2.1, k, (sc_k t o k).2.2)
abbrev sc_C : Type := List (Nat × List Int)
def sc_all (t : List Int) : Nat → Int → sc_C → Int × sc_C
  | 0, o, cs => (o, cs)
  | f + 1, o, cs => if (sc_tr t o 11 0 o).1 = 0 then ((sc_tr t o 11 0 o).2.1, cs) else if (sc_tr t o 11 0 o).2.1 = t.length then (-1, cs ++ [(sc_tr t o 11 0 o).2.2])
    else if (sc_tr t o 11 0 o).2.1 < t.length ∧ sc_at t (sc_tr t o 11 0 o).2.1 = 59 then sc_all t f ((sc_tr t o 11 0 o).2.1 + 1) (cs ++ [(sc_tr t o 11 0 o).2.2]) else ((sc_tr t o 11 0 o).2.1, cs ++ [(sc_tr t o 11 0 o).2.2])
def sc_wr (ar : Int → Int) (p : Int) : List Int → Int → Int
  | [] => ar
  | x :: xs => sc_wr (qa_up ar p x) (p + 1) xs
theorem sc_wr_app : ∀ (xs ys : List Int) (ar : Int → Int) (p : Int), sc_wr ar p (xs ++ ys) = sc_wr (sc_wr ar p xs) (p + xs.length) ys
  | [], ys, ar, p => by show sc_wr ar p ys = sc_wr ar (p + 0) ys; rw [Int.add_zero]
  | x :: xs, ys, ar, p => by
    show sc_wr (qa_up ar p x) (p + 1) (xs ++ ys) = _
    rw [sc_wr_app xs ys]
    show _ = sc_wr (sc_wr (qa_up ar p x) (p + 1) xs) (p + ((xs.length + 1 : Nat) : Int)) ys
    rw [show p + 1 + (xs.length : Int) = p + ((xs.length + 1 : Nat) : Int) by omega]
theorem sc_wr_lt : ∀ (xs : List Int) (ar : Int → Int) (p j : Int), j < p → sc_wr ar p xs j = ar j
  | [], _, _, _, _ => rfl
  | x :: xs, ar, p, j, h => by
    show sc_wr (qa_up ar p x) (p + 1) xs j = _
    rw [sc_wr_lt xs _ _ _ (by omega), qa_up_ne (by omega)]
theorem sc_wr_at : ∀ (xs : List Int) (ar : Int → Int) (p : Int) (j : Nat), j < xs.length → xs[j]? = some (sc_wr ar p xs (p + j))
  | [], _, _, _, h => absurd h (Nat.not_lt_zero _)
  | x :: xs, ar, p, 0, _ => by
    show some x = some (sc_wr (qa_up ar p x) (p + 1) xs (p + 0))
    rw [Int.add_zero, sc_wr_lt xs _ _ _ (by omega), qa_up_eq]
  | x :: xs, ar, p, j + 1, h => by
    have := sc_wr_at xs (qa_up ar p x) (p + 1) j (Nat.lt_of_succ_lt_succ h)
    show xs[j]? = some (sc_wr (qa_up ar p x) (p + 1) xs (p + ((j + 1 : Nat) : Int)))
    rw [this, show p + 1 + (j : Int) = p + ((j + 1 : Nat) : Int) by omega]
theorem sc_wr_b {lo hi : Int} : ∀ (xs : List Int) (ar : Int → Int) (p : Int), (∀ j, lo ≤ ar j ∧ ar j ≤ hi) → (∀ x ∈ xs, lo ≤ x ∧ x ≤ hi) → ∀ j, lo ≤ sc_wr ar p xs j ∧ sc_wr ar p xs j ≤ hi
  | [], _, _, h, _, j => h j
  | x :: xs, ar, p, h, h2, j => sc_wr_b xs (qa_up ar p x) (p + 1) (fun j => by unfold qa_up; split; (exact h2 x List.mem_cons_self); (exact h j)) (fun y hy => h2 y (List.mem_cons_of_mem _ hy)) j
theorem sc_nm_b {t : List Int} {md : Nat} {fac o : Int} (hm : md = 1 ∨ md = 3) (hf : fac = 1 ∨ fac = -1) (ho : 0 ≤ o ∧ o ≤ t.length) : ((sc_nm t md fac o).1 = 0 ∨ (sc_nm t md fac o).1 = 1) ∧ o ≤ (sc_nm t md fac o).2.1 ∧ (sc_nm t md fac o).2.1 ≤ t.length ∧ (sc_nm t md fac o).2.2.length ≤ 1 ∧ (∀ x ∈ (sc_nm t md fac o).2.2, -999 ≤ x ∧ x ≤ 999) ∧ ((sc_nm t md fac o).1 = 1 → o < (sc_nm t md fac o).2.1 ∧ (sc_nm t md fac o).2.2.length = 1) ∧ ((sc_nm t md fac o).1 = 0 → (sc_nm t md fac o).2.2 = []) := by
  have h1 := sc_dg_o t md o 0
  have h3 : 0 ≤ (sc_dg t md o 0).1 ∧ (sc_dg t md o 0).1 ≤ 999 := by
    rcases hm with rfl | rfl
    · have := sc_dg_w (t := t) (o := o) (v := 0) (by omega); omega
    · exact sc_dg_v (by omega)
  unfold sc_nm
  split
  · exact ⟨Or.inl rfl, Int.le_refl _, ho.2, Nat.zero_le _, fun x h => absurd h List.not_mem_nil, fun h => absurd h (by show ¬ (0 : Int) = 1; decide), fun _ => rfl⟩
  · refine ⟨Or.inr rfl, h1.1, h1.2.2 ho.2, Nat.le_refl _, fun x hx => ?_, fun _ => ⟨by show o < (sc_dg t md o 0).2; omega, rfl⟩, fun h => absurd h (by show ¬ (1 : Int) = 0; decide)⟩
    rw [List.mem_singleton] at hx
    subst hx
    rcases hf with rfl | rfl <;> omega
theorem sc_sg_b {t : List Int} {x o : Int} (ho : 0 ≤ o ∧ o ≤ t.length) : ((sc_sg t x o).1 = 0 ∨ (sc_sg t x o).1 = 1) ∧ o ≤ (sc_sg t x o).2.1 ∧ (sc_sg t x o).2.1 ≤ t.length ∧ (sc_sg t x o).2.2.length ≤ (if x = 68 ∨ x = 78 ∨ x = 83 then 1 else 0) ∧ (∀ y ∈ (sc_sg t x o).2.2, -999 ≤ y ∧ y ≤ 999) ∧ ((sc_sg t x o).1 = 1 → o < (sc_sg t x o).2.1) ∧ ((sc_sg t x o).1 = 0 → (sc_sg t x o).2.2 = []) := by
  unfold sc_sg
  by_cases h1 : x = 68
  · rw [if_pos h1, if_pos (Or.inl h1)]
    have := sc_nm_b (t := t) (md := 1) (fac := 1) (Or.inl rfl) (Or.inl rfl) ho
    exact ⟨this.1, this.2.1, this.2.2.1, this.2.2.2.1, this.2.2.2.2.1, fun h => (this.2.2.2.2.2.1 h).1, this.2.2.2.2.2.2⟩
  rw [if_neg h1]
  by_cases h2 : x = 78
  · rw [if_pos h2, if_pos (Or.inr (Or.inl h2))]
    have := sc_nm_b (t := t) (md := 3) (fac := 1) (Or.inr rfl) (Or.inl rfl) ho
    exact ⟨this.1, this.2.1, this.2.2.1, this.2.2.2.1, this.2.2.2.2.1, fun h => (this.2.2.2.2.2.1 h).1, this.2.2.2.2.2.2⟩
  rw [if_neg h2]
  by_cases h3 : x = 83
  · rw [if_pos h3, if_pos (Or.inr (Or.inr h3))]
    split
    · have := sc_nm_b (t := t) (md := 3) (fac := -1) (o := o + 1) (Or.inr rfl) (Or.inr rfl) (by omega)
      exact ⟨this.1, by omega, this.2.2.1, this.2.2.2.1, this.2.2.2.2.1, fun h => by have := (this.2.2.2.2.2.1 h).1; omega, this.2.2.2.2.2.2⟩
    · have := sc_nm_b (t := t) (md := 3) (fac := 1) (Or.inr rfl) (Or.inl rfl) ho
      exact ⟨this.1, this.2.1, this.2.2.1, this.2.2.2.1, this.2.2.2.2.1, fun h => (this.2.2.2.2.2.1 h).1, this.2.2.2.2.2.2⟩
  rw [if_neg h3]
  split
  · exact ⟨Or.inr rfl, by show o ≤ o + 1; omega, by show o + 1 ≤ _; omega, Nat.zero_le _, fun y h => absurd h List.not_mem_nil, fun _ => by show o < o + 1; omega, fun _ => rfl⟩
  · exact ⟨Or.inl rfl, Int.le_refl _, ho.2, Nat.zero_le _, fun y h => absurd h List.not_mem_nil, fun h => absurd h (by show ¬ (0 : Int) = 1; decide), fun _ => rfl⟩
/-- how many numbers the first k signs of a form ask for -/
def sc_ct (F : Int → Int) : Nat → Nat
  | 0 => 0
  | k + 1 => sc_ct F k + if F k = 68 ∨ F k = 78 ∨ F k = 83 then 1 else 0
theorem sc_ct_3 : ∀ k : Fin 11, ∀ j : Fin 10, j.val < qz_len k.val → (32 ≤ qz_frm k.val (j.val : Int) ∧ qz_frm k.val (j.val : Int) ≤ 126) ∧ sc_ct (qz_frm k.val) j.val + (if qz_frm k.val (j.val : Int) = 68 ∨ qz_frm k.val (j.val : Int) = 78 ∨ qz_frm k.val (j.val : Int) = 83 then 1 else 0) ≤ 3 := by decide +kernel
theorem sc_ln_b : ∀ k : Fin 11, 4 ≤ qz_len k.val ∧ qz_len k.val ≤ 10 := by decide +kernel
theorem sc_fm_b {t : List Int} {F : Int → Int} {o : Int} (ho : 0 ≤ o ∧ o ≤ t.length) : ∀ k : Nat, ((sc_fm t F k (1, o, [])).1 = 0 ∨ (sc_fm t F k (1, o, [])).1 = 1) ∧ o ≤ (sc_fm t F k (1, o, [])).2.1 ∧ (sc_fm t F k (1, o, [])).2.1 ≤ t.length ∧ (sc_fm t F k (1, o, [])).2.2.length ≤ sc_ct F k ∧ (∀ y ∈ (sc_fm t F k (1, o, [])).2.2, -999 ≤ y ∧ y ≤ 999) ∧ ((sc_fm t F k (1, o, [])).1 = 1 → o + k ≤ (sc_fm t F k (1, o, [])).2.1)
  | 0 => ⟨Or.inr rfl, Int.le_refl _, ho.2, Nat.le_refl _, fun y h => absurd h List.not_mem_nil, fun _ => by show o + 0 ≤ o; omega⟩
  | k + 1 => by
    obtain ⟨h1, h2, h3, h4, h5, h6⟩ := sc_fm_b (F := F) ho k
    unfold sc_fm sc_st sc_ct
    by_cases h : (sc_fm t F k (1, o, [])).1 = 0
    · rw [if_pos h]
      exact ⟨h1, h2, h3, by omega, h5, fun h9 => absurd (h.symm.trans h9) (by decide)⟩
    · rw [if_neg h]
      have g := sc_sg_b (t := t) (x := F k) (o := (sc_fm t F k (1, o, [])).2.1) ⟨by omega, h3⟩
      generalize sc_fm t F k (1, o, []) = s at *
      generalize sc_sg t (F k) s.2.1 = z at *
      obtain ⟨g1, g2, g3, g4, g5, g6, g7⟩ := g
      have hl : (s.2.2 ++ z.2.2).length = s.2.2.length + z.2.2.length := List.length_append
      refine ⟨g1, ?_, g3, ?_, fun y hy => ?_, fun h9 => ?_⟩
      · show o ≤ z.2.1; omega
      · show (s.2.2 ++ z.2.2).length ≤ _; omega
      · rcases List.mem_append.mp hy with hy | hy
        · exact h5 y hy
        · exact g5 y hy
      · have := g6 h9
        have := h6 (by omega)
        show o + ((k + 1 : Nat) : Int) ≤ z.2.1
        omega
theorem sc_tr_b {t : List Int} {o : Int} (ho : 0 ≤ o ∧ o ≤ t.length) : ∀ (f k : Nat) (far : Int), k + f = 11 → (o ≤ far ∧ far ≤ t.length) → ((sc_tr t o f k far).1 = 0 ∨ (sc_tr t o f k far).1 = 1) ∧ o ≤ (sc_tr t o f k far).2.1 ∧ (sc_tr t o f k far).2.1 ≤ t.length ∧ ((sc_tr t o f k far).1 = 1 → o + 4 ≤ (sc_tr t o f k far).2.1 ∧ (sc_tr t o f k far).2.2.1 < 11 ∧ (∀ y ∈ (sc_tr t o f k far).2.2.2, -999 ≤ y ∧ y ≤ 999))
  | 0, k, far, _, hf => ⟨Or.inl rfl, hf.1, hf.2, fun h => absurd h (by show ¬ (0 : Int) = 1; decide)⟩
  | f + 1, k, far, hk, hf => by
    have hb := sc_fm_b (F := qz_frm k) ho (qz_len k)
    have hl := sc_ln_b ⟨k, by omega⟩
    unfold sc_tr
    by_cases h : (sc_k t o k).1 = 0
    · rw [if_pos h]
      refine sc_tr_b ho f (k + 1) _ (by omega) ?_
      unfold sc_k
      split
      · exact hf
      · exact ⟨hb.2.1, hb.2.2.1⟩
    · rw [if_neg h]
      refine ⟨Or.inr rfl, hb.2.1, hb.2.2.1, fun _ => ⟨?_, by show k < 11; omega, hb.2.2.2.2.1⟩⟩
      have := hb.2.2.2.2.2 (by unfold sc_k at h; omega)
      have e := hl.1
      show o + 4 ≤ (sc_k t o k).2.1
      unfold sc_k
      simp only at e
      omega
def qa_RdF (r : Nat) (tot o at9 : Int) : qa_E := .inl (7, [.ref (r + 1), .ref (r + 3), .ref (r + 4), .int (qa_i tot), .int (qa_i o), .int (qa_i at9)])
theorem sB_ch {h : qa_H} {b v : Nat} {t : List Int} (H : sR_B h b v t) (o : Int) : 0 ≤ sc_at t o ∧ sc_at t o ≤ 127 := by
  obtain ⟨ml, cap, f, h1, h2, h3, h4, h5, h6⟩ := H
  unfold sc_at
  by_cases e : o.toNat < t.length
  · rw [List.getD_eq_getElem?_getD, h6 _ e]
    exact h5 _
  · rw [List.getD_eq_getElem?_getD, List.getElem?_eq_none (by omega)]
    exact ⟨by decide, by decide⟩
theorem c_R_isFull {E : qa_V} {σ : qa_S} {r v : Nat} {t : List Int} {tot o at9 : Int} (hr : σ.1 r = some (qa_RdF r tot o at9)) (hB : sR_B σ.1 (r + 1) v t) (hl : t.length ≤ 60) : qa_T E qm_R_isFull 0 0 [.ref r] σ (fun o9 τ => o9 = .inl (some (.int (qa_i (if t.length = 60 then 1 else 0)))) ∧ τ = σ) := by
  refine qa_enterQ (by decide) rfl qm_R_isFull_ok rfl rfl (fun Q9 hQ => ?_)
  have hB9 := hB
  obtain ⟨ml, cap, f, hb, -⟩ := hB
  refine qa_aload_n (pc' := 1) ⟨rfl, rfl⟩ rfl ?_
  refine qa_getf (pc' := 4) ⟨rfl, rfl⟩ qg_8_12 (by assumption) rfl ?_
  refine qa_callV rfl qf_SB_length ql_8_28 (c_SB_length (E := E) hB9) hb rfl rfl rfl (qa_lt9 rfl) (qa_le9 rfl) (qa_le9 rfl) (qa_le9 rfl) (fun o9 τ9 hq9 => ?_)
  obtain ⟨rfl, hq9⟩ := hq9
  replace hq9 := hq9.symm; subst hq9
  refine qa_nx (pc' := 7) (st' := [_]) rfl rfl rfl rfl ?_
  refine qa_bipush (z := 60) (pc' := 9) ⟨rfl, rfl⟩ rfl ?_
  refine qa_icmp_lt (pc' := 12) (tgt := 16) ⟨rfl, rfl⟩ rfl (by omega) (by omega) (fun hc1 => ?_) (fun hc1 => ?_)
  · refine qa_iconst (pc' := 17) ⟨rfl, rfl⟩ ?_
    refine qa_ireturn rfl rfl rfl (hQ _ _ ⟨by first | rw [if_pos (by omega)] | rw [if_neg (by omega)], rfl⟩)
  · refine qa_iconst (pc' := 13) ⟨rfl, rfl⟩ ?_
    refine qa_goto (pc' := 16) (tgt := 17) ⟨rfl, rfl⟩ rfl ?_
    refine qa_ireturn rfl rfl rfl (hQ _ _ ⟨by first | rw [if_pos (by omega)] | rw [if_neg (by omega)], rfl⟩)
theorem c_R_clear {E : qa_V} {σ : qa_S} {r v : Nat} {t : List Int} {tot o at9 : Int} (hz : qa_Sb E) (hlo : E.1 ≤ r + 1) (hlo1 : E.1 ≤ v) (hlt : r + 1 < σ.2 ∧ v < σ.2) (hr : σ.1 r = some (qa_RdF r tot o at9)) (hB : sR_B σ.1 (r + 1) v t) : qa_T E qm_R_clear 1 150 [.ref r] σ (fun o9 τ => o9 = .inl none ∧ σ.2 ≤ τ.2 ∧ (∀ q, q ≠ r + 1 → q < σ.2 → τ.1 q = σ.1 q) ∧ sR_B τ.1 (r + 1) v []) := by
  refine qa_enterQ (by decide) rfl qm_R_clear_ok rfl rfl (fun Q9 hQ => ?_)
  have hB9 := hB
  obtain ⟨ml, cap, f, hb, -⟩ := hB
  refine qa_aload_n (pc' := 1) ⟨rfl, rfl⟩ rfl ?_
  refine qa_getf (pc' := 4) ⟨rfl, rfl⟩ qg_8_12 (by assumption) rfl ?_
  refine qa_iconst (pc' := 5) ⟨rfl, rfl⟩ ?_
  refine qa_callV rfl qf_SB_setLength ql_8_36 (c_SB_setLength (E := E) hz hlo hlo1 hlt hB9) hb rfl rfl rfl (qa_lt9 rfl) (qa_le9 rfl) (qa_le9 rfl) (qa_le9 rfl) (fun o9 τ9 hq9 => ?_)
  obtain ⟨rfl, e1, f1, w1⟩ := hq9
  refine qa_nx (pc' := 8) (st' := []) rfl rfl rfl rfl ?_
  refine qa_return rfl rfl (hQ _ _ ⟨rfl, e1, f1, w1⟩)
theorem c_R_accept {E : qa_V} {σ : qa_S} {r v : Nat} {t : List Int} {tot o at9 : Int} {x : Int} (hz : qa_Sb E) (hlo : E.1 ≤ r + 1) (hlo1 : E.1 ≤ v) (hlt : r + 1 < σ.2 ∧ v < σ.2) (hr : σ.1 r = some (qa_RdF r tot o at9)) (hv9 : v ≠ r) (hB : sR_B σ.1 (r + 1) v t) (hx : 0 ≤ x ∧ x ≤ 127) (hl : t.length < 74) : qa_T E qm_R_accept 1 150 [.ref r, .int (qa_i x)] σ (fun o9 τ => o9 = .inl (some (.int (qa_i ((t.length : Int) + 1)))) ∧ ∃ v1 : Nat, sB_G σ τ (r + 1) v v1 ∧ sR_B τ.1 (r + 1) v1 (t ++ [x])) := by
  refine qa_enterQ (by decide) rfl qm_R_accept_ok rfl rfl (fun Q9 hQ => ?_)
  have hB9 := hB
  obtain ⟨ml, cap, f, hb, -⟩ := hB
  refine qa_aload_n (pc' := 1) ⟨rfl, rfl⟩ rfl ?_
  refine qa_getf (pc' := 4) ⟨rfl, rfl⟩ qg_8_12 (by assumption) rfl ?_
  refine qa_iload_n (pc' := 5) ⟨rfl, rfl⟩ rfl ?_
  refine qa_callV rfl qf_SB_append_3 ql_8_32 (c_SB_appendC (E := E) hz hlo hlo1 hlt hB9 hx hl) hb rfl rfl rfl (qa_lt9 rfl) (qa_le9 rfl) (qa_le9 rfl) (qa_le9 rfl) (fun o9 τ9 hq9 => ?_)
  obtain ⟨rfl, v1, w1, w2⟩ := hq9
  refine qa_nx (pc' := 8) (kc' := 0) (ks' := 0) (st' := [_]) rfl rfl rfl rfl ?_
  have w29 := w2
  obtain ⟨ml1, cap1, f1, hb1, -⟩ := w2
  replace hr := (w1.2.1 r (by omega) (Ne.symm hv9) (by omega)).trans hr
  refine qa_pop (pc' := 9) ⟨rfl, rfl⟩ rfl ?_
  refine qa_aload_n (pc' := 10) ⟨rfl, rfl⟩ rfl ?_
  refine qa_getf (pc' := 13) ⟨rfl, rfl⟩ qg_8_12 (by assumption) rfl ?_
  refine qa_callV rfl qf_SB_length ql_8_28 (c_SB_length (E := E) w29) hb1 rfl rfl rfl (qa_lt9 rfl) (qa_le9 rfl) (qa_le9 rfl) (qa_le9 rfl) (fun o9 τ9 hq9 => ?_)
  obtain ⟨rfl, hq9⟩ := hq9
  replace hq9 := hq9.symm; subst hq9
  refine qa_nx (pc' := 16) (st' := [_]) rfl rfl rfl rfl ?_
  rw [show (((t ++ [x]).length : Nat) : Int) = (t.length : Int) + 1 by simp]
  refine qa_ireturn rfl rfl rfl (hQ _ _ ⟨rfl, v1, w1, w29⟩)
theorem c_R_skip {E : qa_V} {σ : qa_S} {r v : Nat} {t : List Int} {tot o at9 : Int} {x : Int} (hz : qa_Sb E) (hlo : E.1 ≤ r) (hr : σ.1 r = some (qa_RdF r tot o at9)) (hB : sR_B σ.1 (r + 1) v t) (hv9 : v ≠ r) (ho : 0 ≤ o ∧ o ≤ t.length) (hl : t.length ≤ 60) (hx : 0 ≤ x ∧ x ≤ 127) : qa_T E qm_R_skip 0 0 [.ref r, .int (qa_i x)] σ (fun o9 τ => o9 = .inl (some (.int (qa_i (if o < t.length ∧ sc_at t o = x then 1 else 0)))) ∧ τ.2 = σ.2 ∧ τ.1 r = some (qa_RdF r tot (if o < t.length ∧ sc_at t o = x then o + 1 else o) at9) ∧ ∀ q, q ≠ r → τ.1 q = σ.1 q) := by
  refine qa_enterQ (by decide) rfl qm_R_skip_ok rfl rfl (fun Q9 hQ => ?_)
  have hB9 := hB
  have hch := sB_ch hB o
  obtain ⟨ml, cap, f, hb, -⟩ := hB
  refine qa_aload_n (pc' := 1) ⟨rfl, rfl⟩ rfl ?_
  refine qa_getf (pc' := 4) ⟨rfl, rfl⟩ qg_8_54 (by assumption) rfl ?_
  refine qa_aload_n (pc' := 5) ⟨rfl, rfl⟩ rfl ?_
  refine qa_getf (pc' := 8) ⟨rfl, rfl⟩ qg_8_12 (by assumption) rfl ?_
  refine qa_callV rfl qf_SB_length ql_8_28 (c_SB_length (E := E) hB9) hb rfl rfl rfl (qa_lt9 rfl) (qa_le9 rfl) (qa_le9 rfl) (qa_le9 rfl) (fun o9 τ9 hq9 => ?_)
  obtain ⟨rfl, hq9⟩ := hq9
  replace hq9 := hq9.symm; subst hq9
  refine qa_nx (pc' := 11) (st' := [_, _]) rfl rfl rfl rfl ?_
  refine qa_icmp_ge (pc' := 14) (tgt := 29) ⟨rfl, rfl⟩ rfl (by omega) (by omega) (fun hc1 => ?_) (fun hc1 => ?_)
  · refine qa_iconst (pc' := 30) ⟨rfl, rfl⟩ ?_
    refine qa_ireturn rfl rfl rfl (hQ _ _ ⟨by rw [if_neg (by omega)], rfl, by rw [if_neg (by omega)]; exact hr, fun _ _ => rfl⟩)
  · refine qa_aload_n (pc' := 15) ⟨rfl, rfl⟩ rfl ?_
    refine qa_getf (pc' := 18) ⟨rfl, rfl⟩ qg_8_12 (by assumption) rfl ?_
    refine qa_aload_n (pc' := 19) ⟨rfl, rfl⟩ rfl ?_
    refine qa_getf (pc' := 22) ⟨rfl, rfl⟩ qg_8_54 (by assumption) rfl ?_
    refine qa_callV rfl qf_SB_charAt ql_8_99 (c_SB_charAt (E := E) hz hB9 ⟨ho.1, by omega⟩) hb rfl rfl rfl (qa_lt9 rfl) (qa_le9 rfl) (qa_le9 rfl) (qa_le9 rfl) (fun o9 τ9 hq9 => ?_)
    obtain ⟨rfl, hq9⟩ := hq9
    replace hq9 := hq9.symm; subst hq9
    refine qa_nx (pc' := 25) (st' := [_]) rfl rfl rfl rfl ?_
    rw [show t.getD o.toNat 0 = sc_at t o from rfl]
    refine qa_iload_n (pc' := 26) ⟨rfl, rfl⟩ rfl ?_
    refine qa_icmp_eq (pc' := 29) (tgt := 31) ⟨rfl, rfl⟩ rfl (by omega) (by omega) (fun hc2 => ?_) (fun hc2 => ?_)
    · have e0 : σ.2 = σ.2 := rfl
      refine qa_aload_n (pc' := 32) ⟨rfl, rfl⟩ rfl ?_
      refine qa_dup (pc' := 33) ⟨rfl, rfl⟩ rfl ?_
      refine qa_getf (pc' := 36) ⟨rfl, rfl⟩ qg_8_54 (by assumption) rfl ?_
      refine qa_iconst (pc' := 37) ⟨rfl, rfl⟩ ?_
      refine qa_iadd (z := o + 1) (pc' := 38) ⟨rfl, rfl⟩ rfl ?_
      refine qa_putf (fs' := [_, _, _, _, _, _]) (pc' := 41) ⟨rfl, rfl⟩ qg_8_54 qw_7 (by assumption) (by omega) rfl (fun r hr => by cases hr; exact ⟨rfl, Or.inl rfl⟩) rfl rfl ?_
      refine qa_gz (fun τ1 e1 w1 f1 => ?_)
      replace e0 := e1.trans e0
      refine qa_iconst (pc' := 42) ⟨rfl, rfl⟩ ?_
      refine qa_ireturn rfl rfl rfl (hQ _ _ ⟨by rw [if_pos (by omega)], e1, by rw [if_pos (by omega)]; exact w1, f1⟩)
    · refine qa_iconst (pc' := 30) ⟨rfl, rfl⟩ ?_
      refine qa_ireturn rfl rfl rfl (hQ _ _ ⟨by rw [if_neg (by omega)], rfl, by rw [if_neg (by omega)]; exact hr, fun _ _ => rfl⟩)
theorem c_R_readNumber {E : qa_V} {σ : qa_S} {r v : Nat} {t : List Int} {tot o at9 : Int} {md : Nat} {fac : Int} {ar : Int → Int} (hz : qa_Sb E) (hlo : E.1 ≤ r) (hr : σ.1 r = some (qa_RdF r tot o at9)) (hB : sR_B σ.1 (r + 1) v t) (hv9 : v ≠ r) (ho : 0 ≤ o ∧ o ≤ t.length) (hl : t.length ≤ 60) (ha : σ.1 (r + 4) = some (qa_ia 39 ar)) (hm : md ≤ 3) (hf : fac = 1 ∨ fac = -1) (ht : 0 ≤ tot ∧ tot ≤ 12) (ha9 : 0 ≤ at9 ∧ at9 ≤ 2) : qa_T E qm_R_readNumber 0 0 [.ref r, .int (qa_i (md : Int)), .int (qa_i fac)] σ (fun o9 τ => o9 = .inl (some (.int (qa_i (sc_nm t md fac o).1))) ∧ τ.2 = σ.2 ∧ τ.1 r = some (qa_RdF r tot (sc_nm t md fac o).2.1 (at9 + (sc_nm t md fac o).2.2.length)) ∧ τ.1 (r + 4) = some (qa_ia 39 (sc_wr ar (3 * tot + at9) (sc_nm t md fac o).2.2)) ∧ ∀ q, q ≠ r → q ≠ r + 4 → τ.1 q = σ.1 q) := by
  refine qa_enterQ (by decide) rfl qm_R_readNumber_ok rfl rfl (fun Q9 hQ => ?_)
  have hB9 := hB
  obtain ⟨ml, cap, f, hb, -⟩ := hB
  refine qa_iconst (pc' := 1) ⟨rfl, rfl⟩ ?_
  refine qa_istore_n (L' := [(0, _), (1, _), (2, _), (3, _)]) (pc' := 2) ⟨rfl, rfl⟩ rfl rfl ?_
  refine qa_iconst (pc' := 3) ⟨rfl, rfl⟩ ?_
  refine qa_istore (L' := [(0, _), (1, _), (2, _), (3, _), (4, _)]) (pc' := 5) ⟨rfl, rfl⟩ rfl rfl ?_
  have lp : ∀ (f : Nat) (τ : qa_S) (k p vv : Int), (k + f = md ∧ 0 ≤ k ∧ p = o + k ∧ (0 ≤ p ∧ p ≤ t.length) ∧ τ.2 = σ.2 ∧ τ.1 r = some (qa_RdF r tot p at9) ∧ (∀ q, q ≠ r → τ.1 q = σ.1 q) ∧ sc_dg t f p vv = sc_dg t md o 0) → qa_W E qm_R_readNumber Q9 0 0 5 [(0, .ref r), (1, .int (qa_i (md : Int))), (2, .int (qa_i fac)), (3, .int (qa_i vv)), (4, .int (qa_i k))] [] τ := by
    intro f
    induction f with
    | zero =>
      intro τ k p vv ⟨hkf, hk0, hpo, hp9, he, hr1, hfr, hs⟩
      refine qa_iload (pc' := 7) ⟨rfl, rfl⟩ rfl ?_
      refine qa_iload_n (pc' := 8) ⟨rfl, rfl⟩ rfl ?_
      refine qa_icmp_ge (pc' := 11) (tgt := 82) ⟨rfl, rfl⟩ rfl (by omega) (by omega) (fun hc1 => ?_) (fun hc1 => ?_)
      · have hdg : sc_dg t md o 0 = (vv, p) := by rw [← hs]; rfl
        have hd9 := sc_dg_o t md o 0
        refine qa_sub (ks' := [0, 1, 2, 3, 4]) (L' := [(0, _), (1, _), (2, _), (3, _), (4, _)]) rfl ?_
        refine qa_aload_n (pc' := 83) ⟨rfl, rfl⟩ rfl ?_
        refine qa_getf (pc' := 86) ⟨rfl, rfl⟩ qg_8_40 (by assumption) rfl ?_
        refine qa_iconst (pc' := 87) ⟨rfl, rfl⟩ ?_
        refine qa_imul (z := 3 * tot) (pc' := 88) ⟨rfl, rfl⟩ (by omega) ?_
        refine qa_aload_n (pc' := 89) ⟨rfl, rfl⟩ rfl ?_
        refine qa_getf (pc' := 92) ⟨rfl, rfl⟩ qg_8_82 (by assumption) rfl ?_
        refine qa_iadd (z := 3 * tot + at9) (pc' := 93) ⟨rfl, rfl⟩ rfl ?_
        refine qa_istore (L' := [(0, _), (1, _), (2, _), (3, _), (4, _), (5, _)]) (pc' := 95) ⟨rfl, rfl⟩ rfl rfl ?_
        refine qa_iload (pc' := 97) ⟨rfl, rfl⟩ rfl ?_
        refine qa_if_eq (pc' := 100) (tgt := 110) ⟨rfl, rfl⟩ rfl (by omega) (fun hc5 => ?_) (fun hc5 => ?_)
        · refine qa_iconst (pc' := 111) ⟨rfl, rfl⟩ ?_
          refine qa_ireturn rfl rfl rfl (hQ _ _ ?_)
          have e9 : (sc_dg t md o 0).2 = o := by rw [hdg]; show p = o; omega
          have ep : p = o := by omega
          subst ep
          unfold sc_nm; rw [if_pos e9]
          refine ⟨rfl, he, ?_, (hfr _ (by omega)).trans ha, fun q q1 q2 => hfr q q1⟩
          rw [hr1]; show some (qa_RdF r tot p at9) = some (qa_RdF r tot p (at9 + 0)); rw [Int.add_zero]
        · have ha1 := (hfr (r + 4) (by omega)).trans ha
          refine qa_iload (pc' := 102) ⟨rfl, rfl⟩ rfl ?_
          refine qa_aload_n (pc' := 103) ⟨rfl, rfl⟩ rfl ?_
          refine qa_getf (pc' := 106) ⟨rfl, rfl⟩ qg_8_24 (by assumption) rfl ?_
          refine qa_alen (pc' := 107) ⟨rfl, rfl⟩ (by assumption) ?_
          refine qa_icmp_lt (pc' := 110) (tgt := 112) ⟨rfl, rfl⟩ rfl (by omega) (by omega) (fun hc6 => ?_) (fun hc6 => ?_)
          · have e0 := he
            refine qa_aload_n (pc' := 113) ⟨rfl, rfl⟩ rfl ?_
            refine qa_getf (pc' := 116) ⟨rfl, rfl⟩ qg_8_24 (by assumption) rfl ?_
            refine qa_iload (pc' := 118) ⟨rfl, rfl⟩ rfl ?_
            refine qa_iload_n (pc' := 119) ⟨rfl, rfl⟩ rfl ?_
            refine qa_iload_n (pc' := 120) ⟨rfl, rfl⟩ rfl ?_
            refine qa_imul (z := vv * fac) (pc' := 121) ⟨rfl, rfl⟩ rfl ?_
            refine qa_iastore (pc' := 122) ⟨rfl, rfl⟩ ha1 (by omega) (by omega) ?_
            refine qa_gz (fun τ31 e31 w31 f31 => ?_)
            replace hr1 := (f31 _ (by omega)).trans hr1
            replace e0 := e31.trans e0
            refine qa_aload_n (pc' := 123) ⟨rfl, rfl⟩ rfl ?_
            refine qa_dup (pc' := 124) ⟨rfl, rfl⟩ rfl ?_
            refine qa_getf (pc' := 127) ⟨rfl, rfl⟩ qg_8_82 (by assumption) rfl ?_
            refine qa_iconst (pc' := 128) ⟨rfl, rfl⟩ ?_
            refine qa_iadd (z := at9 + 1) (pc' := 129) ⟨rfl, rfl⟩ rfl ?_
            refine qa_putf (fs' := [_, _, _, _, _, _]) (pc' := 132) ⟨rfl, rfl⟩ qg_8_82 qw_7 (by assumption) (by omega) rfl (fun r hr => by cases hr; exact ⟨rfl, Or.inl rfl⟩) rfl rfl ?_
            refine qa_gz (fun τ32 e32 w32 f32 => ?_)
            replace w31 := (f32 _ (by omega)).trans w31
            replace e0 := e32.trans e0
            refine qa_iconst (pc' := 133) ⟨rfl, rfl⟩ ?_
            refine qa_ireturn rfl rfl rfl (hQ _ _ ?_)
            have e9 : ¬ (sc_dg t md o 0).2 = o := by rw [hdg]; show ¬ p = o; omega
            unfold sc_nm; rw [if_neg e9, hdg]
            exact ⟨rfl, e0, w32, w31, fun q q1 q2 => (f32 q q1).trans ((f31 q q2).trans (hfr q q1))⟩
          · exact absurd hc6 (by omega)
      · exact absurd hc1 (by omega)
    | succ f ih =>
      intro τ k p vv ⟨hkf, hk0, hpo, hp9, he, hr1, hfr, hs⟩
      have hB1 := hB9.fr (hfr _ (by omega)) (hfr _ hv9)
      have hb1 := (hfr (r + 1) (by omega)).trans hb
      have hch := sB_ch hB9 p
      refine qa_iload (pc' := 7) ⟨rfl, rfl⟩ rfl ?_
      refine qa_iload_n (pc' := 8) ⟨rfl, rfl⟩ rfl ?_
      refine qa_icmp_ge (pc' := 11) (tgt := 82) ⟨rfl, rfl⟩ rfl (by omega) (by omega) (fun hc1 => ?_) (fun hc1 => ?_)
      · exact absurd hc1 (by omega)
      · refine qa_aload_n (pc' := 12) ⟨rfl, rfl⟩ rfl ?_
        refine qa_getf (pc' := 15) ⟨rfl, rfl⟩ qg_8_54 (by assumption) rfl ?_
        refine qa_aload_n (pc' := 16) ⟨rfl, rfl⟩ rfl ?_
        refine qa_getf (pc' := 19) ⟨rfl, rfl⟩ qg_8_12 (by assumption) rfl ?_
        refine qa_callV rfl qf_SB_length ql_8_28 (c_SB_length (E := E) hB1) hb1 rfl rfl rfl (qa_lt9 rfl) (qa_le9 rfl) (qa_le9 rfl) (qa_le9 rfl) (fun o9 τ9 hq9 => ?_)
        obtain ⟨rfl, hq9⟩ := hq9
        replace hq9 := hq9.symm; subst hq9
        refine qa_nx (pc' := 22) (st' := [_, _]) rfl rfl rfl rfl ?_
        refine qa_icmp_ge (pc' := 25) (tgt := 82) ⟨rfl, rfl⟩ rfl (by omega) (by omega) (fun hc2 => ?_) (fun hc2 => ?_)
        · have hdg : sc_dg t md o 0 = (vv, p) := by rw [← hs]; unfold sc_dg; rw [if_neg (by omega)]
          have hd9 := sc_dg_o t md o 0
          refine qa_sub (ks' := [0, 1, 2, 3, 4]) (L' := [(0, _), (1, _), (2, _), (3, _), (4, _)]) rfl ?_
          refine qa_aload_n (pc' := 83) ⟨rfl, rfl⟩ rfl ?_
          refine qa_getf (pc' := 86) ⟨rfl, rfl⟩ qg_8_40 (by assumption) rfl ?_
          refine qa_iconst (pc' := 87) ⟨rfl, rfl⟩ ?_
          refine qa_imul (z := 3 * tot) (pc' := 88) ⟨rfl, rfl⟩ (by omega) ?_
          refine qa_aload_n (pc' := 89) ⟨rfl, rfl⟩ rfl ?_
          refine qa_getf (pc' := 92) ⟨rfl, rfl⟩ qg_8_82 (by assumption) rfl ?_
          refine qa_iadd (z := 3 * tot + at9) (pc' := 93) ⟨rfl, rfl⟩ rfl ?_
          refine qa_istore (L' := [(0, _), (1, _), (2, _), (3, _), (4, _), (5, _)]) (pc' := 95) ⟨rfl, rfl⟩ rfl rfl ?_
          refine qa_iload (pc' := 97) ⟨rfl, rfl⟩ rfl ?_
          refine qa_if_eq (pc' := 100) (tgt := 110) ⟨rfl, rfl⟩ rfl (by omega) (fun hc5 => ?_) (fun hc5 => ?_)
          · refine qa_iconst (pc' := 111) ⟨rfl, rfl⟩ ?_
            refine qa_ireturn rfl rfl rfl (hQ _ _ ?_)
            have e9 : (sc_dg t md o 0).2 = o := by rw [hdg]; show p = o; omega
            have ep : p = o := by omega
            subst ep
            unfold sc_nm; rw [if_pos e9]
            refine ⟨rfl, he, ?_, (hfr _ (by omega)).trans ha, fun q q1 q2 => hfr q q1⟩
            rw [hr1]; show some (qa_RdF r tot p at9) = some (qa_RdF r tot p (at9 + 0)); rw [Int.add_zero]
          · have ha1 := (hfr (r + 4) (by omega)).trans ha
            refine qa_iload (pc' := 102) ⟨rfl, rfl⟩ rfl ?_
            refine qa_aload_n (pc' := 103) ⟨rfl, rfl⟩ rfl ?_
            refine qa_getf (pc' := 106) ⟨rfl, rfl⟩ qg_8_24 (by assumption) rfl ?_
            refine qa_alen (pc' := 107) ⟨rfl, rfl⟩ (by assumption) ?_
            refine qa_icmp_lt (pc' := 110) (tgt := 112) ⟨rfl, rfl⟩ rfl (by omega) (by omega) (fun hc6 => ?_) (fun hc6 => ?_)
            · have e0 := he
              refine qa_aload_n (pc' := 113) ⟨rfl, rfl⟩ rfl ?_
              refine qa_getf (pc' := 116) ⟨rfl, rfl⟩ qg_8_24 (by assumption) rfl ?_
              refine qa_iload (pc' := 118) ⟨rfl, rfl⟩ rfl ?_
              refine qa_iload_n (pc' := 119) ⟨rfl, rfl⟩ rfl ?_
              refine qa_iload_n (pc' := 120) ⟨rfl, rfl⟩ rfl ?_
              refine qa_imul (z := vv * fac) (pc' := 121) ⟨rfl, rfl⟩ rfl ?_
              refine qa_iastore (pc' := 122) ⟨rfl, rfl⟩ ha1 (by omega) (by omega) ?_
              refine qa_gz (fun τ31 e31 w31 f31 => ?_)
              replace hr1 := (f31 _ (by omega)).trans hr1
              replace e0 := e31.trans e0
              refine qa_aload_n (pc' := 123) ⟨rfl, rfl⟩ rfl ?_
              refine qa_dup (pc' := 124) ⟨rfl, rfl⟩ rfl ?_
              refine qa_getf (pc' := 127) ⟨rfl, rfl⟩ qg_8_82 (by assumption) rfl ?_
              refine qa_iconst (pc' := 128) ⟨rfl, rfl⟩ ?_
              refine qa_iadd (z := at9 + 1) (pc' := 129) ⟨rfl, rfl⟩ rfl ?_
              refine qa_putf (fs' := [_, _, _, _, _, _]) (pc' := 132) ⟨rfl, rfl⟩ qg_8_82 qw_7 (by assumption) (by omega) rfl (fun r hr => by cases hr; exact ⟨rfl, Or.inl rfl⟩) rfl rfl ?_
              refine qa_gz (fun τ32 e32 w32 f32 => ?_)
              replace w31 := (f32 _ (by omega)).trans w31
              replace e0 := e32.trans e0
              refine qa_iconst (pc' := 133) ⟨rfl, rfl⟩ ?_
              refine qa_ireturn rfl rfl rfl (hQ _ _ ?_)
              have e9 : ¬ (sc_dg t md o 0).2 = o := by rw [hdg]; show ¬ p = o; omega
              unfold sc_nm; rw [if_neg e9, hdg]
              exact ⟨rfl, e0, w32, w31, fun q q1 q2 => (f32 q q1).trans ((f31 q q2).trans (hfr q q1))⟩
            · exact absurd hc6 (by omega)
        · refine qa_aload_n (pc' := 26) ⟨rfl, rfl⟩ rfl ?_
          refine qa_getf (pc' := 29) ⟨rfl, rfl⟩ qg_8_12 (by assumption) rfl ?_
          refine qa_aload_n (pc' := 30) ⟨rfl, rfl⟩ rfl ?_
          refine qa_getf (pc' := 33) ⟨rfl, rfl⟩ qg_8_54 (by assumption) rfl ?_
          refine qa_callV rfl qf_SB_charAt ql_8_99 (c_SB_charAt (E := E) hz hB1 (by omega)) hb1 rfl rfl rfl (qa_lt9 rfl) (qa_le9 rfl) (qa_le9 rfl) (qa_le9 rfl) (fun o9 τ9 hq9 => ?_)
          obtain ⟨rfl, hq9⟩ := hq9
          replace hq9 := hq9.symm; subst hq9
          refine qa_nx (pc' := 36) (st' := [_]) rfl rfl rfl rfl ?_
          rw [show t.getD p.toNat 0 = sc_at t p from rfl]
          refine qa_bipush (z := 48) (pc' := 38) ⟨rfl, rfl⟩ rfl ?_
          refine qa_bipush (z := 57) (pc' := 40) ⟨rfl, rfl⟩ rfl ?_
          refine qa_callS rfl qf_C_isWithin rfl ql_8_44 (c_C_isWithin (E := E) (by omega) (by omega) (by omega)) rfl rfl (qa_lt9 rfl) (qa_le9 rfl) (qa_le9 rfl) (qa_le9 rfl) (fun o9 τ9 hq9 => ?_)
          obtain ⟨rfl, hq9⟩ := hq9
          replace hq9 := hq9.symm; subst hq9
          refine qa_nx (pc' := 43) (st' := [_]) rfl rfl rfl rfl ?_
          by_cases hw : 48 ≤ sc_at t p ∧ sc_at t p ≤ 57
          · rw [if_pos hw]
            refine qa_if_eq (pc' := 46) (tgt := 82) ⟨rfl, rfl⟩ rfl (by omega) (fun hw9 => ?_) (fun hw9 => ?_)
            · exact absurd hw9 (by omega)
            · refine qa_iload_n (pc' := 47) ⟨rfl, rfl⟩ rfl ?_
              refine qa_bipush (z := 10) (pc' := 49) ⟨rfl, rfl⟩ rfl ?_
              refine qa_imul (z := vv * 10) (pc' := 50) ⟨rfl, rfl⟩ rfl ?_
              refine qa_aload_n (pc' := 51) ⟨rfl, rfl⟩ rfl ?_
              refine qa_getf (pc' := 54) ⟨rfl, rfl⟩ qg_8_12 (by assumption) rfl ?_
              refine qa_aload_n (pc' := 55) ⟨rfl, rfl⟩ rfl ?_
              refine qa_getf (pc' := 58) ⟨rfl, rfl⟩ qg_8_54 (by assumption) rfl ?_
              refine qa_callV rfl qf_SB_charAt ql_8_99 (c_SB_charAt (E := E) hz hB1 (by omega)) hb1 rfl rfl rfl (qa_lt9 rfl) (qa_le9 rfl) (qa_le9 rfl) (qa_le9 rfl) (fun o9 τ9 hq9 => ?_)
              obtain ⟨rfl, hq9⟩ := hq9
              replace hq9 := hq9.symm; subst hq9
              refine qa_nx (pc' := 61) (st' := [_, _]) rfl rfl rfl rfl ?_
              rw [show t.getD p.toNat 0 = sc_at t p from rfl]
              have e0 := he
              refine qa_iadd (z := vv * 10 + sc_at t p) (pc' := 62) ⟨rfl, rfl⟩ rfl ?_
              refine qa_bipush (z := 48) (pc' := 64) ⟨rfl, rfl⟩ rfl ?_
              refine qa_isub (z := vv * 10 + sc_at t p - 48) (pc' := 65) ⟨rfl, rfl⟩ rfl ?_
              refine qa_istore_n (L' := [(0, _), (1, _), (2, _), (3, _), (4, _)]) (pc' := 66) ⟨rfl, rfl⟩ rfl rfl ?_
              refine qa_aload_n (pc' := 67) ⟨rfl, rfl⟩ rfl ?_
              refine qa_dup (pc' := 68) ⟨rfl, rfl⟩ rfl ?_
              refine qa_getf (pc' := 71) ⟨rfl, rfl⟩ qg_8_54 (by assumption) rfl ?_
              refine qa_iconst (pc' := 72) ⟨rfl, rfl⟩ ?_
              refine qa_iadd (z := p + 1) (pc' := 73) ⟨rfl, rfl⟩ rfl ?_
              refine qa_putf (fs' := [_, _, _, _, _, _]) (pc' := 76) ⟨rfl, rfl⟩ qg_8_54 qw_7 (by assumption) (by omega) rfl (fun r hr => by cases hr; exact ⟨rfl, Or.inl rfl⟩) rfl rfl ?_
              refine qa_gz (fun τ21 e21 w21 f21 => ?_)
              replace e0 := e21.trans e0
              refine qa_iinc (L' := [(0, _), (1, _), (2, _), (3, _), (4, _)]) (z := k + 1) (pc' := 79) ⟨rfl, rfl⟩ rfl rfl rfl rfl ?_
              refine qa_goto (pc' := 82) (tgt := 5) ⟨rfl, rfl⟩ rfl ?_
              refine ih τ21 (k + 1) (p + 1) (vv * 10 + sc_at t p - 48) ⟨by omega, by omega, by omega, by omega, e0, w21, fun q hq => (f21 q hq).trans (hfr q hq), ?_⟩
              rw [← hs]; conv => rhs; unfold sc_dg
              rw [if_pos (by omega)]
          · rw [if_neg hw]
            refine qa_if_eq (pc' := 46) (tgt := 82) ⟨rfl, rfl⟩ rfl (by omega) (fun hw9 => ?_) (fun hw9 => ?_)
            · have hdg : sc_dg t md o 0 = (vv, p) := by rw [← hs]; unfold sc_dg; rw [if_neg (by omega)]
              have hd9 := sc_dg_o t md o 0
              refine qa_sub (ks' := [0, 1, 2, 3, 4]) (L' := [(0, _), (1, _), (2, _), (3, _), (4, _)]) rfl ?_
              refine qa_aload_n (pc' := 83) ⟨rfl, rfl⟩ rfl ?_
              refine qa_getf (pc' := 86) ⟨rfl, rfl⟩ qg_8_40 (by assumption) rfl ?_
              refine qa_iconst (pc' := 87) ⟨rfl, rfl⟩ ?_
              refine qa_imul (z := 3 * tot) (pc' := 88) ⟨rfl, rfl⟩ (by omega) ?_
              refine qa_aload_n (pc' := 89) ⟨rfl, rfl⟩ rfl ?_
              refine qa_getf (pc' := 92) ⟨rfl, rfl⟩ qg_8_82 (by assumption) rfl ?_
              refine qa_iadd (z := 3 * tot + at9) (pc' := 93) ⟨rfl, rfl⟩ rfl ?_
              refine qa_istore (L' := [(0, _), (1, _), (2, _), (3, _), (4, _), (5, _)]) (pc' := 95) ⟨rfl, rfl⟩ rfl rfl ?_
              refine qa_iload (pc' := 97) ⟨rfl, rfl⟩ rfl ?_
              refine qa_if_eq (pc' := 100) (tgt := 110) ⟨rfl, rfl⟩ rfl (by omega) (fun hc5 => ?_) (fun hc5 => ?_)
              · refine qa_iconst (pc' := 111) ⟨rfl, rfl⟩ ?_
                refine qa_ireturn rfl rfl rfl (hQ _ _ ?_)
                have e9 : (sc_dg t md o 0).2 = o := by rw [hdg]; show p = o; omega
                have ep : p = o := by omega
                subst ep
                unfold sc_nm; rw [if_pos e9]
                refine ⟨rfl, he, ?_, (hfr _ (by omega)).trans ha, fun q q1 q2 => hfr q q1⟩
                rw [hr1]; show some (qa_RdF r tot p at9) = some (qa_RdF r tot p (at9 + 0)); rw [Int.add_zero]
              · have ha1 := (hfr (r + 4) (by omega)).trans ha
                refine qa_iload (pc' := 102) ⟨rfl, rfl⟩ rfl ?_
                refine qa_aload_n (pc' := 103) ⟨rfl, rfl⟩ rfl ?_
                refine qa_getf (pc' := 106) ⟨rfl, rfl⟩ qg_8_24 (by assumption) rfl ?_
                refine qa_alen (pc' := 107) ⟨rfl, rfl⟩ (by assumption) ?_
                refine qa_icmp_lt (pc' := 110) (tgt := 112) ⟨rfl, rfl⟩ rfl (by omega) (by omega) (fun hc6 => ?_) (fun hc6 => ?_)
                · have e0 := he
                  refine qa_aload_n (pc' := 113) ⟨rfl, rfl⟩ rfl ?_
                  refine qa_getf (pc' := 116) ⟨rfl, rfl⟩ qg_8_24 (by assumption) rfl ?_
                  refine qa_iload (pc' := 118) ⟨rfl, rfl⟩ rfl ?_
                  refine qa_iload_n (pc' := 119) ⟨rfl, rfl⟩ rfl ?_
                  refine qa_iload_n (pc' := 120) ⟨rfl, rfl⟩ rfl ?_
                  refine qa_imul (z := vv * fac) (pc' := 121) ⟨rfl, rfl⟩ rfl ?_
                  refine qa_iastore (pc' := 122) ⟨rfl, rfl⟩ ha1 (by omega) (by omega) ?_
                  refine qa_gz (fun τ31 e31 w31 f31 => ?_)
                  replace hr1 := (f31 _ (by omega)).trans hr1
                  replace e0 := e31.trans e0
                  refine qa_aload_n (pc' := 123) ⟨rfl, rfl⟩ rfl ?_
                  refine qa_dup (pc' := 124) ⟨rfl, rfl⟩ rfl ?_
                  refine qa_getf (pc' := 127) ⟨rfl, rfl⟩ qg_8_82 (by assumption) rfl ?_
                  refine qa_iconst (pc' := 128) ⟨rfl, rfl⟩ ?_
                  refine qa_iadd (z := at9 + 1) (pc' := 129) ⟨rfl, rfl⟩ rfl ?_
                  refine qa_putf (fs' := [_, _, _, _, _, _]) (pc' := 132) ⟨rfl, rfl⟩ qg_8_82 qw_7 (by assumption) (by omega) rfl (fun r hr => by cases hr; exact ⟨rfl, Or.inl rfl⟩) rfl rfl ?_
                  refine qa_gz (fun τ32 e32 w32 f32 => ?_)
                  replace w31 := (f32 _ (by omega)).trans w31
                  replace e0 := e32.trans e0
                  refine qa_iconst (pc' := 133) ⟨rfl, rfl⟩ ?_
                  refine qa_ireturn rfl rfl rfl (hQ _ _ ?_)
                  have e9 : ¬ (sc_dg t md o 0).2 = o := by rw [hdg]; show ¬ p = o; omega
                  unfold sc_nm; rw [if_neg e9, hdg]
                  exact ⟨rfl, e0, w32, w31, fun q q1 q2 => (f32 q q1).trans ((f31 q q2).trans (hfr q q1))⟩
                · exact absurd hc6 (by omega)
            · exact absurd hw9 (by omega)
  exact lp md σ 0 o 0 ⟨by omega, by omega, by omega, ho, rfl, hr, fun _ _ => rfl, rfl⟩
theorem c_R_readSign {E : qa_V} {σ : qa_S} {r v : Nat} {t : List Int} {tot o at9 : Int} {x : Int} {ar : Int → Int} (hz : qa_Sb E) (hlo : E.1 ≤ r) (hr : σ.1 r = some (qa_RdF r tot o at9)) (hB : sR_B σ.1 (r + 1) v t) (hv9 : v ≠ r) (ho : 0 ≤ o ∧ o ≤ t.length) (hl : t.length ≤ 60) (hx : 0 ≤ x ∧ x ≤ 127) (ha : σ.1 (r + 4) = some (qa_ia 39 ar)) (ht : 0 ≤ tot ∧ tot ≤ 12) (ha9 : 0 ≤ at9 ∧ (x = 68 ∨ x = 78 ∨ x = 83 → at9 ≤ 2)) : qa_T E qm_R_readSign 0 0 [.ref r, .int (qa_i x)] σ (fun o9 τ => o9 = .inl (some (.int (qa_i (sc_sg t x o).1))) ∧ τ.2 = σ.2 ∧ τ.1 r = some (qa_RdF r tot (sc_sg t x o).2.1 (at9 + (sc_sg t x o).2.2.length)) ∧ τ.1 (r + 4) = some (qa_ia 39 (sc_wr ar (3 * tot + at9) (sc_sg t x o).2.2)) ∧ ∀ q, q ≠ r → q ≠ r + 4 → τ.1 q = σ.1 q) := by
  refine qa_enterQ (by decide) rfl qm_R_readSign_ok rfl rfl (fun Q9 hQ => ?_)
  refine qa_iload_n (pc' := 1) ⟨rfl, rfl⟩ rfl ?_
  refine qa_bipush (z := 68) (pc' := 3) ⟨rfl, rfl⟩ rfl ?_
  refine qa_icmp_ne (pc' := 6) (tgt := 13) ⟨rfl, rfl⟩ rfl (by omega) (by omega) (fun hc1 => ?_) (fun hc1 => ?_)
  · refine qa_iload_n (pc' := 14) ⟨rfl, rfl⟩ rfl ?_
    refine qa_bipush (z := 78) (pc' := 16) ⟨rfl, rfl⟩ rfl ?_
    refine qa_icmp_ne (pc' := 19) (tgt := 26) ⟨rfl, rfl⟩ rfl (by omega) (by omega) (fun hc2 => ?_) (fun hc2 => ?_)
    · refine qa_iload_n (pc' := 27) ⟨rfl, rfl⟩ rfl ?_
      refine qa_bipush (z := 83) (pc' := 29) ⟨rfl, rfl⟩ rfl ?_
      refine qa_icmp_ne (pc' := 32) (tgt := 52) ⟨rfl, rfl⟩ rfl (by omega) (by omega) (fun hc3 => ?_) (fun hc3 => ?_)
      · refine qa_aload_n (pc' := 53) ⟨rfl, rfl⟩ rfl ?_
        refine qa_iload_n (pc' := 54) ⟨rfl, rfl⟩ rfl ?_
        refine qa_callV rfl qf_R_skip ql_8_61 (c_R_skip (E := E) hz hlo hr hB hv9 ho hl hx) hr rfl rfl rfl (qa_lt9 rfl) (qa_le9 rfl) (qa_le9 rfl) (qa_le9 rfl) (fun o9 τ9 hq9 => ?_)
        obtain ⟨rfl, e1, w1, f1⟩ := hq9
        refine qa_nx (pc' := 57) (st' := [_]) rfl rfl rfl rfl ?_
        have eg : sc_sg t x o = if o < t.length ∧ sc_at t o = x then (1, o + 1, []) else (0, o, []) := by unfold sc_sg; rw [if_neg (by omega), if_neg (by omega), if_neg (by omega)]
        rw [eg] at hQ
        by_cases hw : o < t.length ∧ sc_at t o = x
        · rw [if_pos hw]
          rw [if_pos hw] at hQ w1
          refine qa_ireturn rfl rfl rfl (hQ _ _ ⟨rfl, e1, by rw [w1]; show some (qa_RdF r tot (o + 1) at9) = some (qa_RdF r tot (o + 1) (at9 + 0)); rw [Int.add_zero], (f1 _ (by omega)).trans ha, fun q q1 q2 => f1 q q1⟩)
        · rw [if_neg hw]
          rw [if_neg hw] at hQ w1
          refine qa_ireturn rfl rfl rfl (hQ _ _ ⟨rfl, e1, by rw [w1]; show some (qa_RdF r tot o at9) = some (qa_RdF r tot o (at9 + 0)); rw [Int.add_zero], (f1 _ (by omega)).trans ha, fun q q1 q2 => f1 q q1⟩)
      · refine qa_aload_n (pc' := 33) ⟨rfl, rfl⟩ rfl ?_
        refine qa_iconst (pc' := 34) ⟨rfl, rfl⟩ ?_
        refine qa_aload_n (pc' := 35) ⟨rfl, rfl⟩ rfl ?_
        refine qa_bipush (z := 45) (pc' := 37) ⟨rfl, rfl⟩ rfl ?_
        refine qa_callV rfl qf_R_skip ql_8_61 (c_R_skip (E := E) (x := 45) hz hlo hr hB hv9 ho hl (by omega)) hr rfl rfl rfl (qa_lt9 rfl) (qa_le9 rfl) (qa_le9 rfl) (qa_le9 rfl) (fun o9 τ9 hq9 => ?_)
        obtain ⟨rfl, e1, w1, f1⟩ := hq9
        refine qa_nx (pc' := 40) (st' := [_, _, _]) rfl rfl rfl rfl ?_
        have hB1 := hB.fr (f1 _ (by omega)) (f1 _ hv9)
        have ha1 := (f1 (r + 4) (by omega)).trans ha
        by_cases hw : o < t.length ∧ sc_at t o = 45
        · rw [if_pos hw]
          refine qa_if_eq (pc' := 43) (tgt := 47) ⟨rfl, rfl⟩ rfl (by omega) (fun hw9 => ?_) (fun hw9 => ?_)
          · exact absurd hw9 (by omega)
          · rw [if_pos hw] at w1
            refine qa_iconst (pc' := 44) ⟨rfl, rfl⟩ ?_
            refine qa_goto (pc' := 47) (tgt := 48) ⟨rfl, rfl⟩ rfl ?_
            refine qa_callV rfl qf_R_readNumber ql_8_95 (c_R_readNumber (E := E) (md := 3) (fac := -1) hz hlo w1 hB1 hv9 (by omega) hl ha1 (by omega) (by omega) ht ⟨ha9.1, ha9.2 (by omega)⟩) w1 rfl rfl rfl (qa_lt9 rfl) (qa_le9 rfl) (qa_le9 rfl) (qa_le9 rfl) (fun o9 τ9 hq9 => ?_)
            obtain ⟨rfl, e2, w2, w3, f2⟩ := hq9
            refine qa_nx (pc' := 51) (st' := [_]) rfl rfl rfl rfl ?_
            have eg : sc_sg t x o = sc_nm t 3 (-1) (o + 1) := by unfold sc_sg; rw [if_neg (by omega), if_neg (by omega), if_pos (by omega), if_pos hw]
            have nb := sc_nm_b (t := t) (md := 3) (fac := -1) (o := (o + 1)) (by omega) (by omega) (by omega)
            rw [eg] at hQ
            refine qa_ireturn rfl rfl (by rcases nb.1 with h9 | h9 <;> rw [h9] <;> rfl) (hQ _ _ ⟨rfl, e2.trans e1, w2, w3, fun q q1 q2 => (f2 q q1 q2).trans (f1 q q1)⟩)
        · rw [if_neg hw]
          refine qa_if_eq (pc' := 43) (tgt := 47) ⟨rfl, rfl⟩ rfl (by omega) (fun hw9 => ?_) (fun hw9 => ?_)
          · rw [if_neg hw] at w1
            refine qa_iconst (pc' := 48) ⟨rfl, rfl⟩ ?_
            refine qa_callV rfl qf_R_readNumber ql_8_95 (c_R_readNumber (E := E) (md := 3) (fac := 1) hz hlo w1 hB1 hv9 (by omega) hl ha1 (by omega) (by omega) ht ⟨ha9.1, ha9.2 (by omega)⟩) w1 rfl rfl rfl (qa_lt9 rfl) (qa_le9 rfl) (qa_le9 rfl) (qa_le9 rfl) (fun o9 τ9 hq9 => ?_)
            obtain ⟨rfl, e2, w2, w3, f2⟩ := hq9
            refine qa_nx (pc' := 51) (st' := [_]) rfl rfl rfl rfl ?_
            have eg : sc_sg t x o = sc_nm t 3 (1) o := by unfold sc_sg; rw [if_neg (by omega), if_neg (by omega), if_pos (by omega), if_neg hw]
            have nb := sc_nm_b (t := t) (md := 3) (fac := 1) (o := o) (by omega) (by omega) (by omega)
            rw [eg] at hQ
            refine qa_ireturn rfl rfl (by rcases nb.1 with h9 | h9 <;> rw [h9] <;> rfl) (hQ _ _ ⟨rfl, e2.trans e1, w2, w3, fun q q1 q2 => (f2 q q1 q2).trans (f1 q q1)⟩)
          · exact absurd hw9 (by omega)
    · refine qa_aload_n (pc' := 20) ⟨rfl, rfl⟩ rfl ?_
      refine qa_iconst (pc' := 21) ⟨rfl, rfl⟩ ?_
      refine qa_iconst (pc' := 22) ⟨rfl, rfl⟩ ?_
      refine qa_callV rfl qf_R_readNumber ql_8_95 (c_R_readNumber (E := E) (md := 3) (fac := 1) hz hlo hr hB hv9 ho hl ha (by omega) (by omega) ht ⟨ha9.1, ha9.2 (by omega)⟩) hr rfl rfl rfl (qa_lt9 rfl) (qa_le9 rfl) (qa_le9 rfl) (qa_le9 rfl) (fun o9 τ9 hq9 => ?_)
      obtain ⟨rfl, hq9⟩ := hq9
      refine qa_nx (pc' := 25) (st' := [_]) rfl rfl rfl rfl ?_
      have eg : sc_sg t x o = sc_nm t 3 (1) o := by unfold sc_sg; rw [if_neg (by omega), if_pos (by omega)]
      have nb := sc_nm_b (t := t) (md := 3) (fac := 1) (o := o) (by omega) (by omega) ho
      rw [eg] at hQ
      refine qa_ireturn rfl rfl (by rcases nb.1 with h9 | h9 <;> rw [h9] <;> rfl) (hQ _ _ ⟨rfl, hq9⟩)
  · refine qa_aload_n (pc' := 7) ⟨rfl, rfl⟩ rfl ?_
    refine qa_iconst (pc' := 8) ⟨rfl, rfl⟩ ?_
    refine qa_iconst (pc' := 9) ⟨rfl, rfl⟩ ?_
    refine qa_callV rfl qf_R_readNumber ql_8_95 (c_R_readNumber (E := E) (md := 1) (fac := 1) hz hlo hr hB hv9 ho hl ha (by omega) (by omega) ht ⟨ha9.1, ha9.2 (by omega)⟩) hr rfl rfl rfl (qa_lt9 rfl) (qa_le9 rfl) (qa_le9 rfl) (qa_le9 rfl) (fun o9 τ9 hq9 => ?_)
    obtain ⟨rfl, hq9⟩ := hq9
    refine qa_nx (pc' := 12) (st' := [_]) rfl rfl rfl rfl ?_
    have eg : sc_sg t x o = sc_nm t 1 (1) o := by unfold sc_sg; rw [if_pos (by omega)]
    have nb := sc_nm_b (t := t) (md := 1) (fac := 1) (o := o) (by omega) (by omega) ho
    rw [eg] at hQ
    refine qa_ireturn rfl rfl (by rcases nb.1 with h9 | h9 <;> rw [h9] <;> rfl) (hQ _ _ ⟨rfl, hq9⟩)
