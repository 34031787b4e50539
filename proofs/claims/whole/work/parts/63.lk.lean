/-! an array is known by what lies in it: what is beyond its length may be said otherwise -/
def qa_lk (τ τ' : qa_S) : Prop := τ'.2 = τ.2 ∧ ∀ (a : Nat) (x' : qa_E), τ'.1 a = some x' → ∃ x : qa_E, τ.1 a = some x ∧ (x = x' ∨ ∃ (t n : Nat) (f g : Nat → Int32), x = .inr (t, n, .inl f) ∧ x' = .inr (t, n, .inl g) ∧ ∀ j, j < n → f j = g j)
theorem arrV_eqv (c : ClassId) {n : Nat} {f g : Nat → Value} (h : ∀ j, j < n → f j = g j) : arrV c n f = arrV c n g := by
  unfold arrV
  congr 2
  funext j
  exact h j.val j.isLt
theorem qa_lk.R9 {E : qa_V} {G : qa_G} {s : State} {τ τ' : qa_S} {H : Heap} (h : qa_lk τ τ') (hR : qa_R9 E G s τ H) : qa_R9 E G s τ' H := by
  refine ⟨hR.1.trans h.1.symm, fun a x' hx' => ?_⟩
  obtain ⟨x, hx, e | ⟨t, n, f, g, rfl, rfl, hfg⟩⟩ := h.2 a x' hx'
  · rw [← e]; exact hR.2 a x hx
  · obtain ⟨h1, h2⟩ := hR.2 a _ hx
    refine ⟨?_, fun hE => ?_⟩
    · obtain ⟨cell, ty, c1, c2, c3, c4, c5, c6, c7⟩ := h1
      refine ⟨cell, ty, c1, c2, c3, c4, c5, c6, fun j hj => ?_⟩
      rw [c7 j hj]
      show some (Value.int (f j)) = some (Value.int (g j))
      rw [hfg j hj]
    · have h3 : H[a]? = some (vp_cell (G.2.2 t) (n, .inl f)) := h2 hE
      show H[a]? = some (vp_cell (G.2.2 t) (n, .inl g))
      rw [h3, qa_cell, qa_cell]
      exact congrArg some (arrV_eqv _ fun j hj => by show Value.int (f j) = Value.int (g j); rw [hfg j hj])
theorem qa_W.lk {E : qa_V} {M : qa_M} {Q : qa_O → qa_S → Prop} {kc ks pc : Nat} {L : qa_L} {st : List Value} {σ σ' : qa_S} (h : qa_lk σ σ') (k : qa_W E M Q kc ks pc L st σ') : qa_W E M Q kc ks pc L st σ := by
  intro G p l e R s m args below meth c H locs cells slots ls ok C hR hS hL hc hs
  exact k G p l e R s m args below meth c H locs cells slots ls ok C (h.R9 hR) hS hL hc hs
theorem qa_T.lk {E : qa_V} {M : qa_M} {mc ms : Nat} {as : List Value} {σ : qa_S} {Q Q1 : qa_O → qa_S → Prop} (h : qa_T E M mc ms as σ Q) (hQ : ∀ o t, Q o t → ∃ t', qa_lk t t' ∧ Q1 o t') : qa_T E M mc ms as σ Q1 := by
  intro G l hl
  refine MetFree.mono (h G l hl) (fun _ _ q => q) (fun _ _ _ _ _ q => q) (fun a st o t _ hq => ?_)
  rcases hq with ⟨⟨v, σ1, e1, e2, e3⟩, e4⟩ | ⟨q, e1, E1, ce, L, ⟨k, σ1, f1, f2, f3⟩, e3⟩
  · obtain ⟨σ2, g1, g2⟩ := hQ _ _ e2
    exact Or.inl ⟨⟨v, σ2, e1, g2, g1.R9 e3.1, e3.2⟩, e4⟩
  · obtain ⟨σ2, g1, g2⟩ := hQ _ _ f2
    exact Or.inr ⟨q, e1, E1, ce, L, ⟨k, σ2, f1, g2, g1.R9 f3.1, f3.2⟩, e3⟩
theorem qa_lk.set {τ : qa_S} {a n : Nat} {f g : Int → Int} (h : τ.1 a = some (qa_ia n f)) (hfg : ∀ j : Int, 0 ≤ j → j < n → f j = g j) : qa_lk τ (qa_set τ.1 a (qa_ia n g), τ.2) := by
  refine ⟨rfl, fun b x' hx' => ?_⟩
  by_cases e : b = a
  · subst e
    have h1 : qa_ia n g = x' := Option.some.inj ((qa_set_eq _ _ _).symm.trans hx')
    refine ⟨_, h, Or.inr ⟨_, _, _, _, rfl, h1.symm, fun j hj => ?_⟩⟩
    show qa_i (f j) = qa_i (g j)
    rw [hfg j (by omega) (by omega)]
  · exact ⟨x', (qa_set_ne e).symm.trans hx', Or.inl rfl⟩
theorem qa_set_up {h : qa_H} {a : Nat} {x : qa_E} : (qa_set h a x) a = some x := qa_set_eq h a x
/-- a change of the model, told exactly -/
def qa_Mx (σ : qa_S) (μ : Nat) (f : Nat → Int) (k : Nat) (r : sp_R) : qa_O → qa_S → Prop := fun o9 τ => o9 = .inl (some (.int (qa_i (if r.1 < 0 then -1 else r.1)))) ∧ τ.2 = σ.2 ∧ τ.1 μ = some (qa_MoF μ (sN_it f k r)) ∧ τ.1 (μ + 1) = some (qa_ia 146 r.2.2) ∧ ∀ q, (q ≠ μ ∧ q ≠ μ + 1) → τ.1 q = σ.1 q
theorem qa_Mt.x {E : qa_V} {M : qa_M} {mc ms : Nat} {as : List Value} {σ : qa_S} {μ : Nat} {f : Nat → Int} {k : Nat} {r : sp_R} (h : qa_T E M mc ms as σ (qa_Mt σ μ f k r)) : qa_T E M mc ms as σ (qa_Mx σ μ f k r) := by
  refine h.lk fun o τ hq => ?_
  obtain ⟨h1, h2, h3, ⟨m1, h4, h5⟩, h6⟩ := hq
  refine ⟨_, qa_lk.set h4 (fun j j0 j1 => h5 j j0 j1), h1, h2, (qa_set_ne (by omega)).trans h3, qa_set_up, fun q hq => (qa_set_ne (by omega)).trans (h6 q hq)⟩
def qa_Mcx (σ : qa_S) (μ : Nat) (f : Nat → Int) (m sv ps ip li : Int → Int) (k : Nat) (r : sp_R) : qa_O → qa_S → Prop := fun o9 τ => o9 = .inl (some (.int (qa_i (if r.1 < 0 then -1 else r.1)))) ∧ τ.2 = σ.2 ∧ (∀ q, (q < μ ∨ μ + 11 ≤ q) → τ.1 q = σ.1 q) ∧ ∃ (f' : Nat → Int) (ps' : Int → Int), sR_M τ.1 μ f' r.2.2 sv ps' ip li ∧ sM_ch f f' ps ps' m k r
theorem sR_M.lk {τ : qa_S} {μ : Nat} {f : Nat → Int} {m m1 sv ps ip li : Int → Int} (H : sR_M τ.1 μ f m sv ps ip li) (h : ∀ j : Int, 0 ≤ j → j < 146 → m j = m1 j) : qa_lk τ (qa_set τ.1 (μ + 1) (qa_ia 146 m1), τ.2) ∧ sR_M (qa_set τ.1 (μ + 1) (qa_ia 146 m1)) μ f m1 sv ps ip li := by
  obtain ⟨⟨a, b⟩, ⟨as, c⟩, d, e, g, ⟨tb, i⟩, j, k, l, cm, n⟩ := H
  have ne : ∀ q, q ≠ μ + 1 → (qa_set τ.1 (μ + 1) (qa_ia 146 m1)) q = τ.1 q := fun q hq => qa_set_ne hq
  exact ⟨qa_lk.set b h, ⟨(ne _ (by omega)).trans a, qa_set_up⟩, ⟨as, (ne _ (by omega)).trans c⟩, (ne _ (by omega)).trans d, (ne _ (by omega)).trans e, (ne _ (by omega)).trans g, ⟨tb, (ne _ (by omega)).trans i⟩, (ne _ (by omega)).trans j, (ne _ (by omega)).trans k, (ne _ (by omega)).trans l, cm, (ne _ (by omega)).trans n⟩
theorem qa_Mc.x {E : qa_V} {M : qa_M} {mc ms : Nat} {as : List Value} {σ : qa_S} {μ : Nat} {f : Nat → Int} {m sv ps ip li : Int → Int} {k : Nat} {r : sp_R} (h : qa_T E M mc ms as σ (qa_Mc σ μ f m sv ps ip li k r)) : qa_T E M mc ms as σ (qa_Mcx σ μ f m sv ps ip li k r) := by
  refine h.lk fun o τ hq => ?_
  obtain ⟨h1, h2, h3, f', m', ps', h4, h5, h6⟩ := hq
  obtain ⟨g1, g2⟩ := h4.lk (m1 := r.2.2) h5
  exact ⟨_, g1, h1, h2, fun q hq => (qa_set_ne (by omega)).trans (h3 q hq), f', ps', g2, h6⟩
