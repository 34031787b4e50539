/-! each call of the class beside the model's -/
theorem jr_count (m : Int → Int) (p : Int) : 0 ≤ (fo_count m p).1 ∧ (fo_count m p).1 ≤ 1 := by unfold fo_count; split <;> first | exact (show (0 : Int) ≤ 0 ∧ (0 : Int) ≤ 1 by decide) | exact (show (0 : Int) ≤ 1 ∧ (1 : Int) ≤ 1 by decide)
theorem jr_rest (m : Int → Int) (p j : Int) : 0 ≤ (fo_rest m p j).1 ∧ (fo_rest m p j).1 ≤ 1 := by unfold fo_rest; split <;> first | exact (show (0 : Int) ≤ 0 ∧ (0 : Int) ≤ 1 by decide) | exact (show (0 : Int) ≤ 1 ∧ (1 : Int) ≤ 1 by decide)
theorem jr_pitch (m : Int → Int) (p j : Int) : 0 ≤ (fo_pitch m p j).1 ∧ (fo_pitch m p j).1 ≤ 2 := by unfold fo_pitch; split <;> (try split) <;> first | exact (show (0 : Int) ≤ 0 ∧ (0 : Int) ≤ 2 by decide) | exact (show (0 : Int) ≤ 1 ∧ (1 : Int) ≤ 2 by decide) | exact (show (0 : Int) ≤ 2 ∧ (2 : Int) ≤ 2 by decide)
theorem jr_length (m : Int → Int) (p j : Int) : 0 ≤ (fo_length m p j).1 ∧ (fo_length m p j).1 ≤ 1 := by unfold fo_length; split <;> first | exact (show (0 : Int) ≤ 0 ∧ (0 : Int) ≤ 1 by decide) | exact (show (0 : Int) ≤ 1 ∧ (1 : Int) ≤ 1 by decide)
theorem jr_whole (m : Int → Int) (p : Int) : 0 ≤ (fo_whole m p).1 ∧ (fo_whole m p).1 ≤ 1 := by unfold fo_whole; split <;> first | exact (show (0 : Int) ≤ 0 ∧ (0 : Int) ≤ 1 by decide) | exact (show (0 : Int) ≤ 1 ∧ (1 : Int) ≤ 1 by decide)
theorem jr_noteAt (m : Int → Int) (p x : Int) : 0 ≤ (fo_noteAt m p x).1 ∧ (fo_noteAt m p x).1 ≤ 3 := by unfold fo_noteAt; split <;> (try split) <;> (try split) <;> first | exact (show (0 : Int) ≤ 0 ∧ (0 : Int) ≤ 3 by decide) | exact (show (0 : Int) ≤ 1 ∧ (1 : Int) ≤ 3 by decide) | exact (show (0 : Int) ≤ 2 ∧ (2 : Int) ≤ 3 by decide) | exact (show (0 : Int) ≤ 3 ∧ (3 : Int) ≤ 3 by decide)
theorem jr_sound (m : Int → Int) (x : Int) : 0 ≤ (fo_sound m x).1 ∧ (fo_sound m x).1 ≤ 1 := by unfold fo_sound; split <;> first | exact (show (0 : Int) ≤ 0 ∧ (0 : Int) ≤ 1 by decide) | exact (show (0 : Int) ≤ 1 ∧ (1 : Int) ≤ 1 by decide)
theorem jr_found (v : Int) : 0 ≤ (fo_found v).1 ∧ (fo_found v).1 ≤ 1 := by unfold fo_found; split <;> first | exact (show (0 : Int) ≤ 0 ∧ (0 : Int) ≤ 1 by decide) | exact (show (0 : Int) ≤ 1 ∧ (1 : Int) ≤ 1 by decide)
theorem jr_foundP (m : Int → Int) (p v : Int) : 0 ≤ (fo_foundP m p v).1 ∧ (fo_foundP m p v).1 ≤ 2 := by unfold fo_foundP; split <;> (try split) <;> first | exact (show (0 : Int) ≤ 0 ∧ (0 : Int) ≤ 2 by decide) | exact (show (0 : Int) ≤ 1 ∧ (1 : Int) ≤ 2 by decide) | exact (show (0 : Int) ≤ 2 ∧ (2 : Int) ≤ 2 by decide)
theorem jr_of (m : Int → Int) (p v : Int) : 0 ≤ (fo_of m p v).1 ∧ (fo_of m p v).1 ≤ 1 := by unfold fo_of; split <;> first | exact (show (0 : Int) ≤ 0 ∧ (0 : Int) ≤ 1 by decide) | exact (show (0 : Int) ≤ 1 ∧ (1 : Int) ≤ 1 by decide)
theorem jr_of2 (m : Int → Int) (p q v : Int) : 0 ≤ (fo_of2 m p q v).1 ∧ (fo_of2 m p q v).1 ≤ 1 := by unfold fo_of2; split <;> first | exact (show (0 : Int) ≤ 0 ∧ (0 : Int) ≤ 1 by decide) | exact (show (0 : Int) ≤ 1 ∧ (1 : Int) ≤ 1 by decide)
theorem jr_near (m : Int → Int) (p x v : Int) : 0 ≤ (fo_near m p x v).1 ∧ (fo_near m p x v).1 ≤ 2 := by unfold fo_near; split <;> (try split) <;> first | exact (show (0 : Int) ≤ 0 ∧ (0 : Int) ≤ 2 by decide) | exact (show (0 : Int) ≤ 1 ∧ (1 : Int) ≤ 2 by decide) | exact (show (0 : Int) ≤ 2 ∧ (2 : Int) ≤ 2 by decide)
theorem jr_rng (lo hi x v : Int) : 0 ≤ (fo_rng lo hi x v).1 ∧ (fo_rng lo hi x v).1 ≤ 1 := by unfold fo_rng; split <;> first | exact (show (0 : Int) ≤ 0 ∧ (0 : Int) ≤ 1 by decide) | exact (show (0 : Int) ≤ 1 ∧ (1 : Int) ≤ 1 by decide)
theorem jr_per (m : Int → Int) (p v : Int) : 0 ≤ (fo_per m p v).1 ∧ (fo_per m p v).1 ≤ 2 := by unfold fo_per; split <;> (try split) <;> first | exact (show (0 : Int) ≤ 0 ∧ (0 : Int) ≤ 2 by decide) | exact (show (0 : Int) ≤ 1 ∧ (1 : Int) ≤ 2 by decide) | exact (show (0 : Int) ≤ 2 ∧ (2 : Int) ≤ 2 by decide)
theorem jr_if {P : Prop} {d : Decidable P} (v : Int) : 0 ≤ (@ite _ P d ((0 : Int), v) (1, 0)).1 ∧ (@ite _ P d ((0 : Int), v) (1, 0)).1 ≤ 1 := by split <;> first | exact (show (0 : Int) ≤ 0 ∧ (0 : Int) ≤ 1 by decide) | exact (show (0 : Int) ≤ 1 ∧ (1 : Int) ≤ 1 by decide)
theorem fo_near_e {m : Int → Int} {p x v w : Int} (h : sm_is m p → (1 ≤ x ∧ x ≤ 20) → v = w) : fo_near m p x v = fo_near m p x w := by
  unfold fo_near
  by_cases h1 : sm_is m p
  · rw [if_pos h1, if_pos h1]
    by_cases h2 : 1 ≤ x ∧ x ≤ 20
    · rw [if_pos h2, if_pos h2, h h1 h2]
    · rw [if_neg h2, if_neg h2]
  · rw [if_neg h1, if_neg h1]
theorem fo_of_e {m : Int → Int} {p v w : Int} (h : sm_is m p → v = w) : fo_of m p v = fo_of m p w := by
  unfold fo_of
  by_cases h1 : sm_is m p
  · rw [if_pos h1, if_pos h1, h h1]
  · rw [if_neg h1, if_neg h1]
theorem fo_of2_e {m : Int → Int} {p q v w : Int} (h : sm_is m p → sm_is m q → v = w) : fo_of2 m p q v = fo_of2 m p q w := by
  unfold fo_of2
  by_cases h1 : sm_is m p ∧ sm_is m q
  · rw [if_pos h1, if_pos h1, h h1.1 h1.2]
  · rw [if_neg h1, if_neg h1]
theorem j_noteCount {E : qa_V} {σ : qa_S} {c : Nat} {Z : Nat → Nat} {B : Int} {p : Int} (hZ : qa_St E Z σ.1) (hz : qa_Sb E) (hlo : E.1 ≤ c) (hI : qI c Z B σ) (hB9 : B ≤ 800000000) (hp : qa_in p) : qa_T E qm_C_noteCount 4 24 [.ref c, .int (qa_i p)] σ (jC E c Z (B + 13000) qm_M_noteCount [.int (qa_i p)] [0] Value.int σ) := by
  obtain ⟨vi, vo, m, msn, mh, sp, ct, t, u, cs, n, f, sv, ps, ip, li, I⟩ := hI
  obtain ⟨⟨hc, hn0, hn1, hn4⟩, ⟨⟨rf, hS⟩, hk⟩, ⟨⟨rf2, hS2⟩, hk2⟩, hH, hX9, hR9, hO9, hv9⟩ := I.1
  have i3 := I.2.2.1
  obtain ⟨⟨ja1, ja2⟩, ⟨jb1, jb2⟩, jc1, jd1, ⟨je1, je2⟩, jg1, jg2, jg3⟩ := I.2.2.2
  have hlo7 : E.1 ≤ c + 277 := by omega
  have hsz : c + 277 ≤ σ.2 ∧ vi < σ.2 ∧ vo < σ.2 := by omega
  have h5 : 0 ≤ f 5 ∧ f 5 ≤ 8 := by have := hH.2.2.2.1; omega
  exact jQ I (c_C_noteCount (E := E) hc hS hk hp ) (jr_count _ _) (fun τ2 hR2 => (c_M_noteCount (E := E) hlo7 hR2.1.1 hR2.1.2 hk hp ).mono (fun o t h => h.Ms hR2))
theorem j_isRest {E : qa_V} {σ : qa_S} {c : Nat} {Z : Nat → Nat} {B : Int} {p : Int} {j : Int} (hZ : qa_St E Z σ.1) (hz : qa_Sb E) (hlo : E.1 ≤ c) (hI : qI c Z B σ) (hB9 : B ≤ 800000000) (hp : qa_in p) (hj : qa_in j) : qa_T E qm_C_isRest 4 24 [.ref c, .int (qa_i p), .int (qa_i j)] σ (jC E c Z (B + 13000) qm_M_isRest [.int (qa_i p), .int (qa_i j)] [0] Value.int σ) := by
  obtain ⟨vi, vo, m, msn, mh, sp, ct, t, u, cs, n, f, sv, ps, ip, li, I⟩ := hI
  obtain ⟨⟨hc, hn0, hn1, hn4⟩, ⟨⟨rf, hS⟩, hk⟩, ⟨⟨rf2, hS2⟩, hk2⟩, hH, hX9, hR9, hO9, hv9⟩ := I.1
  have i3 := I.2.2.1
  obtain ⟨⟨ja1, ja2⟩, ⟨jb1, jb2⟩, jc1, jd1, ⟨je1, je2⟩, jg1, jg2, jg3⟩ := I.2.2.2
  have hlo7 : E.1 ≤ c + 277 := by omega
  have hsz : c + 277 ≤ σ.2 ∧ vi < σ.2 ∧ vo < σ.2 := by omega
  have h5 : 0 ≤ f 5 ∧ f 5 ≤ 8 := by have := hH.2.2.2.1; omega
  exact jQ I (c_C_isRest (E := E) hc hS hk hp hj ) (jr_rest _ _ _) (fun τ2 hR2 => (c_M_isRest (E := E) hlo7 hR2.1.1 hR2.1.2 hk hp hj ).mono (fun o t h => h.Ms hR2))
theorem j_pitchOf {E : qa_V} {σ : qa_S} {c : Nat} {Z : Nat → Nat} {B : Int} {p : Int} {j : Int} (hZ : qa_St E Z σ.1) (hz : qa_Sb E) (hlo : E.1 ≤ c) (hI : qI c Z B σ) (hB9 : B ≤ 800000000) (hp : qa_in p) (hj : qa_in j) : qa_T E qm_C_pitchOf 4 24 [.ref c, .int (qa_i p), .int (qa_i j)] σ (jC E c Z (B + 13000) qm_M_pitchOf [.int (qa_i p), .int (qa_i j)] [0, 3] Value.int σ) := by
  obtain ⟨vi, vo, m, msn, mh, sp, ct, t, u, cs, n, f, sv, ps, ip, li, I⟩ := hI
  obtain ⟨⟨hc, hn0, hn1, hn4⟩, ⟨⟨rf, hS⟩, hk⟩, ⟨⟨rf2, hS2⟩, hk2⟩, hH, hX9, hR9, hO9, hv9⟩ := I.1
  have i3 := I.2.2.1
  obtain ⟨⟨ja1, ja2⟩, ⟨jb1, jb2⟩, jc1, jd1, ⟨je1, je2⟩, jg1, jg2, jg3⟩ := I.2.2.2
  have hlo7 : E.1 ≤ c + 277 := by omega
  have hsz : c + 277 ≤ σ.2 ∧ vi < σ.2 ∧ vo < σ.2 := by omega
  have h5 : 0 ≤ f 5 ∧ f 5 ≤ 8 := by have := hH.2.2.2.1; omega
  exact jQ I (c_C_pitchOf (E := E) hc hS hk hp hj ) (jr_pitch _ _ _) (fun τ2 hR2 => (c_M_pitchOf (E := E) hlo7 hR2.1.1 hR2.1.2 hk hp hj ).mono (fun o t h => h.Ms hR2))
theorem j_lengthOf {E : qa_V} {σ : qa_S} {c : Nat} {Z : Nat → Nat} {B : Int} {p : Int} {j : Int} (hZ : qa_St E Z σ.1) (hz : qa_Sb E) (hlo : E.1 ≤ c) (hI : qI c Z B σ) (hB9 : B ≤ 800000000) (hp : qa_in p) (hj : qa_in j) : qa_T E qm_C_lengthOf 4 24 [.ref c, .int (qa_i p), .int (qa_i j)] σ (jC E c Z (B + 13000) qm_M_lengthOf [.int (qa_i p), .int (qa_i j)] [0] Value.int σ) := by
  obtain ⟨vi, vo, m, msn, mh, sp, ct, t, u, cs, n, f, sv, ps, ip, li, I⟩ := hI
  obtain ⟨⟨hc, hn0, hn1, hn4⟩, ⟨⟨rf, hS⟩, hk⟩, ⟨⟨rf2, hS2⟩, hk2⟩, hH, hX9, hR9, hO9, hv9⟩ := I.1
  have i3 := I.2.2.1
  obtain ⟨⟨ja1, ja2⟩, ⟨jb1, jb2⟩, jc1, jd1, ⟨je1, je2⟩, jg1, jg2, jg3⟩ := I.2.2.2
  have hlo7 : E.1 ≤ c + 277 := by omega
  have hsz : c + 277 ≤ σ.2 ∧ vi < σ.2 ∧ vo < σ.2 := by omega
  have h5 : 0 ≤ f 5 ∧ f 5 ≤ 8 := by have := hH.2.2.2.1; omega
  exact jQ I (c_C_lengthOf (E := E) hc hS hk hp hj ) (jr_length _ _ _) (fun τ2 hR2 => (c_M_lengthOf (E := E) hlo7 hR2.1.1 hR2.1.2 hk hp hj ).mono (fun o t h => h.Ms hR2))
theorem j_partLength {E : qa_V} {σ : qa_S} {c : Nat} {Z : Nat → Nat} {B : Int} {p : Int} (hZ : qa_St E Z σ.1) (hz : qa_Sb E) (hlo : E.1 ≤ c) (hI : qI c Z B σ) (hB9 : B ≤ 800000000) (hp : qa_in p) : qa_T E qm_C_partLength 4 24 [.ref c, .int (qa_i p)] σ (jC E c Z (B + 13000) qm_M_partLength [.int (qa_i p)] [0] Value.int σ) := by
  obtain ⟨vi, vo, m, msn, mh, sp, ct, t, u, cs, n, f, sv, ps, ip, li, I⟩ := hI
  obtain ⟨⟨hc, hn0, hn1, hn4⟩, ⟨⟨rf, hS⟩, hk⟩, ⟨⟨rf2, hS2⟩, hk2⟩, hH, hX9, hR9, hO9, hv9⟩ := I.1
  have i3 := I.2.2.1
  obtain ⟨⟨ja1, ja2⟩, ⟨jb1, jb2⟩, jc1, jd1, ⟨je1, je2⟩, jg1, jg2, jg3⟩ := I.2.2.2
  have hlo7 : E.1 ≤ c + 277 := by omega
  have hsz : c + 277 ≤ σ.2 ∧ vi < σ.2 ∧ vo < σ.2 := by omega
  have h5 : 0 ≤ f 5 ∧ f 5 ≤ 8 := by have := hH.2.2.2.1; omega
  exact jQ I (c_C_partLength (E := E) hc hS hk hp ) (jr_whole _ _) (fun τ2 hR2 => (c_M_partLength (E := E) hlo7 hR2.1.1 hR2.1.2 hk hp ).mono (fun o t h => h.Ms hR2))
theorem j_noteAt {E : qa_V} {σ : qa_S} {c : Nat} {Z : Nat → Nat} {B : Int} {p : Int} {x : Int} (hZ : qa_St E Z σ.1) (hz : qa_Sb E) (hlo : E.1 ≤ c) (hI : qI c Z B σ) (hB9 : B ≤ 800000000) (hp : qa_in p) (hx : qa_in x) : qa_T E qm_C_noteAt 4 24 [.ref c, .int (qa_i p), .int (qa_i x)] σ (jC E c Z (B + 13000) qm_M_noteAt [.int (qa_i p), .int (qa_i x)] [0, 1, 3] Value.int σ) := by
  obtain ⟨vi, vo, m, msn, mh, sp, ct, t, u, cs, n, f, sv, ps, ip, li, I⟩ := hI
  obtain ⟨⟨hc, hn0, hn1, hn4⟩, ⟨⟨rf, hS⟩, hk⟩, ⟨⟨rf2, hS2⟩, hk2⟩, hH, hX9, hR9, hO9, hv9⟩ := I.1
  have i3 := I.2.2.1
  obtain ⟨⟨ja1, ja2⟩, ⟨jb1, jb2⟩, jc1, jd1, ⟨je1, je2⟩, jg1, jg2, jg3⟩ := I.2.2.2
  have hlo7 : E.1 ≤ c + 277 := by omega
  have hsz : c + 277 ≤ σ.2 ∧ vi < σ.2 ∧ vo < σ.2 := by omega
  have h5 : 0 ≤ f 5 ∧ f 5 ≤ 8 := by have := hH.2.2.2.1; omega
  exact jQ I (c_C_noteAt (E := E) hc hS hk hp hx ) (jr_noteAt _ _ _) (fun τ2 hR2 => (c_M_noteAt (E := E) hlo7 hR2.1.1 hR2.1.2 hk hp hx ).mono (fun o t h => h.Ms hR2))
theorem j_soundingAt {E : qa_V} {σ : qa_S} {c : Nat} {Z : Nat → Nat} {B : Int} {x : Int} (hZ : qa_St E Z σ.1) (hz : qa_Sb E) (hlo : E.1 ≤ c) (hI : qI c Z B σ) (hB9 : B ≤ 800000000) (hx : qa_in x) : qa_T E qm_C_soundingAt 4 24 [.ref c, .int (qa_i x)] σ (jC E c Z (B + 13000) qm_M_soundingAt [.int (qa_i x)] [1] Value.int σ) := by
  obtain ⟨vi, vo, m, msn, mh, sp, ct, t, u, cs, n, f, sv, ps, ip, li, I⟩ := hI
  obtain ⟨⟨hc, hn0, hn1, hn4⟩, ⟨⟨rf, hS⟩, hk⟩, ⟨⟨rf2, hS2⟩, hk2⟩, hH, hX9, hR9, hO9, hv9⟩ := I.1
  have i3 := I.2.2.1
  obtain ⟨⟨ja1, ja2⟩, ⟨jb1, jb2⟩, jc1, jd1, ⟨je1, je2⟩, jg1, jg2, jg3⟩ := I.2.2.2
  have hlo7 : E.1 ≤ c + 277 := by omega
  have hsz : c + 277 ≤ σ.2 ∧ vi < σ.2 ∧ vo < σ.2 := by omega
  have h5 : 0 ≤ f 5 ∧ f 5 ≤ 8 := by have := hH.2.2.2.1; omega
  exact jQ I (c_C_soundingAt (E := E) hc hS hk hx ) (jr_sound _ _) (fun τ2 hR2 => (c_M_soundingAt (E := E) hlo7 hR2.1.1 hR2.1.2 hk hx ).mono (fun o t h => h.Ms hR2))
theorem j_togetherAfter {E : qa_V} {σ : qa_S} {c : Nat} {Z : Nat → Nat} {B : Int} (hZ : qa_St E Z σ.1) (hz : qa_Sb E) (hlo : E.1 ≤ c) (hI : qI c Z B σ) (hB9 : B ≤ 800000000) : qa_T E qm_C_togetherAfter 4 24 [.ref c] σ (jC E c Z (B + 13000) qm_M_togetherAfter [] [3] Value.int σ) := by
  obtain ⟨vi, vo, m, msn, mh, sp, ct, t, u, cs, n, f, sv, ps, ip, li, I⟩ := hI
  obtain ⟨⟨hc, hn0, hn1, hn4⟩, ⟨⟨rf, hS⟩, hk⟩, ⟨⟨rf2, hS2⟩, hk2⟩, hH, hX9, hR9, hO9, hv9⟩ := I.1
  have i3 := I.2.2.1
  obtain ⟨⟨ja1, ja2⟩, ⟨jb1, jb2⟩, jc1, jd1, ⟨je1, je2⟩, jg1, jg2, jg3⟩ := I.2.2.2
  have hlo7 : E.1 ≤ c + 277 := by omega
  have hsz : c + 277 ≤ σ.2 ∧ vi < σ.2 ∧ vo < σ.2 := by omega
  have h5 : 0 ≤ f 5 ∧ f 5 ≤ 8 := by have := hH.2.2.2.1; omega
  exact jQ I (c_C_togetherAfter (E := E) hc hS hk  (by have := (sm_ts_tg hk).2; omega)) (jr_found _) (fun τ2 hR2 => (c_M_togetherAfter (E := E) hlo7 hR2.1.1 hR2.1.2 hk  ).mono (fun o t h => h.Ms hR2))
theorem j_togetherAfterBySteps {E : qa_V} {σ : qa_S} {c : Nat} {Z : Nat → Nat} {B : Int} (hZ : qa_St E Z σ.1) (hz : qa_Sb E) (hlo : E.1 ≤ c) (hI : qI c Z B σ) (hB9 : B ≤ 800000000) : qa_T E qm_C_togetherAfterBySteps 4 24 [.ref c] σ (jC E c Z (B + 13000) qm_M_togetherAfterBySteps [] [3] Value.int σ) := by
  obtain ⟨vi, vo, m, msn, mh, sp, ct, t, u, cs, n, f, sv, ps, ip, li, I⟩ := hI
  obtain ⟨⟨hc, hn0, hn1, hn4⟩, ⟨⟨rf, hS⟩, hk⟩, ⟨⟨rf2, hS2⟩, hk2⟩, hH, hX9, hR9, hO9, hv9⟩ := I.1
  have i3 := I.2.2.1
  obtain ⟨⟨ja1, ja2⟩, ⟨jb1, jb2⟩, jc1, jd1, ⟨je1, je2⟩, jg1, jg2, jg3⟩ := I.2.2.2
  have hlo7 : E.1 ≤ c + 277 := by omega
  have hsz : c + 277 ≤ σ.2 ∧ vi < σ.2 ∧ vo < σ.2 := by omega
  have h5 : 0 ≤ f 5 ∧ f 5 ≤ 8 := by have := hH.2.2.2.1; omega
  exact jQ I (c_C_togetherAfterBySteps (E := E) hc hS hk  (by have := sm_ts_tg hk; omega)) (jr_found _) (fun τ2 hR2 => by
      rw [(sm_ts_tg hk).1]
      exact (c_M_togetherAfterBySteps (E := E) hlo7 hR2.1.1 hR2.1.2 hk  ).mono (fun o t h => h.Ms hR2))
theorem j_tuningNumerator {E : qa_V} {σ : qa_S} {c : Nat} {Z : Nat → Nat} {B : Int} {p : Int} (hZ : qa_St E Z σ.1) (hz : qa_Sb E) (hlo : E.1 ≤ c) (hI : qI c Z B σ) (hB9 : B ≤ 800000000) (hp : qa_in p) : qa_T E qm_C_tuningNumerator 4 24 [.ref c, .int (qa_i p)] σ (jC E c Z (B + 13000) qm_M_tuningNumerator [.int (qa_i p)] [0] Value.int σ) := by
  obtain ⟨vi, vo, m, msn, mh, sp, ct, t, u, cs, n, f, sv, ps, ip, li, I⟩ := hI
  obtain ⟨⟨hc, hn0, hn1, hn4⟩, ⟨⟨rf, hS⟩, hk⟩, ⟨⟨rf2, hS2⟩, hk2⟩, hH, hX9, hR9, hO9, hv9⟩ := I.1
  have i3 := I.2.2.1
  obtain ⟨⟨ja1, ja2⟩, ⟨jb1, jb2⟩, jc1, jd1, ⟨je1, je2⟩, jg1, jg2, jg3⟩ := I.2.2.2
  have hlo7 : E.1 ≤ c + 277 := by omega
  have hsz : c + 277 ≤ σ.2 ∧ vi < σ.2 ∧ vo < σ.2 := by omega
  have h5 : 0 ≤ f 5 ∧ f 5 ≤ 8 := by have := hH.2.2.2.1; omega
  exact jQ I (c_C_tuningNumerator (E := E) hc hS hk hp ) (jr_of _ _ _) (fun τ2 hR2 => (c_M_tuningNumerator (E := E) hlo7 hR2.1.1 hR2.1.2 hk hp ).mono (fun o t h => h.Ms hR2))
theorem j_tuningDenominator {E : qa_V} {σ : qa_S} {c : Nat} {Z : Nat → Nat} {B : Int} {p : Int} (hZ : qa_St E Z σ.1) (hz : qa_Sb E) (hlo : E.1 ≤ c) (hI : qI c Z B σ) (hB9 : B ≤ 800000000) (hp : qa_in p) : qa_T E qm_C_tuningDenominator 4 24 [.ref c, .int (qa_i p)] σ (jC E c Z (B + 13000) qm_M_tuningDenominator [.int (qa_i p)] [0] Value.int σ) := by
  obtain ⟨vi, vo, m, msn, mh, sp, ct, t, u, cs, n, f, sv, ps, ip, li, I⟩ := hI
  obtain ⟨⟨hc, hn0, hn1, hn4⟩, ⟨⟨rf, hS⟩, hk⟩, ⟨⟨rf2, hS2⟩, hk2⟩, hH, hX9, hR9, hO9, hv9⟩ := I.1
  have i3 := I.2.2.1
  obtain ⟨⟨ja1, ja2⟩, ⟨jb1, jb2⟩, jc1, jd1, ⟨je1, je2⟩, jg1, jg2, jg3⟩ := I.2.2.2
  have hlo7 : E.1 ≤ c + 277 := by omega
  have hsz : c + 277 ≤ σ.2 ∧ vi < σ.2 ∧ vo < σ.2 := by omega
  have h5 : 0 ≤ f 5 ∧ f 5 ≤ 8 := by have := hH.2.2.2.1; omega
  exact jQ I (c_C_tuningDenominator (E := E) hc hS hk hp ) (jr_of _ _ _) (fun τ2 hR2 => (c_M_tuningDenominator (E := E) hlo7 hR2.1.1 hR2.1.2 hk hp ).mono (fun o t h => h.Ms hR2))
theorem j_soundedTicks {E : qa_V} {σ : qa_S} {c : Nat} {Z : Nat → Nat} {B : Int} {p : Int} (hZ : qa_St E Z σ.1) (hz : qa_Sb E) (hlo : E.1 ≤ c) (hI : qI c Z B σ) (hB9 : B ≤ 800000000) (hp : qa_in p) : qa_T E qm_C_soundedTicks 4 24 [.ref c, .int (qa_i p)] σ (jC E c Z (B + 13000) qm_M_soundedTicks [.int (qa_i p)] [0] Value.int σ) := by
  obtain ⟨vi, vo, m, msn, mh, sp, ct, t, u, cs, n, f, sv, ps, ip, li, I⟩ := hI
  obtain ⟨⟨hc, hn0, hn1, hn4⟩, ⟨⟨rf, hS⟩, hk⟩, ⟨⟨rf2, hS2⟩, hk2⟩, hH, hX9, hR9, hO9, hv9⟩ := I.1
  have i3 := I.2.2.1
  obtain ⟨⟨ja1, ja2⟩, ⟨jb1, jb2⟩, jc1, jd1, ⟨je1, je2⟩, jg1, jg2, jg3⟩ := I.2.2.2
  have hlo7 : E.1 ≤ c + 277 := by omega
  have hsz : c + 277 ≤ σ.2 ∧ vi < σ.2 ∧ vo < σ.2 := by omega
  have h5 : 0 ≤ f 5 ∧ f 5 ≤ 8 := by have := hH.2.2.2.1; omega
  exact jQ I (c_C_soundedTicks (E := E) hc hS hk hp ) (jr_of _ _ _) (fun τ2 hR2 => (c_M_soundedTicks (E := E) hlo7 hR2.1.1 hR2.1.2 hk hp ).mono (fun o t h => h.Ms hR2))
theorem j_soloTicks {E : qa_V} {σ : qa_S} {c : Nat} {Z : Nat → Nat} {B : Int} {p : Int} (hZ : qa_St E Z σ.1) (hz : qa_Sb E) (hlo : E.1 ≤ c) (hI : qI c Z B σ) (hB9 : B ≤ 800000000) (hp : qa_in p) : qa_T E qm_C_soloTicks 4 24 [.ref c, .int (qa_i p)] σ (jC E c Z (B + 13000) qm_M_soloTicks [.int (qa_i p)] [0] Value.int σ) := by
  obtain ⟨vi, vo, m, msn, mh, sp, ct, t, u, cs, n, f, sv, ps, ip, li, I⟩ := hI
  obtain ⟨⟨hc, hn0, hn1, hn4⟩, ⟨⟨rf, hS⟩, hk⟩, ⟨⟨rf2, hS2⟩, hk2⟩, hH, hX9, hR9, hO9, hv9⟩ := I.1
  have i3 := I.2.2.1
  obtain ⟨⟨ja1, ja2⟩, ⟨jb1, jb2⟩, jc1, jd1, ⟨je1, je2⟩, jg1, jg2, jg3⟩ := I.2.2.2
  have hlo7 : E.1 ≤ c + 277 := by omega
  have hsz : c + 277 ≤ σ.2 ∧ vi < σ.2 ∧ vo < σ.2 := by omega
  have h5 : 0 ≤ f 5 ∧ f 5 ≤ 8 := by have := hH.2.2.2.1; omega
  exact jQ I (c_C_soloTicks (E := E) hc hS hk hp ) (jr_of _ _ _) (fun τ2 hR2 => (c_M_soloTicks (E := E) hlo7 hR2.1.1 hR2.1.2 hk hp ).mono (fun o t h => h.Ms hR2))
theorem j_partByTuning {E : qa_V} {σ : qa_S} {c : Nat} {Z : Nat → Nat} {B : Int} {x : Int} (hZ : qa_St E Z σ.1) (hz : qa_Sb E) (hlo : E.1 ≤ c) (hI : qI c Z B σ) (hB9 : B ≤ 800000000) (hx : qa_in x) : qa_T E qm_C_partByTuning 4 24 [.ref c, .int (qa_i x)] σ (jC E c Z (B + 13000) qm_M_partByTuning [.int (qa_i x)] [3] Value.int σ) := by
  obtain ⟨vi, vo, m, msn, mh, sp, ct, t, u, cs, n, f, sv, ps, ip, li, I⟩ := hI
  obtain ⟨⟨hc, hn0, hn1, hn4⟩, ⟨⟨rf, hS⟩, hk⟩, ⟨⟨rf2, hS2⟩, hk2⟩, hH, hX9, hR9, hO9, hv9⟩ := I.1
  have i3 := I.2.2.1
  obtain ⟨⟨ja1, ja2⟩, ⟨jb1, jb2⟩, jc1, jd1, ⟨je1, je2⟩, jg1, jg2, jg3⟩ := I.2.2.2
  have hlo7 : E.1 ≤ c + 277 := by omega
  have hsz : c + 277 ≤ σ.2 ∧ vi < σ.2 ∧ vo < σ.2 := by omega
  have h5 : 0 ≤ f 5 ∧ f 5 ≤ 8 := by have := hH.2.2.2.1; omega
  exact jQ I (c_C_partByTuning (E := E) hc hS hk hx ) (jr_found _) (fun τ2 hR2 => (c_M_partByTuning (E := E) hlo7 hR2.1.1 hR2.1.2 hk hx ).mono (fun o t h => h.Ms hR2))
theorem j_cueOf {E : qa_V} {σ : qa_S} {c : Nat} {Z : Nat → Nat} {B : Int} {p : Int} (hZ : qa_St E Z σ.1) (hz : qa_Sb E) (hlo : E.1 ≤ c) (hI : qI c Z B σ) (hB9 : B ≤ 800000000) (hp : qa_in p) : qa_T E qm_C_cueOf 4 24 [.ref c, .int (qa_i p)] σ (jC E c Z (B + 13000) qm_M_cueOf [.int (qa_i p)] [0, 3] Value.int σ) := by
  obtain ⟨vi, vo, m, msn, mh, sp, ct, t, u, cs, n, f, sv, ps, ip, li, I⟩ := hI
  obtain ⟨⟨hc, hn0, hn1, hn4⟩, ⟨⟨rf, hS⟩, hk⟩, ⟨⟨rf2, hS2⟩, hk2⟩, hH, hX9, hR9, hO9, hv9⟩ := I.1
  have i3 := I.2.2.1
  obtain ⟨⟨ja1, ja2⟩, ⟨jb1, jb2⟩, jc1, jd1, ⟨je1, je2⟩, jg1, jg2, jg3⟩ := I.2.2.2
  have hlo7 : E.1 ≤ c + 277 := by omega
  have hsz : c + 277 ≤ σ.2 ∧ vi < σ.2 ∧ vo < σ.2 := by omega
  have h5 : 0 ≤ f 5 ∧ f 5 ≤ 8 := by have := hH.2.2.2.1; omega
  exact jQ I (c_C_cueOf (E := E) hc hS hk hp ) (jr_foundP _ _ _) (fun τ2 hR2 => (c_M_cueOf (E := E) hlo7 hR2.1.1 hR2.1.2 hk hp ).mono (fun o t h => h.Ms hR2))
theorem j_cueDepth {E : qa_V} {σ : qa_S} {c : Nat} {Z : Nat → Nat} {B : Int} {p : Int} (hZ : qa_St E Z σ.1) (hz : qa_Sb E) (hlo : E.1 ≤ c) (hI : qI c Z B σ) (hB9 : B ≤ 800000000) (hp : qa_in p) : qa_T E qm_C_cueDepth 4 24 [.ref c, .int (qa_i p)] σ (jC E c Z (B + 13000) qm_M_cueDepth [.int (qa_i p)] [0, 3] Value.int σ) := by
  obtain ⟨vi, vo, m, msn, mh, sp, ct, t, u, cs, n, f, sv, ps, ip, li, I⟩ := hI
  obtain ⟨⟨hc, hn0, hn1, hn4⟩, ⟨⟨rf, hS⟩, hk⟩, ⟨⟨rf2, hS2⟩, hk2⟩, hH, hX9, hR9, hO9, hv9⟩ := I.1
  have i3 := I.2.2.1
  obtain ⟨⟨ja1, ja2⟩, ⟨jb1, jb2⟩, jc1, jd1, ⟨je1, je2⟩, jg1, jg2, jg3⟩ := I.2.2.2
  have hlo7 : E.1 ≤ c + 277 := by omega
  have hsz : c + 277 ≤ σ.2 ∧ vi < σ.2 ∧ vo < σ.2 := by omega
  have h5 : 0 ≤ f 5 ∧ f 5 ≤ 8 := by have := hH.2.2.2.1; omega
  have e9 : fo_foundP m p (sp_dp (sm_src m) 5 p 0) = fo_cd m p (sp_md (sm_src m) 6 p 0) := by
      by_cases h1 : sm_is m p
      · exact ((sq_m hk h1).1).symm
      · unfold fo_foundP fo_cd; rw [if_neg h1, if_neg h1]
  refine jQ I (c_C_cueDepth (E := E) hc hS hk hp ) (jr_foundP _ _ _) (fun τ2 hR2 => ?_)
  rw [e9]
  exact (c_M_cueDepth (E := E) hlo7 hR2.1.1 hR2.1.2 hk hp ).mono (fun o t h => h.Ms hR2)
theorem j_circleLength {E : qa_V} {σ : qa_S} {c : Nat} {Z : Nat → Nat} {B : Int} {p : Int} (hZ : qa_St E Z σ.1) (hz : qa_Sb E) (hlo : E.1 ≤ c) (hI : qI c Z B σ) (hB9 : B ≤ 800000000) (hp : qa_in p) : qa_T E qm_C_circleLength 4 24 [.ref c, .int (qa_i p)] σ (jC E c Z (B + 13000) qm_M_circleLength [.int (qa_i p)] [0] Value.int σ) := by
  obtain ⟨vi, vo, m, msn, mh, sp, ct, t, u, cs, n, f, sv, ps, ip, li, I⟩ := hI
  obtain ⟨⟨hc, hn0, hn1, hn4⟩, ⟨⟨rf, hS⟩, hk⟩, ⟨⟨rf2, hS2⟩, hk2⟩, hH, hX9, hR9, hO9, hv9⟩ := I.1
  have i3 := I.2.2.1
  obtain ⟨⟨ja1, ja2⟩, ⟨jb1, jb2⟩, jc1, jd1, ⟨je1, je2⟩, jg1, jg2, jg3⟩ := I.2.2.2
  have hlo7 : E.1 ≤ c + 277 := by omega
  have hsz : c + 277 ≤ σ.2 ∧ vi < σ.2 ∧ vo < σ.2 := by omega
  have h5 : 0 ≤ f 5 ∧ f 5 ≤ 8 := by have := hH.2.2.2.1; omega
  have e9 : fo_of m p (sp_ts (sm_src m) 10 p p) = fo_of m p (sp_mc (sm_src m) 5 p) := fo_of_e fun h => (sq_m hk h).2.1
  refine jQ I (c_C_circleLength (E := E) hc hS hk hp ) (jr_of _ _ _) (fun τ2 hR2 => ?_)
  rw [e9]
  exact (c_M_circleLength (E := E) hlo7 hR2.1.1 hR2.1.2 hk hp (fun h => (sq_m hk h).2.2.2.1)).mono (fun o t h => h.Ms hR2)
theorem j_nearestDenominator {E : qa_V} {σ : qa_S} {c : Nat} {Z : Nat → Nat} {B : Int} {p : Int} {x : Int} (hZ : qa_St E Z σ.1) (hz : qa_Sb E) (hlo : E.1 ≤ c) (hI : qI c Z B σ) (hB9 : B ≤ 800000000) (hp : qa_in p) (hx : qa_in x) : qa_T E qm_C_nearestDenominator 4 24 [.ref c, .int (qa_i p), .int (qa_i x)] σ (jC E c Z (B + 13000) qm_M_nearestDenominator [.int (qa_i p), .int (qa_i x)] [0, 1] Value.int σ) := by
  obtain ⟨vi, vo, m, msn, mh, sp, ct, t, u, cs, n, f, sv, ps, ip, li, I⟩ := hI
  obtain ⟨⟨hc, hn0, hn1, hn4⟩, ⟨⟨rf, hS⟩, hk⟩, ⟨⟨rf2, hS2⟩, hk2⟩, hH, hX9, hR9, hO9, hv9⟩ := I.1
  have i3 := I.2.2.1
  obtain ⟨⟨ja1, ja2⟩, ⟨jb1, jb2⟩, jc1, jd1, ⟨je1, je2⟩, jg1, jg2, jg3⟩ := I.2.2.2
  have hlo7 : E.1 ≤ c + 277 := by omega
  have hsz : c + 277 ≤ σ.2 ∧ vi < σ.2 ∧ vo < σ.2 := by omega
  have h5 : 0 ≤ f 5 ∧ f 5 ≤ 8 := by have := hH.2.2.2.1; omega
  have e9 : fo_near m p x (sp_dn (m (5 + 26 * p)) (m (6 + 26 * p)) x) = fo_near m p x (sp_nm (m (5 + 26 * p)) (m (6 + 26 * p)) (f 16) (f 17) (2 * x.toNat)).2.2 := fo_near_e fun h hx9 => by
      have k5 := hk.2.2.2.2.2.1 p h.1 h.2
      rw [sp_nm_tn (by omega) (by omega) hx9]
  refine jQ I (c_C_nearestDenominator (E := E) hc hS hk hp hx ) (jr_near _ _ _ _) (fun τ2 hR2 => ?_)
  rw [e9]
  exact (c_M_nearestDenominator (E := E) hlo7 hR2 hk hp hx )
theorem j_nearestDenominatorByTrying {E : qa_V} {σ : qa_S} {c : Nat} {Z : Nat → Nat} {B : Int} {p : Int} {x : Int} (hZ : qa_St E Z σ.1) (hz : qa_Sb E) (hlo : E.1 ≤ c) (hI : qI c Z B σ) (hB9 : B ≤ 800000000) (hp : qa_in p) (hx : qa_in x) : qa_T E qm_C_nearestDenominatorByTrying 4 24 [.ref c, .int (qa_i p), .int (qa_i x)] σ (jC E c Z (B + 13000) qm_M_nearestDenominatorByTrying [.int (qa_i p), .int (qa_i x)] [0, 1] Value.int σ) := by
  obtain ⟨vi, vo, m, msn, mh, sp, ct, t, u, cs, n, f, sv, ps, ip, li, I⟩ := hI
  obtain ⟨⟨hc, hn0, hn1, hn4⟩, ⟨⟨rf, hS⟩, hk⟩, ⟨⟨rf2, hS2⟩, hk2⟩, hH, hX9, hR9, hO9, hv9⟩ := I.1
  have i3 := I.2.2.1
  obtain ⟨⟨ja1, ja2⟩, ⟨jb1, jb2⟩, jc1, jd1, ⟨je1, je2⟩, jg1, jg2, jg3⟩ := I.2.2.2
  have hlo7 : E.1 ≤ c + 277 := by omega
  have hsz : c + 277 ≤ σ.2 ∧ vi < σ.2 ∧ vo < σ.2 := by omega
  have h5 : 0 ≤ f 5 ∧ f 5 ≤ 8 := by have := hH.2.2.2.1; omega
  have e9 : fo_near m p x (sp_tn (m (5 + 26 * p)) (m (6 + 26 * p)) x) = fo_near m p x (sp_nm (m (5 + 26 * p)) (m (6 + 26 * p)) (f 16) (f 17) (2 * x.toNat)).2.2 := fo_near_e fun h hx9 => by
      have k5 := hk.2.2.2.2.2.1 p h.1 h.2
      rw [sp_nm_tn (by omega) (by omega) hx9, (sp_dn_tn (by omega) (by omega) hx9).1]
  refine jQ I (c_C_nearestDenominatorByTrying (E := E) hc hS hk hp hx ) (jr_near _ _ _ _) (fun τ2 hR2 => ?_)
  rw [e9]
  exact (c_M_nearestDenominatorByTrying (E := E) hlo7 hR2 hk hp hx )
theorem j_nearestNumerator {E : qa_V} {σ : qa_S} {c : Nat} {Z : Nat → Nat} {B : Int} {p : Int} {x : Int} (hZ : qa_St E Z σ.1) (hz : qa_Sb E) (hlo : E.1 ≤ c) (hI : qI c Z B σ) (hB9 : B ≤ 800000000) (hp : qa_in p) (hx : qa_in x) : qa_T E qm_C_nearestNumerator 4 24 [.ref c, .int (qa_i p), .int (qa_i x)] σ (jC E c Z (B + 13000) qm_M_nearestNumerator [.int (qa_i p), .int (qa_i x)] [0, 1] Value.int σ) := by
  obtain ⟨vi, vo, m, msn, mh, sp, ct, t, u, cs, n, f, sv, ps, ip, li, I⟩ := hI
  obtain ⟨⟨hc, hn0, hn1, hn4⟩, ⟨⟨rf, hS⟩, hk⟩, ⟨⟨rf2, hS2⟩, hk2⟩, hH, hX9, hR9, hO9, hv9⟩ := I.1
  have i3 := I.2.2.1
  obtain ⟨⟨ja1, ja2⟩, ⟨jb1, jb2⟩, jc1, jd1, ⟨je1, je2⟩, jg1, jg2, jg3⟩ := I.2.2.2
  have hlo7 : E.1 ≤ c + 277 := by omega
  have hsz : c + 277 ≤ σ.2 ∧ vi < σ.2 ∧ vo < σ.2 := by omega
  have h5 : 0 ≤ f 5 ∧ f 5 ≤ 8 := by have := hH.2.2.2.1; omega
  have e9 : fo_near m p x (sp_no (sp_dn (m (5 + 26 * p)) (m (6 + 26 * p)) x) (m (5 + 26 * p)) (m (6 + 26 * p))) = fo_near m p x (sp_nm (m (5 + 26 * p)) (m (6 + 26 * p)) (f 16) (f 17) (2 * x.toNat)).2.1 := fo_near_e fun h hx9 => by
      have k5 := hk.2.2.2.2.2.1 p h.1 h.2
      rw [sp_nm_tn (by omega) (by omega) hx9]
  refine jQ I (c_C_nearestNumerator (E := E) hc hS hk hp hx (fun p x hp9 hx9 => by have k5 := hk.2.2.2.2.2.1 p hp9.1 hp9.2; have := sp_dn_tn (u := m (5 + 26 * p)) (d := m (6 + 26 * p)) (by omega) (by omega) hx9; omega)) (jr_near _ _ _ _) (fun τ2 hR2 => ?_)
  rw [e9]
  exact (c_M_nearestNumerator (E := E) hlo7 hR2 hk hp hx )
theorem j_intervalNumerator {E : qa_V} {σ : qa_S} {c : Nat} {Z : Nat → Nat} {B : Int} {p : Int} {q : Int} (hZ : qa_St E Z σ.1) (hz : qa_Sb E) (hlo : E.1 ≤ c) (hI : qI c Z B σ) (hB9 : B ≤ 800000000) (hp : qa_in p) (hq : qa_in q) : qa_T E qm_C_intervalNumerator 4 24 [.ref c, .int (qa_i p), .int (qa_i q)] σ (jC E c Z (B + 13000) qm_M_intervalNumerator [.int (qa_i p), .int (qa_i q)] [0] Value.int σ) := by
  obtain ⟨vi, vo, m, msn, mh, sp, ct, t, u, cs, n, f, sv, ps, ip, li, I⟩ := hI
  obtain ⟨⟨hc, hn0, hn1, hn4⟩, ⟨⟨rf, hS⟩, hk⟩, ⟨⟨rf2, hS2⟩, hk2⟩, hH, hX9, hR9, hO9, hv9⟩ := I.1
  have i3 := I.2.2.1
  obtain ⟨⟨ja1, ja2⟩, ⟨jb1, jb2⟩, jc1, jd1, ⟨je1, je2⟩, jg1, jg2, jg3⟩ := I.2.2.2
  have hlo7 : E.1 ≤ c + 277 := by omega
  have hsz : c + 277 ≤ σ.2 ∧ vi < σ.2 ∧ vo < σ.2 := by omega
  have h5 : 0 ≤ f 5 ∧ f 5 ≤ 8 := by have := hH.2.2.2.1; omega
  exact jQ I (c_C_intervalNumerator (E := E) hc hS hk hp hq ) (jr_of2 _ _ _ _) (fun τ2 hR2 => (c_M_intervalNumerator (E := E) hlo7 hR2.1.1 hR2.1.2 hk hp hq ).mono (fun o t h => h.Ms hR2))
theorem j_intervalDenominator {E : qa_V} {σ : qa_S} {c : Nat} {Z : Nat → Nat} {B : Int} {p : Int} {q : Int} (hZ : qa_St E Z σ.1) (hz : qa_Sb E) (hlo : E.1 ≤ c) (hI : qI c Z B σ) (hB9 : B ≤ 800000000) (hp : qa_in p) (hq : qa_in q) : qa_T E qm_C_intervalDenominator 4 24 [.ref c, .int (qa_i p), .int (qa_i q)] σ (jC E c Z (B + 13000) qm_M_intervalDenominator [.int (qa_i p), .int (qa_i q)] [0] Value.int σ) := by
  obtain ⟨vi, vo, m, msn, mh, sp, ct, t, u, cs, n, f, sv, ps, ip, li, I⟩ := hI
  obtain ⟨⟨hc, hn0, hn1, hn4⟩, ⟨⟨rf, hS⟩, hk⟩, ⟨⟨rf2, hS2⟩, hk2⟩, hH, hX9, hR9, hO9, hv9⟩ := I.1
  have i3 := I.2.2.1
  obtain ⟨⟨ja1, ja2⟩, ⟨jb1, jb2⟩, jc1, jd1, ⟨je1, je2⟩, jg1, jg2, jg3⟩ := I.2.2.2
  have hlo7 : E.1 ≤ c + 277 := by omega
  have hsz : c + 277 ≤ σ.2 ∧ vi < σ.2 ∧ vo < σ.2 := by omega
  have h5 : 0 ≤ f 5 ∧ f 5 ≤ 8 := by have := hH.2.2.2.1; omega
  have e9 : fo_of2 m p q (m (6 + 26 * p) * m (5 + 26 * q) / sp_gd 64 (m (6 + 26 * p) * m (5 + 26 * q)) (m (5 + 26 * p) * m (6 + 26 * q))) = fo_of2 m p q ((if (0 : Int) = 1 then (m (5 + 26 * p) * m (6 + 26 * q)) else (m (6 + 26 * p) * m (5 + 26 * q))) / sp_gd 64 (m (5 + 26 * p) * m (6 + 26 * q)) (m (6 + 26 * p) * m (5 + 26 * q))) := fo_of2_e fun h h2 => by
      have k5 := hk.2.2.2.2.2.1 p h.1 h.2
      have k6 := hk.2.2.2.2.2.1 q h2.1 h2.2
      have b1 : 0 ≤ m (6 + 26 * p) * m (5 + 26 * q) ∧ m (6 + 26 * p) * m (5 + 26 * q) < 2147483648 := ⟨Int.mul_nonneg (by omega) (by omega), Int.lt_of_le_of_lt (Int.mul_le_mul (show m (6 + 26 * p) ≤ 99 by omega) (show m (5 + 26 * q) ≤ 99 by omega) (by omega) (by omega)) (by decide)⟩
      have b2 : 0 ≤ m (5 + 26 * p) * m (6 + 26 * q) ∧ m (5 + 26 * p) * m (6 + 26 * q) < 2147483648 := ⟨Int.mul_nonneg (by omega) (by omega), Int.lt_of_le_of_lt (Int.mul_le_mul (show m (5 + 26 * p) ≤ 99 by omega) (show m (6 + 26 * q) ≤ 99 by omega) (by omega) (by omega)) (by decide)⟩
      rw [if_neg (by decide), sp_gd_all b1.1 b2.1 b2.2, sp_gd_all b2.1 b1.1 b1.2, Int.gcd_comm]
  refine jQ I (c_C_intervalDenominator (E := E) hc hS hk hp hq ) (jr_of2 _ _ _ _) (fun τ2 hR2 => ?_)
  rw [e9]
  exact (c_M_intervalDenominator (E := E) hlo7 hR2.1.1 hR2.1.2 hk hp hq ).mono (fun o t h => h.Ms hR2)
theorem j_barsOf {E : qa_V} {σ : qa_S} {c : Nat} {Z : Nat → Nat} {B : Int} {p : Int} (hZ : qa_St E Z σ.1) (hz : qa_Sb E) (hlo : E.1 ≤ c) (hI : qI c Z B σ) (hB9 : B ≤ 800000000) (hp : qa_in p) : qa_T E qm_C_barsOf 4 24 [.ref c, .int (qa_i p)] σ (jC E c Z (B + 13000) qm_M_barsOf [.int (qa_i p)] [0, 3] Value.int σ) := by
  obtain ⟨vi, vo, m, msn, mh, sp, ct, t, u, cs, n, f, sv, ps, ip, li, I⟩ := hI
  obtain ⟨⟨hc, hn0, hn1, hn4⟩, ⟨⟨rf, hS⟩, hk⟩, ⟨⟨rf2, hS2⟩, hk2⟩, hH, hX9, hR9, hO9, hv9⟩ := I.1
  have i3 := I.2.2.1
  obtain ⟨⟨ja1, ja2⟩, ⟨jb1, jb2⟩, jc1, jd1, ⟨je1, je2⟩, jg1, jg2, jg3⟩ := I.2.2.2
  have hlo7 : E.1 ≤ c + 277 := by omega
  have hsz : c + 277 ≤ σ.2 ∧ vi < σ.2 ∧ vo < σ.2 := by omega
  have h5 : 0 ≤ f 5 ∧ f 5 ≤ 8 := by have := hH.2.2.2.1; omega
  exact jQ I (c_C_barsOf (E := E) hc hS hk hp ) (jr_foundP _ _ _) (fun τ2 hR2 => (c_M_barsOf (E := E) hlo7 hR2.1.1 hR2.1.2 hk hp ).mono (fun o t h => h.Ms hR2))
theorem j_tempoAt {E : qa_V} {σ : qa_S} {c : Nat} {Z : Nat → Nat} {B : Int} {x : Int} (hZ : qa_St E Z σ.1) (hz : qa_Sb E) (hlo : E.1 ≤ c) (hI : qI c Z B σ) (hB9 : B ≤ 800000000) (hx : qa_in x) : qa_T E qm_C_tempoAt 4 24 [.ref c, .int (qa_i x)] σ (jC E c Z (B + 13000) qm_M_tempoAt [.int (qa_i x)] [1] Value.int σ) := by
  obtain ⟨vi, vo, m, msn, mh, sp, ct, t, u, cs, n, f, sv, ps, ip, li, I⟩ := hI
  obtain ⟨⟨hc, hn0, hn1, hn4⟩, ⟨⟨rf, hS⟩, hk⟩, ⟨⟨rf2, hS2⟩, hk2⟩, hH, hX9, hR9, hO9, hv9⟩ := I.1
  have i3 := I.2.2.1
  obtain ⟨⟨ja1, ja2⟩, ⟨jb1, jb2⟩, jc1, jd1, ⟨je1, je2⟩, jg1, jg2, jg3⟩ := I.2.2.2
  have hlo7 : E.1 ≤ c + 277 := by omega
  have hsz : c + 277 ≤ σ.2 ∧ vi < σ.2 ∧ vo < σ.2 := by omega
  have h5 : 0 ≤ f 5 ∧ f 5 ≤ 8 := by have := hH.2.2.2.1; omega
  exact jQ I (c_C_tempoAt (E := E) hc hS hk hx ) (jr_rng _ _ _ _) (fun τ2 hR2 => (c_M_tempoAt (E := E) hlo7 hR2.1.1 hR2.1.2 hk hx ).mono (fun o t h => h.Ms hR2))
theorem j_solosAhead {E : qa_V} {σ : qa_S} {c : Nat} {Z : Nat → Nat} {B : Int} {x : Int} (hZ : qa_St E Z σ.1) (hz : qa_Sb E) (hlo : E.1 ≤ c) (hI : qI c Z B σ) (hB9 : B ≤ 800000000) (hx : qa_in x) : qa_T E qm_C_solosAhead 4 24 [.ref c, .int (qa_i x)] σ (jC E c Z (B + 13000) qm_M_solosAhead [.int (qa_i x)] [1] Value.int σ) := by
  obtain ⟨vi, vo, m, msn, mh, sp, ct, t, u, cs, n, f, sv, ps, ip, li, I⟩ := hI
  obtain ⟨⟨hc, hn0, hn1, hn4⟩, ⟨⟨rf, hS⟩, hk⟩, ⟨⟨rf2, hS2⟩, hk2⟩, hH, hX9, hR9, hO9, hv9⟩ := I.1
  have i3 := I.2.2.1
  obtain ⟨⟨ja1, ja2⟩, ⟨jb1, jb2⟩, jc1, jd1, ⟨je1, je2⟩, jg1, jg2, jg3⟩ := I.2.2.2
  have hlo7 : E.1 ≤ c + 277 := by omega
  have hsz : c + 277 ≤ σ.2 ∧ vi < σ.2 ∧ vo < σ.2 := by omega
  have h5 : 0 ≤ f 5 ∧ f 5 ≤ 8 := by have := hH.2.2.2.1; omega
  exact jQ I (c_C_solosAhead (E := E) hc hS hk hx (by omega)) (jr_rng _ _ _ _) (fun τ2 hR2 => (c_M_solosAhead (E := E) hlo7 hR2.1.1 hR2.1.2 hk hx (by omega)).mono (fun o t h => h.Ms hR2))
theorem j_restShareBits {E : qa_V} {σ : qa_S} {c : Nat} {Z : Nat → Nat} {B : Int} {p : Int} (hZ : qa_St E Z σ.1) (hz : qa_Sb E) (hlo : E.1 ≤ c) (hI : qI c Z B σ) (hB9 : B ≤ 800000000) (hp : qa_in p) : qa_T E qm_C_restShareBits 4 24 [.ref c, .int (qa_i p)] σ (jC E c Z (B + 13000) qm_M_restShareBits [.int (qa_i p)] [0, 4] Value.int σ) := by
  obtain ⟨vi, vo, m, msn, mh, sp, ct, t, u, cs, n, f, sv, ps, ip, li, I⟩ := hI
  obtain ⟨⟨hc, hn0, hn1, hn4⟩, ⟨⟨rf, hS⟩, hk⟩, ⟨⟨rf2, hS2⟩, hk2⟩, hH, hX9, hR9, hO9, hv9⟩ := I.1
  have i3 := I.2.2.1
  obtain ⟨⟨ja1, ja2⟩, ⟨jb1, jb2⟩, jc1, jd1, ⟨je1, je2⟩, jg1, jg2, jg3⟩ := I.2.2.2
  have hlo7 : E.1 ≤ c + 277 := by omega
  have hsz : c + 277 ≤ σ.2 ∧ vi < σ.2 ∧ vo < σ.2 := by omega
  have h5 : 0 ≤ f 5 ∧ f 5 ≤ 8 := by have := hH.2.2.2.1; omega
  have hb9 := fo_rk_b m p
  exact jQ (r := (fo_rk m p, sm_rb m p)) I (c_C_restShareBits (E := E) hc hS hk hp) (by show 0 ≤ fo_rk m p ∧ fo_rk m p ≤ 2; omega) (fun τ2 hR2 => (c_M_restShareBits (E := E) hlo7 hR2.1.1 hR2.1.2 hk hp).mono (fun o t h => h.Ms hR2))
theorem j_period {E : qa_V} {σ : qa_S} {c : Nat} {Z : Nat → Nat} {B : Int} {p : Int} (hZ : qa_St E Z σ.1) (hz : qa_Sb E) (hlo : E.1 ≤ c) (hI : qI c Z B σ) (hB9 : B ≤ 800000000) (hp : qa_in p) : qa_T E qm_C_period 4 24 [.ref c, .int (qa_i p)] σ (jC E c Z (B + 13000) qm_M_period [.int (qa_i p)] [0, 3] Value.int σ) := by
  obtain ⟨vi, vo, m, msn, mh, sp, ct, t, u, cs, n, f, sv, ps, ip, li, I⟩ := hI
  obtain ⟨⟨hc, hn0, hn1, hn4⟩, ⟨⟨rf, hS⟩, hk⟩, ⟨⟨rf2, hS2⟩, hk2⟩, hH, hX9, hR9, hO9, hv9⟩ := I.1
  have i3 := I.2.2.1
  obtain ⟨⟨ja1, ja2⟩, ⟨jb1, jb2⟩, jc1, jd1, ⟨je1, je2⟩, jg1, jg2, jg3⟩ := I.2.2.2
  have hlo7 : E.1 ≤ c + 277 := by omega
  have hsz : c + 277 ≤ σ.2 ∧ vi < σ.2 ∧ vo < σ.2 := by omega
  have h5 : 0 ≤ f 5 ∧ f 5 ≤ 8 := by have := hH.2.2.2.1; omega
  exact jQ0 I (c_C_period (E := E) hZ hz hlo I.1 hsz (by omega) hp) (fun o τ h => h) (jr_per _ _ _) (fun τ2 hR2 => (c_M_period (E := E) hlo7 hR2.1.1 hR2.1.2 hk hp).mono (fun o t h => h.Ms hR2))
theorem j_periodByTrying {E : qa_V} {σ : qa_S} {c : Nat} {Z : Nat → Nat} {B : Int} {p : Int} (hZ : qa_St E Z σ.1) (hz : qa_Sb E) (hlo : E.1 ≤ c) (hI : qI c Z B σ) (hB9 : B ≤ 800000000) (hp : qa_in p) : qa_T E qm_C_periodByTrying 4 24 [.ref c, .int (qa_i p)] σ (jC E c Z (B + 13000) qm_M_periodByTrying [.int (qa_i p)] [0, 3] Value.int σ) := by
  obtain ⟨vi, vo, m, msn, mh, sp, ct, t, u, cs, n, f, sv, ps, ip, li, I⟩ := hI
  obtain ⟨⟨hc, hn0, hn1, hn4⟩, ⟨⟨rf, hS⟩, hk⟩, ⟨⟨rf2, hS2⟩, hk2⟩, hH, hX9, hR9, hO9, hv9⟩ := I.1
  have i3 := I.2.2.1
  obtain ⟨⟨ja1, ja2⟩, ⟨jb1, jb2⟩, jc1, jd1, ⟨je1, je2⟩, jg1, jg2, jg3⟩ := I.2.2.2
  have hlo7 : E.1 ≤ c + 277 := by omega
  have hsz : c + 277 ≤ σ.2 ∧ vi < σ.2 ∧ vo < σ.2 := by omega
  have h5 : 0 ≤ f 5 ∧ f 5 ≤ 8 := by have := hH.2.2.2.1; omega
  exact jQ0 I (c_C_periodByTrying (E := E) hZ hz hlo I.1 hsz (by omega) hp) (fun o τ h => h) (jr_per _ _ _) (fun τ2 hR2 => (c_M_periodByTrying (E := E) hlo7 hR2.1.1 hR2.1.2 hk hp).mono (fun o t h => h.Ms hR2))
theorem j_commonTheme {E : qa_V} {σ : qa_S} {c : Nat} {Z : Nat → Nat} {B : Int} {p : Int} {q : Int} (hZ : qa_St E Z σ.1) (hz : qa_Sb E) (hlo : E.1 ≤ c) (hI : qI c Z B σ) (hB9 : B ≤ 800000000) (hp : qa_in p) (hq : qa_in q) : qa_T E qm_C_commonTheme 4 24 [.ref c, .int (qa_i p), .int (qa_i q)] σ (jC E c Z (B + 13000) qm_M_commonTheme [.int (qa_i p), .int (qa_i q)] [0] Value.int σ) := by
  obtain ⟨vi, vo, m, msn, mh, sp, ct, t, u, cs, n, f, sv, ps, ip, li, I⟩ := hI
  obtain ⟨⟨hc, hn0, hn1, hn4⟩, ⟨⟨rf, hS⟩, hk⟩, ⟨⟨rf2, hS2⟩, hk2⟩, hH, hX9, hR9, hO9, hv9⟩ := I.1
  have i3 := I.2.2.1
  obtain ⟨⟨ja1, ja2⟩, ⟨jb1, jb2⟩, jc1, jd1, ⟨je1, je2⟩, jg1, jg2, jg3⟩ := I.2.2.2
  have hlo7 : E.1 ≤ c + 277 := by omega
  have hsz : c + 277 ≤ σ.2 ∧ vi < σ.2 ∧ vo < σ.2 := by omega
  have h5 : 0 ≤ f 5 ∧ f 5 ≤ 8 := by have := hH.2.2.2.1; omega
  exact jQ0 I (c_C_commonTheme (E := E) hZ hz hlo I.1 hsz (by omega) hp hq) (fun o τ h => h) (jr_of2 _ _ _ _) (fun τ2 hR2 => c_M_commonTheme (E := E) hlo7 hR2 hk hp hq)
theorem j_commonThemeByTrying {E : qa_V} {σ : qa_S} {c : Nat} {Z : Nat → Nat} {B : Int} {p : Int} {q : Int} (hZ : qa_St E Z σ.1) (hz : qa_Sb E) (hlo : E.1 ≤ c) (hI : qI c Z B σ) (hB9 : B ≤ 800000000) (hp : qa_in p) (hq : qa_in q) : qa_T E qm_C_commonThemeByTrying 4 24 [.ref c, .int (qa_i p), .int (qa_i q)] σ (jC E c Z (B + 13000) qm_M_commonThemeByTrying [.int (qa_i p), .int (qa_i q)] [0] Value.int σ) := by
  obtain ⟨vi, vo, m, msn, mh, sp, ct, t, u, cs, n, f, sv, ps, ip, li, I⟩ := hI
  obtain ⟨⟨hc, hn0, hn1, hn4⟩, ⟨⟨rf, hS⟩, hk⟩, ⟨⟨rf2, hS2⟩, hk2⟩, hH, hX9, hR9, hO9, hv9⟩ := I.1
  have i3 := I.2.2.1
  obtain ⟨⟨ja1, ja2⟩, ⟨jb1, jb2⟩, jc1, jd1, ⟨je1, je2⟩, jg1, jg2, jg3⟩ := I.2.2.2
  have hlo7 : E.1 ≤ c + 277 := by omega
  have hsz : c + 277 ≤ σ.2 ∧ vi < σ.2 ∧ vo < σ.2 := by omega
  have h5 : 0 ≤ f 5 ∧ f 5 ≤ 8 := by have := hH.2.2.2.1; omega
  exact jQ0 I (c_C_commonThemeByTrying (E := E) hZ hz hlo I.1 hsz (by omega) hp hq) (fun o τ h => h) (jr_of2 _ _ _ _) (fun τ2 hR2 => c_M_commonThemeByTrying (E := E) hlo7 hR2 hk hp hq)
theorem j_circleLengthByMarks {E : qa_V} {σ : qa_S} {c : Nat} {Z : Nat → Nat} {B : Int} {p : Int} (hZ : qa_St E Z σ.1) (hz : qa_Sb E) (hlo : E.1 ≤ c) (hI : qI c Z B σ) (hB9 : B ≤ 800000000) (hp : qa_in p) : qa_T E qm_C_circleLengthByMarks 4 24 [.ref c, .int (qa_i p)] σ (jC E c Z (B + 13000) qm_M_circleLengthByMarks [.int (qa_i p)] [0] Value.int σ) := by
  obtain ⟨vi, vo, m, msn, mh, sp, ct, t, u, cs, n, f, sv, ps, ip, li, I⟩ := hI
  obtain ⟨⟨hc, hn0, hn1, hn4⟩, ⟨⟨rf, hS⟩, hk⟩, ⟨⟨rf2, hS2⟩, hk2⟩, hH, hX9, hR9, hO9, hv9⟩ := I.1
  have i3 := I.2.2.1
  obtain ⟨⟨ja1, ja2⟩, ⟨jb1, jb2⟩, jc1, jd1, ⟨je1, je2⟩, jg1, jg2, jg3⟩ := I.2.2.2
  have hlo7 : E.1 ≤ c + 277 := by omega
  have hsz : c + 277 ≤ σ.2 ∧ vi < σ.2 ∧ vo < σ.2 := by omega
  have h5 : 0 ≤ f 5 ∧ f 5 ≤ 8 := by have := hH.2.2.2.1; omega
  have e9 : fo_of m p (sp_mk (sm_src m) 6 p 0 (fun _ => -1)) = fo_of m p (sp_mc (sm_src m) 5 p) := fo_of_e fun h => (sq_m hk h).2.2.1
  refine jQ0 I (c_C_circleLengthByMarks (E := E) hZ hz hlo I.1 hsz (by omega) hp) (fun o τ h => h) (jr_of _ _ _) (fun τ2 hR2 => ?_)
  rw [e9]
  exact (c_M_circleLengthByMarks (E := E) hlo7 hR2.1.1 hR2.1.2 hk hp (fun h => (sq_m hk h).2.2.2.1)).mono (fun o t h => h.Ms hR2)
theorem j_syntaxErrorOffset {E : qa_V} {σ : qa_S} {c : Nat} {Z : Nat → Nat} {B : Int} (hZ : qa_St E Z σ.1) (hz : qa_Sb E) (hlo : E.1 ≤ c) (hI : qI c Z B σ) (hB9 : B ≤ 800000000) : qa_T E qm_C_syntaxErrorOffset 4 24 [.ref c] σ (jC E c Z (B + 13000) qm_M_syntaxErrorOffset [] [3] Value.int σ) := by
  obtain ⟨vi, vo, m, msn, mh, sp, ct, t, u, cs, n, f, sv, ps, ip, li, I⟩ := hI
  obtain ⟨⟨hc, hn0, hn1, hn4⟩, ⟨⟨rf, hS⟩, hk⟩, ⟨⟨rf2, hS2⟩, hk2⟩, hH, hX9, hR9, hO9, hv9⟩ := I.1
  have i3 := I.2.2.1
  obtain ⟨⟨ja1, ja2⟩, ⟨jb1, jb2⟩, jc1, jd1, ⟨je1, je2⟩, jg1, jg2, jg3⟩ := I.2.2.2
  have hlo7 : E.1 ≤ c + 277 := by omega
  have hsz : c + 277 ≤ σ.2 ∧ vi < σ.2 ∧ vo < σ.2 := by omega
  have h5 : 0 ≤ f 5 ∧ f 5 ≤ 8 := by have := hH.2.2.2.1; omega
  have e9 : fo_found (n 4) = (if f 6 = -1 then (1, 0) else (0, f 6)) := by unfold fo_found; rw [jc1]
  refine jQ I (c_C_syntaxErrorOffset (E := E) hc ⟨by omega, by omega⟩) (jr_found _) (fun τ2 hR2 => ?_)
  rw [e9]
  exact (c_M_syntaxErrorOffset (E := E) hlo7 hR2.1.1 hR2.1.2 hk (by omega)).mono (fun o t h => h.Ms hR2)
theorem j_rejectionReason {E : qa_V} {σ : qa_S} {c : Nat} {Z : Nat → Nat} {B : Int} (hZ : qa_St E Z σ.1) (hz : qa_Sb E) (hlo : E.1 ≤ c) (hI : qI c Z B σ) (hB9 : B ≤ 800000000) : qa_T E qm_C_rejectionReason 4 24 [.ref c] σ (jC E c Z (B + 13000) qm_M_rejectionReason [] [3] Value.int σ) := by
  obtain ⟨vi, vo, m, msn, mh, sp, ct, t, u, cs, n, f, sv, ps, ip, li, I⟩ := hI
  obtain ⟨⟨hc, hn0, hn1, hn4⟩, ⟨⟨rf, hS⟩, hk⟩, ⟨⟨rf2, hS2⟩, hk2⟩, hH, hX9, hR9, hO9, hv9⟩ := I.1
  have i3 := I.2.2.1
  obtain ⟨⟨ja1, ja2⟩, ⟨jb1, jb2⟩, jc1, jd1, ⟨je1, je2⟩, jg1, jg2, jg3⟩ := I.2.2.2
  have hlo7 : E.1 ≤ c + 277 := by omega
  have hsz : c + 277 ≤ σ.2 ∧ vi < σ.2 ∧ vo < σ.2 := by omega
  have h5 : 0 ≤ f 5 ∧ f 5 ≤ 8 := by have := hH.2.2.2.1; omega
  have e9 : (if n 1 ≠ 0 then ((0 : Int), n 1) else (1, 0)) = (if f 7 = -1 then (1, 0) else (0, f 7)) := by
    rcases jd1 with ⟨d1, d2, d3⟩ | ⟨d1, d2, d3, d4⟩
    · rw [if_neg (by omega), if_pos d2]
    · rw [if_pos d1, if_neg (by omega), d2]
  refine jQ I (c_C_rejectionReason (E := E) hc ⟨by omega, by omega⟩) (jr_if _) (fun τ2 hR2 => ?_)
  rw [e9]
  exact (c_M_rejectionReason (E := E) hlo7 hR2.1.1 hR2.1.2 hk (by omega)).mono (fun o t h => h.Ms hR2)
theorem j_rejectionDetail {E : qa_V} {σ : qa_S} {c : Nat} {Z : Nat → Nat} {B : Int} (hZ : qa_St E Z σ.1) (hz : qa_Sb E) (hlo : E.1 ≤ c) (hI : qI c Z B σ) (hB9 : B ≤ 800000000) : qa_T E qm_C_rejectionDetail 4 24 [.ref c] σ (jC E c Z (B + 13000) qm_M_rejectionDetail [] [3] Value.int σ) := by
  obtain ⟨vi, vo, m, msn, mh, sp, ct, t, u, cs, n, f, sv, ps, ip, li, I⟩ := hI
  obtain ⟨⟨hc, hn0, hn1, hn4⟩, ⟨⟨rf, hS⟩, hk⟩, ⟨⟨rf2, hS2⟩, hk2⟩, hH, hX9, hR9, hO9, hv9⟩ := I.1
  have i3 := I.2.2.1
  obtain ⟨⟨ja1, ja2⟩, ⟨jb1, jb2⟩, jc1, jd1, ⟨je1, je2⟩, jg1, jg2, jg3⟩ := I.2.2.2
  have hlo7 : E.1 ≤ c + 277 := by omega
  have hsz : c + 277 ≤ σ.2 ∧ vi < σ.2 ∧ vo < σ.2 := by omega
  have h5 : 0 ≤ f 5 ∧ f 5 ≤ 8 := by have := hH.2.2.2.1; omega
  have e9 : (if n 1 ≠ 0 then ((0 : Int), n 2) else (1, 0)) = (if f 7 = -1 then (1, 0) else (0, f 8)) := by
    rcases jd1 with ⟨d1, d2, d3⟩ | ⟨d1, d2, d3, d4⟩
    · rw [if_neg (by omega), if_pos d2]
    · rw [if_pos d1, if_neg (by omega), d3]
  refine jQ I (c_C_rejectionDetail (E := E) hc ⟨by omega, by omega⟩) (jr_if _) (fun τ2 hR2 => ?_)
  rw [e9]
  exact (c_M_rejectionDetail (E := E) hlo7 hR2.1.1 hR2.1.2 hk (by omega)).mono (fun o t h => h.Ms hR2)
theorem j_causeReason {E : qa_V} {σ : qa_S} {c : Nat} {Z : Nat → Nat} {B : Int} (hZ : qa_St E Z σ.1) (hz : qa_Sb E) (hlo : E.1 ≤ c) (hI : qI c Z B σ) (hB9 : B ≤ 800000000) : qa_T E qm_C_causeReason 4 24 [.ref c] σ (jC E c Z (B + 13000) qm_M_causeReason [] [3] Value.int σ) := by
  obtain ⟨vi, vo, m, msn, mh, sp, ct, t, u, cs, n, f, sv, ps, ip, li, I⟩ := hI
  obtain ⟨⟨hc, hn0, hn1, hn4⟩, ⟨⟨rf, hS⟩, hk⟩, ⟨⟨rf2, hS2⟩, hk2⟩, hH, hX9, hR9, hO9, hv9⟩ := I.1
  have i3 := I.2.2.1
  obtain ⟨⟨ja1, ja2⟩, ⟨jb1, jb2⟩, jc1, jd1, ⟨je1, je2⟩, jg1, jg2, jg3⟩ := I.2.2.2
  have hlo7 : E.1 ≤ c + 277 := by omega
  have hsz : c + 277 ≤ σ.2 ∧ vi < σ.2 ∧ vo < σ.2 := by omega
  have h5 : 0 ≤ f 5 ∧ f 5 ≤ 8 := by have := hH.2.2.2.1; omega
  have e9 : (if n 1 = 9 then ((0 : Int), n 3) else (1, 0)) = (if f 9 = -1 then (1, 0) else (0, f 9)) := by
    rcases jd1 with ⟨d1, d2, d3⟩ | ⟨d1, d2, d3, d4, d5⟩
    · rw [if_neg (by omega), if_pos d3]
    · by_cases h9 : n 1 = 9
      · have := d4 h9; rw [if_pos h9, if_neg (by omega), this.1]
      · rw [if_neg h9, if_pos (d5 h9)]
  refine jQ I (c_C_causeReason (E := E) hc ⟨by omega, by omega⟩) (jr_if _) (fun τ2 hR2 => ?_)
  rw [e9]
  exact (c_M_causeReason (E := E) hlo7 hR2.1.1 hR2.1.2 hk (by rcases jd1 with ⟨d1, d2, d3⟩ | ⟨d1, d2, d3, d4, d5⟩ <;> (by_cases h9 : n 1 = 9) <;> (first | omega | (have := d4 h9; omega) | (have := d5 h9; omega)))).mono (fun o t h => h.Ms hR2)
theorem j_outputAt {E : qa_V} {σ : qa_S} {c : Nat} {Z : Nat → Nat} {B : Int} {x : Int} (hZ : qa_St E Z σ.1) (hz : qa_Sb E) (hlo : E.1 ≤ c) (hI : qI c Z B σ) (hB9 : B ≤ 800000000) (hx : qa_in x) : qa_T E qm_C_outputAt 1 6 [.ref c, .int (qa_i x)] σ (jC E c Z (B + 13000) qm_M_outputAt [.int (qa_i x)] [0] Value.int σ) := by
  obtain ⟨vi, vo, m, msn, mh, sp, ct, t, u, cs, n, f, sv, ps, ip, li, I⟩ := hI
  obtain ⟨⟨hc, hn0, hn1, hn4⟩, ⟨⟨rf, hS⟩, hk⟩, ⟨⟨rf2, hS2⟩, hk2⟩, hH, hX9, hR9, hO9, hv9⟩ := I.1
  have i3 := I.2.2.1
  obtain ⟨⟨ja1, ja2⟩, ⟨jb1, jb2⟩, jc1, jd1, ⟨je1, je2⟩, jg1, jg2, jg3⟩ := I.2.2.2
  have hlo7 : E.1 ≤ c + 277 := by omega
  have hsz : c + 277 ≤ σ.2 ∧ vi < σ.2 ∧ vo < σ.2 := by omega
  have h5 : 0 ≤ f 5 ∧ f 5 ≤ 8 := by have := hH.2.2.2.1; omega
  obtain ⟨ml9, cap9, g9, o1, o2, o3, o4, o5, o6⟩ := hO9
  have gl : ∀ j : Nat, j < u.length → g9 j = li j := fun j hj => Option.some.inj ((o6 j hj).symm.trans (jg3 j hj))
  have e9 : (if 0 ≤ x ∧ x < u.length then ((0 : Int), sc_at u x) else (1, 0)) = (if 0 ≤ x ∧ x < f 19 then (0, li x) else (1, 0)) := by
    rw [jg1]
    by_cases h9 : 0 ≤ x ∧ x < u.length
    · rw [if_pos h9, if_pos h9]
      unfold sc_at
      rw [List.getD_eq_getElem?_getD, jg3 x.toNat (by omega), show ((x.toNat : Nat) : Int) = x by omega]
      rfl
    · rw [if_neg h9, if_neg h9]
  refine jQ I (c_C_outputAt (E := E) hZ hz hlo I.1 hsz (by omega) hx) (jr_if _) (fun τ2 hR2 => ?_)
  rw [e9]
  obtain ⟨z1, z2, z3, z4, z5, z6, z7, z8⟩ := id hR2
  refine (c_M_outputAt (E := E) hlo7 hR2.1.1 hR2.1.2 hk hx z7 (by omega) (fun j j0 j1 => ?_)).mono (fun o t h => h.Ms hR2)
  have := gl j.toNat (by omega)
  rw [show ((j.toNat : Nat) : Int) = j by omega] at this
  rw [← this]
  exact o5 j
theorem j_chordAt {E : qa_V} {σ : qa_S} {c : Nat} {Z : Nat → Nat} {B : Int} {x : Int} (hZ : qa_St E Z σ.1) (hz : qa_Sb E) (hlo : E.1 ≤ c) (hI : qI c Z B σ) (hB9 : B ≤ 800000000) (hx : qa_in x) : qa_T E qm_C_chordAt 4 24 [.ref c, .int (qa_i x)] σ (jC E c Z (B + 13000) qm_M_chordAt [.int (qa_i x)] [1] Value.long σ) := by
  obtain ⟨vi, vo, m, msn, mh, sp, ct, t, u, cs, n, f, sv, ps, ip, li, I⟩ := hI
  obtain ⟨⟨hc, hn0, hn1, hn4⟩, ⟨⟨rf, hS⟩, hk⟩, ⟨⟨rf2, hS2⟩, hk2⟩, hH, hX9, hR9, hO9, hv9⟩ := I.1
  have i3 := I.2.2.1
  obtain ⟨⟨ja1, ja2⟩, ⟨jb1, jb2⟩, jc1, jd1, ⟨je1, je2⟩, jg1, jg2, jg3⟩ := I.2.2.2
  have hlo7 : E.1 ≤ c + 277 := by omega
  have hsz : c + 277 ≤ σ.2 ∧ vi < σ.2 ∧ vo < σ.2 := by omega
  have h5 : 0 ≤ f 5 ∧ f 5 ≤ 8 := by have := hH.2.2.2.1; omega
  refine jV (C := Value.long) (k := if 0 ≤ x ∧ x ≤ 999999 then 0 else 1) (x := sm_ch m x (m 0).toNat) I ((c_C_chordAt (E := E) hc hS hk hx).mono fun o τ h => ?_) (by show 0 ≤ (if 0 ≤ x ∧ x ≤ 999999 then (0 : Int) else 1) ∧ (if 0 ≤ x ∧ x ≤ 999999 then (0 : Int) else 1) ≤ 1; split <;> decide) (fun τ2 hR2 => c_M_chordAt (E := E) hlo7 hR2.1.1 hR2.1.2 hk hx)
  rcases h with ⟨h1, rfl, rfl⟩ | ⟨h1, rfl, h2, h3⟩
  · rw [if_pos h1]; exact ⟨rfl, rfl, Nat.le_refl _⟩
  · rw [if_neg h1]; exact ⟨rfl, h2, h3⟩
theorem j_startOfBar {E : qa_V} {σ : qa_S} {c : Nat} {Z : Nat → Nat} {B : Int} {x : Int} (hZ : qa_St E Z σ.1) (hz : qa_Sb E) (hlo : E.1 ≤ c) (hI : qI c Z B σ) (hB9 : B ≤ 800000000) (hx : qa_in x) : qa_T E qm_C_startOfBar 4 24 [.ref c, .int (qa_i x)] σ (jC E c Z (B + 13000) qm_M_startOfBar [.int (qa_i x)] [1] (fun v : Int => Value.long (qa_l v)) σ) := by
  obtain ⟨vi, vo, m, msn, mh, sp, ct, t, u, cs, n, f, sv, ps, ip, li, I⟩ := hI
  obtain ⟨⟨hc, hn0, hn1, hn4⟩, ⟨⟨rf, hS⟩, hk⟩, ⟨⟨rf2, hS2⟩, hk2⟩, hH, hX9, hR9, hO9, hv9⟩ := I.1
  have i3 := I.2.2.1
  obtain ⟨⟨ja1, ja2⟩, ⟨jb1, jb2⟩, jc1, jd1, ⟨je1, je2⟩, jg1, jg2, jg3⟩ := I.2.2.2
  have hlo7 : E.1 ≤ c + 277 := by omega
  have hsz : c + 277 ≤ σ.2 ∧ vi < σ.2 ∧ vo < σ.2 := by omega
  have h5 : 0 ≤ f 5 ∧ f 5 ≤ 8 := by have := hH.2.2.2.1; omega
  refine jV (C := fun v : Int => Value.long (qa_l v)) (k := if 0 ≤ x ∧ x ≤ 999 then 0 else 1) (x := sp_sb (sm_bf m) (sm_vf m) (m 2) (m 1) x.toNat) I ((c_C_startOfBar (E := E) hc hS hk hx).mono fun o τ h => ?_) (by show 0 ≤ (if 0 ≤ x ∧ x ≤ 999 then (0 : Int) else 1) ∧ (if 0 ≤ x ∧ x ≤ 999 then (0 : Int) else 1) ≤ 1; split <;> decide) (fun τ2 hR2 => c_M_startOfBar (E := E) hlo7 hR2.1.1 hR2.1.2 hk hx)
  rcases h with ⟨h1, rfl, rfl⟩ | ⟨h1, rfl, h2, h3⟩
  · rw [if_pos h1]; exact ⟨rfl, rfl, Nat.le_refl _⟩
  · rw [if_neg h1]; exact ⟨rfl, h2, h3⟩
theorem j_startOfBarByTempos {E : qa_V} {σ : qa_S} {c : Nat} {Z : Nat → Nat} {B : Int} {x : Int} (hZ : qa_St E Z σ.1) (hz : qa_Sb E) (hlo : E.1 ≤ c) (hI : qI c Z B σ) (hB9 : B ≤ 800000000) (hx : qa_in x) : qa_T E qm_C_startOfBarByTempos 4 24 [.ref c, .int (qa_i x)] σ (jC E c Z (B + 13000) qm_M_startOfBarByTempos [.int (qa_i x)] [1] (fun v : Int => Value.long (qa_l v)) σ) := by
  obtain ⟨vi, vo, m, msn, mh, sp, ct, t, u, cs, n, f, sv, ps, ip, li, I⟩ := hI
  obtain ⟨⟨hc, hn0, hn1, hn4⟩, ⟨⟨rf, hS⟩, hk⟩, ⟨⟨rf2, hS2⟩, hk2⟩, hH, hX9, hR9, hO9, hv9⟩ := I.1
  have i3 := I.2.2.1
  obtain ⟨⟨ja1, ja2⟩, ⟨jb1, jb2⟩, jc1, jd1, ⟨je1, je2⟩, jg1, jg2, jg3⟩ := I.2.2.2
  have hlo7 : E.1 ≤ c + 277 := by omega
  have hsz : c + 277 ≤ σ.2 ∧ vi < σ.2 ∧ vo < σ.2 := by omega
  have h5 : 0 ≤ f 5 ∧ f 5 ≤ 8 := by have := hH.2.2.2.1; omega
  refine jV (C := fun v : Int => Value.long (qa_l v)) (k := if 0 ≤ x ∧ x ≤ 999 then 0 else 1) (x := sp_sb (sm_bf m) (sm_vf m) (m 2) (m 1) x.toNat) I ((c_C_startOfBarByTempos (E := E) hc hS hk hx).mono fun o τ h => ?_) (by show 0 ≤ (if 0 ≤ x ∧ x ≤ 999 then (0 : Int) else 1) ∧ (if 0 ≤ x ∧ x ≤ 999 then (0 : Int) else 1) ≤ 1; split <;> decide) (fun τ2 hR2 => c_M_startOfBarByTempos (E := E) hlo7 hR2.1.1 hR2.1.2 hk hx)
  rcases h with ⟨h1, rfl, rfl⟩ | ⟨h1, rfl, h2, h3⟩
  · rw [if_pos h1]; exact ⟨rfl, rfl, Nat.le_refl _⟩
  · rw [if_neg h1]; exact ⟨rfl, h2, h3⟩
/-- doubles and floats that are no NaN -/
def jDp (x : UInt64) : Prop := FP.dcmp x x = some .eq
def jFp (x : UInt32) : Prop := vf_n64 (FP.f2d x) ∧ FP.dcmp (FP.f2d x) (FP.f2d x) = some .eq ∧ FP.fcmp x x = some .eq
def jP {α : Type} (p : α → Prop) (k : Int) (x : α) : Prop := k = 0 → p x
theorem sm_md_p {m : Int → Int} {B p : Int} (hk : sm_ok m B) (h : fo_mk m p = 0) : jDp (sm_md m p) := by
  unfold fo_mk at h
  split at h
  · rename_i h1
    split at h
    · exact absurd h (by decide)
    · rename_i h2
      have k0 := hk.1
      have kk := hk.2.2.2.2.1 p h1.1 (by have := h1.2; omega)
      have kn := kk.1
      have b1 := sp_ct_b (sm_pf m p) (sm_n m p).toNat
      exact (sf_kk (sm_rs_b kk).2.1 (by omega)).2
  · exact absurd h (by decide)
theorem sm_rs_p {m : Int → Int} {B p : Int} (hk : sm_ok m B) (h : fo_rk m p = 0) : jFp (sm_rs m p) := by
  unfold fo_rk at h
  split at h
  · rename_i h1
    split at h
    · exact absurd h (by decide)
    · rename_i h2
      have k0 := hk.1
      have kk := hk.2.2.2.2.1 p h1.1 (by have := h1.2; omega)
      have kw := sm_wh_b kk
      have kn := kk.1
      have h9 := sf_xx (sm_rs_b kk).1 (show 1 ≤ sm_wh m p ∧ sm_wh m p ≤ 120 by omega)
      exact ⟨h9.2.2.1.1, h9.2.2.1.2, h9.2.1⟩
  · exact absurd h (by decide)
/-- .. with what is known of the value -/
def jCp (E : qa_V) (c : Nat) (Z : Nat → Nat) (B : Int) (N : qa_M) (as : List Value) (X : List Nat) {α : Type} (C : α → Value) (p : α → Prop) (σ : qa_S) : qa_O → qa_S → Prop := fun o9 τ => ∃ (k : Int) (x : α), o9 = qa_ov k X (C x) ∧ (0 ≤ k ∧ k ≤ (X.length : Int)) ∧ σ.2 ≤ τ.2 ∧ (∀ q, (q < c ∨ (c + 277 ≤ q ∧ q < c + 290)) → τ.1 q = σ.1 q) ∧ (k = 0 → p x) ∧ jN E c Z B N as C k x τ
theorem jVp {α : Type} {C : α → Value} {p : α → Prop} {k : Int} {x : α} {E : qa_V} {σ : qa_S} {c vi vo : Nat} {Z : Nat → Nat} {B : Int} {m msn : Int → Int} {mh : Int → Int → Int} {sp ct : Int} {t u : List Int} {cs : sc_C} {n f : Nat → Int} {sv ps ip li : Int → Int} {mc ms : Nat} {C9 N : qa_M} {a9 as : List Value} {X : List Nat} (I : qI1 c Z B σ vi vo m msn mh sp ct t u cs n f sv ps ip li) (hT : qa_T E C9 mc ms a9 σ (qa_q σ (qa_ov k X (C x)))) (hr : 0 ≤ k ∧ k ≤ (X.length : Int)) (hp : k = 0 → p x)
    (hM : ∀ τ2 : qa_S, sR_M τ2.1 (c + 277) f m sv ps ip li → qa_T E N 0 0 (.ref (c + 277) :: as) τ2 (qa_Mv C τ2 (c + 277) f k x)) : qa_T E C9 mc ms a9 σ (jCp E c Z (B + 13000) N as X C p σ) := by
  refine hT.mono fun o τ hq9 => ?_
  have hC2 : sR_C τ.1 c vi vo Z B m msn mh sp ct t u cs n := by rw [hq9.2.1]; exact I.1
  refine ⟨k, x, hq9.1, hr, hq9.2.2, fun q _ => congrFun hq9.2.1 q, hp, fun τ2 e2 f2 => ?_⟩
  have i3 := I.2.2.1
  have hle := hq9.2.2
  have hR2 : sR_M τ2.1 (c + 277) f m sv ps ip li := I.2.1.fr (fun q q0 q1 => (f2 q (by omega) (by omega)).trans (congrFun hq9.2.1 q))
  refine (hM τ2 hR2).mono fun o' τ' hq => ?_
  obtain ⟨⟨v, rfl, hv⟩, he, g1, g2⟩ := hq
  exact jfin (C := C) (hC2.up (by omega)) ⟨by omega, by omega, by omega, i3.2.2.2.1, i3.2.2.2.2⟩ e2 f2 he (fun q hq => g2 q (by omega)) (hR2.setF g2 g1) (I.2.2.2.same sM_same.put) rfl hv
theorem j_meanPitch {E : qa_V} {σ : qa_S} {c : Nat} {Z : Nat → Nat} {B : Int} {p : Int} (hZ : qa_St E Z σ.1) (hz : qa_Sb E) (hlo : E.1 ≤ c) (hI : qI c Z B σ) (hB9 : B ≤ 800000000) (hp : qa_in p) : qa_T E qm_C_meanPitch 4 24 [.ref c, .int (qa_i p)] σ (jCp E c Z (B + 13000) qm_M_meanPitch [.int (qa_i p)] [0, 4] Value.double jDp σ) := by
  obtain ⟨vi, vo, m, msn, mh, sp, ct, t, u, cs, n, f, sv, ps, ip, li, I⟩ := hI
  obtain ⟨⟨hc, hn0, hn1, hn4⟩, ⟨⟨rf, hS⟩, hk⟩, ⟨⟨rf2, hS2⟩, hk2⟩, hH, hX9, hR9, hO9, hv9⟩ := I.1
  have i3 := I.2.2.1
  obtain ⟨⟨ja1, ja2⟩, ⟨jb1, jb2⟩, jc1, jd1, ⟨je1, je2⟩, jg1, jg2, jg3⟩ := I.2.2.2
  have hlo7 : E.1 ≤ c + 277 := by omega
  have hsz : c + 277 ≤ σ.2 ∧ vi < σ.2 ∧ vo < σ.2 := by omega
  have h5 : 0 ≤ f 5 ∧ f 5 ≤ 8 := by have := hH.2.2.2.1; omega
  have hb9 := fo_mk_b m p
  exact jVp I (c_C_meanPitch (E := E) hc hS hk hp) (by show 0 ≤ fo_mk m p ∧ fo_mk m p ≤ 2; omega) (sm_md_p hk) (fun τ2 hR2 => c_M_meanPitch (E := E) hlo7 hR2.1.1 hR2.1.2 hk hp)
theorem j_restShare {E : qa_V} {σ : qa_S} {c : Nat} {Z : Nat → Nat} {B : Int} {p : Int} (hZ : qa_St E Z σ.1) (hz : qa_Sb E) (hlo : E.1 ≤ c) (hI : qI c Z B σ) (hB9 : B ≤ 800000000) (hp : qa_in p) : qa_T E qm_C_restShare 4 24 [.ref c, .int (qa_i p)] σ (jCp E c Z (B + 13000) qm_M_restShare [.int (qa_i p)] [0, 4] Value.float jFp σ) := by
  obtain ⟨vi, vo, m, msn, mh, sp, ct, t, u, cs, n, f, sv, ps, ip, li, I⟩ := hI
  obtain ⟨⟨hc, hn0, hn1, hn4⟩, ⟨⟨rf, hS⟩, hk⟩, ⟨⟨rf2, hS2⟩, hk2⟩, hH, hX9, hR9, hO9, hv9⟩ := I.1
  have i3 := I.2.2.1
  obtain ⟨⟨ja1, ja2⟩, ⟨jb1, jb2⟩, jc1, jd1, ⟨je1, je2⟩, jg1, jg2, jg3⟩ := I.2.2.2
  have hlo7 : E.1 ≤ c + 277 := by omega
  have hsz : c + 277 ≤ σ.2 ∧ vi < σ.2 ∧ vo < σ.2 := by omega
  have h5 : 0 ≤ f 5 ∧ f 5 ≤ 8 := by have := hH.2.2.2.1; omega
  have hb9 := fo_rk_b m p
  exact jVp I (c_C_restShare (E := E) hc hS hk hp) (by show 0 ≤ fo_rk m p ∧ fo_rk m p ≤ 2; omega) (sm_rs_p hk) (fun τ2 hR2 => c_M_restShare (E := E) hlo7 hR2.1.1 hR2.1.2 hk hp)
theorem chO {k : Nat} {X : List Nat} {r : sp_R} (h10 : r.1 = -10 → X.getD (so_pl k (-10) - 1).toNat 0 = 0 ∧ so_pl k (-10) ≤ (X.length : Int)) (h11 : r.1 = -11 → X.getD (so_pl k (-11) - 1).toNat 0 = 1 ∧ so_pl k (-11) ≤ (X.length : Int)) (h2 : ¬ r.1 = -10 → ¬ r.1 = -11 → r.1 < 0 → X.getD (so_pl k r.1 - 1).toNat 0 = 2 ∧ so_pl k r.1 ≤ (X.length : Int)) : ch_o r = qa_ov (if r.1 < 0 then so_pl k r.1 else 0) X (.int (qa_i r.1)) ∧ (r.1 < 0 → so_pl k r.1 ≤ (X.length : Int)) := by
  unfold ch_o qa_ov
  by_cases a : r.1 = -10
  · have h := h10 a
    have hb := so_pl_b k (-10)
    have e : (if r.1 < 0 then so_pl k r.1 else 0) = so_pl k (-10) := by rw [if_pos (by omega), a]
    refine ⟨?_, fun _ => by rw [a]; exact h.2⟩
    rw [if_pos a, e, if_neg (by omega), h.1]
  · by_cases b : r.1 = -11
    · have h := h11 b
      have hb := so_pl_b k (-11)
      have e : (if r.1 < 0 then so_pl k r.1 else 0) = so_pl k (-11) := by rw [if_pos (by omega), b]
      refine ⟨?_, fun _ => by rw [b]; exact h.2⟩
      rw [if_neg a, if_pos b, e, if_neg (by omega), h.1]
    · by_cases d : r.1 < 0
      · have h := h2 a b d
        have hb := so_pl_b k r.1
        have e : (if r.1 < 0 then so_pl k r.1 else 0) = so_pl k r.1 := if_pos d
        refine ⟨?_, fun _ => h.2⟩
        rw [if_neg a, if_neg b, if_pos d, e, if_neg (by omega), h.1]
      · have e : (if r.1 < 0 then so_pl k r.1 else 0) = 0 := if_neg d
        refine ⟨?_, fun h => absurd h d⟩
        rw [if_neg a, if_neg b, if_neg d, e, if_pos rfl]
theorem so_part_c {m : Int → Int} {B : Int} (hk : sm_ok m B) : (so_part m).1 = -1 ∨ 0 ≤ (so_part m).1 := by
  have := hk.1
  unfold so_part
  split
  · left; rfl
  · right; show 0 ≤ m 0; omega
theorem so_last_c {m : Int → Int} {B p : Int} (hk : sm_ok m B) : (so_last m p).1 ≠ -11 := by
  intro h9
  have hr := (so_last_ok (p := p) hk).2.2 (by omega)
  unfold so_last at h9 hr
  by_cases h1 : ¬ (0 ≤ p ∧ p < m 0)
  · rw [if_pos h1] at h9; exact absurd (show (-10 : Int) = -11 from h9) (by decide)
  · rw [if_neg h1] at h9 hr
    by_cases h2 : sm_n m p = 0
    · rw [if_pos h2] at h9; exact absurd (show (-3 : Int) = -11 from h9) (by decide)
    · rw [if_neg h2] at hr
      have h3 : sm_last m p (4 + 26 * p) = sm_n m p - 1 := qa_up_eq _ _ _
      have h4 : sm_last m p = m := hr.1
      rw [h4] at h3
      have h5 : sm_n m p = m (4 + 26 * p) := rfl
      omega
theorem so_alone_c {m : Int → Int} {B p : Int} (hk : sm_ok m B) : (so_alone m p).1 ≠ -11 := by
  intro h9
  have hr := (so_alone_ok (p := p) hk).2.2 (by omega)
  unfold so_alone at h9 hr
  by_cases h1 : ¬ (0 ≤ p ∧ p < m 0)
  · rw [if_pos h1] at h9; exact absurd (show (-10 : Int) = -11 from h9) (by decide)
  · rw [if_neg h1] at h9 hr
    by_cases h2 : m (7 + 26 * p) = -1
    · rw [if_pos h2] at h9; exact absurd (show (-6 : Int) = -11 from h9) (by decide)
    · rw [if_neg h2] at hr
      have h3 : (qa_up m (7 + 26 * p) (-1)) (7 + 26 * p) = -1 := qa_up_eq _ _ _
      have h4 : qa_up m (7 + 26 * p) (-1) = m := hr.1
      rw [h4] at h3
      exact h2 h3
theorem so_tune_c {m : Int → Int} {p u d : Int} : (so_tune m p u d).1 = -10 ∨ (so_tune m p u d).1 = -11 ∨ 0 ≤ (so_tune m p u d).1 := by
  unfold so_tune
  split
  · left; rfl
  · split
    · right; left; rfl
    · right; right; show (0 : Int) ≤ ((Int.gcd u d : Nat) : Int); omega
theorem so_bar_c {m : Int → Int} {B t : Int} (hk : sm_ok m B) : (so_bar m t).1 = -11 ∨ 0 ≤ (so_bar m t).1 := by
  have := hk.2.1
  unfold so_bar
  split
  · left; rfl
  · right; show 0 ≤ m 1; omega
theorem so_tempo_c {m : Int → Int} {B b v : Int} (hk : sm_ok m B) : (so_tempo m b v).1 ≠ -10 := by
  have := hk.2.2.1
  unfold so_tempo
  split
  · exact (show (-11 : Int) ≠ -10 by decide)
  · split
    · show m 2 ≠ -10; omega
    · split
      · exact (show (-7 : Int) ≠ -10 by decide)
      · show m 2 + 1 ≠ -10; omega
theorem so_play_c {m : Int → Int} {B b : Int} (hk : sm_ok m B) : (so_play m b).1 ≠ -10 := by
  intro h9
  have hr := (so_play_ok (b := b) hk).2.2 (by omega)
  unfold so_play at h9 hr
  by_cases h1 : ¬ (1 ≤ b ∧ b ≤ 20)
  · rw [if_pos h1] at h9; exact absurd (show (-11 : Int) = -10 from h9) (by decide)
  · rw [if_neg h1] at h9 hr
    by_cases h2 : sm_lo m (m 0).toNat = 0
    · rw [if_pos h2] at h9; exact absurd (show (-8 : Int) = -10 from h9) (by decide)
    · rw [if_neg h2] at hr
      have h3 : (qa_up (sm_run m (m 3) (b * m 1).toNat) 3 (m 3 + b * m 1)) 3 = m 3 + b * m 1 := qa_up_eq _ _ _
      have h4 : qa_up (sm_run m (m 3) (b * m 1).toNat) 3 (m 3 + b * m 1) = m := hr.1
      rw [h4] at h3
      have h5 := hk.2.1
      have h6 : 1 * 1 ≤ b * m 1 := Int.mul_le_mul (by omega) h5.1 (by decide) (by omega)
      omega
theorem j_addPart {E : qa_V} {σ : qa_S} {c : Nat} {Z : Nat → Nat} {B : Int} (hZ : qa_St E Z σ.1) (hz : qa_Sb E) (hlo : E.1 ≤ c) (hI : qI c Z B σ) (hB9 : B ≤ 800000000) : qa_T E qm_C_addPart 1 6 [.ref c] σ (jC E c Z (B + 13000) qm_M_addPart [] [2] Value.int σ) := by
  obtain ⟨vi, vo, m, msn, mh, sp, ct, t, u, cs, n, f, sv, ps, ip, li, I⟩ := hI
  obtain ⟨⟨hc, hn0, hn1, hn4⟩, ⟨⟨rf, hS⟩, hk⟩, ⟨⟨rf2, hS2⟩, hk2⟩, hH, hX9, hR9, hO9, hv9⟩ := I.1
  have i3 := I.2.2.1
  obtain ⟨⟨ja1, ja2⟩, ⟨jb1, jb2⟩, jc1, jd1, ⟨je1, je2⟩, jg1, jg2, jg3⟩ := I.2.2.2
  have hlo7 : E.1 ≤ c + 277 := by omega
  have hsz : c + 277 ≤ σ.2 ∧ vi < σ.2 ∧ vo < σ.2 := by omega
  have h5 : 0 ≤ f 5 ∧ f 5 ≤ 8 := by have := hH.2.2.2.1; omega
  have hr9 := so_do_ok (x := 0) (y := 0) (z := 0) (k := 0) hk (by decide)
  have hch : ch_o (so_part m) = qa_ov (if (so_part m).1 < 0 then so_pl 0 (so_part m).1 else 0) [2] (.int (qa_i (so_part m).1)) ∧ ((so_part m).1 < 0 → so_pl 0 (so_part m).1 ≤ (([2] : List Nat).length : Int)) := by
      have h9 := so_part_c hk
      exact chO (fun h => absurd h (by omega)) (fun h => absurd h (by omega)) (fun _ _ _ => ⟨(show (2 : Nat) = 2 from rfl), (show (1 : Int) ≤ 1 by decide)⟩)
  exact jch (k9 := 0) (r := so_part m) I hr9 hch (c_C_addPart (E := E) (p := 0) (x := 0) (y := 0) hZ hz hlo I.1 hsz (by omega) ⟨by decide, by decide⟩ ⟨by decide, by decide⟩ ⟨by decide, by decide⟩) (fun τ2 hR2 => c_M_addPart (E := E) hlo7 hR2 hk h5)
theorem j_addNote {E : qa_V} {σ : qa_S} {c : Nat} {Z : Nat → Nat} {B : Int} {p : Int} {x : Int} {y : Int} (hZ : qa_St E Z σ.1) (hz : qa_Sb E) (hlo : E.1 ≤ c) (hI : qI c Z B σ) (hB9 : B ≤ 800000000) (hp : qa_in p) (hx : qa_in x) (hy : qa_in y) : qa_T E qm_C_addNote 1 6 [.ref c, .int (qa_i p), .int (qa_i x), .int (qa_i y)] σ (jC E c Z (B + 13000) qm_M_addNote [.int (qa_i p), .int (qa_i x), .int (qa_i y)] [0, 1, 2] Value.int σ) := by
  obtain ⟨vi, vo, m, msn, mh, sp, ct, t, u, cs, n, f, sv, ps, ip, li, I⟩ := hI
  obtain ⟨⟨hc, hn0, hn1, hn4⟩, ⟨⟨rf, hS⟩, hk⟩, ⟨⟨rf2, hS2⟩, hk2⟩, hH, hX9, hR9, hO9, hv9⟩ := I.1
  have i3 := I.2.2.1
  obtain ⟨⟨ja1, ja2⟩, ⟨jb1, jb2⟩, jc1, jd1, ⟨je1, je2⟩, jg1, jg2, jg3⟩ := I.2.2.2
  have hlo7 : E.1 ≤ c + 277 := by omega
  have hsz : c + 277 ≤ σ.2 ∧ vi < σ.2 ∧ vo < σ.2 := by omega
  have h5 : 0 ≤ f 5 ∧ f 5 ≤ 8 := by have := hH.2.2.2.1; omega
  have hr9 := so_do_ok (x := p) (y := x) (z := y) (k := 1) hk (by decide)
  have hch : ch_o (so_pitch m p x y) = qa_ov (if (so_pitch m p x y).1 < 0 then so_pl 1 (so_pitch m p x y).1 else 0) [0, 1, 2] (.int (qa_i (so_pitch m p x y).1)) ∧ ((so_pitch m p x y).1 < 0 → so_pl 1 (so_pitch m p x y).1 ≤ (([0, 1, 2] : List Nat).length : Int)) := chO (fun _ => ⟨by decide, by decide⟩) (fun _ => ⟨by decide, by decide⟩) (fun a b _ => by rw [show so_pl 1 (so_pitch m p x y).1 = 3 from (if_neg a).trans (if_neg b)]; decide)
  exact jch (k9 := 1) (r := so_pitch m p x y) I hr9 hch (c_C_addNote (E := E)  hZ hz hlo I.1 hsz (by omega) hp hx hy) (fun τ2 hR2 => c_M_addNote (E := E) hlo7 hR2 hk h5 hp hx hy)
theorem j_addRest {E : qa_V} {σ : qa_S} {c : Nat} {Z : Nat → Nat} {B : Int} {p : Int} {y : Int} (hZ : qa_St E Z σ.1) (hz : qa_Sb E) (hlo : E.1 ≤ c) (hI : qI c Z B σ) (hB9 : B ≤ 800000000) (hp : qa_in p) (hy : qa_in y) : qa_T E qm_C_addRest 1 6 [.ref c, .int (qa_i p), .int (qa_i y)] σ (jC E c Z (B + 13000) qm_M_addRest [.int (qa_i p), .int (qa_i y)] [0, 1, 2] Value.int σ) := by
  obtain ⟨vi, vo, m, msn, mh, sp, ct, t, u, cs, n, f, sv, ps, ip, li, I⟩ := hI
  obtain ⟨⟨hc, hn0, hn1, hn4⟩, ⟨⟨rf, hS⟩, hk⟩, ⟨⟨rf2, hS2⟩, hk2⟩, hH, hX9, hR9, hO9, hv9⟩ := I.1
  have i3 := I.2.2.1
  obtain ⟨⟨ja1, ja2⟩, ⟨jb1, jb2⟩, jc1, jd1, ⟨je1, je2⟩, jg1, jg2, jg3⟩ := I.2.2.2
  have hlo7 : E.1 ≤ c + 277 := by omega
  have hsz : c + 277 ≤ σ.2 ∧ vi < σ.2 ∧ vo < σ.2 := by omega
  have h5 : 0 ≤ f 5 ∧ f 5 ≤ 8 := by have := hH.2.2.2.1; omega
  have hr9 := so_do_ok (x := p) (y := y) (z := 0) (k := 2) hk (by decide)
  have hch : ch_o (so_note m p (-1) y) = qa_ov (if (so_note m p (-1) y).1 < 0 then so_pl 2 (so_note m p (-1) y).1 else 0) [0, 1, 2] (.int (qa_i (so_note m p (-1) y).1)) ∧ ((so_note m p (-1) y).1 < 0 → so_pl 2 (so_note m p (-1) y).1 ≤ (([0, 1, 2] : List Nat).length : Int)) := chO (fun _ => ⟨by decide, by decide⟩) (fun _ => ⟨by decide, by decide⟩) (fun a b _ => by rw [show so_pl 2 (so_note m p (-1) y).1 = 3 from (if_neg a).trans (if_neg b)]; decide)
  exact jch (k9 := 2) (r := so_note m p (-1) y) I hr9 hch (c_C_addRest (E := E) (x := 0) hZ hz hlo I.1 hsz (by omega) hp ⟨by decide, by decide⟩ hy) (fun τ2 hR2 => c_M_addRest (E := E) hlo7 hR2 hk h5 hp hy)
theorem j_removeLast {E : qa_V} {σ : qa_S} {c : Nat} {Z : Nat → Nat} {B : Int} {p : Int} (hZ : qa_St E Z σ.1) (hz : qa_Sb E) (hlo : E.1 ≤ c) (hI : qI c Z B σ) (hB9 : B ≤ 800000000) (hp : qa_in p) : qa_T E qm_C_removeLast 1 6 [.ref c, .int (qa_i p)] σ (jC E c Z (B + 13000) qm_M_removeLast [.int (qa_i p)] [0, 2] Value.int σ) := by
  obtain ⟨vi, vo, m, msn, mh, sp, ct, t, u, cs, n, f, sv, ps, ip, li, I⟩ := hI
  obtain ⟨⟨hc, hn0, hn1, hn4⟩, ⟨⟨rf, hS⟩, hk⟩, ⟨⟨rf2, hS2⟩, hk2⟩, hH, hX9, hR9, hO9, hv9⟩ := I.1
  have i3 := I.2.2.1
  obtain ⟨⟨ja1, ja2⟩, ⟨jb1, jb2⟩, jc1, jd1, ⟨je1, je2⟩, jg1, jg2, jg3⟩ := I.2.2.2
  have hlo7 : E.1 ≤ c + 277 := by omega
  have hsz : c + 277 ≤ σ.2 ∧ vi < σ.2 ∧ vo < σ.2 := by omega
  have h5 : 0 ≤ f 5 ∧ f 5 ≤ 8 := by have := hH.2.2.2.1; omega
  have hr9 := so_do_ok (x := p) (y := 0) (z := 0) (k := 3) hk (by decide)
  have hch : ch_o (so_last m p) = qa_ov (if (so_last m p).1 < 0 then so_pl 3 (so_last m p).1 else 0) [0, 2] (.int (qa_i (so_last m p).1)) ∧ ((so_last m p).1 < 0 → so_pl 3 (so_last m p).1 ≤ (([0, 2] : List Nat).length : Int)) := chO (fun _ => ⟨by decide, by decide⟩) (fun h => absurd h (so_last_c hk)) (fun a b _ => by rw [show so_pl 3 (so_last m p).1 = 2 from if_neg a]; decide)
  exact jch (k9 := 3) (r := so_last m p) I hr9 hch (c_C_removeLast (E := E) (x := 0) (y := 0) hZ hz hlo I.1 hsz (by omega) hp ⟨by decide, by decide⟩ ⟨by decide, by decide⟩) (fun τ2 hR2 => c_M_removeLast (E := E) hlo7 hR2 hk h5 hp)
theorem j_transpose {E : qa_V} {σ : qa_S} {c : Nat} {Z : Nat → Nat} {B : Int} {p : Int} {x : Int} (hZ : qa_St E Z σ.1) (hz : qa_Sb E) (hlo : E.1 ≤ c) (hI : qI c Z B σ) (hB9 : B ≤ 800000000) (hp : qa_in p) (hx : qa_in x) : qa_T E qm_C_transpose 1 6 [.ref c, .int (qa_i p), .int (qa_i x)] σ (jC E c Z (B + 13000) qm_M_transpose [.int (qa_i p), .int (qa_i x)] [0, 1, 2] Value.int σ) := by
  obtain ⟨vi, vo, m, msn, mh, sp, ct, t, u, cs, n, f, sv, ps, ip, li, I⟩ := hI
  obtain ⟨⟨hc, hn0, hn1, hn4⟩, ⟨⟨rf, hS⟩, hk⟩, ⟨⟨rf2, hS2⟩, hk2⟩, hH, hX9, hR9, hO9, hv9⟩ := I.1
  have i3 := I.2.2.1
  obtain ⟨⟨ja1, ja2⟩, ⟨jb1, jb2⟩, jc1, jd1, ⟨je1, je2⟩, jg1, jg2, jg3⟩ := I.2.2.2
  have hlo7 : E.1 ≤ c + 277 := by omega
  have hsz : c + 277 ≤ σ.2 ∧ vi < σ.2 ∧ vo < σ.2 := by omega
  have h5 : 0 ≤ f 5 ∧ f 5 ≤ 8 := by have := hH.2.2.2.1; omega
  have hr9 := so_do_ok (x := p) (y := x) (z := 0) (k := 4) hk (by decide)
  have hch : ch_o (so_move m p x) = qa_ov (if (so_move m p x).1 < 0 then so_pl 4 (so_move m p x).1 else 0) [0, 1, 2] (.int (qa_i (so_move m p x).1)) ∧ ((so_move m p x).1 < 0 → so_pl 4 (so_move m p x).1 ≤ (([0, 1, 2] : List Nat).length : Int)) := chO (fun _ => ⟨by decide, by decide⟩) (fun _ => ⟨by decide, by decide⟩) (fun a b _ => by rw [show so_pl 4 (so_move m p x).1 = 3 from (if_neg a).trans (if_neg b)]; decide)
  exact jch (k9 := 4) (r := so_move m p x) I hr9 hch (c_C_transpose (E := E) (y := 0) hZ hz hlo I.1 hsz (by omega) hp hx ⟨by decide, by decide⟩) (fun τ2 hR2 => c_M_transpose (E := E) hlo7 hR2 hk h5 hp hx)
theorem j_setTuning {E : qa_V} {σ : qa_S} {c : Nat} {Z : Nat → Nat} {B : Int} {p : Int} {x : Int} {y : Int} (hZ : qa_St E Z σ.1) (hz : qa_Sb E) (hlo : E.1 ≤ c) (hI : qI c Z B σ) (hB9 : B ≤ 800000000) (hp : qa_in p) (hx : qa_in x) (hy : qa_in y) : qa_T E qm_C_setTuning 1 6 [.ref c, .int (qa_i p), .int (qa_i x), .int (qa_i y)] σ (jC E c Z (B + 13000) qm_M_setTuning [.int (qa_i p), .int (qa_i x), .int (qa_i y)] [0, 1] Value.int σ) := by
  obtain ⟨vi, vo, m, msn, mh, sp, ct, t, u, cs, n, f, sv, ps, ip, li, I⟩ := hI
  obtain ⟨⟨hc, hn0, hn1, hn4⟩, ⟨⟨rf, hS⟩, hk⟩, ⟨⟨rf2, hS2⟩, hk2⟩, hH, hX9, hR9, hO9, hv9⟩ := I.1
  have i3 := I.2.2.1
  obtain ⟨⟨ja1, ja2⟩, ⟨jb1, jb2⟩, jc1, jd1, ⟨je1, je2⟩, jg1, jg2, jg3⟩ := I.2.2.2
  have hlo7 : E.1 ≤ c + 277 := by omega
  have hsz : c + 277 ≤ σ.2 ∧ vi < σ.2 ∧ vo < σ.2 := by omega
  have h5 : 0 ≤ f 5 ∧ f 5 ≤ 8 := by have := hH.2.2.2.1; omega
  have hr9 := so_do_ok (x := p) (y := x) (z := y) (k := 5) hk (by decide)
  have hch : ch_o (so_tune m p x y) = qa_ov (if (so_tune m p x y).1 < 0 then so_pl 5 (so_tune m p x y).1 else 0) [0, 1] (.int (qa_i (so_tune m p x y).1)) ∧ ((so_tune m p x y).1 < 0 → so_pl 5 (so_tune m p x y).1 ≤ (([0, 1] : List Nat).length : Int)) := chO (fun _ => ⟨by decide, by decide⟩) (fun _ => ⟨by decide, by decide⟩) (fun a b d => absurd d (by have := so_tune_c (m := m) (p := p) (u := x) (d := y); omega))
  exact jch (k9 := 5) (r := so_tune m p x y) I hr9 hch (c_C_setTuning (E := E)  hZ hz hlo I.1 hsz (by omega) hp hx hy) (fun τ2 hR2 => c_M_setTuning (E := E) hlo7 hR2 hk h5 hp hx hy)
theorem j_setCue {E : qa_V} {σ : qa_S} {c : Nat} {Z : Nat → Nat} {B : Int} {p : Int} {x : Int} (hZ : qa_St E Z σ.1) (hz : qa_Sb E) (hlo : E.1 ≤ c) (hI : qI c Z B σ) (hB9 : B ≤ 800000000) (hp : qa_in p) (hx : qa_in x) : qa_T E qm_C_setCue 1 6 [.ref c, .int (qa_i p), .int (qa_i x)] σ (jC E c Z (B + 13000) qm_M_setCue [.int (qa_i p), .int (qa_i x)] [0, 1, 2] Value.int σ) := by
  obtain ⟨vi, vo, m, msn, mh, sp, ct, t, u, cs, n, f, sv, ps, ip, li, I⟩ := hI
  obtain ⟨⟨hc, hn0, hn1, hn4⟩, ⟨⟨rf, hS⟩, hk⟩, ⟨⟨rf2, hS2⟩, hk2⟩, hH, hX9, hR9, hO9, hv9⟩ := I.1
  have i3 := I.2.2.1
  obtain ⟨⟨ja1, ja2⟩, ⟨jb1, jb2⟩, jc1, jd1, ⟨je1, je2⟩, jg1, jg2, jg3⟩ := I.2.2.2
  have hlo7 : E.1 ≤ c + 277 := by omega
  have hsz : c + 277 ≤ σ.2 ∧ vi < σ.2 ∧ vo < σ.2 := by omega
  have h5 : 0 ≤ f 5 ∧ f 5 ≤ 8 := by have := hH.2.2.2.1; omega
  have hr9 := so_do_ok (x := p) (y := x) (z := 0) (k := 6) hk (by decide)
  have hch : ch_o (so_cue m p x) = qa_ov (if (so_cue m p x).1 < 0 then so_pl 6 (so_cue m p x).1 else 0) [0, 1, 2] (.int (qa_i (so_cue m p x).1)) ∧ ((so_cue m p x).1 < 0 → so_pl 6 (so_cue m p x).1 ≤ (([0, 1, 2] : List Nat).length : Int)) := chO (fun _ => ⟨by decide, by decide⟩) (fun _ => ⟨by decide, by decide⟩) (fun a b _ => by rw [show so_pl 6 (so_cue m p x).1 = 3 from (if_neg a).trans (if_neg b)]; decide)
  exact jch (k9 := 6) (r := so_cue m p x) I hr9 hch (c_C_setCue (E := E) (y := 0) hZ hz hlo I.1 hsz (by omega) hp hx ⟨by decide, by decide⟩) (fun τ2 hR2 => c_M_setCue (E := E) hlo7 hR2 hk h5 hp hx)
theorem j_removeCue {E : qa_V} {σ : qa_S} {c : Nat} {Z : Nat → Nat} {B : Int} {p : Int} (hZ : qa_St E Z σ.1) (hz : qa_Sb E) (hlo : E.1 ≤ c) (hI : qI c Z B σ) (hB9 : B ≤ 800000000) (hp : qa_in p) : qa_T E qm_C_removeCue 1 6 [.ref c, .int (qa_i p)] σ (jC E c Z (B + 13000) qm_M_removeCue [.int (qa_i p)] [0, 2] Value.int σ) := by
  obtain ⟨vi, vo, m, msn, mh, sp, ct, t, u, cs, n, f, sv, ps, ip, li, I⟩ := hI
  obtain ⟨⟨hc, hn0, hn1, hn4⟩, ⟨⟨rf, hS⟩, hk⟩, ⟨⟨rf2, hS2⟩, hk2⟩, hH, hX9, hR9, hO9, hv9⟩ := I.1
  have i3 := I.2.2.1
  obtain ⟨⟨ja1, ja2⟩, ⟨jb1, jb2⟩, jc1, jd1, ⟨je1, je2⟩, jg1, jg2, jg3⟩ := I.2.2.2
  have hlo7 : E.1 ≤ c + 277 := by omega
  have hsz : c + 277 ≤ σ.2 ∧ vi < σ.2 ∧ vo < σ.2 := by omega
  have h5 : 0 ≤ f 5 ∧ f 5 ≤ 8 := by have := hH.2.2.2.1; omega
  have hr9 := so_do_ok (x := p) (y := 0) (z := 0) (k := 7) hk (by decide)
  have hch : ch_o (so_alone m p) = qa_ov (if (so_alone m p).1 < 0 then so_pl 7 (so_alone m p).1 else 0) [0, 2] (.int (qa_i (so_alone m p).1)) ∧ ((so_alone m p).1 < 0 → so_pl 7 (so_alone m p).1 ≤ (([0, 2] : List Nat).length : Int)) := chO (fun _ => ⟨by decide, by decide⟩) (fun h => absurd h (so_alone_c hk)) (fun a b _ => by rw [show so_pl 7 (so_alone m p).1 = 2 from if_neg a]; decide)
  exact jch (k9 := 7) (r := so_alone m p) I hr9 hch (c_C_removeCue (E := E) (x := 0) (y := 0) hZ hz hlo I.1 hsz (by omega) hp ⟨by decide, by decide⟩ ⟨by decide, by decide⟩) (fun τ2 hR2 => c_M_removeCue (E := E) hlo7 hR2 hk h5 hp)
theorem j_setBar {E : qa_V} {σ : qa_S} {c : Nat} {Z : Nat → Nat} {B : Int} {x : Int} (hZ : qa_St E Z σ.1) (hz : qa_Sb E) (hlo : E.1 ≤ c) (hI : qI c Z B σ) (hB9 : B ≤ 800000000) (hx : qa_in x) : qa_T E qm_C_setBar 1 6 [.ref c, .int (qa_i x)] σ (jC E c Z (B + 13000) qm_M_setBar [.int (qa_i x)] [1] Value.int σ) := by
  obtain ⟨vi, vo, m, msn, mh, sp, ct, t, u, cs, n, f, sv, ps, ip, li, I⟩ := hI
  obtain ⟨⟨hc, hn0, hn1, hn4⟩, ⟨⟨rf, hS⟩, hk⟩, ⟨⟨rf2, hS2⟩, hk2⟩, hH, hX9, hR9, hO9, hv9⟩ := I.1
  have i3 := I.2.2.1
  obtain ⟨⟨ja1, ja2⟩, ⟨jb1, jb2⟩, jc1, jd1, ⟨je1, je2⟩, jg1, jg2, jg3⟩ := I.2.2.2
  have hlo7 : E.1 ≤ c + 277 := by omega
  have hsz : c + 277 ≤ σ.2 ∧ vi < σ.2 ∧ vo < σ.2 := by omega
  have h5 : 0 ≤ f 5 ∧ f 5 ≤ 8 := by have := hH.2.2.2.1; omega
  have hr9 := so_do_ok (x := x) (y := 0) (z := 0) (k := 8) hk (by decide)
  have hch : ch_o (so_bar m x) = qa_ov (if (so_bar m x).1 < 0 then so_pl 8 (so_bar m x).1 else 0) [1] (.int (qa_i (so_bar m x).1)) ∧ ((so_bar m x).1 < 0 → so_pl 8 (so_bar m x).1 ≤ (([1] : List Nat).length : Int)) := by
      have h9 := so_bar_c (t := x) hk
      exact chO (fun h => absurd h (by omega)) (fun _ => ⟨by decide, by decide⟩) (fun a b d => absurd d (by omega))
  exact jch (k9 := 8) (r := so_bar m x) I hr9 hch (c_C_setBar (E := E) (p := 0) (y := 0) hZ hz hlo I.1 hsz (by omega) ⟨by decide, by decide⟩ hx ⟨by decide, by decide⟩) (fun τ2 hR2 => c_M_setBar (E := E) hlo7 hR2 hk h5 hx)
theorem j_setTempo {E : qa_V} {σ : qa_S} {c : Nat} {Z : Nat → Nat} {B : Int} {x : Int} {y : Int} (hZ : qa_St E Z σ.1) (hz : qa_Sb E) (hlo : E.1 ≤ c) (hI : qI c Z B σ) (hB9 : B ≤ 800000000) (hx : qa_in x) (hy : qa_in y) : qa_T E qm_C_setTempo 1 6 [.ref c, .int (qa_i x), .int (qa_i y)] σ (jC E c Z (B + 13000) qm_M_setTempo [.int (qa_i x), .int (qa_i y)] [1, 2] Value.int σ) := by
  obtain ⟨vi, vo, m, msn, mh, sp, ct, t, u, cs, n, f, sv, ps, ip, li, I⟩ := hI
  obtain ⟨⟨hc, hn0, hn1, hn4⟩, ⟨⟨rf, hS⟩, hk⟩, ⟨⟨rf2, hS2⟩, hk2⟩, hH, hX9, hR9, hO9, hv9⟩ := I.1
  have i3 := I.2.2.1
  obtain ⟨⟨ja1, ja2⟩, ⟨jb1, jb2⟩, jc1, jd1, ⟨je1, je2⟩, jg1, jg2, jg3⟩ := I.2.2.2
  have hlo7 : E.1 ≤ c + 277 := by omega
  have hsz : c + 277 ≤ σ.2 ∧ vi < σ.2 ∧ vo < σ.2 := by omega
  have h5 : 0 ≤ f 5 ∧ f 5 ≤ 8 := by have := hH.2.2.2.1; omega
  have hr9 := so_do_ok (x := x) (y := y) (z := 0) (k := 9) hk (by decide)
  have hch : ch_o (so_tempo m x y) = qa_ov (if (so_tempo m x y).1 < 0 then so_pl 9 (so_tempo m x y).1 else 0) [1, 2] (.int (qa_i (so_tempo m x y).1)) ∧ ((so_tempo m x y).1 < 0 → so_pl 9 (so_tempo m x y).1 ≤ (([1, 2] : List Nat).length : Int)) := chO (fun h => absurd h (so_tempo_c hk)) (fun _ => ⟨by decide, by decide⟩) (fun a b _ => by rw [show so_pl 9 (so_tempo m x y).1 = 2 from if_neg b]; decide)
  exact jch (k9 := 9) (r := so_tempo m x y) I hr9 hch (c_C_setTempo (E := E) (p := 0) hZ hz hlo I.1 hsz (by omega) ⟨by decide, by decide⟩ hx hy) (fun τ2 hR2 => c_M_setTempo (E := E) hlo7 hR2 hk h5 hx hy)
theorem j_play {E : qa_V} {σ : qa_S} {c : Nat} {Z : Nat → Nat} {B : Int} {x : Int} (hZ : qa_St E Z σ.1) (hz : qa_Sb E) (hlo : E.1 ≤ c) (hI : qI c Z B σ) (hB9 : B ≤ 800000000) (hx : qa_in x) : qa_T E qm_C_play 1 6 [.ref c, .int (qa_i x)] σ (jC E c Z (B + 13000) qm_M_play [.int (qa_i x)] [1, 2] Value.int σ) := by
  obtain ⟨vi, vo, m, msn, mh, sp, ct, t, u, cs, n, f, sv, ps, ip, li, I⟩ := hI
  obtain ⟨⟨hc, hn0, hn1, hn4⟩, ⟨⟨rf, hS⟩, hk⟩, ⟨⟨rf2, hS2⟩, hk2⟩, hH, hX9, hR9, hO9, hv9⟩ := I.1
  have i3 := I.2.2.1
  obtain ⟨⟨ja1, ja2⟩, ⟨jb1, jb2⟩, jc1, jd1, ⟨je1, je2⟩, jg1, jg2, jg3⟩ := I.2.2.2
  have hlo7 : E.1 ≤ c + 277 := by omega
  have hsz : c + 277 ≤ σ.2 ∧ vi < σ.2 ∧ vo < σ.2 := by omega
  have h5 : 0 ≤ f 5 ∧ f 5 ≤ 8 := by have := hH.2.2.2.1; omega
  have hr9 := so_do_ok (x := x) (y := 0) (z := 0) (k := 10) hk (by decide)
  have hch : ch_o (so_play m x) = qa_ov (if (so_play m x).1 < 0 then so_pl 10 (so_play m x).1 else 0) [1, 2] (.int (qa_i (so_play m x).1)) ∧ ((so_play m x).1 < 0 → so_pl 10 (so_play m x).1 ≤ (([1, 2] : List Nat).length : Int)) := chO (fun h => absurd h (so_play_c hk)) (fun _ => ⟨by decide, by decide⟩) (fun a b _ => by rw [show so_pl 10 (so_play m x).1 = 2 from if_neg b]; decide)
  exact jch (k9 := 10) (r := so_play m x) I hr9 hch (c_C_play (E := E) (p := 0) (y := 0) hZ hz hlo I.1 hsz (by omega) ⟨by decide, by decide⟩ hx ⟨by decide, by decide⟩) (fun τ2 hR2 => c_M_play (E := E) hlo7 hR2 hk h5 hx (by omega))
