/-! the class's own methods: what they tell -/
def qa_CoF (c : Nat) (n : Nat → Int) : qa_E := .inl (0, [.ref (c + 1), .ref (c + 24), .ref (c + 47), .ref (c + 256), .ref (c + 270), .ref (c + 275), .int (qa_i (n 0)), .int (qa_i (n 1)), .int (qa_i (n 2)), .int (qa_i (n 3)), .int (qa_i (n 4))])
/-- a value where ok, else an exception; nothing is changed -/
def qa_oe (σ : qa_S) (ok : Prop) (k : Nat) (v : Option Value) : qa_O → qa_S → Prop := fun o9 τ => (ok ∧ o9 = .inl v ∧ τ = σ) ∨ (¬ ok ∧ o9 = .inr k ∧ τ.1 = σ.1 ∧ σ.2 ≤ τ.2)
/-- (0, the value) or (the number of the exception in X, any) -/
def qa_out (X : List Nat) (r : Int × Int) : qa_O := if r.1 = 0 then .inl (some (.int (qa_i r.2))) else .inr (X.getD (r.1 - 1).toNat 0)
def qa_q (σ : qa_S) (o : qa_O) : qa_O → qa_S → Prop := fun o9 τ => o9 = o ∧ τ.1 = σ.1 ∧ σ.2 ≤ τ.2
abbrev sm_is (m : Int → Int) (p : Int) : Prop := 0 ≤ p ∧ p < m 0
theorem sp_en_ext2 {f g : Int → Int} {b : Int} {n : Int} (h : ∀ j : Int, 0 ≤ j → j < n → f j = g j) : ∀ k : Nat, (k : Int) < n → sp_en f b k = sp_en g b k := fun k hk => sp_en_ext k (fun j j0 j1 => h j j0 (by omega))
theorem sp_sb_ext {f g u v : Int → Int} {n bt : Int} (h : ∀ j : Int, 0 ≤ j → j < n → f j = g j ∧ u j = v j) (hn : 1 ≤ n) : ∀ k : Nat, sp_sb f u n bt k = sp_sb g v n bt k
  | 0 => rfl
  | k + 1 => by
    unfold sp_sb
    have hb := sp_en_b f k (n - 1).toNat
    have he := sp_en_ext2 (b := (k : Int)) (fun j j0 j1 => (h j j0 j1).1) (n - 1).toNat (by omega)
    rw [sp_sb_ext h hn k, ← he, (h _ hb.1 (by omega)).2]
theorem c_C_requireRange {E : qa_V} {σ : qa_S} {v lo hi : Int} (hv : qa_in v) (hlo : qa_in lo) (hhi : qa_in hi) : qa_T E qm_C_requireRange 1 6 [.int (qa_i v), .int (qa_i lo), .int (qa_i hi)] σ (qa_oe σ (lo ≤ v ∧ v ≤ hi) 1 none) := by
  refine qa_enterQ (by decide) rfl qm_C_requireRange_ok rfl rfl (fun Q9 hQ => ?_)
  refine qa_iload_n (pc' := 1) ⟨rfl, rfl⟩ rfl ?_
  refine qa_iload_n (pc' := 2) ⟨rfl, rfl⟩ rfl ?_
  refine qa_iload_n (pc' := 3) ⟨rfl, rfl⟩ rfl ?_
  refine qa_callS rfl qf_C_isWithin rfl ql_1_414 (c_C_isWithin (E := E) hv hlo hhi) rfl rfl (qa_lt9 rfl) (qa_le9 rfl) (qa_le9 rfl) (qa_le9 rfl) (fun o9 τ9 hq9 => ?_)
  obtain ⟨rfl, hq9⟩ := hq9
  replace hq9 := hq9.symm; subst hq9
  refine qa_nx (pc' := 6) (st' := [_]) rfl rfl rfl rfl ?_
  by_cases hw : lo ≤ v ∧ v ≤ hi
  · rw [if_pos hw]
    refine qa_if_ne (pc' := 9) (tgt := 20) ⟨rfl, rfl⟩ rfl (by omega) (fun hw9 => ?_) (fun hw9 => ?_)
    · refine qa_return rfl rfl (hQ _ _ (Or.inl ⟨hw, rfl, rfl⟩))
    · exact absurd hw9 (by omega)
  · rw [if_neg hw]
    refine qa_if_ne (pc' := 9) (tgt := 20) ⟨rfl, rfl⟩ rfl (by omega) (fun hw9 => ?_) (fun hw9 => ?_)
    · exact absurd hw9 (by omega)
    · refine qa_throwW rfl rfl rfl rfl rfl rfl qt_1_321_386_325 (qa_le9 rfl) (fun n9 hn9 => hQ _ _ (Or.inr ⟨hw, rfl, rfl, hn9⟩))
theorem c_C_found {E : qa_V} {σ : qa_S} {v : Int} (hv : qa_in v) : qa_T E qm_C_found 1 6 [.int (qa_i v)] σ (qa_oe σ (v ≠ -1) 3 (some (.int (qa_i v)))) := by
  refine qa_enterQ (by decide) rfl qm_C_found_ok rfl rfl (fun Q9 hQ => ?_)
  refine qa_iload_n (pc' := 1) ⟨rfl, rfl⟩ rfl ?_
  refine qa_iconst (pc' := 2) ⟨rfl, rfl⟩ ?_
  refine qa_icmp_ne (pc' := 5) (tgt := 16) ⟨rfl, rfl⟩ rfl (by omega) (by omega) (fun hc1 => ?_) (fun hc1 => ?_)
  · refine qa_iload_n (pc' := 17) ⟨rfl, rfl⟩ rfl ?_
    refine qa_ireturn rfl rfl rfl (hQ _ _ (Or.inl ⟨hc1, rfl, rfl⟩))
  · refine qa_throwN rfl rfl rfl rfl rfl rfl qtn_1_93_418_97 (qa_le9 rfl) (fun n9 hn9 => hQ _ _ (Or.inr ⟨fun h => h hc1, rfl, rfl, hn9⟩))
theorem c_C_requirePart {E : qa_V} {σ : qa_S} {c : Nat} {m : Int → Int} {n : Nat → Int} {rf B : Int} {p : Int} (hc : σ.1 c = some (qa_CoF c n)) (hS : sR_S σ.1 (c + 1) m rf) (hk : sm_ok m B) (hp : qa_in p) : qa_T E qm_C_requirePart 1 6 [.ref c, .int (qa_i p)] σ (qa_oe σ (sm_is m p) 0 none) := by
  refine qa_enterQ (by decide) rfl qm_C_requirePart_ok rfl rfl (fun Q9 hQ => ?_)
  have hs := hS.1
  refine qa_aload_n (pc' := 1) ⟨rfl, rfl⟩ rfl ?_
  refine qa_getf (pc' := 4) ⟨rfl, rfl⟩ qg_1_10 (by assumption) rfl ?_
  refine qa_iload_n (pc' := 5) ⟨rfl, rfl⟩ rfl ?_
  refine qa_callV rfl qf_S_has ql_1_400 (c_S_has (E := E) hS hk (by omega)) hs rfl rfl rfl (qa_lt9 rfl) (qa_le9 rfl) (qa_le9 rfl) (qa_le9 rfl) (fun o9 τ9 hq9 => ?_)
  obtain ⟨rfl, hq9⟩ := hq9
  replace hq9 := hq9.symm; subst hq9
  refine qa_nx (pc' := 8) (st' := [_]) rfl rfl rfl rfl ?_
  by_cases hw : 0 ≤ p ∧ p < m 0
  · rw [if_pos hw]
    refine qa_if_ne (pc' := 11) (tgt := 22) ⟨rfl, rfl⟩ rfl (by omega) (fun hw9 => ?_) (fun hw9 => ?_)
    · refine qa_return rfl rfl (hQ _ _ (Or.inl ⟨hw, rfl, rfl⟩))
    · exact absurd hw9 (by omega)
  · rw [if_neg hw]
    refine qa_if_ne (pc' := 11) (tgt := 22) ⟨rfl, rfl⟩ rfl (by omega) (fun hw9 => ?_) (fun hw9 => ?_)
    · exact absurd hw9 (by omega)
    · refine qa_throwW rfl rfl rfl rfl rfl rfl qt_1_294_384_298 (qa_le9 rfl) (fun n9 hn9 => hQ _ _ (Or.inr ⟨hw, rfl, rfl, hn9⟩))
theorem c_C_partOf {E : qa_V} {σ : qa_S} {c : Nat} {m : Int → Int} {n : Nat → Int} {rf B : Int} {p : Int} (hc : σ.1 c = some (qa_CoF c n)) (hS : sR_S σ.1 (c + 1) m rf) (hk : sm_ok m B) (hp : qa_in p) : qa_T E qm_C_partOf 1 6 [.ref c, .int (qa_i p)] σ (qa_oe σ (sm_is m p) 0 (some (.ref (sm_pa (c + 1) p)))) := by
  refine qa_enterQ (by decide) rfl qm_C_partOf_ok rfl rfl (fun Q9 hQ => ?_)
  have hk9 := hk.1
  have hs := hS.1
  have hpa := hS.2.1
  refine qa_aload_n (pc' := 1) ⟨rfl, rfl⟩ rfl ?_
  refine qa_iload_n (pc' := 2) ⟨rfl, rfl⟩ rfl ?_
  refine qa_callV rfl qf_C_requirePart ql_1_183 (c_C_requirePart (E := E) hc hS hk hp) hc rfl rfl rfl (qa_lt9 rfl) (qa_le9 rfl) (qa_le9 rfl) (qa_le9 rfl) (fun o9 τ9 hq9 => ?_)
  rcases hq9 with ⟨ok9, rfl, hq9⟩ | ⟨no9, rfl, hh9, hn9⟩
  · replace hq9 := hq9.symm; subst hq9
    refine qa_nx (pc' := 5) (st' := []) rfl rfl rfl rfl ?_
    refine qa_aload_n (pc' := 6) ⟨rfl, rfl⟩ rfl ?_
    refine qa_getf (pc' := 9) ⟨rfl, rfl⟩ qg_1_10 (by assumption) rfl ?_
    refine qa_getf (pc' := 12) ⟨rfl, rfl⟩ qg_1_404 (by assumption) rfl ?_
    refine qa_iload_n (pc' := 13) ⟨rfl, rfl⟩ rfl ?_
    refine qa_aaload (pc' := 14) ⟨rfl, rfl⟩ hpa rfl rfl (by omega) (sm_q5_at (by omega)) ?_
    refine qa_areturn rfl rfl (Or.inl ⟨_, rfl⟩) (hQ _ _ (Or.inl ⟨ok9, rfl, rfl⟩))
  · exact qa_Zout rfl (hQ _ _ (Or.inr ⟨no9, rfl, hh9, hn9⟩))
theorem c_C_partWith {E : qa_V} {σ : qa_S} {c : Nat} {m : Int → Int} {n : Nat → Int} {rf B : Int} {p j : Int} (hc : σ.1 c = some (qa_CoF c n)) (hS : sR_S σ.1 (c + 1) m rf) (hk : sm_ok m B) (hp : qa_in p) (hj : qa_in j) : qa_T E qm_C_partWith 2 12 [.ref c, .int (qa_i p), .int (qa_i j)] σ (qa_oe σ (sm_is m p ∧ 0 ≤ j ∧ j < sm_n m p) 0 (some (.ref (sm_pa (c + 1) p)))) := by
  refine qa_enterQ (by decide) rfl qm_C_partWith_ok rfl rfl (fun Q9 hQ => ?_)
  have hk9 := hk
  have hS9 := hS
  have hs := hS.1
  obtain ⟨k0, k1, k2, k3, k4, k5, k6, k7, k8⟩ := hk
  obtain ⟨-, hpa, hcq, htq, hpp⟩ := hS
  refine qa_aload_n (pc' := 1) ⟨rfl, rfl⟩ rfl ?_
  refine qa_iload_n (pc' := 2) ⟨rfl, rfl⟩ rfl ?_
  refine qa_callV rfl qf_C_partOf ql_1_76 (c_C_partOf (E := E) hc hS9 hk9 hp) hc rfl rfl rfl (qa_lt9 rfl) (qa_le9 rfl) (qa_le9 rfl) (qa_le9 rfl) (fun o9 τ9 hq9 => ?_)
  rcases hq9 with ⟨ok9, rfl, hq9⟩ | ⟨no9, rfl, hh9, hn9⟩
  · replace hq9 := hq9.symm; subst hq9
    refine qa_nx (pc' := 5) (st' := [_]) rfl rfl rfl rfl ?_
    obtain ⟨p9, l9, u9, d9, q1, q2, q3, q4, q5, q6⟩ := hpp p (by omega) (by omega)
    have kk := (k4 p (by omega) (by omega)).1
    refine qa_astore_n (L' := [(0, _), (1, _), (2, _), (3, _)]) (pc' := 6) ⟨rfl, rfl⟩ rfl rfl ?_
    refine qa_iload_n (pc' := 7) ⟨rfl, rfl⟩ rfl ?_
    refine qa_if_lt (pc' := 10) (tgt := 18) ⟨rfl, rfl⟩ rfl (by omega) (fun hc1 => ?_) (fun hc1 => ?_)
    · refine qa_throwW rfl rfl rfl rfl rfl rfl qt_1_294_408_298 (qa_le9 rfl) (fun n9 hn9 => hQ _ _ (Or.inr ⟨by omega, rfl, rfl, hn9⟩))
    · refine qa_iload_n (pc' := 11) ⟨rfl, rfl⟩ rfl ?_
      refine qa_aload_n (pc' := 12) ⟨rfl, rfl⟩ rfl ?_
      refine qa_getf (pc' := 15) ⟨rfl, rfl⟩ qg_1_80 (by assumption) rfl ?_
      refine qa_icmp_lt (pc' := 18) (tgt := 29) ⟨rfl, rfl⟩ rfl (by omega) (by omega) (fun hc2 => ?_) (fun hc2 => ?_)
      · refine qa_aload_n (pc' := 30) ⟨rfl, rfl⟩ rfl ?_
        refine qa_areturn rfl rfl (Or.inl ⟨_, rfl⟩) (hQ _ _ (Or.inl ⟨⟨by omega, by omega⟩, rfl, rfl⟩))
      · refine qa_throwW rfl rfl rfl rfl rfl rfl qt_1_294_408_298 (qa_le9 rfl) (fun n9 hn9 => hQ _ _ (Or.inr ⟨by omega, rfl, rfl, hn9⟩))
  · exact qa_Zout rfl (hQ _ _ (Or.inr ⟨fun h => no9 h.1, rfl, hh9, hn9⟩))
theorem c_C_partWithNotes {E : qa_V} {σ : qa_S} {c : Nat} {m : Int → Int} {n : Nat → Int} {rf B : Int} {p : Int} (hc : σ.1 c = some (qa_CoF c n)) (hS : sR_S σ.1 (c + 1) m rf) (hk : sm_ok m B) (hp : qa_in p) : qa_T E qm_C_partWithNotes 2 12 [.ref c, .int (qa_i p)] σ (fun o9 τ => (sm_is m p ∧ sm_n m p ≠ 0 ∧ o9 = .inl (some (.ref (sm_pa (c + 1) p))) ∧ τ = σ) ∨ (¬ (sm_is m p ∧ sm_n m p ≠ 0) ∧ o9 = .inr (if sm_is m p then 3 else 0) ∧ τ.1 = σ.1 ∧ σ.2 ≤ τ.2)) := by
  refine qa_enterQ (by decide) rfl qm_C_partWithNotes_ok rfl rfl (fun Q9 hQ => ?_)
  have hk9 := hk
  have hS9 := hS
  have hs := hS.1
  obtain ⟨k0, k1, k2, k3, k4, k5, k6, k7, k8⟩ := hk
  obtain ⟨-, hpa, hcq, htq, hpp⟩ := hS
  refine qa_aload_n (pc' := 1) ⟨rfl, rfl⟩ rfl ?_
  refine qa_iload_n (pc' := 2) ⟨rfl, rfl⟩ rfl ?_
  refine qa_callV rfl qf_C_partOf ql_1_76 (c_C_partOf (E := E) hc hS9 hk9 hp) hc rfl rfl rfl (qa_lt9 rfl) (qa_le9 rfl) (qa_le9 rfl) (qa_le9 rfl) (fun o9 τ9 hq9 => ?_)
  rcases hq9 with ⟨ok9, rfl, hq9⟩ | ⟨no9, rfl, hh9, hn9⟩
  · replace hq9 := hq9.symm; subst hq9
    refine qa_nx (pc' := 5) (st' := [_]) rfl rfl rfl rfl ?_
    obtain ⟨p9, l9, u9, d9, q1, q2, q3, q4, q5, q6⟩ := hpp p (by omega) (by omega)
    have kk := (k4 p (by omega) (by omega)).1
    refine qa_astore_n (L' := [(0, _), (1, _), (2, _)]) (pc' := 6) ⟨rfl, rfl⟩ rfl rfl ?_
    refine qa_aload_n (pc' := 7) ⟨rfl, rfl⟩ rfl ?_
    refine qa_getf (pc' := 10) ⟨rfl, rfl⟩ qg_1_80 (by assumption) rfl ?_
    refine qa_if_ne (pc' := 13) (tgt := 24) ⟨rfl, rfl⟩ rfl (by omega) (fun hc1 => ?_) (fun hc1 => ?_)
    · refine qa_aload_n (pc' := 25) ⟨rfl, rfl⟩ rfl ?_
      refine qa_areturn rfl rfl (Or.inl ⟨_, rfl⟩) (hQ _ _ (Or.inl ⟨ok9, hc1, rfl, rfl⟩))
    · refine qa_throwN rfl rfl rfl rfl rfl rfl qtn_1_93_410_97 (qa_le9 rfl) (fun n9 hn9 => hQ _ _ (Or.inr ⟨fun h => h.2 hc1, by rw [if_pos ok9], rfl, hn9⟩))
  · exact qa_Zout rfl (hQ _ _ (Or.inr ⟨fun h => no9 h.1, by rw [if_neg no9], hh9, hn9⟩))
theorem c_C_requireRejection {E : qa_V} {σ : qa_S} {c : Nat} {n : Nat → Int} (hc : σ.1 c = some (qa_CoF c n)) (hn : qa_in (n 1)) : qa_T E qm_C_requireRejection 1 6 [.ref c] σ (qa_oe σ (n 1 ≠ 0) 3 none) := by
  refine qa_enterQ (by decide) rfl qm_C_requireRejection_ok rfl rfl (fun Q9 hQ => ?_)
  refine qa_aload_n (pc' := 1) ⟨rfl, rfl⟩ rfl ?_
  refine qa_getf (pc' := 4) ⟨rfl, rfl⟩ qg_1_350 (by assumption) rfl ?_
  refine qa_if_ne (pc' := 7) (tgt := 18) ⟨rfl, rfl⟩ rfl (by omega) (fun hc1 => ?_) (fun hc1 => ?_)
  · refine qa_return rfl rfl (hQ _ _ (Or.inl ⟨hc1, rfl, rfl⟩))
  · refine qa_throwN rfl rfl rfl rfl rfl rfl qtn_1_93_412_97 (qa_le9 rfl) (fun n9 hn9 => hQ _ _ (Or.inr ⟨fun h => h hc1, rfl, rfl, hn9⟩))
def fo_count (m : Int → Int) (p : Int) : Int × Int := if sm_is m p then (0, sm_n m p) else (1, 0)
def fo_rest (m : Int → Int) (p j : Int) : Int × Int := if sm_is m p ∧ 0 ≤ j ∧ j < sm_n m p then (0, if sm_pf m p j = -1 then 1 else 0) else (1, 0)
def fo_pitch (m : Int → Int) (p j : Int) : Int × Int := if sm_is m p ∧ 0 ≤ j ∧ j < sm_n m p then (if sm_pf m p j = -1 then (2, 0) else (0, sm_pf m p j)) else (1, 0)
def fo_length (m : Int → Int) (p j : Int) : Int × Int := if sm_is m p ∧ 0 ≤ j ∧ j < sm_n m p then (0, sm_lf m p j) else (1, 0)
def fo_whole (m : Int → Int) (p : Int) : Int × Int := if sm_is m p then (0, sm_wh m p) else (1, 0)
def fo_noteAt (m : Int → Int) (p x : Int) : Int × Int := if sm_is m p then (if 0 ≤ x ∧ x ≤ 999999 then (if sm_ni m p x = -1 then (3, 0) else (0, sm_ni m p x)) else (2, 0)) else (1, 0)
def fo_sound (m : Int → Int) (x : Int) : Int × Int := if 0 ≤ x ∧ x ≤ 999999 then (0, sm_so m x (m 0).toNat) else (1, 0)
def sm_tg (m : Int → Int) : Int := if sm_lo m (m 0).toNat = 0 then -1 else sm_bm m (m 0).toNat 0 1
def sm_ts (m : Int → Int) : Int := if sm_lo m (m 0).toNat < 1 then -1 else sm_bs m (sm_lo m (m 0).toNat) 1000000 (sm_lo m (m 0).toNat)
def fo_found (v : Int) : Int × Int := if v = -1 then (1, 0) else (0, v)
def fo_foundP (m : Int → Int) (p v : Int) : Int × Int := if sm_is m p then (if v = -1 then (2, 0) else (0, v)) else (1, 0)
def fo_of (m : Int → Int) (p v : Int) : Int × Int := if sm_is m p then (0, v) else (1, 0)
def fo_of2 (m : Int → Int) (p q v : Int) : Int × Int := if sm_is m p ∧ sm_is m q then (0, v) else (1, 0)
def fo_near (m : Int → Int) (p x v : Int) : Int × Int := if sm_is m p then (if 1 ≤ x ∧ x ≤ 20 then (0, v) else (2, 0)) else (1, 0)
def fo_rng (lo hi x v : Int) : Int × Int := if lo ≤ x ∧ x ≤ hi then (0, v) else (1, 0)
theorem c_C_noteCount {E : qa_V} {σ : qa_S} {c : Nat} {m : Int → Int} {n : Nat → Int} {rf B : Int} {p : Int} (hc : σ.1 c = some (qa_CoF c n)) (hS : sR_S σ.1 (c + 1) m rf) (hk : sm_ok m B) (hp : qa_in p) : qa_T E qm_C_noteCount 4 24 [.ref c, .int (qa_i p)] σ (qa_q σ (qa_out [0] (fo_count m p))) := by
  refine qa_enterQ (by decide) rfl qm_C_noteCount_ok rfl rfl (fun Q9 hQ => ?_)
  have hk9 := hk
  have hS9 := hS
  have hs := hS.1
  obtain ⟨k0, k1, k2, k3, k4, k5, k6, k7, k8⟩ := hk
  obtain ⟨-, hpa, hcq, htq, hpp⟩ := hS
  refine qa_aload_n (pc' := 1) ⟨rfl, rfl⟩ rfl ?_
  refine qa_iload_n (pc' := 2) ⟨rfl, rfl⟩ rfl ?_
  refine qa_callV rfl qf_C_partOf ql_1_76 (c_C_partOf (E := E) hc hS9 hk9 hp) hc rfl rfl rfl (qa_lt9 rfl) (qa_le9 rfl) (qa_le9 rfl) (qa_le9 rfl) (fun o9 τ9 hq9 => ?_)
  rcases hq9 with ⟨ok9, rfl, hq9⟩ | ⟨no9, rfl, hh9, hn9⟩
  · replace hq9 := hq9.symm; subst hq9
    refine qa_nx (pc' := 5) (st' := [_]) rfl rfl rfl rfl ?_
    obtain ⟨p9, l9, u9, d9, q1, q2, q3, q4, q5, q6⟩ := hpp p (by omega) (by omega)
    have kk := k4 p (by omega) (by omega)
    have kn := kk.1
    have kw := sm_wh_b kk
    have k5p := k5 p ok9.1 ok9.2
    obtain ⟨eu, ed⟩ := q4 ok9.2
    subst eu; subst ed
    refine qa_getf (pc' := 8) ⟨rfl, rfl⟩ qg_1_80 (by assumption) rfl ?_
    refine qa_ireturn rfl rfl rfl (hQ _ _ ⟨by unfold fo_count; (repeat (first | rw [if_pos (by omega)] | rw [if_neg (by omega)])); rfl, rfl, Nat.le_refl _⟩)
  · exact qa_Zout rfl (hQ _ _ ⟨by unfold fo_count; (repeat (first | rw [if_pos (by omega)] | rw [if_neg (by omega)])); rfl, hh9, hn9⟩)
theorem c_C_partLength {E : qa_V} {σ : qa_S} {c : Nat} {m : Int → Int} {n : Nat → Int} {rf B : Int} {p : Int} (hc : σ.1 c = some (qa_CoF c n)) (hS : sR_S σ.1 (c + 1) m rf) (hk : sm_ok m B) (hp : qa_in p) : qa_T E qm_C_partLength 4 24 [.ref c, .int (qa_i p)] σ (qa_q σ (qa_out [0] (fo_whole m p))) := by
  refine qa_enterQ (by decide) rfl qm_C_partLength_ok rfl rfl (fun Q9 hQ => ?_)
  have hk9 := hk
  have hS9 := hS
  have hs := hS.1
  obtain ⟨k0, k1, k2, k3, k4, k5, k6, k7, k8⟩ := hk
  obtain ⟨-, hpa, hcq, htq, hpp⟩ := hS
  refine qa_aload_n (pc' := 1) ⟨rfl, rfl⟩ rfl ?_
  refine qa_iload_n (pc' := 2) ⟨rfl, rfl⟩ rfl ?_
  refine qa_callV rfl qf_C_partOf ql_1_76 (c_C_partOf (E := E) hc hS9 hk9 hp) hc rfl rfl rfl (qa_lt9 rfl) (qa_le9 rfl) (qa_le9 rfl) (qa_le9 rfl) (fun o9 τ9 hq9 => ?_)
  rcases hq9 with ⟨ok9, rfl, hq9⟩ | ⟨no9, rfl, hh9, hn9⟩
  · replace hq9 := hq9.symm; subst hq9
    refine qa_nx (pc' := 5) (st' := [_]) rfl rfl rfl rfl ?_
    obtain ⟨p9, l9, u9, d9, q1, q2, q3, q4, q5, q6⟩ := hpp p (by omega) (by omega)
    have kk := k4 p (by omega) (by omega)
    have kn := kk.1
    have kw := sm_wh_b kk
    have k5p := k5 p ok9.1 ok9.2
    obtain ⟨eu, ed⟩ := q4 ok9.2
    subst eu; subst ed
    refine qa_getf (pc' := 8) ⟨rfl, rfl⟩ qg_1_103 (by assumption) rfl ?_
    refine qa_ireturn rfl rfl rfl (hQ _ _ ⟨by unfold fo_whole; (repeat (first | rw [if_pos (by omega)] | rw [if_neg (by omega)])); rfl, rfl, Nat.le_refl _⟩)
  · exact qa_Zout rfl (hQ _ _ ⟨by unfold fo_whole; (repeat (first | rw [if_pos (by omega)] | rw [if_neg (by omega)])); rfl, hh9, hn9⟩)
theorem c_C_tuningNumerator {E : qa_V} {σ : qa_S} {c : Nat} {m : Int → Int} {n : Nat → Int} {rf B : Int} {p : Int} (hc : σ.1 c = some (qa_CoF c n)) (hS : sR_S σ.1 (c + 1) m rf) (hk : sm_ok m B) (hp : qa_in p) : qa_T E qm_C_tuningNumerator 4 24 [.ref c, .int (qa_i p)] σ (qa_q σ (qa_out [0] (fo_of m p (m (5 + 26 * p))))) := by
  refine qa_enterQ (by decide) rfl qm_C_tuningNumerator_ok rfl rfl (fun Q9 hQ => ?_)
  have hk9 := hk
  have hS9 := hS
  have hs := hS.1
  obtain ⟨k0, k1, k2, k3, k4, k5, k6, k7, k8⟩ := hk
  obtain ⟨-, hpa, hcq, htq, hpp⟩ := hS
  refine qa_aload_n (pc' := 1) ⟨rfl, rfl⟩ rfl ?_
  refine qa_iload_n (pc' := 2) ⟨rfl, rfl⟩ rfl ?_
  refine qa_callV rfl qf_C_partOf ql_1_76 (c_C_partOf (E := E) hc hS9 hk9 hp) hc rfl rfl rfl (qa_lt9 rfl) (qa_le9 rfl) (qa_le9 rfl) (qa_le9 rfl) (fun o9 τ9 hq9 => ?_)
  rcases hq9 with ⟨ok9, rfl, hq9⟩ | ⟨no9, rfl, hh9, hn9⟩
  · replace hq9 := hq9.symm; subst hq9
    refine qa_nx (pc' := 5) (st' := [_]) rfl rfl rfl rfl ?_
    obtain ⟨p9, l9, u9, d9, q1, q2, q3, q4, q5, q6⟩ := hpp p (by omega) (by omega)
    have kk := k4 p (by omega) (by omega)
    have kn := kk.1
    have kw := sm_wh_b kk
    have k5p := k5 p ok9.1 ok9.2
    obtain ⟨eu, ed⟩ := q4 ok9.2
    subst eu; subst ed
    refine qa_getf (pc' := 8) ⟨rfl, rfl⟩ qg_1_152 (by assumption) rfl ?_
    refine qa_ireturn rfl rfl rfl (hQ _ _ ⟨by unfold fo_of; (repeat (first | rw [if_pos (by omega)] | rw [if_neg (by omega)])); rfl, rfl, Nat.le_refl _⟩)
  · exact qa_Zout rfl (hQ _ _ ⟨by unfold fo_of; (repeat (first | rw [if_pos (by omega)] | rw [if_neg (by omega)])); rfl, hh9, hn9⟩)
theorem c_C_tuningDenominator {E : qa_V} {σ : qa_S} {c : Nat} {m : Int → Int} {n : Nat → Int} {rf B : Int} {p : Int} (hc : σ.1 c = some (qa_CoF c n)) (hS : sR_S σ.1 (c + 1) m rf) (hk : sm_ok m B) (hp : qa_in p) : qa_T E qm_C_tuningDenominator 4 24 [.ref c, .int (qa_i p)] σ (qa_q σ (qa_out [0] (fo_of m p (m (6 + 26 * p))))) := by
  refine qa_enterQ (by decide) rfl qm_C_tuningDenominator_ok rfl rfl (fun Q9 hQ => ?_)
  have hk9 := hk
  have hS9 := hS
  have hs := hS.1
  obtain ⟨k0, k1, k2, k3, k4, k5, k6, k7, k8⟩ := hk
  obtain ⟨-, hpa, hcq, htq, hpp⟩ := hS
  refine qa_aload_n (pc' := 1) ⟨rfl, rfl⟩ rfl ?_
  refine qa_iload_n (pc' := 2) ⟨rfl, rfl⟩ rfl ?_
  refine qa_callV rfl qf_C_partOf ql_1_76 (c_C_partOf (E := E) hc hS9 hk9 hp) hc rfl rfl rfl (qa_lt9 rfl) (qa_le9 rfl) (qa_le9 rfl) (qa_le9 rfl) (fun o9 τ9 hq9 => ?_)
  rcases hq9 with ⟨ok9, rfl, hq9⟩ | ⟨no9, rfl, hh9, hn9⟩
  · replace hq9 := hq9.symm; subst hq9
    refine qa_nx (pc' := 5) (st' := [_]) rfl rfl rfl rfl ?_
    obtain ⟨p9, l9, u9, d9, q1, q2, q3, q4, q5, q6⟩ := hpp p (by omega) (by omega)
    have kk := k4 p (by omega) (by omega)
    have kn := kk.1
    have kw := sm_wh_b kk
    have k5p := k5 p ok9.1 ok9.2
    obtain ⟨eu, ed⟩ := q4 ok9.2
    subst eu; subst ed
    refine qa_getf (pc' := 8) ⟨rfl, rfl⟩ qg_1_155 (by assumption) rfl ?_
    refine qa_ireturn rfl rfl rfl (hQ _ _ ⟨by unfold fo_of; (repeat (first | rw [if_pos (by omega)] | rw [if_neg (by omega)])); rfl, rfl, Nat.le_refl _⟩)
  · exact qa_Zout rfl (hQ _ _ ⟨by unfold fo_of; (repeat (first | rw [if_pos (by omega)] | rw [if_neg (by omega)])); rfl, hh9, hn9⟩)
theorem c_C_soundedTicks {E : qa_V} {σ : qa_S} {c : Nat} {m : Int → Int} {n : Nat → Int} {rf B : Int} {p : Int} (hc : σ.1 c = some (qa_CoF c n)) (hS : sR_S σ.1 (c + 1) m rf) (hk : sm_ok m B) (hp : qa_in p) : qa_T E qm_C_soundedTicks 4 24 [.ref c, .int (qa_i p)] σ (qa_q σ (qa_out [0] (fo_of m p (m (8 + 26 * p))))) := by
  refine qa_enterQ (by decide) rfl qm_C_soundedTicks_ok rfl rfl (fun Q9 hQ => ?_)
  have hk9 := hk
  have hS9 := hS
  have hs := hS.1
  obtain ⟨k0, k1, k2, k3, k4, k5, k6, k7, k8⟩ := hk
  obtain ⟨-, hpa, hcq, htq, hpp⟩ := hS
  refine qa_aload_n (pc' := 1) ⟨rfl, rfl⟩ rfl ?_
  refine qa_iload_n (pc' := 2) ⟨rfl, rfl⟩ rfl ?_
  refine qa_callV rfl qf_C_partOf ql_1_76 (c_C_partOf (E := E) hc hS9 hk9 hp) hc rfl rfl rfl (qa_lt9 rfl) (qa_le9 rfl) (qa_le9 rfl) (qa_le9 rfl) (fun o9 τ9 hq9 => ?_)
  rcases hq9 with ⟨ok9, rfl, hq9⟩ | ⟨no9, rfl, hh9, hn9⟩
  · replace hq9 := hq9.symm; subst hq9
    refine qa_nx (pc' := 5) (st' := [_]) rfl rfl rfl rfl ?_
    obtain ⟨p9, l9, u9, d9, q1, q2, q3, q4, q5, q6⟩ := hpp p (by omega) (by omega)
    have kk := k4 p (by omega) (by omega)
    have kn := kk.1
    have kw := sm_wh_b kk
    have k5p := k5 p ok9.1 ok9.2
    obtain ⟨eu, ed⟩ := q4 ok9.2
    subst eu; subst ed
    refine qa_getf (pc' := 8) ⟨rfl, rfl⟩ qg_1_239 (by assumption) rfl ?_
    refine qa_ireturn rfl rfl rfl (hQ _ _ ⟨by unfold fo_of; (repeat (first | rw [if_pos (by omega)] | rw [if_neg (by omega)])); rfl, rfl, Nat.le_refl _⟩)
  · exact qa_Zout rfl (hQ _ _ ⟨by unfold fo_of; (repeat (first | rw [if_pos (by omega)] | rw [if_neg (by omega)])); rfl, hh9, hn9⟩)
theorem c_C_soloTicks {E : qa_V} {σ : qa_S} {c : Nat} {m : Int → Int} {n : Nat → Int} {rf B : Int} {p : Int} (hc : σ.1 c = some (qa_CoF c n)) (hS : sR_S σ.1 (c + 1) m rf) (hk : sm_ok m B) (hp : qa_in p) : qa_T E qm_C_soloTicks 4 24 [.ref c, .int (qa_i p)] σ (qa_q σ (qa_out [0] (fo_of m p (m (9 + 26 * p))))) := by
  refine qa_enterQ (by decide) rfl qm_C_soloTicks_ok rfl rfl (fun Q9 hQ => ?_)
  have hk9 := hk
  have hS9 := hS
  have hs := hS.1
  obtain ⟨k0, k1, k2, k3, k4, k5, k6, k7, k8⟩ := hk
  obtain ⟨-, hpa, hcq, htq, hpp⟩ := hS
  refine qa_aload_n (pc' := 1) ⟨rfl, rfl⟩ rfl ?_
  refine qa_iload_n (pc' := 2) ⟨rfl, rfl⟩ rfl ?_
  refine qa_callV rfl qf_C_partOf ql_1_76 (c_C_partOf (E := E) hc hS9 hk9 hp) hc rfl rfl rfl (qa_lt9 rfl) (qa_le9 rfl) (qa_le9 rfl) (qa_le9 rfl) (fun o9 τ9 hq9 => ?_)
  rcases hq9 with ⟨ok9, rfl, hq9⟩ | ⟨no9, rfl, hh9, hn9⟩
  · replace hq9 := hq9.symm; subst hq9
    refine qa_nx (pc' := 5) (st' := [_]) rfl rfl rfl rfl ?_
    obtain ⟨p9, l9, u9, d9, q1, q2, q3, q4, q5, q6⟩ := hpp p (by omega) (by omega)
    have kk := k4 p (by omega) (by omega)
    have kn := kk.1
    have kw := sm_wh_b kk
    have k5p := k5 p ok9.1 ok9.2
    obtain ⟨eu, ed⟩ := q4 ok9.2
    subst eu; subst ed
    refine qa_getf (pc' := 8) ⟨rfl, rfl⟩ qg_1_242 (by assumption) rfl ?_
    refine qa_ireturn rfl rfl rfl (hQ _ _ ⟨by unfold fo_of; (repeat (first | rw [if_pos (by omega)] | rw [if_neg (by omega)])); rfl, rfl, Nat.le_refl _⟩)
  · exact qa_Zout rfl (hQ _ _ ⟨by unfold fo_of; (repeat (first | rw [if_pos (by omega)] | rw [if_neg (by omega)])); rfl, hh9, hn9⟩)
theorem c_C_partCount {E : qa_V} {σ : qa_S} {c : Nat} {m : Int → Int} {n : Nat → Int} {rf B : Int} (hc : σ.1 c = some (qa_CoF c n)) (hS : sR_S σ.1 (c + 1) m rf) (hk : sm_ok m B) : qa_T E qm_C_partCount 0 0 [.ref c] σ (fun o9 τ => o9 = .inl (some (.int (qa_i (m 0)))) ∧ τ = σ) := by
  refine qa_enterQ (by decide) rfl qm_C_partCount_ok rfl rfl (fun Q9 hQ => ?_)
  have hk9 := hk
  have hS9 := hS
  have hs := hS.1
  obtain ⟨k0, k1, k2, k3, k4, k5, k6, k7, k8⟩ := hk
  obtain ⟨-, hpa, hcq, htq, hpp⟩ := hS
  refine qa_aload_n (pc' := 1) ⟨rfl, rfl⟩ rfl ?_
  refine qa_getf (pc' := 4) ⟨rfl, rfl⟩ qg_1_10 (by assumption) rfl ?_
  refine qa_getf (pc' := 7) ⟨rfl, rfl⟩ qg_1_73 (by assumption) rfl ?_
  refine qa_ireturn rfl rfl rfl (hQ _ _ ⟨rfl, rfl⟩)
theorem c_C_barLength {E : qa_V} {σ : qa_S} {c : Nat} {m : Int → Int} {n : Nat → Int} {rf B : Int} (hc : σ.1 c = some (qa_CoF c n)) (hS : sR_S σ.1 (c + 1) m rf) (hk : sm_ok m B) : qa_T E qm_C_barLength 0 0 [.ref c] σ (fun o9 τ => o9 = .inl (some (.int (qa_i (m 1)))) ∧ τ = σ) := by
  refine qa_enterQ (by decide) rfl qm_C_barLength_ok rfl rfl (fun Q9 hQ => ?_)
  have hk9 := hk
  have hS9 := hS
  have hs := hS.1
  obtain ⟨k0, k1, k2, k3, k4, k5, k6, k7, k8⟩ := hk
  obtain ⟨-, hpa, hcq, htq, hpp⟩ := hS
  refine qa_aload_n (pc' := 1) ⟨rfl, rfl⟩ rfl ?_
  refine qa_getf (pc' := 4) ⟨rfl, rfl⟩ qg_1_10 (by assumption) rfl ?_
  refine qa_getf (pc' := 7) ⟨rfl, rfl⟩ qg_1_208 (by assumption) rfl ?_
  refine qa_ireturn rfl rfl rfl (hQ _ _ ⟨rfl, rfl⟩)
theorem c_C_playedTicks {E : qa_V} {σ : qa_S} {c : Nat} {m : Int → Int} {n : Nat → Int} {rf B : Int} (hc : σ.1 c = some (qa_CoF c n)) (hS : sR_S σ.1 (c + 1) m rf) (hk : sm_ok m B) : qa_T E qm_C_playedTicks 0 0 [.ref c] σ (fun o9 τ => o9 = .inl (some (.int (qa_i (m 3)))) ∧ τ = σ) := by
  refine qa_enterQ (by decide) rfl qm_C_playedTicks_ok rfl rfl (fun Q9 hQ => ?_)
  have hk9 := hk
  have hS9 := hS
  have hs := hS.1
  obtain ⟨k0, k1, k2, k3, k4, k5, k6, k7, k8⟩ := hk
  obtain ⟨-, hpa, hcq, htq, hpp⟩ := hS
  refine qa_aload_n (pc' := 1) ⟨rfl, rfl⟩ rfl ?_
  refine qa_getf (pc' := 4) ⟨rfl, rfl⟩ qg_1_10 (by assumption) rfl ?_
  refine qa_getf (pc' := 7) ⟨rfl, rfl⟩ qg_1_236 (by assumption) rfl ?_
  refine qa_ireturn rfl rfl rfl (hQ _ _ ⟨rfl, rfl⟩)
theorem c_C_isRest {E : qa_V} {σ : qa_S} {c : Nat} {m : Int → Int} {n : Nat → Int} {rf B : Int} {p j : Int} (hc : σ.1 c = some (qa_CoF c n)) (hS : sR_S σ.1 (c + 1) m rf) (hk : sm_ok m B) (hp : qa_in p) (hj : qa_in j) : qa_T E qm_C_isRest 4 24 [.ref c, .int (qa_i p), .int (qa_i j)] σ (qa_q σ (qa_out [0] (fo_rest m p j))) := by
  refine qa_enterQ (by decide) rfl qm_C_isRest_ok rfl rfl (fun Q9 hQ => ?_)
  have hk9 := hk
  have hS9 := hS
  have hs := hS.1
  obtain ⟨k0, k1, k2, k3, k4, k5, k6, k7, k8⟩ := hk
  obtain ⟨-, hpa, hcq, htq, hpp⟩ := hS
  refine qa_aload_n (pc' := 1) ⟨rfl, rfl⟩ rfl ?_
  refine qa_iload_n (pc' := 2) ⟨rfl, rfl⟩ rfl ?_
  refine qa_iload_n (pc' := 3) ⟨rfl, rfl⟩ rfl ?_
  refine qa_callV rfl qf_C_partWith ql_1_85 (c_C_partWith (E := E) hc hS9 hk9 hp hj) hc rfl rfl rfl (qa_lt9 rfl) (qa_le9 rfl) (qa_le9 rfl) (qa_le9 rfl) (fun o9 τ9 hq9 => ?_)
  rcases hq9 with ⟨ok9, rfl, hq9⟩ | ⟨no9, rfl, hh9, hn9⟩
  · replace hq9 := hq9.symm; subst hq9
    refine qa_nx (pc' := 6) (st' := [_]) rfl rfl rfl rfl ?_
    have ok1 := ok9.1
    obtain ⟨p9, l9, u9, d9, q1, q2, q3, q4, q5, q6⟩ := hpp p (by omega) (by omega)
    have kk := k4 p (by omega) (by omega)
    have kn := kk.1
    have kw := sm_wh_b kk
    have e6 := q6 j ok9.2.1 ok9.2.2
    have r1 := kk.2.1 j ok9.2.1 ok9.2.2
    have r2 := kk.2.2 j ok9.2.1 ok9.2.2
    refine qa_getf (pc' := 9) ⟨rfl, rfl⟩ qg_1_89 (by assumption) rfl ?_
    refine qa_iload_n (pc' := 10) ⟨rfl, rfl⟩ rfl ?_
    refine qa_iaload (pc' := 11) ⟨rfl, rfl⟩ (by assumption) (by omega) ?_
    refine qa_iconst (pc' := 12) ⟨rfl, rfl⟩ ?_
    refine qa_icmp_ne (pc' := 15) (tgt := 19) ⟨rfl, rfl⟩ rfl (by omega) (by omega) (fun hc1 => ?_) (fun hc1 => ?_)
    · refine qa_iconst (pc' := 20) ⟨rfl, rfl⟩ ?_
      refine qa_ireturn rfl rfl rfl (hQ _ _ ⟨by unfold fo_rest; rw [if_pos ok9, if_neg (by omega)]; rfl, rfl, Nat.le_refl _⟩)
    · refine qa_iconst (pc' := 16) ⟨rfl, rfl⟩ ?_
      refine qa_goto (pc' := 19) (tgt := 20) ⟨rfl, rfl⟩ rfl ?_
      refine qa_ireturn rfl rfl rfl (hQ _ _ ⟨by unfold fo_rest; rw [if_pos ok9, if_pos (by omega)]; rfl, rfl, Nat.le_refl _⟩)
  · exact qa_Zout rfl (hQ _ _ ⟨by unfold fo_rest; rw [if_neg no9]; rfl, hh9, hn9⟩)
theorem c_C_pitchOf {E : qa_V} {σ : qa_S} {c : Nat} {m : Int → Int} {n : Nat → Int} {rf B : Int} {p j : Int} (hc : σ.1 c = some (qa_CoF c n)) (hS : sR_S σ.1 (c + 1) m rf) (hk : sm_ok m B) (hp : qa_in p) (hj : qa_in j) : qa_T E qm_C_pitchOf 4 24 [.ref c, .int (qa_i p), .int (qa_i j)] σ (qa_q σ (qa_out [0, 3] (fo_pitch m p j))) := by
  refine qa_enterQ (by decide) rfl qm_C_pitchOf_ok rfl rfl (fun Q9 hQ => ?_)
  have hk9 := hk
  have hS9 := hS
  have hs := hS.1
  obtain ⟨k0, k1, k2, k3, k4, k5, k6, k7, k8⟩ := hk
  obtain ⟨-, hpa, hcq, htq, hpp⟩ := hS
  refine qa_aload_n (pc' := 1) ⟨rfl, rfl⟩ rfl ?_
  refine qa_iload_n (pc' := 2) ⟨rfl, rfl⟩ rfl ?_
  refine qa_iload_n (pc' := 3) ⟨rfl, rfl⟩ rfl ?_
  refine qa_callV rfl qf_C_partWith ql_1_85 (c_C_partWith (E := E) hc hS9 hk9 hp hj) hc rfl rfl rfl (qa_lt9 rfl) (qa_le9 rfl) (qa_le9 rfl) (qa_le9 rfl) (fun o9 τ9 hq9 => ?_)
  rcases hq9 with ⟨ok9, rfl, hq9⟩ | ⟨no9, rfl, hh9, hn9⟩
  · replace hq9 := hq9.symm; subst hq9
    refine qa_nx (pc' := 6) (st' := [_]) rfl rfl rfl rfl ?_
    have ok1 := ok9.1
    obtain ⟨p9, l9, u9, d9, q1, q2, q3, q4, q5, q6⟩ := hpp p (by omega) (by omega)
    have kk := k4 p (by omega) (by omega)
    have kn := kk.1
    have kw := sm_wh_b kk
    have e6 := q6 j ok9.2.1 ok9.2.2
    have r1 := kk.2.1 j ok9.2.1 ok9.2.2
    have r2 := kk.2.2 j ok9.2.1 ok9.2.2
    refine qa_getf (pc' := 9) ⟨rfl, rfl⟩ qg_1_89 (by assumption) rfl ?_
    refine qa_iload_n (pc' := 10) ⟨rfl, rfl⟩ rfl ?_
    refine qa_iaload (pc' := 11) ⟨rfl, rfl⟩ q2 (by omega) ?_
    refine qa_istore_n (L' := [(0, _), (1, _), (2, _), (3, _)]) (pc' := 12) ⟨rfl, rfl⟩ rfl rfl ?_
    refine qa_iload_n (pc' := 13) ⟨rfl, rfl⟩ rfl ?_
    refine qa_iconst (pc' := 14) ⟨rfl, rfl⟩ ?_
    refine qa_icmp_ne (pc' := 17) (tgt := 27) ⟨rfl, rfl⟩ rfl (by omega) (by omega) (fun hc1 => ?_) (fun hc1 => ?_)
    · refine qa_iload_n (pc' := 28) ⟨rfl, rfl⟩ rfl ?_
      refine qa_ireturn rfl rfl rfl (hQ _ _ ⟨by unfold fo_pitch; rw [if_pos ok9, if_neg (by omega), e6.1]; rfl, rfl, Nat.le_refl _⟩)
    · refine qa_throwNS rfl rfl rfl rfl rfl rfl qtn_1_93_95_97 (qa_le9 rfl) (fun n9 hn9 => hQ _ _ ⟨by unfold fo_pitch; rw [if_pos ok9, if_pos (by omega)]; rfl, rfl, hn9⟩)
  · exact qa_Zout rfl (hQ _ _ ⟨by unfold fo_pitch; rw [if_neg no9]; rfl, hh9, hn9⟩)
theorem c_C_lengthOf {E : qa_V} {σ : qa_S} {c : Nat} {m : Int → Int} {n : Nat → Int} {rf B : Int} {p j : Int} (hc : σ.1 c = some (qa_CoF c n)) (hS : sR_S σ.1 (c + 1) m rf) (hk : sm_ok m B) (hp : qa_in p) (hj : qa_in j) : qa_T E qm_C_lengthOf 4 24 [.ref c, .int (qa_i p), .int (qa_i j)] σ (qa_q σ (qa_out [0] (fo_length m p j))) := by
  refine qa_enterQ (by decide) rfl qm_C_lengthOf_ok rfl rfl (fun Q9 hQ => ?_)
  have hk9 := hk
  have hS9 := hS
  have hs := hS.1
  obtain ⟨k0, k1, k2, k3, k4, k5, k6, k7, k8⟩ := hk
  obtain ⟨-, hpa, hcq, htq, hpp⟩ := hS
  refine qa_aload_n (pc' := 1) ⟨rfl, rfl⟩ rfl ?_
  refine qa_iload_n (pc' := 2) ⟨rfl, rfl⟩ rfl ?_
  refine qa_iload_n (pc' := 3) ⟨rfl, rfl⟩ rfl ?_
  refine qa_callV rfl qf_C_partWith ql_1_85 (c_C_partWith (E := E) hc hS9 hk9 hp hj) hc rfl rfl rfl (qa_lt9 rfl) (qa_le9 rfl) (qa_le9 rfl) (qa_le9 rfl) (fun o9 τ9 hq9 => ?_)
  rcases hq9 with ⟨ok9, rfl, hq9⟩ | ⟨no9, rfl, hh9, hn9⟩
  · replace hq9 := hq9.symm; subst hq9
    refine qa_nx (pc' := 6) (st' := [_]) rfl rfl rfl rfl ?_
    have ok1 := ok9.1
    obtain ⟨p9, l9, u9, d9, q1, q2, q3, q4, q5, q6⟩ := hpp p (by omega) (by omega)
    have kk := k4 p (by omega) (by omega)
    have kn := kk.1
    have kw := sm_wh_b kk
    have e6 := q6 j ok9.2.1 ok9.2.2
    have r1 := kk.2.1 j ok9.2.1 ok9.2.2
    have r2 := kk.2.2 j ok9.2.1 ok9.2.2
    refine qa_getf (pc' := 9) ⟨rfl, rfl⟩ qg_1_100 (by assumption) rfl ?_
    refine qa_iload_n (pc' := 10) ⟨rfl, rfl⟩ rfl ?_
    refine qa_iaload (pc' := 11) ⟨rfl, rfl⟩ q3 (by omega) ?_
    refine qa_ireturn rfl rfl rfl (hQ _ _ ⟨by unfold fo_length; rw [if_pos ok9, e6.2]; rfl, rfl, Nat.le_refl _⟩)
  · exact qa_Zout rfl (hQ _ _ ⟨by unfold fo_length; rw [if_neg no9]; rfl, hh9, hn9⟩)
theorem c_C_noteAt {E : qa_V} {σ : qa_S} {c : Nat} {m : Int → Int} {n : Nat → Int} {rf B : Int} {p x : Int} (hc : σ.1 c = some (qa_CoF c n)) (hS : sR_S σ.1 (c + 1) m rf) (hk : sm_ok m B) (hp : qa_in p) (hx : qa_in x) : qa_T E qm_C_noteAt 4 24 [.ref c, .int (qa_i p), .int (qa_i x)] σ (qa_q σ (qa_out [0, 1, 3] (fo_noteAt m p x))) := by
  refine qa_enterQ (by decide) rfl qm_C_noteAt_ok rfl rfl (fun Q9 hQ => ?_)
  have hk9 := hk
  have hS9 := hS
  have hs := hS.1
  obtain ⟨k0, k1, k2, k3, k4, k5, k6, k7, k8⟩ := hk
  obtain ⟨-, hpa, hcq, htq, hpp⟩ := hS
  refine qa_aload_n (pc' := 1) ⟨rfl, rfl⟩ rfl ?_
  refine qa_iload_n (pc' := 2) ⟨rfl, rfl⟩ rfl ?_
  refine qa_callV rfl qf_C_partOf ql_1_76 (c_C_partOf (E := E) hc hS9 hk9 hp) hc rfl rfl rfl (qa_lt9 rfl) (qa_le9 rfl) (qa_le9 rfl) (qa_le9 rfl) (fun o9 τ9 hq9 => ?_)
  rcases hq9 with ⟨ok9, rfl, hq9⟩ | ⟨no9, rfl, hh9, hn9⟩
  · replace hq9 := hq9.symm; subst hq9
    refine qa_nx (pc' := 5) (st' := [_]) rfl rfl rfl rfl ?_
    obtain ⟨p9, l9, u9, d9, q1, q2, q3, q4, q5, q6⟩ := hpp p (by omega) (by omega)
    have kk := k4 p (by omega) (by omega)
    have kn := kk.1
    have kw := sm_wh_b kk
    refine qa_astore_n (L' := [(0, _), (1, _), (2, _), (3, _)]) (pc' := 6) ⟨rfl, rfl⟩ rfl rfl ?_
    refine qa_iload_n (pc' := 7) ⟨rfl, rfl⟩ rfl ?_
    refine qa_iconst (pc' := 8) ⟨rfl, rfl⟩ ?_
    refine qa_ldc (z := 999999) (pc' := 10) ⟨rfl, rfl⟩ qk_1_106 ?_
    refine qa_callS rfl qf_C_requireRange rfl ql_1_107 (c_C_requireRange (E := E) hx (by omega) (by omega)) rfl rfl (qa_lt9 rfl) (qa_le9 rfl) (qa_le9 rfl) (qa_le9 rfl) (fun o9 τ9 hq9 => ?_)
    rcases hq9 with ⟨ok8, rfl, hq9⟩ | ⟨no8, rfl, hh8, hn8⟩
    · replace hq9 := hq9.symm; subst hq9
      refine qa_nx (pc' := 13) (st' := []) rfl rfl rfl rfl ?_
      have nb := sm_ni_b (tick := x) kk
      refine qa_aload_n (pc' := 14) ⟨rfl, rfl⟩ rfl ?_
      refine qa_iload_n (pc' := 15) ⟨rfl, rfl⟩ rfl ?_
      refine qa_callV rfl qf_P_noteIn ql_1_111 (d_P_noteIn (E := E) ⟨p9, l9, u9, d9, q1, q2, q3, q4, q5, q6⟩ kk (by omega)) q1 rfl rfl rfl (qa_lt9 rfl) (qa_le9 rfl) (qa_le9 rfl) (qa_le9 rfl) (fun o9 τ9 hq9 => ?_)
      obtain ⟨rfl, hq9⟩ := hq9
      replace hq9 := hq9.symm; subst hq9
      refine qa_nx (pc' := 18) (st' := [_]) rfl rfl rfl rfl ?_
      refine qa_callS rfl qf_C_found rfl ql_1_115 (c_C_found (E := E) (by omega)) rfl rfl (qa_lt9 rfl) (qa_le9 rfl) (qa_le9 rfl) (qa_le9 rfl) (fun o9 τ9 hq9 => ?_)
      rcases hq9 with ⟨ok7, rfl, hq9⟩ | ⟨no7, rfl, hh7, hn7⟩
      · replace hq9 := hq9.symm; subst hq9
        refine qa_nx (pc' := 21) (st' := [_]) rfl rfl rfl rfl ?_
        refine qa_ireturn rfl rfl rfl (hQ _ _ ⟨by unfold fo_noteAt; (repeat (first | rw [if_pos (by omega)] | rw [if_neg (by omega)])); rfl, rfl, Nat.le_refl _⟩)
      · exact qa_Zout rfl (hQ _ _ ⟨by unfold fo_noteAt; (repeat (first | rw [if_pos (by omega)] | rw [if_neg (by omega)])); rfl, hh7, hn7⟩)
    · exact qa_Zout rfl (hQ _ _ ⟨by unfold fo_noteAt; (repeat (first | rw [if_pos (by omega)] | rw [if_neg (by omega)])); rfl, hh8, hn8⟩)
  · exact qa_Zout rfl (hQ _ _ ⟨by unfold fo_noteAt; (repeat (first | rw [if_pos (by omega)] | rw [if_neg (by omega)])); rfl, hh9, hn9⟩)
theorem c_C_soundingAt {E : qa_V} {σ : qa_S} {c : Nat} {m : Int → Int} {n : Nat → Int} {rf B : Int} {x : Int} (hc : σ.1 c = some (qa_CoF c n)) (hS : sR_S σ.1 (c + 1) m rf) (hk : sm_ok m B) (hx : qa_in x) : qa_T E qm_C_soundingAt 4 24 [.ref c, .int (qa_i x)] σ (qa_q σ (qa_out [1] (fo_sound m x))) := by
  refine qa_enterQ (by decide) rfl qm_C_soundingAt_ok rfl rfl (fun Q9 hQ => ?_)
  have hk9 := hk
  have hS9 := hS
  have hs := hS.1
  obtain ⟨k0, k1, k2, k3, k4, k5, k6, k7, k8⟩ := hk
  obtain ⟨-, hpa, hcq, htq, hpp⟩ := hS
  refine qa_iload_n (pc' := 1) ⟨rfl, rfl⟩ rfl ?_
  refine qa_iconst (pc' := 2) ⟨rfl, rfl⟩ ?_
  refine qa_ldc (z := 999999) (pc' := 4) ⟨rfl, rfl⟩ qk_1_106 ?_
  refine qa_callS rfl qf_C_requireRange rfl ql_1_107 (c_C_requireRange (E := E) hx (by omega) (by omega)) rfl rfl (qa_lt9 rfl) (qa_le9 rfl) (qa_le9 rfl) (qa_le9 rfl) (fun o9 τ9 hq9 => ?_)
  rcases hq9 with ⟨ok9, rfl, hq9⟩ | ⟨no9, rfl, hh9, hn9⟩
  · replace hq9 := hq9.symm; subst hq9
    refine qa_nx (pc' := 7) (st' := []) rfl rfl rfl rfl ?_
    refine qa_aload_n (pc' := 8) ⟨rfl, rfl⟩ rfl ?_
    refine qa_getf (pc' := 11) ⟨rfl, rfl⟩ qg_1_10 (by assumption) rfl ?_
    refine qa_iload_n (pc' := 12) ⟨rfl, rfl⟩ rfl ?_
    refine qa_callV rfl qf_S_partsSoundingIn ql_1_118 (c_S_partsSoundingIn (E := E) hS9 hk9 (by omega)) hs rfl rfl rfl (qa_lt9 rfl) (qa_le9 rfl) (qa_le9 rfl) (qa_le9 rfl) (fun o9 τ9 hq9 => ?_)
    obtain ⟨rfl, hq9⟩ := hq9
    replace hq9 := hq9.symm; subst hq9
    refine qa_nx (pc' := 15) (st' := [_]) rfl rfl rfl rfl ?_
    refine qa_ireturn rfl rfl rfl (hQ _ _ ⟨by unfold fo_sound; (repeat (first | rw [if_pos (by omega)] | rw [if_neg (by omega)])); rfl, rfl, Nat.le_refl _⟩)
  · exact qa_Zout rfl (hQ _ _ ⟨by unfold fo_sound; (repeat (first | rw [if_pos (by omega)] | rw [if_neg (by omega)])); rfl, hh9, hn9⟩)
theorem c_C_chordAt {E : qa_V} {σ : qa_S} {c : Nat} {m : Int → Int} {n : Nat → Int} {rf B : Int} {x : Int} (hc : σ.1 c = some (qa_CoF c n)) (hS : sR_S σ.1 (c + 1) m rf) (hk : sm_ok m B) (hx : qa_in x) : qa_T E qm_C_chordAt 4 24 [.ref c, .int (qa_i x)] σ (qa_oe σ (0 ≤ x ∧ x ≤ 999999) 1 (some (.long (sm_ch m x (m 0).toNat)))) := by
  refine qa_enterQ (by decide) rfl qm_C_chordAt_ok rfl rfl (fun Q9 hQ => ?_)
  have hk9 := hk
  have hS9 := hS
  have hs := hS.1
  obtain ⟨k0, k1, k2, k3, k4, k5, k6, k7, k8⟩ := hk
  obtain ⟨-, hpa, hcq, htq, hpp⟩ := hS
  refine qa_iload_n (pc' := 1) ⟨rfl, rfl⟩ rfl ?_
  refine qa_iconst (pc' := 2) ⟨rfl, rfl⟩ ?_
  refine qa_ldc (z := 999999) (pc' := 4) ⟨rfl, rfl⟩ qk_1_106 ?_
  refine qa_callS rfl qf_C_requireRange rfl ql_1_107 (c_C_requireRange (E := E) hx (by omega) (by omega)) rfl rfl (qa_lt9 rfl) (qa_le9 rfl) (qa_le9 rfl) (qa_le9 rfl) (fun o9 τ9 hq9 => ?_)
  rcases hq9 with ⟨ok9, rfl, hq9⟩ | ⟨no9, rfl, hh9, hn9⟩
  · replace hq9 := hq9.symm; subst hq9
    refine qa_nx (pc' := 7) (st' := []) rfl rfl rfl rfl ?_
    refine qa_aload_n (pc' := 8) ⟨rfl, rfl⟩ rfl ?_
    refine qa_getf (pc' := 11) ⟨rfl, rfl⟩ qg_1_10 (by assumption) rfl ?_
    refine qa_iload_n (pc' := 12) ⟨rfl, rfl⟩ rfl ?_
    refine qa_callV rfl qf_S_chordIn ql_1_121 (c_S_chordIn (E := E) hS9 hk9 (by omega)) hs rfl rfl rfl (qa_lt9 rfl) (qa_le9 rfl) (qa_le9 rfl) (qa_le9 rfl) (fun o9 τ9 hq9 => ?_)
    obtain ⟨rfl, hq9⟩ := hq9
    replace hq9 := hq9.symm; subst hq9
    refine qa_nx (pc' := 15) (st' := [_]) rfl rfl rfl rfl ?_
    refine qa_lreturn rfl rfl (hQ _ _ (Or.inl ⟨ok9, rfl, rfl⟩))
  · exact qa_Zout rfl (hQ _ _ (Or.inr ⟨no9, rfl, hh9, hn9⟩))
theorem c_C_startOfBar {E : qa_V} {σ : qa_S} {c : Nat} {m : Int → Int} {n : Nat → Int} {rf B : Int} {x : Int} (hc : σ.1 c = some (qa_CoF c n)) (hS : sR_S σ.1 (c + 1) m rf) (hk : sm_ok m B) (hx : qa_in x) : qa_T E qm_C_startOfBar 4 24 [.ref c, .int (qa_i x)] σ (qa_oe σ (0 ≤ x ∧ x ≤ 999) 1 (some (.long (qa_l (sp_sb (sm_bf m) (sm_vf m) (m 2) (m 1) x.toNat))))) := by
  refine qa_enterQ (by decide) rfl qm_C_startOfBar_ok rfl rfl (fun Q9 hQ => ?_)
  have hk9 := hk
  have hS9 := hS
  have hs := hS.1
  obtain ⟨k0, k1, k2, k3, k4, k5, k6, k7, k8⟩ := hk
  obtain ⟨-, hpa, hcq, htq, hpp⟩ := hS
  obtain ⟨bars, vals, t1, t2, t3, t4⟩ := htq
  have hB : sp_B6 (m 2) bars := ⟨by rw [(t4 0 (by omega) (by omega)).1]; exact k7.1, fun j j0 j1 => by rw [(t4 j j0 j1).1]; exact k7.2.1 j j0 j1, fun i j i0 ij j1 => by rw [(t4 i i0 (by omega)).1, (t4 j (by omega) j1).1]; exact k7.2.2 i j i0 ij j1⟩
  have hV : sp_V6 (m 2) vals := fun j j0 j1 => by rw [(t4 j j0 j1).2]; exact k8 j j0 j1
  have hsb : ∀ k : Nat, sp_sb bars vals (m 2) (m 1) k = sp_sb (sm_bf m) (sm_vf m) (m 2) (m 1) k := fun k => sp_sb_ext (fun j j0 j1 => ⟨(t4 j j0 j1).1, (t4 j j0 j1).2⟩) k2.1 k
  refine qa_iload_n (pc' := 1) ⟨rfl, rfl⟩ rfl ?_
  refine qa_iconst (pc' := 2) ⟨rfl, rfl⟩ ?_
  refine qa_sipush (z := 999) (pc' := 5) ⟨rfl, rfl⟩ rfl ?_
  refine qa_callS rfl qf_C_requireRange rfl ql_1_107 (c_C_requireRange (E := E) hx (by omega) (by omega)) rfl rfl (qa_lt9 rfl) (qa_le9 rfl) (qa_le9 rfl) (qa_le9 rfl) (fun o9 τ9 hq9 => ?_)
  rcases hq9 with ⟨ok9, rfl, hq9⟩ | ⟨no9, rfl, hh9, hn9⟩
  · replace hq9 := hq9.symm; subst hq9
    refine qa_nx (pc' := 8) (st' := []) rfl rfl rfl rfl ?_
    refine qa_aload_n (pc' := 9) ⟨rfl, rfl⟩ rfl ?_
    refine qa_getf (pc' := 12) ⟨rfl, rfl⟩ qg_1_10 (by assumption) rfl ?_
    refine qa_getf (pc' := 15) ⟨rfl, rfl⟩ qg_1_217 (by assumption) rfl ?_
    refine qa_iload_n (pc' := 16) ⟨rfl, rfl⟩ rfl ?_
    refine qa_aload_n (pc' := 17) ⟨rfl, rfl⟩ rfl ?_
    refine qa_getf (pc' := 20) ⟨rfl, rfl⟩ qg_1_10 (by assumption) rfl ?_
    refine qa_getf (pc' := 23) ⟨rfl, rfl⟩ qg_1_208 (by assumption) rfl ?_
    refine qa_callV rfl qf_T_startBarByBar ql_1_226 (c_T_startBarByBar (E := E) t1 t2 t3 k2 hB hV ok9 k1) t1 rfl rfl rfl (qa_lt9 rfl) (qa_le9 rfl) (qa_le9 rfl) (qa_le9 rfl) (fun o9 τ9 hq9 => ?_)
    obtain ⟨rfl, hq9⟩ := hq9
    replace hq9 := hq9.symm; subst hq9
    refine qa_nx (pc' := 26) (st' := [_]) rfl rfl rfl rfl ?_
    rw [hsb]
    refine qa_lreturn rfl rfl (hQ _ _ (Or.inl ⟨ok9, rfl, rfl⟩))
  · exact qa_Zout rfl (hQ _ _ (Or.inr ⟨no9, rfl, hh9, hn9⟩))
theorem c_C_startOfBarByTempos {E : qa_V} {σ : qa_S} {c : Nat} {m : Int → Int} {n : Nat → Int} {rf B : Int} {x : Int} (hc : σ.1 c = some (qa_CoF c n)) (hS : sR_S σ.1 (c + 1) m rf) (hk : sm_ok m B) (hx : qa_in x) : qa_T E qm_C_startOfBarByTempos 4 24 [.ref c, .int (qa_i x)] σ (qa_oe σ (0 ≤ x ∧ x ≤ 999) 1 (some (.long (qa_l (sp_sb (sm_bf m) (sm_vf m) (m 2) (m 1) x.toNat))))) := by
  refine qa_enterQ (by decide) rfl qm_C_startOfBarByTempos_ok rfl rfl (fun Q9 hQ => ?_)
  have hk9 := hk
  have hS9 := hS
  have hs := hS.1
  obtain ⟨k0, k1, k2, k3, k4, k5, k6, k7, k8⟩ := hk
  obtain ⟨-, hpa, hcq, htq, hpp⟩ := hS
  obtain ⟨bars, vals, t1, t2, t3, t4⟩ := htq
  have hB : sp_B6 (m 2) bars := ⟨by rw [(t4 0 (by omega) (by omega)).1]; exact k7.1, fun j j0 j1 => by rw [(t4 j j0 j1).1]; exact k7.2.1 j j0 j1, fun i j i0 ij j1 => by rw [(t4 i i0 (by omega)).1, (t4 j (by omega) j1).1]; exact k7.2.2 i j i0 ij j1⟩
  have hV : sp_V6 (m 2) vals := fun j j0 j1 => by rw [(t4 j j0 j1).2]; exact k8 j j0 j1
  have hsb : ∀ k : Nat, sp_sb bars vals (m 2) (m 1) k = sp_sb (sm_bf m) (sm_vf m) (m 2) (m 1) k := fun k => sp_sb_ext (fun j j0 j1 => ⟨(t4 j j0 j1).1, (t4 j j0 j1).2⟩) k2.1 k
  refine qa_iload_n (pc' := 1) ⟨rfl, rfl⟩ rfl ?_
  refine qa_iconst (pc' := 2) ⟨rfl, rfl⟩ ?_
  refine qa_sipush (z := 999) (pc' := 5) ⟨rfl, rfl⟩ rfl ?_
  refine qa_callS rfl qf_C_requireRange rfl ql_1_107 (c_C_requireRange (E := E) hx (by omega) (by omega)) rfl rfl (qa_lt9 rfl) (qa_le9 rfl) (qa_le9 rfl) (qa_le9 rfl) (fun o9 τ9 hq9 => ?_)
  rcases hq9 with ⟨ok9, rfl, hq9⟩ | ⟨no9, rfl, hh9, hn9⟩
  · replace hq9 := hq9.symm; subst hq9
    refine qa_nx (pc' := 8) (st' := []) rfl rfl rfl rfl ?_
    refine qa_aload_n (pc' := 9) ⟨rfl, rfl⟩ rfl ?_
    refine qa_getf (pc' := 12) ⟨rfl, rfl⟩ qg_1_10 (by assumption) rfl ?_
    refine qa_getf (pc' := 15) ⟨rfl, rfl⟩ qg_1_217 (by assumption) rfl ?_
    refine qa_iload_n (pc' := 16) ⟨rfl, rfl⟩ rfl ?_
    refine qa_aload_n (pc' := 17) ⟨rfl, rfl⟩ rfl ?_
    refine qa_getf (pc' := 20) ⟨rfl, rfl⟩ qg_1_10 (by assumption) rfl ?_
    refine qa_getf (pc' := 23) ⟨rfl, rfl⟩ qg_1_208 (by assumption) rfl ?_
    refine qa_callV rfl qf_T_startTempoByTempo ql_1_230 (c_T_startTempoByTempo (E := E) t1 t2 t3 k2 hB hV ok9 k1) t1 rfl rfl rfl (qa_lt9 rfl) (qa_le9 rfl) (qa_le9 rfl) (qa_le9 rfl) (fun o9 τ9 hq9 => ?_)
    obtain ⟨rfl, hq9⟩ := hq9
    replace hq9 := hq9.symm; subst hq9
    refine qa_nx (pc' := 26) (st' := [_]) rfl rfl rfl rfl ?_
    rw [hsb]
    refine qa_lreturn rfl rfl (hQ _ _ (Or.inl ⟨ok9, rfl, rfl⟩))
  · exact qa_Zout rfl (hQ _ _ (Or.inr ⟨no9, rfl, hh9, hn9⟩))
theorem c_C_togetherAfter {E : qa_V} {σ : qa_S} {c : Nat} {m : Int → Int} {n : Nat → Int} {rf B : Int}  (hc : σ.1 c = some (qa_CoF c n)) (hS : sR_S σ.1 (c + 1) m rf) (hk : sm_ok m B) (hv9 : qa_in (sm_tg m)) : qa_T E qm_C_togetherAfter 4 24 [.ref c] σ (qa_q σ (qa_out [3] (fo_found (sm_tg m)))) := by
  refine qa_enterQ (by decide) rfl qm_C_togetherAfter_ok rfl rfl (fun Q9 hQ => ?_)
  have hk9 := hk
  have hS9 := hS
  have hs := hS.1
  obtain ⟨k0, k1, k2, k3, k4, k5, k6, k7, k8⟩ := hk
  obtain ⟨-, hpa, hcq, htq, hpp⟩ := hS
  refine qa_aload_n (pc' := 1) ⟨rfl, rfl⟩ rfl ?_
  refine qa_getf (pc' := 4) ⟨rfl, rfl⟩ qg_1_10 (by assumption) rfl ?_
  refine qa_callV rfl qf_S_togetherByMultiples ql_1_125 (c_S_togetherByMultiples (E := E) hS9 hk9) hs rfl rfl rfl (qa_lt9 rfl) (qa_le9 rfl) (qa_le9 rfl) (qa_le9 rfl) (fun o9 τ9 hq9 => ?_)
  obtain ⟨rfl, hq9⟩ := hq9
  replace hq9 := hq9.symm; subst hq9
  refine qa_nx (pc' := 7) (st' := [_]) rfl rfl rfl rfl ?_
  rw [show (if sm_lo m (m 0).toNat = 0 then (-1 : Int) else sm_bm m (m 0).toNat 0 1) = sm_tg m from rfl]
  refine qa_callS rfl qf_C_found rfl ql_1_115 (c_C_found (E := E) hv9) rfl rfl (qa_lt9 rfl) (qa_le9 rfl) (qa_le9 rfl) (qa_le9 rfl) (fun o9 τ9 hq9 => ?_)
  rcases hq9 with ⟨ok9, rfl, hq9⟩ | ⟨no9, rfl, hh9, hn9⟩
  · replace hq9 := hq9.symm; subst hq9
    refine qa_nx (pc' := 10) (st' := [_]) rfl rfl rfl rfl ?_
    refine qa_ireturn rfl rfl rfl (hQ _ _ ⟨by unfold fo_found; (repeat (first | rw [if_pos (by omega)] | rw [if_neg (by omega)])); rfl, rfl, Nat.le_refl _⟩)
  · exact qa_Zout rfl (hQ _ _ ⟨by unfold fo_found; (repeat (first | rw [if_pos (by omega)] | rw [if_neg (by omega)])); rfl, hh9, hn9⟩)
theorem c_C_togetherAfterBySteps {E : qa_V} {σ : qa_S} {c : Nat} {m : Int → Int} {n : Nat → Int} {rf B : Int}  (hc : σ.1 c = some (qa_CoF c n)) (hS : sR_S σ.1 (c + 1) m rf) (hk : sm_ok m B) (hv9 : qa_in (sm_ts m)) : qa_T E qm_C_togetherAfterBySteps 4 24 [.ref c] σ (qa_q σ (qa_out [3] (fo_found (sm_ts m)))) := by
  refine qa_enterQ (by decide) rfl qm_C_togetherAfterBySteps_ok rfl rfl (fun Q9 hQ => ?_)
  have hk9 := hk
  have hS9 := hS
  have hs := hS.1
  obtain ⟨k0, k1, k2, k3, k4, k5, k6, k7, k8⟩ := hk
  obtain ⟨-, hpa, hcq, htq, hpp⟩ := hS
  refine qa_aload_n (pc' := 1) ⟨rfl, rfl⟩ rfl ?_
  refine qa_getf (pc' := 4) ⟨rfl, rfl⟩ qg_1_10 (by assumption) rfl ?_
  refine qa_callV rfl qf_S_togetherBySteps ql_1_129 (c_S_togetherBySteps (E := E) hS9 hk9) hs rfl rfl rfl (qa_lt9 rfl) (qa_le9 rfl) (qa_le9 rfl) (qa_le9 rfl) (fun o9 τ9 hq9 => ?_)
  obtain ⟨rfl, hq9⟩ := hq9
  replace hq9 := hq9.symm; subst hq9
  refine qa_nx (pc' := 7) (st' := [_]) rfl rfl rfl rfl ?_
  rw [show (if sm_lo m (m 0).toNat < 1 then (-1 : Int) else sm_bs m (sm_lo m (m 0).toNat) 1000000 (sm_lo m (m 0).toNat)) = sm_ts m from rfl]
  refine qa_callS rfl qf_C_found rfl ql_1_115 (c_C_found (E := E) hv9) rfl rfl (qa_lt9 rfl) (qa_le9 rfl) (qa_le9 rfl) (qa_le9 rfl) (fun o9 τ9 hq9 => ?_)
  rcases hq9 with ⟨ok9, rfl, hq9⟩ | ⟨no9, rfl, hh9, hn9⟩
  · replace hq9 := hq9.symm; subst hq9
    refine qa_nx (pc' := 10) (st' := [_]) rfl rfl rfl rfl ?_
    refine qa_ireturn rfl rfl rfl (hQ _ _ ⟨by unfold fo_found; (repeat (first | rw [if_pos (by omega)] | rw [if_neg (by omega)])); rfl, rfl, Nat.le_refl _⟩)
  · exact qa_Zout rfl (hQ _ _ ⟨by unfold fo_found; (repeat (first | rw [if_pos (by omega)] | rw [if_neg (by omega)])); rfl, hh9, hn9⟩)
def sp_dn (u d x : Int) : Int := sp_nd u d x x.toNat 0 (u / d) 1 (u / d + 1) 1
def sp_tn (u d x : Int) : Int := sp_nt u d x 20 2 1 (sp_ga 1 u d)
theorem sp_nt_b {u d lim : Int} : ∀ (f : Nat) (q b g : Int), 1 ≤ q → 1 ≤ b → (b ≤ lim ∨ b = 1) → 1 ≤ sp_nt u d lim f q b g ∧ (sp_nt u d lim f q b g ≤ lim ∨ sp_nt u d lim f q b g = 1)
  | 0, q, b, g, _, hb, hl => ⟨hb, hl⟩
  | f + 1, q, b, g, hq, hb, hl => by
    unfold sp_nt
    by_cases h : q ≤ lim
    · rw [if_pos h]
      split
      · exact sp_nt_b f _ _ _ (by omega) hq (by omega)
      · exact sp_nt_b f _ _ _ (by omega) hb hl
    · rw [if_neg h]; exact ⟨hb, hl⟩
theorem c_C_nearestDenominator {E : qa_V} {σ : qa_S} {c : Nat} {m : Int → Int} {n : Nat → Int} {rf B : Int} {p x : Int} (hc : σ.1 c = some (qa_CoF c n)) (hS : sR_S σ.1 (c + 1) m rf) (hk : sm_ok m B) (hp : qa_in p) (hx : qa_in x) : qa_T E qm_C_nearestDenominator 4 24 [.ref c, .int (qa_i p), .int (qa_i x)] σ (qa_q σ (qa_out [0, 1] (fo_near m p x (sp_dn (m (5 + 26 * p)) (m (6 + 26 * p)) x)))) := by
  refine qa_enterQ (by decide) rfl qm_C_nearestDenominator_ok rfl rfl (fun Q9 hQ => ?_)
  have hk9 := hk
  have hS9 := hS
  have hs := hS.1
  obtain ⟨k0, k1, k2, k3, k4, k5, k6, k7, k8⟩ := hk
  obtain ⟨-, hpa, hcq, htq, hpp⟩ := hS
  refine qa_aload_n (pc' := 1) ⟨rfl, rfl⟩ rfl ?_
  refine qa_iload_n (pc' := 2) ⟨rfl, rfl⟩ rfl ?_
  refine qa_callV rfl qf_C_partOf ql_1_76 (c_C_partOf (E := E) hc hS9 hk9 hp) hc rfl rfl rfl (qa_lt9 rfl) (qa_le9 rfl) (qa_le9 rfl) (qa_le9 rfl) (fun o9 τ9 hq9 => ?_)
  rcases hq9 with ⟨ok9, rfl, hq9⟩ | ⟨no9, rfl, hh9, hn9⟩
  · replace hq9 := hq9.symm; subst hq9
    refine qa_nx (pc' := 5) (st' := [_]) rfl rfl rfl rfl ?_
    obtain ⟨p9, l9, u9, d9, q1, q2, q3, q4, q5, q6⟩ := hpp p (by omega) (by omega)
    have kk := k4 p (by omega) (by omega)
    have kn := kk.1
    have kw := sm_wh_b kk
    have k5p := k5 p ok9.1 ok9.2
    obtain ⟨eu, ed⟩ := q4 ok9.2
    subst eu; subst ed
    refine qa_astore_n (L' := [(0, _), (1, _), (2, _), (3, _)]) (pc' := 6) ⟨rfl, rfl⟩ rfl rfl ?_
    refine qa_iload_n (pc' := 7) ⟨rfl, rfl⟩ rfl ?_
    refine qa_iconst (pc' := 8) ⟨rfl, rfl⟩ ?_
    refine qa_bipush (z := 20) (pc' := 10) ⟨rfl, rfl⟩ rfl ?_
    refine qa_callS rfl qf_C_requireRange rfl ql_1_107 (c_C_requireRange (E := E) hx (by omega) (by omega)) rfl rfl (qa_lt9 rfl) (qa_le9 rfl) (qa_le9 rfl) (qa_le9 rfl) (fun o9 τ9 hq9 => ?_)
    rcases hq9 with ⟨ok8, rfl, hq9⟩ | ⟨no8, rfl, hh8, hn8⟩
    · replace hq9 := hq9.symm; subst hq9
      refine qa_nx (pc' := 13) (st' := []) rfl rfl rfl rfl ?_
      refine qa_aload_n (pc' := 14) ⟨rfl, rfl⟩ rfl ?_
      refine qa_getf (pc' := 17) ⟨rfl, rfl⟩ qg_1_152 (by assumption) rfl ?_
      refine qa_aload_n (pc' := 18) ⟨rfl, rfl⟩ rfl ?_
      refine qa_getf (pc' := 21) ⟨rfl, rfl⟩ qg_1_155 (by assumption) rfl ?_
      refine qa_iload_n (pc' := 22) ⟨rfl, rfl⟩ rfl ?_
      refine qa_callS rfl qf_F_nearestByDescent rfl ql_1_158 (c_F_nearestByDescent (E := E) ok8 k5p.1 k5p.2.1) rfl rfl (qa_lt9 rfl) (qa_le9 rfl) (qa_le9 rfl) (qa_le9 rfl) (fun o9 τ9 hq9 => ?_)
      obtain ⟨rfl, hq9⟩ := hq9
      replace hq9 := hq9.symm; subst hq9
      refine qa_nx (pc' := 25) (st' := [_]) rfl rfl rfl rfl ?_
      refine qa_ireturn rfl rfl rfl (hQ _ _ ⟨by unfold fo_near; rw [if_pos ok9, if_pos ok8]; rfl, rfl, Nat.le_refl _⟩)
    · exact qa_Zout rfl (hQ _ _ ⟨by unfold fo_near; (repeat (first | rw [if_pos (by omega)] | rw [if_neg (by omega)])); rfl, hh8, hn8⟩)
  · exact qa_Zout rfl (hQ _ _ ⟨by unfold fo_near; (repeat (first | rw [if_pos (by omega)] | rw [if_neg (by omega)])); rfl, hh9, hn9⟩)
theorem c_C_nearestDenominatorByTrying {E : qa_V} {σ : qa_S} {c : Nat} {m : Int → Int} {n : Nat → Int} {rf B : Int} {p x : Int} (hc : σ.1 c = some (qa_CoF c n)) (hS : sR_S σ.1 (c + 1) m rf) (hk : sm_ok m B) (hp : qa_in p) (hx : qa_in x) : qa_T E qm_C_nearestDenominatorByTrying 4 24 [.ref c, .int (qa_i p), .int (qa_i x)] σ (qa_q σ (qa_out [0, 1] (fo_near m p x (sp_tn (m (5 + 26 * p)) (m (6 + 26 * p)) x)))) := by
  refine qa_enterQ (by decide) rfl qm_C_nearestDenominatorByTrying_ok rfl rfl (fun Q9 hQ => ?_)
  have hk9 := hk
  have hS9 := hS
  have hs := hS.1
  obtain ⟨k0, k1, k2, k3, k4, k5, k6, k7, k8⟩ := hk
  obtain ⟨-, hpa, hcq, htq, hpp⟩ := hS
  refine qa_aload_n (pc' := 1) ⟨rfl, rfl⟩ rfl ?_
  refine qa_iload_n (pc' := 2) ⟨rfl, rfl⟩ rfl ?_
  refine qa_callV rfl qf_C_partOf ql_1_76 (c_C_partOf (E := E) hc hS9 hk9 hp) hc rfl rfl rfl (qa_lt9 rfl) (qa_le9 rfl) (qa_le9 rfl) (qa_le9 rfl) (fun o9 τ9 hq9 => ?_)
  rcases hq9 with ⟨ok9, rfl, hq9⟩ | ⟨no9, rfl, hh9, hn9⟩
  · replace hq9 := hq9.symm; subst hq9
    refine qa_nx (pc' := 5) (st' := [_]) rfl rfl rfl rfl ?_
    obtain ⟨p9, l9, u9, d9, q1, q2, q3, q4, q5, q6⟩ := hpp p (by omega) (by omega)
    have kk := k4 p (by omega) (by omega)
    have kn := kk.1
    have kw := sm_wh_b kk
    have k5p := k5 p ok9.1 ok9.2
    obtain ⟨eu, ed⟩ := q4 ok9.2
    subst eu; subst ed
    refine qa_astore_n (L' := [(0, _), (1, _), (2, _), (3, _)]) (pc' := 6) ⟨rfl, rfl⟩ rfl rfl ?_
    refine qa_iload_n (pc' := 7) ⟨rfl, rfl⟩ rfl ?_
    refine qa_iconst (pc' := 8) ⟨rfl, rfl⟩ ?_
    refine qa_bipush (z := 20) (pc' := 10) ⟨rfl, rfl⟩ rfl ?_
    refine qa_callS rfl qf_C_requireRange rfl ql_1_107 (c_C_requireRange (E := E) hx (by omega) (by omega)) rfl rfl (qa_lt9 rfl) (qa_le9 rfl) (qa_le9 rfl) (qa_le9 rfl) (fun o9 τ9 hq9 => ?_)
    rcases hq9 with ⟨ok8, rfl, hq9⟩ | ⟨no8, rfl, hh8, hn8⟩
    · replace hq9 := hq9.symm; subst hq9
      refine qa_nx (pc' := 13) (st' := []) rfl rfl rfl rfl ?_
      refine qa_aload_n (pc' := 14) ⟨rfl, rfl⟩ rfl ?_
      refine qa_getf (pc' := 17) ⟨rfl, rfl⟩ qg_1_152 (by assumption) rfl ?_
      refine qa_aload_n (pc' := 18) ⟨rfl, rfl⟩ rfl ?_
      refine qa_getf (pc' := 21) ⟨rfl, rfl⟩ qg_1_155 (by assumption) rfl ?_
      refine qa_iload_n (pc' := 22) ⟨rfl, rfl⟩ rfl ?_
      refine qa_callS rfl qf_F_nearestByTrial rfl ql_1_167 (c_F_nearestByTrial (E := E) ok8 k5p.1 k5p.2.1) rfl rfl (qa_lt9 rfl) (qa_le9 rfl) (qa_le9 rfl) (qa_le9 rfl) (fun o9 τ9 hq9 => ?_)
      obtain ⟨rfl, hq9⟩ := hq9
      replace hq9 := hq9.symm; subst hq9
      refine qa_nx (pc' := 25) (st' := [_]) rfl rfl rfl rfl ?_
      refine qa_ireturn rfl rfl rfl (hQ _ _ ⟨by unfold fo_near; rw [if_pos ok9, if_pos ok8]; rfl, rfl, Nat.le_refl _⟩)
    · exact qa_Zout rfl (hQ _ _ ⟨by unfold fo_near; (repeat (first | rw [if_pos (by omega)] | rw [if_neg (by omega)])); rfl, hh8, hn8⟩)
  · exact qa_Zout rfl (hQ _ _ ⟨by unfold fo_near; (repeat (first | rw [if_pos (by omega)] | rw [if_neg (by omega)])); rfl, hh9, hn9⟩)
theorem c_C_nearestNumerator {E : qa_V} {σ : qa_S} {c : Nat} {m : Int → Int} {n : Nat → Int} {rf B : Int} {p x : Int} (hc : σ.1 c = some (qa_CoF c n)) (hS : sR_S σ.1 (c + 1) m rf) (hk : sm_ok m B) (hp : qa_in p) (hx : qa_in x) (hdn : ∀ p x : Int, sm_is m p → (1 ≤ x ∧ x ≤ 20) → 1 ≤ sp_dn (m (5 + 26 * p)) (m (6 + 26 * p)) x ∧ sp_dn (m (5 + 26 * p)) (m (6 + 26 * p)) x ≤ 20) : qa_T E qm_C_nearestNumerator 4 24 [.ref c, .int (qa_i p), .int (qa_i x)] σ (qa_q σ (qa_out [0, 1] (fo_near m p x (sp_no (sp_dn (m (5 + 26 * p)) (m (6 + 26 * p)) x) (m (5 + 26 * p)) (m (6 + 26 * p)))))) := by
  refine qa_enterQ (by decide) rfl qm_C_nearestNumerator_ok rfl rfl (fun Q9 hQ => ?_)
  have hk9 := hk
  have hS9 := hS
  have hs := hS.1
  obtain ⟨k0, k1, k2, k3, k4, k5, k6, k7, k8⟩ := hk
  obtain ⟨-, hpa, hcq, htq, hpp⟩ := hS
  refine qa_aload_n (pc' := 1) ⟨rfl, rfl⟩ rfl ?_
  refine qa_iload_n (pc' := 2) ⟨rfl, rfl⟩ rfl ?_
  refine qa_callV rfl qf_C_partOf ql_1_76 (c_C_partOf (E := E) hc hS9 hk9 hp) hc rfl rfl rfl (qa_lt9 rfl) (qa_le9 rfl) (qa_le9 rfl) (qa_le9 rfl) (fun o9 τ9 hq9 => ?_)
  rcases hq9 with ⟨ok9, rfl, hq9⟩ | ⟨no9, rfl, hh9, hn9⟩
  · replace hq9 := hq9.symm; subst hq9
    refine qa_nx (pc' := 5) (st' := [_]) rfl rfl rfl rfl ?_
    obtain ⟨p9, l9, u9, d9, q1, q2, q3, q4, q5, q6⟩ := hpp p (by omega) (by omega)
    have kk := k4 p (by omega) (by omega)
    have kn := kk.1
    have kw := sm_wh_b kk
    have k5p := k5 p ok9.1 ok9.2
    obtain ⟨eu, ed⟩ := q4 ok9.2
    subst eu; subst ed
    refine qa_astore_n (L' := [(0, _), (1, _), (2, _), (3, _)]) (pc' := 6) ⟨rfl, rfl⟩ rfl rfl ?_
    refine qa_iload_n (pc' := 7) ⟨rfl, rfl⟩ rfl ?_
    refine qa_iconst (pc' := 8) ⟨rfl, rfl⟩ ?_
    refine qa_bipush (z := 20) (pc' := 10) ⟨rfl, rfl⟩ rfl ?_
    refine qa_callS rfl qf_C_requireRange rfl ql_1_107 (c_C_requireRange (E := E) hx (by omega) (by omega)) rfl rfl (qa_lt9 rfl) (qa_le9 rfl) (qa_le9 rfl) (qa_le9 rfl) (fun o9 τ9 hq9 => ?_)
    rcases hq9 with ⟨ok8, rfl, hq9⟩ | ⟨no8, rfl, hh8, hn8⟩
    · replace hq9 := hq9.symm; subst hq9
      refine qa_nx (pc' := 13) (st' := []) rfl rfl rfl rfl ?_
      refine qa_aload_n (pc' := 14) ⟨rfl, rfl⟩ rfl ?_
      refine qa_getf (pc' := 17) ⟨rfl, rfl⟩ qg_1_152 (by assumption) rfl ?_
      refine qa_aload_n (pc' := 18) ⟨rfl, rfl⟩ rfl ?_
      refine qa_getf (pc' := 21) ⟨rfl, rfl⟩ qg_1_155 (by assumption) rfl ?_
      refine qa_iload_n (pc' := 22) ⟨rfl, rfl⟩ rfl ?_
      refine qa_callS rfl qf_F_nearestByDescent rfl ql_1_158 (c_F_nearestByDescent (E := E) ok8 k5p.1 k5p.2.1) rfl rfl (qa_lt9 rfl) (qa_le9 rfl) (qa_le9 rfl) (qa_le9 rfl) (fun o9 τ9 hq9 => ?_)
      obtain ⟨rfl, hq9⟩ := hq9
      replace hq9 := hq9.symm; subst hq9
      refine qa_nx (pc' := 25) (st' := [_]) rfl rfl rfl rfl ?_
      rw [show sp_nd (m (5 + 26 * p)) (m (6 + 26 * p)) x x.toNat 0 (m (5 + 26 * p) / m (6 + 26 * p)) 1 (m (5 + 26 * p) / m (6 + 26 * p) + 1) 1 = sp_dn (m (5 + 26 * p)) (m (6 + 26 * p)) x from rfl]
      have dn := hdn p x ok9 ok8
      refine qa_istore (L' := [(0, _), (1, _), (2, _), (3, _), (4, _)]) (pc' := 27) ⟨rfl, rfl⟩ rfl rfl ?_
      refine qa_iload (pc' := 29) ⟨rfl, rfl⟩ rfl ?_
      refine qa_aload_n (pc' := 30) ⟨rfl, rfl⟩ rfl ?_
      refine qa_getf (pc' := 33) ⟨rfl, rfl⟩ qg_1_152 (by assumption) rfl ?_
      refine qa_aload_n (pc' := 34) ⟨rfl, rfl⟩ rfl ?_
      refine qa_getf (pc' := 37) ⟨rfl, rfl⟩ qg_1_155 (by assumption) rfl ?_
      refine qa_callS rfl qf_F_nearestOver rfl ql_1_164 (c_F_nearestOver (E := E) dn k5p.1 k5p.2.1) rfl rfl (qa_lt9 rfl) (qa_le9 rfl) (qa_le9 rfl) (qa_le9 rfl) (fun o9 τ9 hq9 => ?_)
      obtain ⟨rfl, hq9⟩ := hq9
      replace hq9 := hq9.symm; subst hq9
      refine qa_nx (pc' := 40) (st' := [_]) rfl rfl rfl rfl ?_
      refine qa_ireturn rfl rfl rfl (hQ _ _ ⟨by unfold fo_near; rw [if_pos ok9, if_pos ok8]; rfl, rfl, Nat.le_refl _⟩)
    · exact qa_Zout rfl (hQ _ _ ⟨by unfold fo_near; (repeat (first | rw [if_pos (by omega)] | rw [if_neg (by omega)])); rfl, hh8, hn8⟩)
  · exact qa_Zout rfl (hQ _ _ ⟨by unfold fo_near; (repeat (first | rw [if_pos (by omega)] | rw [if_neg (by omega)])); rfl, hh9, hn9⟩)
theorem c_C_intervalNumerator {E : qa_V} {σ : qa_S} {c : Nat} {m : Int → Int} {n : Nat → Int} {rf B : Int} {p q : Int} (hc : σ.1 c = some (qa_CoF c n)) (hS : sR_S σ.1 (c + 1) m rf) (hk : sm_ok m B) (hp : qa_in p) (hq : qa_in q) : qa_T E qm_C_intervalNumerator 4 24 [.ref c, .int (qa_i p), .int (qa_i q)] σ (qa_q σ (qa_out [0] (fo_of2 m p q (m (5 + 26 * p) * m (6 + 26 * q) / sp_gd 64 (m (5 + 26 * p) * m (6 + 26 * q)) (m (6 + 26 * p) * m (5 + 26 * q)))))) := by
  refine qa_enterQ (by decide) rfl qm_C_intervalNumerator_ok rfl rfl (fun Q9 hQ => ?_)
  have hk9 := hk
  have hS9 := hS
  have hs := hS.1
  obtain ⟨k0, k1, k2, k3, k4, k5, k6, k7, k8⟩ := hk
  obtain ⟨-, hpa, hcq, htq, hpp⟩ := hS
  refine qa_aload_n (pc' := 1) ⟨rfl, rfl⟩ rfl ?_
  refine qa_iload_n (pc' := 2) ⟨rfl, rfl⟩ rfl ?_
  refine qa_callV rfl qf_C_partOf ql_1_76 (c_C_partOf (E := E) hc hS9 hk9 hp) hc rfl rfl rfl (qa_lt9 rfl) (qa_le9 rfl) (qa_le9 rfl) (qa_le9 rfl) (fun o9 τ9 hq9 => ?_)
  rcases hq9 with ⟨ok9, rfl, hq9⟩ | ⟨no9, rfl, hh9, hn9⟩
  · replace hq9 := hq9.symm; subst hq9
    refine qa_nx (pc' := 5) (st' := [_]) rfl rfl rfl rfl ?_
    obtain ⟨p9, l9, u9, d9, q1, q2, q3, q4, q5, q6⟩ := hpp p (by omega) (by omega)
    have kk := k4 p (by omega) (by omega)
    have kn := kk.1
    have kw := sm_wh_b kk
    have k5p := k5 p ok9.1 ok9.2
    obtain ⟨eu, ed⟩ := q4 ok9.2
    subst eu; subst ed
    refine qa_astore_n (L' := [(0, _), (1, _), (2, _), (3, _)]) (pc' := 6) ⟨rfl, rfl⟩ rfl rfl ?_
    refine qa_aload_n (pc' := 7) ⟨rfl, rfl⟩ rfl ?_
    refine qa_iload_n (pc' := 8) ⟨rfl, rfl⟩ rfl ?_
    refine qa_callV rfl qf_C_partOf ql_1_76 (c_C_partOf (E := E) hc hS9 hk9 hq) hc rfl rfl rfl (qa_lt9 rfl) (qa_le9 rfl) (qa_le9 rfl) (qa_le9 rfl) (fun o9 τ9 hq9 => ?_)
    rcases hq9 with ⟨ok8, rfl, hq9⟩ | ⟨no8, rfl, hh8, hn8⟩
    · replace hq9 := hq9.symm; subst hq9
      refine qa_nx (pc' := 11) (st' := [_]) rfl rfl rfl rfl ?_
      obtain ⟨p8, l8, u8, d8, r1, r2, r3, r4, r5, r6⟩ := hpp q (by omega) (by omega)
      have k5q := k5 q ok8.1 ok8.2
      obtain ⟨eu, ed⟩ := r4 ok8.2
      subst eu; subst ed
      have mb1 := sp_mb (A := 99) (B := 99) (a := m (5 + 26 * p)) (b := m (6 + 26 * q)) (by omega) (by omega)
      have mb2 := sp_mb (A := 99) (B := 99) (a := m (6 + 26 * p)) (b := m (5 + 26 * q)) (by omega) (by omega)
      have mp1 : 1 ≤ m (5 + 26 * p) * m (6 + 26 * q) := Int.mul_pos (by omega : 0 < m (5 + 26 * p)) (by omega : 0 < m (6 + 26 * q))
      have mp2 : 1 ≤ m (6 + 26 * p) * m (5 + 26 * q) := Int.mul_pos (by omega : 0 < m (6 + 26 * p)) (by omega : 0 < m (5 + 26 * q))
      refine qa_astore (L' := [(0, _), (1, _), (2, _), (3, _), (4, _)]) (pc' := 13) ⟨rfl, rfl⟩ rfl rfl ?_
      refine qa_aload_n (pc' := 14) ⟨rfl, rfl⟩ rfl ?_
      refine qa_getf (pc' := 17) ⟨rfl, rfl⟩ qg_1_152 (by assumption) rfl ?_
      refine qa_aload (pc' := 19) ⟨rfl, rfl⟩ rfl ?_
      refine qa_getf (pc' := 22) ⟨rfl, rfl⟩ qg_1_155 (by assumption) rfl ?_
      refine qa_imul (pc' := 23) ⟨rfl, rfl⟩ rfl ?_
      refine qa_aload_n (pc' := 24) ⟨rfl, rfl⟩ rfl ?_
      refine qa_getf (pc' := 27) ⟨rfl, rfl⟩ qg_1_155 (by assumption) rfl ?_
      refine qa_aload (pc' := 29) ⟨rfl, rfl⟩ rfl ?_
      refine qa_getf (pc' := 32) ⟨rfl, rfl⟩ qg_1_152 (by assumption) rfl ?_
      refine qa_imul (pc' := 33) ⟨rfl, rfl⟩ rfl ?_
      refine qa_callS rfl qf_F_reduced rfl ql_1_170 (c_F_reduced (E := E) (by omega) (by omega)) rfl rfl (qa_lt9 rfl) (qa_le9 rfl) (qa_le9 rfl) (qa_le9 rfl) (fun o9 τ9 hq9 => ?_)
      obtain ⟨rfl, hq9⟩ := hq9
      replace hq9 := hq9.symm; subst hq9
      refine qa_nx (pc' := 36) (st' := [_]) rfl rfl rfl rfl ?_
      refine qa_ireturn rfl rfl rfl (hQ _ _ ⟨by unfold fo_of2; rw [if_pos ⟨ok9, ok8⟩]; rfl, rfl, Nat.le_refl _⟩)
    · exact qa_Zout rfl (hQ _ _ ⟨by unfold fo_of2; rw [if_neg (fun h => no8 h.2)]; rfl, hh8, hn8⟩)
  · exact qa_Zout rfl (hQ _ _ ⟨by unfold fo_of2; rw [if_neg (fun h => no9 h.1)]; rfl, hh9, hn9⟩)
theorem c_C_intervalDenominator {E : qa_V} {σ : qa_S} {c : Nat} {m : Int → Int} {n : Nat → Int} {rf B : Int} {p q : Int} (hc : σ.1 c = some (qa_CoF c n)) (hS : sR_S σ.1 (c + 1) m rf) (hk : sm_ok m B) (hp : qa_in p) (hq : qa_in q) : qa_T E qm_C_intervalDenominator 4 24 [.ref c, .int (qa_i p), .int (qa_i q)] σ (qa_q σ (qa_out [0] (fo_of2 m p q (m (6 + 26 * p) * m (5 + 26 * q) / sp_gd 64 (m (6 + 26 * p) * m (5 + 26 * q)) (m (5 + 26 * p) * m (6 + 26 * q)))))) := by
  refine qa_enterQ (by decide) rfl qm_C_intervalDenominator_ok rfl rfl (fun Q9 hQ => ?_)
  have hk9 := hk
  have hS9 := hS
  have hs := hS.1
  obtain ⟨k0, k1, k2, k3, k4, k5, k6, k7, k8⟩ := hk
  obtain ⟨-, hpa, hcq, htq, hpp⟩ := hS
  refine qa_aload_n (pc' := 1) ⟨rfl, rfl⟩ rfl ?_
  refine qa_iload_n (pc' := 2) ⟨rfl, rfl⟩ rfl ?_
  refine qa_callV rfl qf_C_partOf ql_1_76 (c_C_partOf (E := E) hc hS9 hk9 hp) hc rfl rfl rfl (qa_lt9 rfl) (qa_le9 rfl) (qa_le9 rfl) (qa_le9 rfl) (fun o9 τ9 hq9 => ?_)
  rcases hq9 with ⟨ok9, rfl, hq9⟩ | ⟨no9, rfl, hh9, hn9⟩
  · replace hq9 := hq9.symm; subst hq9
    refine qa_nx (pc' := 5) (st' := [_]) rfl rfl rfl rfl ?_
    obtain ⟨p9, l9, u9, d9, q1, q2, q3, q4, q5, q6⟩ := hpp p (by omega) (by omega)
    have kk := k4 p (by omega) (by omega)
    have kn := kk.1
    have kw := sm_wh_b kk
    have k5p := k5 p ok9.1 ok9.2
    obtain ⟨eu, ed⟩ := q4 ok9.2
    subst eu; subst ed
    refine qa_astore_n (L' := [(0, _), (1, _), (2, _), (3, _)]) (pc' := 6) ⟨rfl, rfl⟩ rfl rfl ?_
    refine qa_aload_n (pc' := 7) ⟨rfl, rfl⟩ rfl ?_
    refine qa_iload_n (pc' := 8) ⟨rfl, rfl⟩ rfl ?_
    refine qa_callV rfl qf_C_partOf ql_1_76 (c_C_partOf (E := E) hc hS9 hk9 hq) hc rfl rfl rfl (qa_lt9 rfl) (qa_le9 rfl) (qa_le9 rfl) (qa_le9 rfl) (fun o9 τ9 hq9 => ?_)
    rcases hq9 with ⟨ok8, rfl, hq9⟩ | ⟨no8, rfl, hh8, hn8⟩
    · replace hq9 := hq9.symm; subst hq9
      refine qa_nx (pc' := 11) (st' := [_]) rfl rfl rfl rfl ?_
      obtain ⟨p8, l8, u8, d8, r1, r2, r3, r4, r5, r6⟩ := hpp q (by omega) (by omega)
      have k5q := k5 q ok8.1 ok8.2
      obtain ⟨eu, ed⟩ := r4 ok8.2
      subst eu; subst ed
      have mb1 := sp_mb (A := 99) (B := 99) (a := m (5 + 26 * p)) (b := m (6 + 26 * q)) (by omega) (by omega)
      have mb2 := sp_mb (A := 99) (B := 99) (a := m (6 + 26 * p)) (b := m (5 + 26 * q)) (by omega) (by omega)
      have mp1 : 1 ≤ m (5 + 26 * p) * m (6 + 26 * q) := Int.mul_pos (by omega : 0 < m (5 + 26 * p)) (by omega : 0 < m (6 + 26 * q))
      have mp2 : 1 ≤ m (6 + 26 * p) * m (5 + 26 * q) := Int.mul_pos (by omega : 0 < m (6 + 26 * p)) (by omega : 0 < m (5 + 26 * q))
      refine qa_astore (L' := [(0, _), (1, _), (2, _), (3, _), (4, _)]) (pc' := 13) ⟨rfl, rfl⟩ rfl rfl ?_
      refine qa_aload_n (pc' := 14) ⟨rfl, rfl⟩ rfl ?_
      refine qa_getf (pc' := 17) ⟨rfl, rfl⟩ qg_1_155 (by assumption) rfl ?_
      refine qa_aload (pc' := 19) ⟨rfl, rfl⟩ rfl ?_
      refine qa_getf (pc' := 22) ⟨rfl, rfl⟩ qg_1_152 (by assumption) rfl ?_
      refine qa_imul (pc' := 23) ⟨rfl, rfl⟩ rfl ?_
      refine qa_aload_n (pc' := 24) ⟨rfl, rfl⟩ rfl ?_
      refine qa_getf (pc' := 27) ⟨rfl, rfl⟩ qg_1_152 (by assumption) rfl ?_
      refine qa_aload (pc' := 29) ⟨rfl, rfl⟩ rfl ?_
      refine qa_getf (pc' := 32) ⟨rfl, rfl⟩ qg_1_155 (by assumption) rfl ?_
      refine qa_imul (pc' := 33) ⟨rfl, rfl⟩ rfl ?_
      refine qa_callS rfl qf_F_reduced rfl ql_1_170 (c_F_reduced (E := E) (by omega) (by omega)) rfl rfl (qa_lt9 rfl) (qa_le9 rfl) (qa_le9 rfl) (qa_le9 rfl) (fun o9 τ9 hq9 => ?_)
      obtain ⟨rfl, hq9⟩ := hq9
      replace hq9 := hq9.symm; subst hq9
      refine qa_nx (pc' := 36) (st' := [_]) rfl rfl rfl rfl ?_
      refine qa_ireturn rfl rfl rfl (hQ _ _ ⟨by unfold fo_of2; rw [if_pos ⟨ok9, ok8⟩]; rfl, rfl, Nat.le_refl _⟩)
    · exact qa_Zout rfl (hQ _ _ ⟨by unfold fo_of2; rw [if_neg (fun h => no8 h.2)]; rfl, hh8, hn8⟩)
  · exact qa_Zout rfl (hQ _ _ ⟨by unfold fo_of2; rw [if_neg (fun h => no9 h.1)]; rfl, hh9, hn9⟩)
theorem so_at_b (m : Int → Int) (x : Int) : ∀ (f : Nat) (i : Int), so_at m x f i = -1 ∨ (i ≤ so_at m x f i ∧ so_at m x f i < i + f)
  | 0, i => Or.inl rfl
  | f + 1, i => by
    unfold so_at
    split
    · right; omega
    · rcases so_at_b m x f (i + 1) with h | h
      · left; exact h
      · right; omega
theorem c_C_partByTuning {E : qa_V} {σ : qa_S} {c : Nat} {m : Int → Int} {n : Nat → Int} {rf B : Int} {x : Int} (hc : σ.1 c = some (qa_CoF c n)) (hS : sR_S σ.1 (c + 1) m rf) (hk : sm_ok m B) (hx : qa_in x) : qa_T E qm_C_partByTuning 4 24 [.ref c, .int (qa_i x)] σ (qa_q σ (qa_out [3] (fo_found (so_at m x (m 0).toNat 0)))) := by
  refine qa_enterQ (by decide) rfl qm_C_partByTuning_ok rfl rfl (fun Q9 hQ => ?_)
  have hk9 := hk
  have hS9 := hS
  have hs := hS.1
  obtain ⟨k0, k1, k2, k3, k4, k5, k6, k7, k8⟩ := hk
  obtain ⟨-, hpa, hcq, htq, hpp⟩ := hS
  refine qa_aload_n (pc' := 1) ⟨rfl, rfl⟩ rfl ?_
  refine qa_getf (pc' := 4) ⟨rfl, rfl⟩ qg_1_10 (by assumption) rfl ?_
  refine qa_iload_n (pc' := 5) ⟨rfl, rfl⟩ rfl ?_
  refine qa_callV rfl qf_S_partAtPosition ql_1_174 (c_S_partAtPosition (E := E) hS9 hk9 hx) hs rfl rfl rfl (qa_lt9 rfl) (qa_le9 rfl) (qa_le9 rfl) (qa_le9 rfl) (fun o9 τ9 hq9 => ?_)
  obtain ⟨rfl, hq9⟩ := hq9
  replace hq9 := hq9.symm; subst hq9
  refine qa_nx (pc' := 8) (st' := [_]) rfl rfl rfl rfl ?_
  have ab := so_at_b m x (m 0).toNat 0
  refine qa_callS rfl qf_C_found rfl ql_1_115 (c_C_found (E := E) (by omega)) rfl rfl (qa_lt9 rfl) (qa_le9 rfl) (qa_le9 rfl) (qa_le9 rfl) (fun o9 τ9 hq9 => ?_)
  rcases hq9 with ⟨ok9, rfl, hq9⟩ | ⟨no9, rfl, hh9, hn9⟩
  · replace hq9 := hq9.symm; subst hq9
    refine qa_nx (pc' := 11) (st' := [_]) rfl rfl rfl rfl ?_
    refine qa_ireturn rfl rfl rfl (hQ _ _ ⟨by unfold fo_found; (repeat (first | rw [if_pos (by omega)] | rw [if_neg (by omega)])); rfl, rfl, Nat.le_refl _⟩)
  · exact qa_Zout rfl (hQ _ _ ⟨by unfold fo_found; (repeat (first | rw [if_pos (by omega)] | rw [if_neg (by omega)])); rfl, hh9, hn9⟩)
theorem sp_af_src {m : Int → Int} {B : Int} (hk : sm_ok m B) {src : Int → Int} (h : ∀ j : Int, 0 ≤ j → j < 5 → src j = sm_src m j) (i : Int) : sp_af src i = sp_af (sm_src m) i := by
  unfold sp_af
  split
  · exact h i (by omega) (by omega)
  · rfl
theorem sp_dp_ext {f g : Int → Int} (h : ∀ i, sp_af f i = sp_af g i) : ∀ (k : Nat) (a d : Int), sp_dp f k a d = sp_dp g k a d
  | 0, _, _ => rfl
  | k + 1, a, d => by unfold sp_dp; rw [h a, sp_dp_ext h k]
theorem sp_rf_ext {f g : Int → Int} (h : ∀ i, sp_af f i = sp_af g i) (st : Int) : ∀ (k : Nat) (a d : Int), sp_rf f st k a d = sp_rf g st k a d
  | 0, _, _ => rfl
  | k + 1, a, d => by unfold sp_rf; rw [h a, sp_rf_ext h st k]
theorem sp_ts_ext {f g : Int → Int} (h : ∀ i, sp_af f i = sp_af g i) : ∀ (k : Nat) (a d : Int), sp_ts f k a d = sp_ts g k a d
  | 0, _, _ => rfl
  | k + 1, a, d => by unfold sp_ts; rw [h d, h a, h (sp_af g d), sp_ts_ext h k, sp_rf_ext h]
theorem sp_mk_ext2 {f g : Int → Int} (h : ∀ i, 0 ≤ i → i ≤ 4 → f i = g i) : ∀ (k : Nat) (a d : Int) (mw : Int → Int), sp_mk f k a d mw = sp_mk g k a d mw
  | 0, _, _, _ => rfl
  | k + 1, a, d, mw => by
    unfold sp_mk
    by_cases e : 0 ≤ a ∧ a ≤ 4
    · have n : ¬ ¬ (0 ≤ a ∧ a ≤ 4) := fun x => x e
      rw [if_neg n, if_neg n, h a e.1 e.2, sp_mk_ext2 h k]
    · rw [if_pos e, if_pos e]
theorem sp_dp_b (f : Int → Int) : ∀ (k : Nat) (a d : Int), 0 ≤ d → sp_dp f k a d = -1 ∨ (d ≤ sp_dp f k a d ∧ sp_dp f k a d < d + k)
  | 0, _, _, _ => Or.inl rfl
  | k + 1, a, d, hd => by
    unfold sp_dp
    split
    · right; omega
    · rcases sp_dp_b f k (sp_af f a) (d + 1) (by omega) with h | h
      · left; exact h
      · right; omega
theorem c_C_cueOf {E : qa_V} {σ : qa_S} {c : Nat} {m : Int → Int} {n : Nat → Int} {rf B : Int} {p : Int} (hc : σ.1 c = some (qa_CoF c n)) (hS : sR_S σ.1 (c + 1) m rf) (hk : sm_ok m B) (hp : qa_in p) : qa_T E qm_C_cueOf 4 24 [.ref c, .int (qa_i p)] σ (qa_q σ (qa_out [0, 3] (fo_foundP m p (m (7 + 26 * p))))) := by
  refine qa_enterQ (by decide) rfl qm_C_cueOf_ok rfl rfl (fun Q9 hQ => ?_)
  have hk9 := hk
  have hS9 := hS
  have hs := hS.1
  obtain ⟨k0, k1, k2, k3, k4, k5, k6, k7, k8⟩ := hk
  obtain ⟨-, hpa, hcq, htq, hpp⟩ := hS
  obtain ⟨src, mw, c1, c2, c3, c4⟩ := hcq
  have hs5 := sm_src_b hk9 c4
  refine qa_aload_n (pc' := 1) ⟨rfl, rfl⟩ rfl ?_
  refine qa_iload_n (pc' := 2) ⟨rfl, rfl⟩ rfl ?_
  refine qa_callV rfl qf_C_requirePart ql_1_183 (c_C_requirePart (E := E) hc hS9 hk9 hp) hc rfl rfl rfl (qa_lt9 rfl) (qa_le9 rfl) (qa_le9 rfl) (qa_le9 rfl) (fun o9 τ9 hq9 => ?_)
  rcases hq9 with ⟨ok9, rfl, hq9⟩ | ⟨no9, rfl, hh9, hn9⟩
  · replace hq9 := hq9.symm; subst hq9
    refine qa_nx (pc' := 5) (st' := []) rfl rfl rfl rfl ?_
    refine qa_aload_n (pc' := 6) ⟨rfl, rfl⟩ rfl ?_
    refine qa_getf (pc' := 9) ⟨rfl, rfl⟩ qg_1_10 (by assumption) rfl ?_
    refine qa_getf (pc' := 12) ⟨rfl, rfl⟩ qg_1_187 (by assumption) rfl ?_
    refine qa_iload_n (pc' := 13) ⟨rfl, rfl⟩ rfl ?_
    refine qa_callV rfl qf_Q_after ql_1_191 (c_Q_after (E := E) c1 c2 (by omega)) c1 rfl rfl rfl (qa_lt9 rfl) (qa_le9 rfl) (qa_le9 rfl) (qa_le9 rfl) (fun o9 τ9 hq9 => ?_)
    obtain ⟨rfl, hq9⟩ := hq9
    replace hq9 := hq9.symm; subst hq9
    refine qa_nx (pc' := 16) (st' := [_]) rfl rfl rfl rfl ?_
    rw [sp_af_src hk9 c4]
    have e9 : sp_af (sm_src m) p = m (7 + 26 * p) := by unfold sp_af sm_src; rw [if_pos (by omega), if_pos (by omega)]
    rw [e9]
    have k5p := k5 p ok9.1 ok9.2
    refine qa_callS rfl qf_C_found rfl ql_1_115 (c_C_found (E := E) (by omega)) rfl rfl (qa_lt9 rfl) (qa_le9 rfl) (qa_le9 rfl) (qa_le9 rfl) (fun o9 τ9 hq9 => ?_)
    rcases hq9 with ⟨ok8, rfl, hq9⟩ | ⟨no8, rfl, hh8, hn8⟩
    · replace hq9 := hq9.symm; subst hq9
      refine qa_nx (pc' := 19) (st' := [_]) rfl rfl rfl rfl ?_
      refine qa_ireturn rfl rfl rfl (hQ _ _ ⟨by unfold fo_foundP; (repeat (first | rw [if_pos (by omega)] | rw [if_neg (by omega)])); rfl, rfl, Nat.le_refl _⟩)
    · exact qa_Zout rfl (hQ _ _ ⟨by unfold fo_foundP; (repeat (first | rw [if_pos (by omega)] | rw [if_neg (by omega)])); rfl, hh8, hn8⟩)
  · exact qa_Zout rfl (hQ _ _ ⟨by unfold fo_foundP; (repeat (first | rw [if_pos (by omega)] | rw [if_neg (by omega)])); rfl, hh9, hn9⟩)
theorem c_C_cueDepth {E : qa_V} {σ : qa_S} {c : Nat} {m : Int → Int} {n : Nat → Int} {rf B : Int} {p : Int} (hc : σ.1 c = some (qa_CoF c n)) (hS : sR_S σ.1 (c + 1) m rf) (hk : sm_ok m B) (hp : qa_in p) : qa_T E qm_C_cueDepth 4 24 [.ref c, .int (qa_i p)] σ (qa_q σ (qa_out [0, 3] (fo_foundP m p (sp_dp (sm_src m) 5 p 0)))) := by
  refine qa_enterQ (by decide) rfl qm_C_cueDepth_ok rfl rfl (fun Q9 hQ => ?_)
  have hk9 := hk
  have hS9 := hS
  have hs := hS.1
  obtain ⟨k0, k1, k2, k3, k4, k5, k6, k7, k8⟩ := hk
  obtain ⟨-, hpa, hcq, htq, hpp⟩ := hS
  obtain ⟨src, mw, c1, c2, c3, c4⟩ := hcq
  have hs5 := sm_src_b hk9 c4
  refine qa_aload_n (pc' := 1) ⟨rfl, rfl⟩ rfl ?_
  refine qa_iload_n (pc' := 2) ⟨rfl, rfl⟩ rfl ?_
  refine qa_callV rfl qf_C_requirePart ql_1_183 (c_C_requirePart (E := E) hc hS9 hk9 hp) hc rfl rfl rfl (qa_lt9 rfl) (qa_le9 rfl) (qa_le9 rfl) (qa_le9 rfl) (fun o9 τ9 hq9 => ?_)
  rcases hq9 with ⟨ok9, rfl, hq9⟩ | ⟨no9, rfl, hh9, hn9⟩
  · replace hq9 := hq9.symm; subst hq9
    refine qa_nx (pc' := 5) (st' := []) rfl rfl rfl rfl ?_
    refine qa_aload_n (pc' := 6) ⟨rfl, rfl⟩ rfl ?_
    refine qa_getf (pc' := 9) ⟨rfl, rfl⟩ qg_1_10 (by assumption) rfl ?_
    refine qa_getf (pc' := 12) ⟨rfl, rfl⟩ qg_1_187 (by assumption) rfl ?_
    refine qa_iload_n (pc' := 13) ⟨rfl, rfl⟩ rfl ?_
    refine qa_callV rfl qf_Q_depthFrom ql_1_196 (c_Q_depthFrom (E := E) c1 c2 hs5 (by omega)) c1 rfl rfl rfl (qa_lt9 rfl) (qa_le9 rfl) (qa_le9 rfl) (qa_le9 rfl) (fun o9 τ9 hq9 => ?_)
    obtain ⟨rfl, hq9⟩ := hq9
    replace hq9 := hq9.symm; subst hq9
    refine qa_nx (pc' := 16) (st' := [_]) rfl rfl rfl rfl ?_
    rw [sp_dp_ext (sp_af_src hk9 c4)]
    have db := sp_dp_b (sm_src m) 5 p 0 (by omega)
    refine qa_callS rfl qf_C_found rfl ql_1_115 (c_C_found (E := E) (by omega)) rfl rfl (qa_lt9 rfl) (qa_le9 rfl) (qa_le9 rfl) (qa_le9 rfl) (fun o9 τ9 hq9 => ?_)
    rcases hq9 with ⟨ok8, rfl, hq9⟩ | ⟨no8, rfl, hh8, hn8⟩
    · replace hq9 := hq9.symm; subst hq9
      refine qa_nx (pc' := 19) (st' := [_]) rfl rfl rfl rfl ?_
      refine qa_ireturn rfl rfl rfl (hQ _ _ ⟨by unfold fo_foundP; (repeat (first | rw [if_pos (by omega)] | rw [if_neg (by omega)])); rfl, rfl, Nat.le_refl _⟩)
    · exact qa_Zout rfl (hQ _ _ ⟨by unfold fo_foundP; (repeat (first | rw [if_pos (by omega)] | rw [if_neg (by omega)])); rfl, hh8, hn8⟩)
  · exact qa_Zout rfl (hQ _ _ ⟨by unfold fo_foundP; (repeat (first | rw [if_pos (by omega)] | rw [if_neg (by omega)])); rfl, hh9, hn9⟩)
theorem c_C_circleLength {E : qa_V} {σ : qa_S} {c : Nat} {m : Int → Int} {n : Nat → Int} {rf B : Int} {p : Int} (hc : σ.1 c = some (qa_CoF c n)) (hS : sR_S σ.1 (c + 1) m rf) (hk : sm_ok m B) (hp : qa_in p) : qa_T E qm_C_circleLength 4 24 [.ref c, .int (qa_i p)] σ (qa_q σ (qa_out [0] (fo_of m p (sp_ts (sm_src m) 10 p p)))) := by
  refine qa_enterQ (by decide) rfl qm_C_circleLength_ok rfl rfl (fun Q9 hQ => ?_)
  have hk9 := hk
  have hS9 := hS
  have hs := hS.1
  obtain ⟨k0, k1, k2, k3, k4, k5, k6, k7, k8⟩ := hk
  obtain ⟨-, hpa, hcq, htq, hpp⟩ := hS
  obtain ⟨src, mw, c1, c2, c3, c4⟩ := hcq
  have hs5 := sm_src_b hk9 c4
  refine qa_aload_n (pc' := 1) ⟨rfl, rfl⟩ rfl ?_
  refine qa_iload_n (pc' := 2) ⟨rfl, rfl⟩ rfl ?_
  refine qa_callV rfl qf_C_requirePart ql_1_183 (c_C_requirePart (E := E) hc hS9 hk9 hp) hc rfl rfl rfl (qa_lt9 rfl) (qa_le9 rfl) (qa_le9 rfl) (qa_le9 rfl) (fun o9 τ9 hq9 => ?_)
  rcases hq9 with ⟨ok9, rfl, hq9⟩ | ⟨no9, rfl, hh9, hn9⟩
  · replace hq9 := hq9.symm; subst hq9
    refine qa_nx (pc' := 5) (st' := []) rfl rfl rfl rfl ?_
    refine qa_aload_n (pc' := 6) ⟨rfl, rfl⟩ rfl ?_
    refine qa_getf (pc' := 9) ⟨rfl, rfl⟩ qg_1_10 (by assumption) rfl ?_
    refine qa_getf (pc' := 12) ⟨rfl, rfl⟩ qg_1_187 (by assumption) rfl ?_
    refine qa_iload_n (pc' := 13) ⟨rfl, rfl⟩ rfl ?_
    refine qa_callV rfl qf_Q_circleByTwoSpeeds ql_1_199 (c_Q_circleByTwoSpeeds (E := E) c1 c2 hs5 (by omega)) c1 rfl rfl rfl (qa_lt9 rfl) (qa_le9 rfl) (qa_le9 rfl) (qa_le9 rfl) (fun o9 τ9 hq9 => ?_)
    obtain ⟨rfl, hq9⟩ := hq9
    replace hq9 := hq9.symm; subst hq9
    refine qa_nx (pc' := 16) (st' := [_]) rfl rfl rfl rfl ?_
    rw [sp_ts_ext (sp_af_src hk9 c4)]
    refine qa_ireturn rfl rfl rfl (hQ _ _ ⟨by unfold fo_of; (repeat (first | rw [if_pos (by omega)] | rw [if_neg (by omega)])); rfl, rfl, Nat.le_refl _⟩)
  · exact qa_Zout rfl (hQ _ _ ⟨by unfold fo_of; (repeat (first | rw [if_pos (by omega)] | rw [if_neg (by omega)])); rfl, hh9, hn9⟩)
theorem c_C_barsOf {E : qa_V} {σ : qa_S} {c : Nat} {m : Int → Int} {n : Nat → Int} {rf B : Int} {p : Int} (hc : σ.1 c = some (qa_CoF c n)) (hS : sR_S σ.1 (c + 1) m rf) (hk : sm_ok m B) (hp : qa_in p) : qa_T E qm_C_barsOf 4 24 [.ref c, .int (qa_i p)] σ (qa_q σ (qa_out [0, 3] (fo_foundP m p (if sm_wh m p = 0 ∨ sm_wh m p % m 1 ≠ 0 then -1 else sm_wh m p / m 1)))) := by
  refine qa_enterQ (by decide) rfl qm_C_barsOf_ok rfl rfl (fun Q9 hQ => ?_)
  have hk9 := hk
  have hS9 := hS
  have hs := hS.1
  obtain ⟨k0, k1, k2, k3, k4, k5, k6, k7, k8⟩ := hk
  obtain ⟨-, hpa, hcq, htq, hpp⟩ := hS
  refine qa_aload_n (pc' := 1) ⟨rfl, rfl⟩ rfl ?_
  refine qa_getf (pc' := 4) ⟨rfl, rfl⟩ qg_1_10 (by assumption) rfl ?_
  refine qa_aload_n (pc' := 5) ⟨rfl, rfl⟩ rfl ?_
  refine qa_iload_n (pc' := 6) ⟨rfl, rfl⟩ rfl ?_
  refine qa_callV rfl qf_C_partOf ql_1_76 (c_C_partOf (E := E) hc hS9 hk9 hp) hc rfl rfl rfl (qa_lt9 rfl) (qa_le9 rfl) (qa_le9 rfl) (qa_le9 rfl) (fun o9 τ9 hq9 => ?_)
  rcases hq9 with ⟨ok9, rfl, hq9⟩ | ⟨no9, rfl, hh9, hn9⟩
  · replace hq9 := hq9.symm; subst hq9
    refine qa_nx (pc' := 9) (st' := [_, _]) rfl rfl rfl rfl ?_
    obtain ⟨p9, l9, u9, d9, q1, q2, q3, q4, q5, q6⟩ := hpp p (by omega) (by omega)
    have kk := k4 p (by omega) (by omega)
    have kn := kk.1
    have kw := sm_wh_b kk
    have wb : 0 ≤ sm_wh m p := by omega
    have dv : 0 ≤ sm_wh m p / m 1 := Int.ediv_nonneg wb (by omega)
    have dl : sm_wh m p / m 1 ≤ sm_wh m p := Int.ediv_le_self _ wb
    refine qa_getf (pc' := 12) ⟨rfl, rfl⟩ qg_1_103 (by assumption) rfl ?_
    refine qa_callV rfl qf_S_wholeBars ql_1_211 (c_S_wholeBars (E := E) hS9 hk9 (by omega)) hs rfl rfl rfl (qa_lt9 rfl) (qa_le9 rfl) (qa_le9 rfl) (qa_le9 rfl) (fun o9 τ9 hq9 => ?_)
    obtain ⟨rfl, hq9⟩ := hq9
    replace hq9 := hq9.symm; subst hq9
    refine qa_nx (pc' := 15) (st' := [_]) rfl rfl rfl rfl ?_
    have hwb : qa_in (if sm_wh m p = 0 ∨ sm_wh m p % m 1 ≠ 0 then -1 else sm_wh m p / m 1) := by split <;> omega
    refine qa_callS rfl qf_C_found rfl ql_1_115 (c_C_found (E := E) hwb) rfl rfl (qa_lt9 rfl) (qa_le9 rfl) (qa_le9 rfl) (qa_le9 rfl) (fun o9 τ9 hq9 => ?_)
    rcases hq9 with ⟨ok8, rfl, hq9⟩ | ⟨no8, rfl, hh8, hn8⟩
    · replace hq9 := hq9.symm; subst hq9
      refine qa_nx (pc' := 18) (st' := [_]) rfl rfl rfl rfl ?_
      refine qa_ireturn rfl rfl rfl (hQ _ _ ⟨by unfold fo_foundP; rw [if_pos ok9, if_neg ok8]; rfl, rfl, Nat.le_refl _⟩)
    · exact qa_Zout rfl (hQ _ _ ⟨by unfold fo_foundP; rw [if_pos ok9, if_pos (Classical.not_not.mp no8)]; rfl, hh8, hn8⟩)
  · exact qa_Zout rfl (hQ _ _ ⟨by unfold fo_foundP; (repeat (first | rw [if_pos (by omega)] | rw [if_neg (by omega)])); rfl, hh9, hn9⟩)
theorem c_C_tempoAt {E : qa_V} {σ : qa_S} {c : Nat} {m : Int → Int} {n : Nat → Int} {rf B : Int} {x : Int} (hc : σ.1 c = some (qa_CoF c n)) (hS : sR_S σ.1 (c + 1) m rf) (hk : sm_ok m B) (hx : qa_in x) : qa_T E qm_C_tempoAt 4 24 [.ref c, .int (qa_i x)] σ (qa_q σ (qa_out [1] (fo_rng 0 999 x (sm_vf m (sm_e m x))))) := by
  refine qa_enterQ (by decide) rfl qm_C_tempoAt_ok rfl rfl (fun Q9 hQ => ?_)
  have hk9 := hk
  have hS9 := hS
  have hs := hS.1
  obtain ⟨k0, k1, k2, k3, k4, k5, k6, k7, k8⟩ := hk
  obtain ⟨-, hpa, hcq, htq, hpp⟩ := hS
  obtain ⟨bars, vals, t1, t2, t3, t4⟩ := htq
  refine qa_iload_n (pc' := 1) ⟨rfl, rfl⟩ rfl ?_
  refine qa_iconst (pc' := 2) ⟨rfl, rfl⟩ ?_
  refine qa_sipush (z := 999) (pc' := 5) ⟨rfl, rfl⟩ rfl ?_
  refine qa_callS rfl qf_C_requireRange rfl ql_1_107 (c_C_requireRange (E := E) hx (by omega) (by omega)) rfl rfl (qa_lt9 rfl) (qa_le9 rfl) (qa_le9 rfl) (qa_le9 rfl) (fun o9 τ9 hq9 => ?_)
  rcases hq9 with ⟨ok9, rfl, hq9⟩ | ⟨no9, rfl, hh9, hn9⟩
  · replace hq9 := hq9.symm; subst hq9
    refine qa_nx (pc' := 8) (st' := []) rfl rfl rfl rfl ?_
    have hen := sp_en_ext2 (b := x) (fun j j0 j1 => (t4 j j0 j1).1) (m 2 - 1).toNat (by omega)
    have eb := sp_en_b (sm_bf m) x (m 2 - 1).toNat
    refine qa_aload_n (pc' := 9) ⟨rfl, rfl⟩ rfl ?_
    refine qa_getf (pc' := 12) ⟨rfl, rfl⟩ qg_1_10 (by assumption) rfl ?_
    refine qa_getf (pc' := 15) ⟨rfl, rfl⟩ qg_1_217 (by assumption) rfl ?_
    refine qa_iload_n (pc' := 16) ⟨rfl, rfl⟩ rfl ?_
    refine qa_callV rfl qf_T_tempoIn ql_1_221 (c_T_tempoIn (E := E) t1 t2 t3 k2 (fun j j0 j1 => by rw [(t4 j j0 j1).1]; exact k7.2.1 j j0 j1) ok9) t1 rfl rfl rfl (qa_lt9 rfl) (qa_le9 rfl) (qa_le9 rfl) (qa_le9 rfl) (fun o9 τ9 hq9 => ?_)
    obtain ⟨rfl, hq9⟩ := hq9
    replace hq9 := hq9.symm; subst hq9
    refine qa_nx (pc' := 19) (st' := [_]) rfl rfl rfl rfl ?_
    rw [show sp_en bars x (m 2 - 1).toNat = sp_en (sm_bf m) x (m 2 - 1).toNat from hen, (t4 _ eb.1 (by omega)).2]
    refine qa_ireturn rfl rfl rfl (hQ _ _ ⟨by unfold fo_rng; (repeat (first | rw [if_pos (by omega)] | rw [if_neg (by omega)])); rfl, rfl, Nat.le_refl _⟩)
  · exact qa_Zout rfl (hQ _ _ ⟨by unfold fo_rng; (repeat (first | rw [if_pos (by omega)] | rw [if_neg (by omega)])); rfl, hh9, hn9⟩)
theorem c_C_solosAhead {E : qa_V} {σ : qa_S} {c : Nat} {m : Int → Int} {n : Nat → Int} {rf B : Int} {x : Int} (hc : σ.1 c = some (qa_CoF c n)) (hS : sR_S σ.1 (c + 1) m rf) (hk : sm_ok m B) (hx : qa_in x) (hB9 : B ≤ 1000000000) : qa_T E qm_C_solosAhead 4 24 [.ref c, .int (qa_i x)] σ (qa_q σ (qa_out [1] (fo_rng 1 20 x (sm_si m (x * m 1).toNat)))) := by
  refine qa_enterQ (by decide) rfl qm_C_solosAhead_ok rfl rfl (fun Q9 hQ => ?_)
  have hk9 := hk
  have hS9 := hS
  have hs := hS.1
  obtain ⟨k0, k1, k2, k3, k4, k5, k6, k7, k8⟩ := hk
  obtain ⟨-, hpa, hcq, htq, hpp⟩ := hS
  refine qa_iload_n (pc' := 1) ⟨rfl, rfl⟩ rfl ?_
  refine qa_iconst (pc' := 2) ⟨rfl, rfl⟩ ?_
  refine qa_bipush (z := 20) (pc' := 4) ⟨rfl, rfl⟩ rfl ?_
  refine qa_callS rfl qf_C_requireRange rfl ql_1_107 (c_C_requireRange (E := E) hx (by omega) (by omega)) rfl rfl (qa_lt9 rfl) (qa_le9 rfl) (qa_le9 rfl) (qa_le9 rfl) (fun o9 τ9 hq9 => ?_)
  rcases hq9 with ⟨ok9, rfl, hq9⟩ | ⟨no9, rfl, hh9, hn9⟩
  · replace hq9 := hq9.symm; subst hq9
    refine qa_nx (pc' := 7) (st' := []) rfl rfl rfl rfl ?_
    refine qa_aload_n (pc' := 8) ⟨rfl, rfl⟩ rfl ?_
    refine qa_getf (pc' := 11) ⟨rfl, rfl⟩ qg_1_10 (by assumption) rfl ?_
    refine qa_iload_n (pc' := 12) ⟨rfl, rfl⟩ rfl ?_
    refine qa_callV rfl qf_S_solosInNext ql_1_245 (c_S_solosInNext (E := E) hS9 hk9 (by omega) ok9) hs rfl rfl rfl (qa_lt9 rfl) (qa_le9 rfl) (qa_le9 rfl) (qa_le9 rfl) (fun o9 τ9 hq9 => ?_)
    obtain ⟨rfl, hq9⟩ := hq9
    replace hq9 := hq9.symm; subst hq9
    refine qa_nx (pc' := 15) (st' := [_]) rfl rfl rfl rfl ?_
    refine qa_ireturn rfl rfl rfl (hQ _ _ ⟨by unfold fo_rng; (repeat (first | rw [if_pos (by omega)] | rw [if_neg (by omega)])); rfl, rfl, Nat.le_refl _⟩)
  · exact qa_Zout rfl (hQ _ _ ⟨by unfold fo_rng; (repeat (first | rw [if_pos (by omega)] | rw [if_neg (by omega)])); rfl, hh9, hn9⟩)
theorem c_C_rejectionReason {E : qa_V} {σ : qa_S} {c : Nat} {n : Nat → Int} (hc : σ.1 c = some (qa_CoF c n)) (hn : qa_in (n 1) ∧ qa_in (n 4)) : qa_T E qm_C_rejectionReason 4 24 [.ref c] σ (qa_q σ (qa_out [3] (if n 1 ≠ 0 then (0, n 1) else (1, 0)))) := by
  refine qa_enterQ (by decide) rfl qm_C_rejectionReason_ok rfl rfl (fun Q9 hQ => ?_)
  refine qa_aload_n (pc' := 1) ⟨rfl, rfl⟩ rfl ?_
  refine qa_callV rfl qf_C_requireRejection ql_1_347 (c_C_requireRejection (E := E) hc hn.1) hc rfl rfl rfl (qa_lt9 rfl) (qa_le9 rfl) (qa_le9 rfl) (qa_le9 rfl) (fun o9 τ9 hq9 => ?_)
  rcases hq9 with ⟨ok9, rfl, hq9⟩ | ⟨no9, rfl, hh9, hn9⟩
  · replace hq9 := hq9.symm; subst hq9
    refine qa_nx (pc' := 4) (st' := []) rfl rfl rfl rfl ?_
    refine qa_aload_n (pc' := 5) ⟨rfl, rfl⟩ rfl ?_
    refine qa_getf (pc' := 8) ⟨rfl, rfl⟩ qg_1_350 (by assumption) rfl ?_
    refine qa_ireturn rfl rfl rfl (hQ _ _ ⟨by rw [if_pos ok9]; rfl, rfl, Nat.le_refl _⟩)
  · exact qa_Zout rfl (hQ _ _ ⟨by rw [if_neg no9]; rfl, hh9, hn9⟩)
theorem c_C_rejectionDetail {E : qa_V} {σ : qa_S} {c : Nat} {n : Nat → Int} (hc : σ.1 c = some (qa_CoF c n)) (hn : qa_in (n 1) ∧ qa_in (n 4)) : qa_T E qm_C_rejectionDetail 4 24 [.ref c] σ (qa_q σ (qa_out [3] (if n 1 ≠ 0 then (0, n 2) else (1, 0)))) := by
  refine qa_enterQ (by decide) rfl qm_C_rejectionDetail_ok rfl rfl (fun Q9 hQ => ?_)
  refine qa_aload_n (pc' := 1) ⟨rfl, rfl⟩ rfl ?_
  refine qa_callV rfl qf_C_requireRejection ql_1_347 (c_C_requireRejection (E := E) hc hn.1) hc rfl rfl rfl (qa_lt9 rfl) (qa_le9 rfl) (qa_le9 rfl) (qa_le9 rfl) (fun o9 τ9 hq9 => ?_)
  rcases hq9 with ⟨ok9, rfl, hq9⟩ | ⟨no9, rfl, hh9, hn9⟩
  · replace hq9 := hq9.symm; subst hq9
    refine qa_nx (pc' := 4) (st' := []) rfl rfl rfl rfl ?_
    refine qa_aload_n (pc' := 5) ⟨rfl, rfl⟩ rfl ?_
    refine qa_getf (pc' := 8) ⟨rfl, rfl⟩ qg_1_353 (by assumption) rfl ?_
    refine qa_ireturn rfl rfl rfl (hQ _ _ ⟨by rw [if_pos ok9]; rfl, rfl, Nat.le_refl _⟩)
  · exact qa_Zout rfl (hQ _ _ ⟨by rw [if_neg no9]; rfl, hh9, hn9⟩)
theorem c_C_causeReason {E : qa_V} {σ : qa_S} {c : Nat} {n : Nat → Int} (hc : σ.1 c = some (qa_CoF c n)) (hn : qa_in (n 1) ∧ qa_in (n 4)) : qa_T E qm_C_causeReason 4 24 [.ref c] σ (qa_q σ (qa_out [3] (if n 1 = 9 then (0, n 3) else (1, 0)))) := by
  refine qa_enterQ (by decide) rfl qm_C_causeReason_ok rfl rfl (fun Q9 hQ => ?_)
  refine qa_aload_n (pc' := 1) ⟨rfl, rfl⟩ rfl ?_
  refine qa_getf (pc' := 4) ⟨rfl, rfl⟩ qg_1_350 (by assumption) rfl ?_
  refine qa_bipush (z := 9) (pc' := 6) ⟨rfl, rfl⟩ rfl ?_
  refine qa_icmp_eq (pc' := 9) (tgt := 20) ⟨rfl, rfl⟩ rfl (by omega) (by omega) (fun hc1 => ?_) (fun hc1 => ?_)
  · refine qa_aload_n (pc' := 21) ⟨rfl, rfl⟩ rfl ?_
    refine qa_getf (pc' := 24) ⟨rfl, rfl⟩ qg_1_358 (by assumption) rfl ?_
    refine qa_ireturn rfl rfl rfl (hQ _ _ ⟨by rw [if_pos hc1]; rfl, rfl, Nat.le_refl _⟩)
  · refine qa_throwN rfl rfl rfl rfl rfl rfl qtn_1_93_356_97 (qa_le9 rfl) (fun n9 hn9 => hQ _ _ ⟨by rw [if_neg hc1]; rfl, rfl, hn9⟩)
theorem c_C_syntaxErrorOffset {E : qa_V} {σ : qa_S} {c : Nat} {n : Nat → Int} (hc : σ.1 c = some (qa_CoF c n)) (hn : qa_in (n 1) ∧ qa_in (n 4)) : qa_T E qm_C_syntaxErrorOffset 4 24 [.ref c] σ (qa_q σ (qa_out [3] (fo_found (n 4)))) := by
  refine qa_enterQ (by decide) rfl qm_C_syntaxErrorOffset_ok rfl rfl (fun Q9 hQ => ?_)
  refine qa_aload_n (pc' := 1) ⟨rfl, rfl⟩ rfl ?_
  refine qa_getf (pc' := 4) ⟨rfl, rfl⟩ qg_1_47 (by assumption) rfl ?_
  refine qa_callS rfl qf_C_found rfl ql_1_115 (c_C_found (E := E) hn.2) rfl rfl (qa_lt9 rfl) (qa_le9 rfl) (qa_le9 rfl) (qa_le9 rfl) (fun o9 τ9 hq9 => ?_)
  rcases hq9 with ⟨ok9, rfl, hq9⟩ | ⟨no9, rfl, hh9, hn9⟩
  · replace hq9 := hq9.symm; subst hq9
    refine qa_nx (pc' := 7) (st' := [_]) rfl rfl rfl rfl ?_
    refine qa_ireturn rfl rfl rfl (hQ _ _ ⟨by unfold fo_found; (repeat (first | rw [if_pos (by omega)] | rw [if_neg (by omega)])); rfl, rfl, Nat.le_refl _⟩)
  · exact qa_Zout rfl (hQ _ _ ⟨by unfold fo_found; (repeat (first | rw [if_pos (by omega)] | rw [if_neg (by omega)])); rfl, hh9, hn9⟩)
