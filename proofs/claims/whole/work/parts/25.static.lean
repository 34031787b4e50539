/-- a call of an instance method of a class over the object's -/
theorem qa_callU {E : qa_V} {M M1 : qa_M} {Q : qa_O → qa_S → Prop} {kc ks pc : Nat} {L : qa_L} {st rest : List Value} {σ : qa_S} {n idx mc ms b ci : Nat} {as fs : List Value} {Q1 : qa_O → qa_S → Prop} {C : String} (hd : qa_cd M pc = some (.invokevirtual idx, 3)) (hF : qa_Fa M1 n) (hh0 : qa_hh M1 = []) (him : Cond.instanceMethod (qa_y M1) ∈ qa_tb) (hlk : Cond.methodLink (qa_R (qa_ow M)) idx ⟨C, (qa_y M1).name, (qa_y M1).desc⟩ ∈ qa_tb) (hsm : Cond.sameMethod C (qa_y M1).cls (qa_y M1).name (qa_y M1).desc ∈ qa_tb) (hsel : Cond.selects C ⟨C, (qa_y M1).name, (qa_y M1).desc⟩ (qa_y M1) ∈ qa_tb)
    (hT : qa_T E M1 mc ms (.ref b :: as) σ Q1) (hx : σ.1 b = some (.inl (ci, fs))) (hnm : (qa_cl[ci]?).map (fun r => r.1) = some C) (hn : as.length = n) (hst : st = as.reverse ++ .ref b :: rest) (hdep : qa_d M1 < qa_d M) (hsum : (rest.map fun v => v.category).sum ≤ 8) (h1 : mc ≤ kc) (h2 : ms ≤ ks)
    (k : ∀ o t, Q1 o t → qa_N E M Q (kc - mc) (ks - ms) pc L rest o t) : qa_W E M Q kc ks pc L st σ := by
  subst hst
  intro G p l e R s m args below meth c H locs cells slots ls ok C9 hR hS hL hc hs
  have hts := C9.2.2.2.2.2.2.2.2.2.2.2.2.2
  have hK := C9.2.2.2.2.2.2.2.2.2.2.2.2.1
  have hE := C9.2.2.2.2.2.2.2.2.2.2.2.1
  obtain ⟨f1, f2, f3, f4, f5⟩ := hF
  have hcw := qa_cw0 hh0
  have S : CallFix p m c (qa_by M) (qa_ml M) s args qa_tb (qa_R (qa_ow M)) := ⟨C9.1, C9.2.1, C9.2.2.1, C9.2.2.2.2.2.1, hts⟩
  refine qa_runW (vx_runU (C := C) (owner := (qa_y M1).cls) (x := ⟨C, (qa_y M1).name, (qa_y M1).desc⟩) S (hT G l C9.2.2.2.2.2.2.2.2.1) (va_cwU n hts (qa_goodC f1 (fun w hw => ?_)) (by rw [hcw]) rfl rfl rfl ⟨f3.1, f3.2, f4⟩ (qa_roomC C9 hdep f5)) (qa_preV hx hnm hR hS hE hK) rfl hn hL.1 rfl (lv_room hsum) (ok _ _ _ hd) ⟨by omega, by omega⟩) ok C9 hS hL hc hs h1 h2 k
  simp only [List.mem_cons, List.not_mem_nil, or_false] at hw
  rcases hw with rfl | rfl | rfl | rfl | rfl
  · exact hlk
  · exact hsm
  · exact hsel
  · exact him
  · exact f2
theorem qf_EN_ordinal : qa_Fa qm_EN_ordinal 0 := ⟨(qa_wj 3 18 (by decide +kernel) (by decide +kernel)), (qa_wj 1 14 (by decide +kernel) (by decide +kernel)), (by decide), (by decide +kernel), (by decide)⟩
theorem qu_im : Cond.instanceMethod (qa_y qm_EN_ordinal) ∈ qa_tb := (qa_wj 3 17 (by decide +kernel) (by decide +kernel))
theorem qu_sm : Cond.sameMethod "CutleryOrchestra$Action" (qa_y qm_EN_ordinal).cls (qa_y qm_EN_ordinal).name (qa_y qm_EN_ordinal).desc ∈ qa_tb := (qa_wj 3 14 (by decide +kernel) (by decide +kernel))
theorem qu_se : Cond.selects "CutleryOrchestra$Action" ⟨"CutleryOrchestra$Action", (qa_y qm_EN_ordinal).name, (qa_y qm_EN_ordinal).desc⟩ (qa_y qm_EN_ordinal) ∈ qa_tb := (qa_wj 3 16 (by decide +kernel) (by decide +kernel))
theorem qu_lk : Cond.methodLink (qa_R (qa_ow qm_S_perform)) 62 ⟨"CutleryOrchestra$Action", (qa_y qm_EN_ordinal).name, (qa_y qm_EN_ordinal).desc⟩ ∈ qa_tb := (qa_wj 3 13 (by decide +kernel) (by decide +kernel))
def qz_len (k : Nat) : Nat := match k with | 0 => 4 | 1 => 10 | 2 => 8 | 3 => 6 | 4 => 8 | 5 => 10 | 6 => 7 | 7 => 7 | 8 => 5 | 9 => 9 | 10 => 6 | _ => 0
def qz_f0 (j : Int) : Int := match j with | 0 => 112 | 1 => 97 | 2 => 114 | 3 => 116 | _ => 0
def qz_f1 (j : Int) : Int := match j with | 0 => 110 | 1 => 111 | 2 => 116 | 3 => 101 | 4 => 32 | 5 => 68 | 6 => 32 | 7 => 78 | 8 => 32 | 9 => 78 | _ => 0
def qz_f2 (j : Int) : Int := match j with | 0 => 114 | 1 => 101 | 2 => 115 | 3 => 116 | 4 => 32 | 5 => 68 | 6 => 32 | 7 => 78 | _ => 0
def qz_f3 (j : Int) : Int := match j with | 0 => 108 | 1 => 97 | 2 => 115 | 3 => 116 | 4 => 32 | 5 => 68 | _ => 0
def qz_f4 (j : Int) : Int := match j with | 0 => 109 | 1 => 111 | 2 => 118 | 3 => 101 | 4 => 32 | 5 => 68 | 6 => 32 | 7 => 83 | _ => 0
def qz_f5 (j : Int) : Int := match j with | 0 => 116 | 1 => 117 | 2 => 110 | 3 => 101 | 4 => 32 | 5 => 68 | 6 => 32 | 7 => 78 | 8 => 47 | 9 => 78 | _ => 0
def qz_f6 (j : Int) : Int := match j with | 0 => 99 | 1 => 117 | 2 => 101 | 3 => 32 | 4 => 68 | 5 => 62 | 6 => 68 | _ => 0
def qz_f7 (j : Int) : Int := match j with | 0 => 97 | 1 => 108 | 2 => 111 | 3 => 110 | 4 => 101 | 5 => 32 | 6 => 68 | _ => 0
def qz_f8 (j : Int) : Int := match j with | 0 => 98 | 1 => 97 | 2 => 114 | 3 => 32 | 4 => 78 | _ => 0
def qz_f9 (j : Int) : Int := match j with | 0 => 116 | 1 => 101 | 2 => 109 | 3 => 112 | 4 => 111 | 5 => 32 | 6 => 78 | 7 => 32 | 8 => 78 | _ => 0
def qz_f10 (j : Int) : Int := match j with | 0 => 112 | 1 => 108 | 2 => 97 | 3 => 121 | 4 => 32 | 5 => 78 | _ => 0
def qz_frm (k : Nat) : Int → Int := match k with | 0 => qz_f0 | 1 => qz_f1 | 2 => qz_f2 | 3 => qz_f3 | 4 => qz_f4 | 5 => qz_f5 | 6 => qz_f6 | 7 => qz_f7 | 8 => qz_f8 | 9 => qz_f9 | 10 => qz_f10 | _ => fun _ => 0
def qz_sj (k : Nat) : Nat := match k with | 0 => 1 | 1 => 3 | 2 => 4 | 3 => 5 | 4 => 6 | 5 => 7 | 6 => 8 | 7 => 9 | 8 => 10 | 9 => 11 | 10 => 12 | _ => 0
def qz_on (j : Int) : Int := 48 + j % 10
def qz_tn (j : Int) : Int := 48 + j / 10
/-- the constants of the run: Z 0 the switch's row, Z 1 the row of all actions, Z 2 and Z 3 the rows of digits, Z (10 + k) action k, Z (30 + k) its form, Z (50 + k) the form's bytes -/
def qa_St (E : qa_V) (Z : Nat → Nat) (h : qa_H) : Prop :=
  (∀ k, Z k < E.1) ∧ E.2 0 = .int (qa_i 1) ∧ E.2 2 = .ref (Z 0) ∧ E.2 15 = .ref (Z 1) ∧ E.2 13 = .ref (Z 2) ∧ E.2 14 = .ref (Z 3) ∧ (∀ k, k < 11 → E.2 (qz_sj k) = .ref (Z (10 + k))) ∧
  h (Z 0) = some (qa_ia 11 (fun j => j + 1)) ∧ h (Z 1) = some (qa_ra 7 11 (fun j => some (Z (10 + j.toNat)))) ∧ h (Z 2) = some (qa_ba 100 qz_on) ∧ h (Z 3) = some (qa_ba 100 qz_tn) ∧
  ∀ k, k < 11 → h (Z (10 + k)) = some (.inl (11, [.int (qa_i k), .ref (Z (30 + k))])) ∧ h (Z (30 + k)) = some (.inl (10, [.ref (Z (50 + k)), .int (qa_i 0)])) ∧ h (Z (50 + k)) = some (qa_ba (qz_len k) (qz_frm k))
theorem qa_St.to {E : qa_V} {Z : Nat → Nat} {h h' : qa_H} (H : qa_St E Z h) (hf : ∀ q, q < E.1 → h' q = h q) : qa_St E Z h' := by
  obtain ⟨z0, z1, z2, z3, z4, z5, z6, z7, z8, z9, za, zb⟩ := H
  exact ⟨z0, z1, z2, z3, z4, z5, z6, (hf _ (z0 _)).trans z7, (hf _ (z0 _)).trans z8, (hf _ (z0 _)).trans z9, (hf _ (z0 _)).trans za, fun k hk => ⟨(hf _ (z0 _)).trans (zb k hk).1, (hf _ (z0 _)).trans (zb k hk).2.1, (hf _ (z0 _)).trans (zb k hk).2.2⟩⟩
def so_do (m : Int → Int) (k : Nat) (x y z : Int) : sp_R := match k with
  | 0 => so_part m
  | 1 => so_pitch m x y z
  | 2 => so_note m x (-1) y
  | 3 => so_last m x
  | 4 => so_move m x y
  | 5 => so_tune m x y z
  | 6 => so_cue m x y
  | 7 => so_alone m x
  | 8 => so_bar m x
  | 9 => so_tempo m x y
  | _ => so_play m x
theorem c_EN_ordinal {E : qa_V} {σ : qa_S} {b : Nat} {z : Int} {f : Value} (hx : σ.1 b = some (.inl (11, [.int (qa_i z), f]))) : qa_T E qm_EN_ordinal 0 0 [.ref b] σ (fun o9 τ => o9 = .inl (some (.int (qa_i z))) ∧ τ = σ) := by
  refine qa_enterQ (by decide) rfl qm_EN_ordinal_ok rfl rfl (fun Q9 hQ => ?_)
  refine qa_aload_n (pc' := 1) ⟨rfl, rfl⟩ rfl ?_
  refine qa_getf (pc' := 4) ⟨rfl, rfl⟩ qg_21_7 (by assumption) rfl ?_
  refine qa_ireturn rfl rfl rfl (hQ _ _ ⟨rfl, rfl⟩)
theorem c_S_perform {E : qa_V} {σ : qa_S} {a k : Nat} {m : Int → Int} {rf B x y z : Int} {Z : Nat → Nat} (hZ : qa_St E Z σ.1) (hlo : E.1 ≤ a) (hS : sR_S σ.1 a m rf) (hk : sm_ok m B) (hB : B ≤ 1000000000) (k9 : k < 11) (hx : qa_in x) (hy : qa_in y) (hz : qa_in z) : qa_T E qm_S_perform 0 0 [.ref a, .ref (Z (10 + k)), .int (qa_i x), .int (qa_i y), .int (qa_i z)] σ (qa_Ch a σ rf (so_do m k x y z)) := by
  refine qa_enterQ (by decide) rfl qm_S_perform_ok rfl rfl (fun Q9 hQ => ?_)
  have hs := hS.1
  have z2 := hZ.2.2.1
  have z7 := hZ.2.2.2.2.2.2.2.1
  have zb := (hZ.2.2.2.2.2.2.2.2.2.2.2 k k9).1
  refine qa_gets (j := 2) (pc' := 3) ⟨rfl, rfl⟩ rfl qs_2_56 (by assumption) ?_
  refine qa_aload_n (pc' := 4) ⟨rfl, rfl⟩ rfl ?_
  refine qa_callU rfl qf_EN_ordinal rfl qu_im qu_lk qu_sm qu_se (c_EN_ordinal zb) zb rfl rfl rfl (qa_lt9 rfl) (qa_le9 rfl) (qa_le9 rfl) (qa_le9 rfl) (fun o9 τ9 hq9 => ?_)
  obtain ⟨rfl, hq9⟩ := hq9
  replace hq9 := hq9.symm; subst hq9
  refine qa_nx (pc' := 7) (st' := [_, _]) rfl rfl rfl rfl ?_
  refine qa_iaload (pc' := 8) ⟨rfl, rfl⟩ (by assumption) (by omega) ?_
  obtain rfl | rfl | rfl | rfl | rfl | rfl | rfl | rfl | rfl | rfl | rfl : k = 0 ∨ k = 1 ∨ k = 2 ∨ k = 3 ∨ k = 4 ∨ k = 5 ∨ k = 6 ∨ k = 7 ∨ k = 8 ∨ k = 9 ∨ k = 10 := by omega
  · refine qa_tabIn (off := 60) (tgt := 68) rfl (by omega) (by omega) (by omega) rfl rfl ?_
    refine qa_aload_n (pc' := 69) ⟨rfl, rfl⟩ rfl ?_
    refine qa_callV rfl qf_S_includePart ql_2_68 (c_S_includePart hlo hS hk) hs rfl rfl rfl (qa_lt9 rfl) (qa_le9 rfl) (qa_le9 rfl) (qa_le9 rfl) (fun o9 τ9 hq9 => ?_)
    obtain ⟨rfl, hq9⟩ := hq9
    refine qa_nx (pc' := 72) (st' := [_]) rfl rfl rfl rfl ?_
    refine qa_ireturn rfl rfl rfl (hQ _ _ ⟨rfl, hq9⟩)
  · refine qa_tabIn (off := 65) (tgt := 73) rfl (by omega) (by omega) (by omega) rfl rfl ?_
    refine qa_aload_n (pc' := 74) ⟨rfl, rfl⟩ rfl ?_
    refine qa_iload_n (pc' := 75) ⟨rfl, rfl⟩ rfl ?_
    refine qa_iload_n (pc' := 76) ⟨rfl, rfl⟩ rfl ?_
    refine qa_iload (pc' := 78) ⟨rfl, rfl⟩ rfl ?_
    refine qa_callV rfl qf_S_includePitch ql_2_71 (c_S_includePitch hlo hS hk hx hy hz) hs rfl rfl rfl (qa_lt9 rfl) (qa_le9 rfl) (qa_le9 rfl) (qa_le9 rfl) (fun o9 τ9 hq9 => ?_)
    obtain ⟨rfl, hq9⟩ := hq9
    refine qa_nx (pc' := 81) (st' := [_]) rfl rfl rfl rfl ?_
    refine qa_ireturn rfl rfl rfl (hQ _ _ ⟨rfl, hq9⟩)
  · refine qa_tabIn (off := 74) (tgt := 82) rfl (by omega) (by omega) (by omega) rfl rfl ?_
    refine qa_aload_n (pc' := 83) ⟨rfl, rfl⟩ rfl ?_
    refine qa_iload_n (pc' := 84) ⟨rfl, rfl⟩ rfl ?_
    refine qa_iconst (pc' := 85) ⟨rfl, rfl⟩ ?_
    refine qa_iload_n (pc' := 86) ⟨rfl, rfl⟩ rfl ?_
    refine qa_callV rfl qf_S_includeNote ql_2_75 (c_S_includeNote hlo hS hk hx (by omega) hy) hs rfl rfl rfl (qa_lt9 rfl) (qa_le9 rfl) (qa_le9 rfl) (qa_le9 rfl) (fun o9 τ9 hq9 => ?_)
    obtain ⟨rfl, hq9⟩ := hq9
    refine qa_nx (pc' := 89) (st' := [_]) rfl rfl rfl rfl ?_
    refine qa_ireturn rfl rfl rfl (hQ _ _ ⟨rfl, hq9⟩)
  · refine qa_tabIn (off := 82) (tgt := 90) rfl (by omega) (by omega) (by omega) rfl rfl ?_
    refine qa_aload_n (pc' := 91) ⟨rfl, rfl⟩ rfl ?_
    refine qa_iload_n (pc' := 92) ⟨rfl, rfl⟩ rfl ?_
    refine qa_callV rfl qf_S_dropNote ql_2_78 (c_S_dropNote hlo hS hk hx) hs rfl rfl rfl (qa_lt9 rfl) (qa_le9 rfl) (qa_le9 rfl) (qa_le9 rfl) (fun o9 τ9 hq9 => ?_)
    obtain ⟨rfl, hq9⟩ := hq9
    refine qa_nx (pc' := 95) (st' := [_]) rfl rfl rfl rfl ?_
    refine qa_ireturn rfl rfl rfl (hQ _ _ ⟨rfl, hq9⟩)
  · refine qa_tabIn (off := 88) (tgt := 96) rfl (by omega) (by omega) (by omega) rfl rfl ?_
    refine qa_aload_n (pc' := 97) ⟨rfl, rfl⟩ rfl ?_
    refine qa_iload_n (pc' := 98) ⟨rfl, rfl⟩ rfl ?_
    refine qa_iload_n (pc' := 99) ⟨rfl, rfl⟩ rfl ?_
    refine qa_callV rfl qf_S_shift ql_2_82 (c_S_shift hlo hS hk hx hy) hs rfl rfl rfl (qa_lt9 rfl) (qa_le9 rfl) (qa_le9 rfl) (qa_le9 rfl) (fun o9 τ9 hq9 => ?_)
    obtain ⟨rfl, hq9⟩ := hq9
    refine qa_nx (pc' := 102) (st' := [_]) rfl rfl rfl rfl ?_
    refine qa_ireturn rfl rfl rfl (hQ _ _ ⟨rfl, hq9⟩)
  · refine qa_tabIn (off := 95) (tgt := 103) rfl (by omega) (by omega) (by omega) rfl rfl ?_
    refine qa_aload_n (pc' := 104) ⟨rfl, rfl⟩ rfl ?_
    refine qa_iload_n (pc' := 105) ⟨rfl, rfl⟩ rfl ?_
    refine qa_iload_n (pc' := 106) ⟨rfl, rfl⟩ rfl ?_
    refine qa_iload (pc' := 108) ⟨rfl, rfl⟩ rfl ?_
    refine qa_callV rfl qf_S_tune ql_2_86 (c_S_tune hlo hS hk hx hy hz) hs rfl rfl rfl (qa_lt9 rfl) (qa_le9 rfl) (qa_le9 rfl) (qa_le9 rfl) (fun o9 τ9 hq9 => ?_)
    obtain ⟨rfl, hq9⟩ := hq9
    refine qa_nx (pc' := 111) (st' := [_]) rfl rfl rfl rfl ?_
    refine qa_ireturn rfl rfl rfl (hQ _ _ ⟨rfl, hq9⟩)
  · refine qa_tabIn (off := 104) (tgt := 112) rfl (by omega) (by omega) (by omega) rfl rfl ?_
    refine qa_aload_n (pc' := 113) ⟨rfl, rfl⟩ rfl ?_
    refine qa_iload_n (pc' := 114) ⟨rfl, rfl⟩ rfl ?_
    refine qa_iload_n (pc' := 115) ⟨rfl, rfl⟩ rfl ?_
    refine qa_callV rfl qf_S_takeCue ql_2_89 (c_S_takeCue hlo hS hk hx hy) hs rfl rfl rfl (qa_lt9 rfl) (qa_le9 rfl) (qa_le9 rfl) (qa_le9 rfl) (fun o9 τ9 hq9 => ?_)
    obtain ⟨rfl, hq9⟩ := hq9
    refine qa_nx (pc' := 118) (st' := [_]) rfl rfl rfl rfl ?_
    refine qa_ireturn rfl rfl rfl (hQ _ _ ⟨rfl, hq9⟩)
  · refine qa_tabIn (off := 111) (tgt := 119) rfl (by omega) (by omega) (by omega) rfl rfl ?_
    refine qa_aload_n (pc' := 120) ⟨rfl, rfl⟩ rfl ?_
    refine qa_iload_n (pc' := 121) ⟨rfl, rfl⟩ rfl ?_
    refine qa_callV rfl qf_S_dropCue ql_2_92 (c_S_dropCue hlo hS hk hx) hs rfl rfl rfl (qa_lt9 rfl) (qa_le9 rfl) (qa_le9 rfl) (qa_le9 rfl) (fun o9 τ9 hq9 => ?_)
    obtain ⟨rfl, hq9⟩ := hq9
    refine qa_nx (pc' := 124) (st' := [_]) rfl rfl rfl rfl ?_
    refine qa_ireturn rfl rfl rfl (hQ _ _ ⟨rfl, hq9⟩)
  · refine qa_tabIn (off := 117) (tgt := 125) rfl (by omega) (by omega) (by omega) rfl rfl ?_
    refine qa_aload_n (pc' := 126) ⟨rfl, rfl⟩ rfl ?_
    refine qa_iload_n (pc' := 127) ⟨rfl, rfl⟩ rfl ?_
    refine qa_callV rfl qf_S_changeBar ql_2_95 (c_S_changeBar hlo hS hk hx) hs rfl rfl rfl (qa_lt9 rfl) (qa_le9 rfl) (qa_le9 rfl) (qa_le9 rfl) (fun o9 τ9 hq9 => ?_)
    obtain ⟨rfl, hq9⟩ := hq9
    refine qa_nx (pc' := 130) (st' := [_]) rfl rfl rfl rfl ?_
    refine qa_ireturn rfl rfl rfl (hQ _ _ ⟨rfl, hq9⟩)
  · refine qa_tabIn (off := 123) (tgt := 131) rfl (by omega) (by omega) (by omega) rfl rfl ?_
    refine qa_aload_n (pc' := 132) ⟨rfl, rfl⟩ rfl ?_
    refine qa_iload_n (pc' := 133) ⟨rfl, rfl⟩ rfl ?_
    refine qa_iload_n (pc' := 134) ⟨rfl, rfl⟩ rfl ?_
    refine qa_callV rfl qf_S_changeTempo ql_2_98 (c_S_changeTempo hlo hS hk hx hy) hs rfl rfl rfl (qa_lt9 rfl) (qa_le9 rfl) (qa_le9 rfl) (qa_le9 rfl) (fun o9 τ9 hq9 => ?_)
    obtain ⟨rfl, hq9⟩ := hq9
    refine qa_nx (pc' := 137) (st' := [_]) rfl rfl rfl rfl ?_
    refine qa_ireturn rfl rfl rfl (hQ _ _ ⟨rfl, hq9⟩)
  · refine qa_tabIn (off := 130) (tgt := 138) rfl (by omega) (by omega) (by omega) rfl rfl ?_
    refine qa_aload_n (pc' := 139) ⟨rfl, rfl⟩ rfl ?_
    refine qa_iload_n (pc' := 140) ⟨rfl, rfl⟩ rfl ?_
    refine qa_callV rfl qf_S_playNext ql_2_101 (c_S_playNext hlo hS hk hB hx) hs rfl rfl rfl (qa_lt9 rfl) (qa_le9 rfl) (qa_le9 rfl) (qa_le9 rfl) (fun o9 τ9 hq9 => ?_)
    obtain ⟨rfl, hq9⟩ := hq9
    refine qa_nx (pc' := 143) (st' := [_]) rfl rfl rfl rfl ?_
    refine qa_ireturn rfl rfl rfl (hQ _ _ ⟨rfl, hq9⟩)
