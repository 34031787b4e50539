/-- the class's object at c: its data, its snapshot, its history, the texts, the latest rejection -/
def sR_C (h : qa_H) (c vi vo : Nat) (Z : Nat → Nat) (B : Int) (m msn : Int → Int) (mh : Int → Int → Int) (sp ct : Int) (t u : List Int) (cs : sc_C) (n : Nat → Int) : Prop :=
  (h c = some (qa_CoF c n) ∧ (0 ≤ n 0 ∧ n 0 ≤ 1) ∧ (0 ≤ n 1 ∧ n 1 ≤ 9) ∧ (-1 ≤ n 4 ∧ n 4 ≤ 60)) ∧ ((∃ rf, sR_S h (c + 1) m rf) ∧ sm_ok m B) ∧ ((∃ rf, sR_S h (c + 24) msn rf) ∧ sm_ok msn B) ∧ sR_H h (c + 47) mh B sp ct ∧ sR_X h (c + 256) ∧
  sR_R h (c + 270) vi t cs Z ∧ sR_B h (c + 275) vo u ∧ (vi = c + 272 ∨ c + 277 ≤ vi) ∧ (vo = c + 276 ∨ c + 277 ≤ vo) ∧ vi ≠ vo
section SRC
variable {h h' : qa_H} {c vi vo : Nat} {Z : Nat → Nat} {B : Int} {m msn : Int → Int} {mh : Int → Int → Int} {sp ct : Int} {t u : List Int} {cs : sc_C} {n : Nat → Int}
theorem sR_C.fr (H : sR_C h c vi vo Z B m msn mh sp ct t u cs n) (hf : ∀ q, (c ≤ q ∧ q < c + 277) ∨ q = vi ∨ q = vo → h' q = h q) : sR_C h' c vi vo Z B m msn mh sp ct t u cs n := by
  obtain ⟨⟨a1, a2⟩, ⟨⟨r1, b1⟩, b2⟩, ⟨⟨r2, c1⟩, c2⟩, d, e, f, g, w⟩ := H
  exact ⟨⟨(hf _ (by omega)).trans a1, a2⟩, ⟨⟨r1, b1.fr (fun q q0 q1 => hf q (by omega))⟩, b2⟩, ⟨⟨r2, c1.fr (fun q q0 q1 => hf q (by omega))⟩, c2⟩, d.fr (fun q q0 q1 => hf q (by omega)), e.fr (fun q q0 q1 => hf q (by omega)), f.fr (fun q hq => hf q (by omega)), g.fr (hf _ (by omega)) (hf _ (by omega)), w⟩
theorem sR_C.up {B' : Int} (H : sR_C h c vi vo Z B m msn mh sp ct t u cs n) (hB : B ≤ B') : sR_C h c vi vo Z B' m msn mh sp ct t u cs n := by
  obtain ⟨a, ⟨b1, b2⟩, ⟨c1, c2⟩, d, w⟩ := H
  exact ⟨a, ⟨b1, b2.up hB⟩, ⟨c1, c2.up hB⟩, d.up hB, w⟩
theorem sR_C.setN {n' : Nat → Int} (H : sR_C h c vi vo Z B m msn mh sp ct t u cs n) (hv : vi ≠ c ∧ vo ≠ c) (hf : ∀ q, q ≠ c → h' q = h q) (hA : h' c = some (qa_CoF c n')) (hn : (0 ≤ n' 0 ∧ n' 0 ≤ 1) ∧ (0 ≤ n' 1 ∧ n' 1 ≤ 9) ∧ (-1 ≤ n' 4 ∧ n' 4 ≤ 60)) : sR_C h' c vi vo Z B m msn mh sp ct t u cs n' := by
  obtain ⟨⟨a1, a2⟩, ⟨⟨r1, b1⟩, b2⟩, ⟨⟨r2, c1⟩, c2⟩, d, e, f, g, w⟩ := H
  exact ⟨⟨hA, hn⟩, ⟨⟨r1, b1.fr (fun q q0 q1 => hf q (by omega))⟩, b2⟩, ⟨⟨r2, c1.fr (fun q q0 q1 => hf q (by omega))⟩, c2⟩, d.fr (fun q q0 q1 => hf q (by omega)), e.fr (fun q q0 q1 => hf q (by omega)), f.fr (fun q hq => hf q (by omega)), g.fr (hf _ (by omega)) (hf _ (by omega)), w⟩
theorem sR_C.setM {m' : Int → Int} (H : sR_C h c vi vo Z B m msn mh sp ct t u cs n) (hf : ∀ q, (q < c + 1 ∨ c + 24 ≤ q) → h' q = h q) (hS : ∃ rf, sR_S h' (c + 1) m' rf) (hk : sm_ok m' B) : sR_C h' c vi vo Z B m' msn mh sp ct t u cs n := by
  obtain ⟨⟨a1, a2⟩, -, ⟨⟨r2, c1⟩, c2⟩, d, e, f, g, w⟩ := H
  exact ⟨⟨(hf _ (by omega)).trans a1, a2⟩, ⟨hS, hk⟩, ⟨⟨r2, c1.fr (fun q q0 q1 => hf q (by omega))⟩, c2⟩, d.fr (fun q q0 q1 => hf q (by omega)), e.fr (fun q q0 q1 => hf q (by omega)), f.fr (fun q hq => hf q (by omega)), g.fr (hf _ (by omega)) (hf _ (by omega)), w⟩
theorem sR_C.setSn {m' : Int → Int} (H : sR_C h c vi vo Z B m msn mh sp ct t u cs n) (hf : ∀ q, (q < c + 24 ∨ c + 47 ≤ q) → h' q = h q) (hS : ∃ rf, sR_S h' (c + 24) m' rf) (hk : sm_ok m' B) : sR_C h' c vi vo Z B m m' mh sp ct t u cs n := by
  obtain ⟨⟨a1, a2⟩, ⟨⟨r1, b1⟩, b2⟩, -, d, e, f, g, w⟩ := H
  exact ⟨⟨(hf _ (by omega)).trans a1, a2⟩, ⟨⟨r1, b1.fr (fun q q0 q1 => hf q (by omega))⟩, b2⟩, ⟨hS, hk⟩, d.fr (fun q q0 q1 => hf q (by omega)), e.fr (fun q q0 q1 => hf q (by omega)), f.fr (fun q hq => hf q (by omega)), g.fr (hf _ (by omega)) (hf _ (by omega)), w⟩
theorem sR_C.setH {mh' : Int → Int → Int} {sp' ct' : Int} (H : sR_C h c vi vo Z B m msn mh sp ct t u cs n) (hf : ∀ q, (q < c + 47 ∨ c + 256 ≤ q) → h' q = h q) (hH : sR_H h' (c + 47) mh' B sp' ct') : sR_C h' c vi vo Z B m msn mh' sp' ct' t u cs n := by
  obtain ⟨⟨a1, a2⟩, ⟨⟨r1, b1⟩, b2⟩, ⟨⟨r2, c1⟩, c2⟩, -, e, f, g, w⟩ := H
  exact ⟨⟨(hf _ (by omega)).trans a1, a2⟩, ⟨⟨r1, b1.fr (fun q q0 q1 => hf q (by omega))⟩, b2⟩, ⟨⟨r2, c1.fr (fun q q0 q1 => hf q (by omega))⟩, c2⟩, hH, e.fr (fun q q0 q1 => hf q (by omega)), f.fr (fun q hq => hf q (by omega)), g.fr (hf _ (by omega)) (hf _ (by omega)), w⟩
theorem sR_C.setX (H : sR_C h c vi vo Z B m msn mh sp ct t u cs n) (hf : ∀ q, (q < c + 256 ∨ c + 270 ≤ q) → h' q = h q) (hX : sR_X h' (c + 256)) : sR_C h' c vi vo Z B m msn mh sp ct t u cs n := by
  obtain ⟨⟨a1, a2⟩, ⟨⟨r1, b1⟩, b2⟩, ⟨⟨r2, c1⟩, c2⟩, d, -, f, g, w⟩ := H
  exact ⟨⟨(hf _ (by omega)).trans a1, a2⟩, ⟨⟨r1, b1.fr (fun q q0 q1 => hf q (by omega))⟩, b2⟩, ⟨⟨r2, c1.fr (fun q q0 q1 => hf q (by omega))⟩, c2⟩, d.fr (fun q q0 q1 => hf q (by omega)), hX, f.fr (fun q hq => hf q (by omega)), g.fr (hf _ (by omega)) (hf _ (by omega)), w⟩
theorem sR_C.setR {vi' : Nat} {t' : List Int} {cs' : sc_C} (H : sR_C h c vi vo Z B m msn mh sp ct t u cs n) (hf : ∀ q, (c ≤ q ∧ q < c + 270) ∨ q = c + 275 ∨ q = vo → h' q = h q) (hR : sR_R h' (c + 270) vi' t' cs' Z) (hv : (vi' = c + 272 ∨ c + 277 ≤ vi') ∧ vi' ≠ vo) : sR_C h' c vi' vo Z B m msn mh sp ct t' u cs' n := by
  obtain ⟨⟨a1, a2⟩, ⟨⟨r1, b1⟩, b2⟩, ⟨⟨r2, c1⟩, c2⟩, d, e, -, g, w1, w2, w3⟩ := H
  exact ⟨⟨(hf _ (by omega)).trans a1, a2⟩, ⟨⟨r1, b1.fr (fun q q0 q1 => hf q (by omega))⟩, b2⟩, ⟨⟨r2, c1.fr (fun q q0 q1 => hf q (by omega))⟩, c2⟩, d.fr (fun q q0 q1 => hf q (by omega)), e.fr (fun q q0 q1 => hf q (by omega)), hR, g.fr (hf _ (by omega)) (hf _ (by omega)), hv.1, w2, hv.2⟩
theorem sR_C.setB {vo' : Nat} {u' : List Int} (H : sR_C h c vi vo Z B m msn mh sp ct t u cs n) (hf : ∀ q, (c ≤ q ∧ q < c + 275) ∨ q = vi → h' q = h q) (hB : sR_B h' (c + 275) vo' u') (hv : (vo' = c + 276 ∨ c + 277 ≤ vo') ∧ vi ≠ vo') : sR_C h' c vi vo' Z B m msn mh sp ct t u' cs n := by
  obtain ⟨⟨a1, a2⟩, ⟨⟨r1, b1⟩, b2⟩, ⟨⟨r2, c1⟩, c2⟩, d, e, f, -, w1, w2, w3⟩ := H
  exact ⟨⟨(hf _ (by omega)).trans a1, a2⟩, ⟨⟨r1, b1.fr (fun q q0 q1 => hf q (by omega))⟩, b2⟩, ⟨⟨r2, c1.fr (fun q q0 q1 => hf q (by omega))⟩, c2⟩, d.fr (fun q q0 q1 => hf q (by omega)), e.fr (fun q q0 q1 => hf q (by omega)), f.fr (fun q hq => hf q (by omega)), hB, w1, hv.1, hv.2⟩
end SRC
/-- what a call of the object at c leaves alone -/
def sC_F (σ τ : qa_S) (c vi vo : Nat) : Prop := σ.2 ≤ τ.2 ∧ ∀ q, (q < c ∨ c + 277 ≤ q) → q ≠ vi → q ≠ vo → q < σ.2 → τ.1 q = σ.1 q
theorem sC_F.rf {σ τ : qa_S} {c vi vo : Nat} (h : τ.1 = σ.1) (hn : σ.2 ≤ τ.2) : sC_F σ τ c vi vo := ⟨hn, fun q _ _ _ _ => congrFun h q⟩
def sN_rej (n : Nat → Int) (a d : Int) : Nat → Int := fun k => if k = 1 then a else if k = 2 then d else n k
def sN_put (n : Nat → Int) (j : Nat) (v : Int) : Nat → Int := fun k => if k = j then v else n k
def ch_o (r : sp_R) : qa_O := if r.1 = -10 then .inr 0 else if r.1 = -11 then .inr 1 else if r.1 < 0 then .inr 2 else .inl (some (.int (qa_i r.1)))
theorem c_C_change {E : qa_V} {σ : qa_S} {c vi vo : Nat} {Z : Nat → Nat} {B : Int} {m msn : Int → Int} {mh : Int → Int → Int} {sp ct : Int} {t u : List Int} {cs : sc_C} {n : Nat → Int} {k : Nat} {x y z : Int} (hZ : qa_St E Z σ.1) (hz : qa_Sb E) (hlo : E.1 ≤ c) (hC : sR_C σ.1 c vi vo Z B m msn mh sp ct t u cs n) (hsz : c + 277 ≤ σ.2 ∧ vi < σ.2 ∧ vo < σ.2) (hB9 : B ≤ 900000000) (k9 : k < 11) (hx : qa_in x) (hy : qa_in y) (hz9 : qa_in z) : qa_T E qm_C_change 1 6 [.ref c, .ref (Z (10 + k)), .int (qa_i x), .int (qa_i y), .int (qa_i z)] σ (fun o9 τ => o9 = ch_o (so_do m k x y z) ∧ sC_F σ τ c vi vo ∧ sR_C τ.1 c vi vo Z (B + 13000) (so_do m k x y z).2.2 msn (sH_up mh sp m) (if (so_do m k x y z).1 < 0 then sp else (sp + 1) % 9) (if (so_do m k x y z).1 < 0 then ct else if ct < 8 then ct + 1 else 8) t u cs (if (so_do m k x y z).1 < 0 ∧ -9 ≤ (so_do m k x y z).1 then sN_rej n (-(so_do m k x y z).1) (so_do m k x y z).2.1 else n)) := by
  refine qa_enterQ (by decide) rfl qm_C_change_ok rfl rfl (fun Q9 hQ => ?_)
  have hC9 := hC
  obtain ⟨⟨hc, hn0, hn1, hn4⟩, ⟨⟨rf, hS⟩, hk⟩, ⟨⟨rf2, hSn⟩, hkn⟩, hH, hX, hR, hBb, hv1, hv2, hv3⟩ := hC
  have hH1 := hH.1
  have hs := hS.1
  have hrk := so_do_ok (x := x) (y := y) (z := z) hk k9
  refine qa_aload_n (pc' := 1) ⟨rfl, rfl⟩ rfl ?_
  refine qa_getf (pc' := 4) ⟨rfl, rfl⟩ qg_1_22 (by assumption) rfl ?_
  refine qa_aload_n (pc' := 5) ⟨rfl, rfl⟩ rfl ?_
  refine qa_getf (pc' := 8) ⟨rfl, rfl⟩ qg_1_10 (by assumption) rfl ?_
  refine qa_callV rfl qf_H_prepare ql_1_326 (c_H_prepare (E := E) (by omega) hH (by omega) (by omega) hS hk) hH1 rfl rfl rfl (qa_lt9 rfl) (qa_le9 rfl) (qa_le9 rfl) (qa_le9 rfl) (fun o9 τ9 hq9 => ?_)
  obtain ⟨rfl, e1, f1, w1⟩ := hq9
  refine qa_nx (pc' := 11) (st' := []) rfl rfl rfl rfl ?_
  have hc1 := (f1 c (by omega)).trans hc
  have hS1 := hS.fr (fun q q0 q1 => f1 q (by omega))
  have hs1 := hS1.1
  have hZ1 := hZ.to (fun q hq => f1 q (by omega))
  have hCa := hC9.setH (fun q hq => f1 q (by omega)) w1
  refine qa_aload_n (pc' := 12) ⟨rfl, rfl⟩ rfl ?_
  refine qa_getf (pc' := 15) ⟨rfl, rfl⟩ qg_1_10 (by assumption) rfl ?_
  refine qa_aload_n (pc' := 16) ⟨rfl, rfl⟩ rfl ?_
  refine qa_iload_n (pc' := 17) ⟨rfl, rfl⟩ rfl ?_
  refine qa_iload_n (pc' := 18) ⟨rfl, rfl⟩ rfl ?_
  refine qa_iload (pc' := 20) ⟨rfl, rfl⟩ rfl ?_
  refine qa_callV rfl qf_S_perform ql_1_381 (c_S_perform (E := E) (k := k) hZ1 (by omega) hS1 hk (by omega) k9 hx hy hz9) hs1 rfl rfl rfl (qa_lt9 rfl) (qa_le9 rfl) (qa_le9 rfl) (qa_le9 rfl) (fun o9 τ9 hq9 => ?_)
  obtain ⟨rfl, e2, f2, rf3, w2, w2d⟩ := hq9
  refine qa_nx (pc' := 23) (st' := [_]) rfl rfl rfl rfl ?_
  have hc2 := (f2 c (by omega)).trans hc1
  have hCb := (hCa.up (B' := B + 960) (by omega)).setM (fun q hq => f2 q (by omega)) ⟨rf3, w2⟩ hrk.1
  obtain ⟨-, hr1, hr2⟩ := hrk
  generalize so_do m k x y z = r at *
  have hF2 : ∀ q, (q < c ∨ c + 277 ≤ q) → q ≠ vi → q ≠ vo → q < σ.2 → τ9.1 q = σ.1 q := fun q q0 _ _ _ => (f2 q (by omega)).trans (f1 q (by omega))
  refine qa_istore (L' := [(0, _), (1, _), (2, _), (3, _), (4, _), (5, _)]) (pc' := 25) ⟨rfl, rfl⟩ rfl rfl ?_
  refine qa_iload (pc' := 27) ⟨rfl, rfl⟩ rfl ?_
  refine qa_bipush (z := (-10)) (pc' := 29) ⟨rfl, rfl⟩ rfl ?_
  refine qa_icmp_ne (pc' := 32) (tgt := 43) ⟨rfl, rfl⟩ rfl (by omega) (by omega) (fun hc3 => ?_) (fun hc3 => ?_)
  · refine qa_iload (pc' := 45) ⟨rfl, rfl⟩ rfl ?_
    refine qa_bipush (z := (-11)) (pc' := 47) ⟨rfl, rfl⟩ rfl ?_
    refine qa_icmp_ne (pc' := 50) (tgt := 61) ⟨rfl, rfl⟩ rfl (by omega) (by omega) (fun hc4 => ?_) (fun hc4 => ?_)
    · refine qa_iload (pc' := 63) ⟨rfl, rfl⟩ rfl ?_
      refine qa_if_ge (pc' := 66) (tgt := 95) ⟨rfl, rfl⟩ rfl (by omega) (fun hc5 => ?_) (fun hc5 => ?_)
      · have hH2 := hCb.2.2.2.1
        have hH21 := hH2.1
        refine qa_aload_n (pc' := 96) ⟨rfl, rfl⟩ rfl ?_
        refine qa_getf (pc' := 99) ⟨rfl, rfl⟩ qg_1_22 (by assumption) rfl ?_
        refine qa_callV rfl qf_H_commit ql_1_344 (c_H_commit (E := E) (by omega) hH2) hH21 rfl rfl rfl (qa_lt9 rfl) (qa_le9 rfl) (qa_le9 rfl) (qa_le9 rfl) (fun o9 τ9 hq9 => ?_)
        obtain ⟨rfl, e3, f3, w3⟩ := hq9
        refine qa_nx (pc' := 102) (st' := []) rfl rfl rfl rfl ?_
        have hCc := (hCb.setH (fun q hq => f3 q (by omega)) w3).up (B' := B + 13000) (by omega)
        refine qa_iload (pc' := 104) ⟨rfl, rfl⟩ rfl ?_
        rw [if_neg (show ¬ r.1 < 0 by omega), if_neg (show ¬ r.1 < 0 by omega), if_neg (show ¬ (r.1 < 0 ∧ -9 ≤ r.1) by omega)] at hQ
        refine qa_ireturn rfl rfl rfl (hQ _ _ ⟨by unfold ch_o; rw [if_neg (by omega), if_neg (by omega), if_neg (by omega)], ⟨by omega, fun q q0 q1 q2 q3 => (f3 q (by omega)).trans (hF2 q q0 q1 q2 q3)⟩, hCc⟩)
      · have hs2 := w2.1
        have hd := w2d (by omega) (by omega)
        have e0 : τ9.2 = τ9.2 := rfl
        refine qa_aload_n (pc' := 67) ⟨rfl, rfl⟩ rfl ?_
        refine qa_iload (pc' := 69) ⟨rfl, rfl⟩ rfl ?_
        refine qa_ineg (z := -r.1) (pc' := 70) ⟨rfl, rfl⟩ rfl ?_
        refine qa_putf (fs' := [_, _, _, _, _, _, _, _, _, _, _]) (pc' := 73) ⟨rfl, rfl⟩ qg_1_350 qw_0 (by assumption) (by omega) rfl (fun r hr => by cases hr; exact ⟨rfl, Or.inl rfl⟩) rfl rfl ?_
        refine qa_gz (fun τ51 e51 w51 f51 => ?_)
        replace hs2 := (f51 _ (by omega)).trans hs2
        replace e0 := e51.trans e0
        refine qa_aload_n (pc' := 74) ⟨rfl, rfl⟩ rfl ?_
        refine qa_aload_n (pc' := 75) ⟨rfl, rfl⟩ rfl ?_
        refine qa_getf (pc' := 78) ⟨rfl, rfl⟩ qg_1_10 (by assumption) rfl ?_
        refine qa_getf (pc' := 81) ⟨rfl, rfl⟩ qg_1_388 (by assumption) rfl ?_
        refine qa_putf (fs' := [_, _, _, _, _, _, _, _, _, _, _]) (pc' := 84) ⟨rfl, rfl⟩ qg_1_353 qw_0 (by assumption) (by omega) rfl (fun r hr => by cases hr; exact ⟨rfl, Or.inl rfl⟩) rfl rfl ?_
        refine qa_gz (fun τ52 e52 w52 f52 => ?_)
        replace hs2 := (f52 _ (by omega)).trans hs2
        replace e0 := e52.trans e0
        rw [if_pos (by omega), if_pos (by omega), if_pos (by omega)] at hQ
        subst hd
        refine qa_throwW rfl rfl rfl rfl rfl rfl qt_1_391_393_395 (qa_le9 rfl) (fun n9 hn9 => hQ _ _ ⟨by unfold ch_o; rw [if_neg (by omega), if_neg (by omega), if_pos (by omega)], ⟨by show σ.2 ≤ n9; omega, fun q q0 q1 q2 q3 => (f52 q (by omega)).trans ((f51 q (by omega)).trans (hF2 q q0 q1 q2 q3))⟩, ((hCb.setN (n' := sN_rej n (-r.1) r.2.1) (by omega) (fun q hq => (f52 q hq).trans (f51 q hq)) w52 ⟨hn0, (by show 0 ≤ -r.1 ∧ -r.1 ≤ 9; omega), hn4⟩).up (by omega))⟩)
    · have hlt : r.1 < 0 := by omega
      rw [if_pos hlt, if_pos hlt, if_neg (by omega)] at hQ
      refine qa_throwW rfl rfl rfl rfl rfl rfl qt_1_321_386_325 (qa_le9 rfl) (fun n9 hn9 => hQ _ _ ⟨by unfold ch_o; rw [if_neg (by omega), if_pos (by omega)], ⟨by show σ.2 ≤ n9; omega, hF2⟩, hCb.up (by omega)⟩)
  · have hlt : r.1 < 0 := by omega
    rw [if_pos hlt, if_pos hlt, if_neg (by omega)] at hQ
    refine qa_throwW rfl rfl rfl rfl rfl rfl qt_1_294_384_298 (qa_le9 rfl) (fun n9 hn9 => hQ _ _ ⟨by unfold ch_o; rw [if_pos (by omega)], ⟨by show σ.2 ≤ n9; omega, hF2⟩, hCb.up (by omega)⟩)
theorem c_C_addPart {E : qa_V} {σ : qa_S} {c vi vo : Nat} {Z : Nat → Nat} {B : Int} {m msn : Int → Int} {mh : Int → Int → Int} {sp ct : Int} {t u : List Int} {cs : sc_C} {n : Nat → Int} {p x y : Int} (hZ : qa_St E Z σ.1) (hz : qa_Sb E) (hlo : E.1 ≤ c) (hC : sR_C σ.1 c vi vo Z B m msn mh sp ct t u cs n) (hsz : c + 277 ≤ σ.2 ∧ vi < σ.2 ∧ vo < σ.2) (hB9 : B ≤ 900000000) (hp : qa_in p) (hx : qa_in x) (hy : qa_in y) : qa_T E qm_C_addPart 1 6 [.ref c] σ (fun o9 τ => o9 = ch_o (so_do m 0 0 0 0) ∧ sC_F σ τ c vi vo ∧ sR_C τ.1 c vi vo Z (B + 13000) (so_do m 0 0 0 0).2.2 msn (sH_up mh sp m) (if (so_do m 0 0 0 0).1 < 0 then sp else (sp + 1) % 9) (if (so_do m 0 0 0 0).1 < 0 then ct else if ct < 8 then ct + 1 else 8) t u cs (if (so_do m 0 0 0 0).1 < 0 ∧ -9 ≤ (so_do m 0 0 0 0).1 then sN_rej n (-(so_do m 0 0 0 0).1) (so_do m 0 0 0 0).2.1 else n)) := by
  refine qa_enterQ (by decide) rfl qm_C_addPart_ok rfl rfl (fun Q9 hQ => ?_)
  have hc := hC.1.1
  have hzz := hZ.2.2.2.2.2.2.1 0 (by decide)
  refine qa_aload_n (pc' := 1) ⟨rfl, rfl⟩ rfl ?_
  refine qa_gets (j := 1) (pc' := 4) ⟨rfl, rfl⟩ rfl qs_1_51 (show E.2 1 = .ref (Z (10 + 0)) from hzz) ?_
  refine qa_iconst (pc' := 5) ⟨rfl, rfl⟩ ?_
  refine qa_iconst (pc' := 6) ⟨rfl, rfl⟩ ?_
  refine qa_iconst (pc' := 7) ⟨rfl, rfl⟩ ?_
  refine qa_callV rfl qf_C_change ql_1_57 (c_C_change (E := E) (k := 0) (x := 0) (y := 0) (z := 0) hZ hz hlo hC hsz hB9 (by decide) (by omega) (by omega) (by omega)) hc rfl rfl rfl (qa_lt9 rfl) (qa_le9 rfl) (qa_le9 rfl) (qa_le9 rfl) (fun o9 τ9 hq9 => ?_)
  obtain ⟨ho9, hq9⟩ := hq9
  have hch : (∃ k9 : Nat, ch_o (so_do m 0 0 0 0) = .inr k9) ∨ ∃ v : Int, ch_o (so_do m 0 0 0 0) = .inl (some (.int (qa_i v))) := by unfold ch_o; repeat (first | exact Or.inl ⟨_, rfl⟩ | exact Or.inr ⟨_, rfl⟩ | split)
  rcases hch with ⟨k9, hk9⟩ | ⟨v9, hv9⟩
  · rw [hk9] at ho9; subst ho9; exact qa_Zout rfl (hQ _ _ ⟨hk9.symm, hq9⟩)
  · rw [hv9] at ho9; subst ho9
    refine qa_nx (pc' := 10) (st' := [_]) rfl rfl rfl rfl ?_
    refine qa_ireturn rfl rfl rfl (hQ _ _ ⟨hv9.symm, hq9⟩)
theorem c_C_addNote {E : qa_V} {σ : qa_S} {c vi vo : Nat} {Z : Nat → Nat} {B : Int} {m msn : Int → Int} {mh : Int → Int → Int} {sp ct : Int} {t u : List Int} {cs : sc_C} {n : Nat → Int} {p x y : Int} (hZ : qa_St E Z σ.1) (hz : qa_Sb E) (hlo : E.1 ≤ c) (hC : sR_C σ.1 c vi vo Z B m msn mh sp ct t u cs n) (hsz : c + 277 ≤ σ.2 ∧ vi < σ.2 ∧ vo < σ.2) (hB9 : B ≤ 900000000) (hp : qa_in p) (hx : qa_in x) (hy : qa_in y) : qa_T E qm_C_addNote 1 6 [.ref c, .int (qa_i p), .int (qa_i x), .int (qa_i y)] σ (fun o9 τ => o9 = ch_o (so_do m 1 p x y) ∧ sC_F σ τ c vi vo ∧ sR_C τ.1 c vi vo Z (B + 13000) (so_do m 1 p x y).2.2 msn (sH_up mh sp m) (if (so_do m 1 p x y).1 < 0 then sp else (sp + 1) % 9) (if (so_do m 1 p x y).1 < 0 then ct else if ct < 8 then ct + 1 else 8) t u cs (if (so_do m 1 p x y).1 < 0 ∧ -9 ≤ (so_do m 1 p x y).1 then sN_rej n (-(so_do m 1 p x y).1) (so_do m 1 p x y).2.1 else n)) := by
  refine qa_enterQ (by decide) rfl qm_C_addNote_ok rfl rfl (fun Q9 hQ => ?_)
  have hc := hC.1.1
  have hzz := hZ.2.2.2.2.2.2.1 1 (by decide)
  refine qa_aload_n (pc' := 1) ⟨rfl, rfl⟩ rfl ?_
  refine qa_gets (j := 3) (pc' := 4) ⟨rfl, rfl⟩ rfl qs_1_61 (show E.2 3 = .ref (Z (10 + 1)) from hzz) ?_
  refine qa_iload_n (pc' := 5) ⟨rfl, rfl⟩ rfl ?_
  refine qa_iload_n (pc' := 6) ⟨rfl, rfl⟩ rfl ?_
  refine qa_iload_n (pc' := 7) ⟨rfl, rfl⟩ rfl ?_
  refine qa_callV rfl qf_C_change ql_1_57 (c_C_change (E := E) (k := 1) (x := p) (y := x) (z := y) hZ hz hlo hC hsz hB9 (by decide) hp hx hy) hc rfl rfl rfl (qa_lt9 rfl) (qa_le9 rfl) (qa_le9 rfl) (qa_le9 rfl) (fun o9 τ9 hq9 => ?_)
  obtain ⟨ho9, hq9⟩ := hq9
  have hch : (∃ k9 : Nat, ch_o (so_do m 1 p x y) = .inr k9) ∨ ∃ v : Int, ch_o (so_do m 1 p x y) = .inl (some (.int (qa_i v))) := by unfold ch_o; repeat (first | exact Or.inl ⟨_, rfl⟩ | exact Or.inr ⟨_, rfl⟩ | split)
  rcases hch with ⟨k9, hk9⟩ | ⟨v9, hv9⟩
  · rw [hk9] at ho9; subst ho9; exact qa_Zout rfl (hQ _ _ ⟨hk9.symm, hq9⟩)
  · rw [hv9] at ho9; subst ho9
    refine qa_nx (pc' := 10) (st' := [_]) rfl rfl rfl rfl ?_
    refine qa_ireturn rfl rfl rfl (hQ _ _ ⟨hv9.symm, hq9⟩)
theorem c_C_addRest {E : qa_V} {σ : qa_S} {c vi vo : Nat} {Z : Nat → Nat} {B : Int} {m msn : Int → Int} {mh : Int → Int → Int} {sp ct : Int} {t u : List Int} {cs : sc_C} {n : Nat → Int} {p x y : Int} (hZ : qa_St E Z σ.1) (hz : qa_Sb E) (hlo : E.1 ≤ c) (hC : sR_C σ.1 c vi vo Z B m msn mh sp ct t u cs n) (hsz : c + 277 ≤ σ.2 ∧ vi < σ.2 ∧ vo < σ.2) (hB9 : B ≤ 900000000) (hp : qa_in p) (hx : qa_in x) (hy : qa_in y) : qa_T E qm_C_addRest 1 6 [.ref c, .int (qa_i p), .int (qa_i y)] σ (fun o9 τ => o9 = ch_o (so_do m 2 p y 0) ∧ sC_F σ τ c vi vo ∧ sR_C τ.1 c vi vo Z (B + 13000) (so_do m 2 p y 0).2.2 msn (sH_up mh sp m) (if (so_do m 2 p y 0).1 < 0 then sp else (sp + 1) % 9) (if (so_do m 2 p y 0).1 < 0 then ct else if ct < 8 then ct + 1 else 8) t u cs (if (so_do m 2 p y 0).1 < 0 ∧ -9 ≤ (so_do m 2 p y 0).1 then sN_rej n (-(so_do m 2 p y 0).1) (so_do m 2 p y 0).2.1 else n)) := by
  refine qa_enterQ (by decide) rfl qm_C_addRest_ok rfl rfl (fun Q9 hQ => ?_)
  have hc := hC.1.1
  have hzz := hZ.2.2.2.2.2.2.1 2 (by decide)
  refine qa_aload_n (pc' := 1) ⟨rfl, rfl⟩ rfl ?_
  refine qa_gets (j := 4) (pc' := 4) ⟨rfl, rfl⟩ rfl qs_1_64 (show E.2 4 = .ref (Z (10 + 2)) from hzz) ?_
  refine qa_iload_n (pc' := 5) ⟨rfl, rfl⟩ rfl ?_
  refine qa_iload_n (pc' := 6) ⟨rfl, rfl⟩ rfl ?_
  refine qa_iconst (pc' := 7) ⟨rfl, rfl⟩ ?_
  refine qa_callV rfl qf_C_change ql_1_57 (c_C_change (E := E) (k := 2) (x := p) (y := y) (z := 0) hZ hz hlo hC hsz hB9 (by decide) hp hy (by omega)) hc rfl rfl rfl (qa_lt9 rfl) (qa_le9 rfl) (qa_le9 rfl) (qa_le9 rfl) (fun o9 τ9 hq9 => ?_)
  obtain ⟨ho9, hq9⟩ := hq9
  have hch : (∃ k9 : Nat, ch_o (so_do m 2 p y 0) = .inr k9) ∨ ∃ v : Int, ch_o (so_do m 2 p y 0) = .inl (some (.int (qa_i v))) := by unfold ch_o; repeat (first | exact Or.inl ⟨_, rfl⟩ | exact Or.inr ⟨_, rfl⟩ | split)
  rcases hch with ⟨k9, hk9⟩ | ⟨v9, hv9⟩
  · rw [hk9] at ho9; subst ho9; exact qa_Zout rfl (hQ _ _ ⟨hk9.symm, hq9⟩)
  · rw [hv9] at ho9; subst ho9
    refine qa_nx (pc' := 10) (st' := [_]) rfl rfl rfl rfl ?_
    refine qa_ireturn rfl rfl rfl (hQ _ _ ⟨hv9.symm, hq9⟩)
theorem c_C_removeLast {E : qa_V} {σ : qa_S} {c vi vo : Nat} {Z : Nat → Nat} {B : Int} {m msn : Int → Int} {mh : Int → Int → Int} {sp ct : Int} {t u : List Int} {cs : sc_C} {n : Nat → Int} {p x y : Int} (hZ : qa_St E Z σ.1) (hz : qa_Sb E) (hlo : E.1 ≤ c) (hC : sR_C σ.1 c vi vo Z B m msn mh sp ct t u cs n) (hsz : c + 277 ≤ σ.2 ∧ vi < σ.2 ∧ vo < σ.2) (hB9 : B ≤ 900000000) (hp : qa_in p) (hx : qa_in x) (hy : qa_in y) : qa_T E qm_C_removeLast 1 6 [.ref c, .int (qa_i p)] σ (fun o9 τ => o9 = ch_o (so_do m 3 p 0 0) ∧ sC_F σ τ c vi vo ∧ sR_C τ.1 c vi vo Z (B + 13000) (so_do m 3 p 0 0).2.2 msn (sH_up mh sp m) (if (so_do m 3 p 0 0).1 < 0 then sp else (sp + 1) % 9) (if (so_do m 3 p 0 0).1 < 0 then ct else if ct < 8 then ct + 1 else 8) t u cs (if (so_do m 3 p 0 0).1 < 0 ∧ -9 ≤ (so_do m 3 p 0 0).1 then sN_rej n (-(so_do m 3 p 0 0).1) (so_do m 3 p 0 0).2.1 else n)) := by
  refine qa_enterQ (by decide) rfl qm_C_removeLast_ok rfl rfl (fun Q9 hQ => ?_)
  have hc := hC.1.1
  have hzz := hZ.2.2.2.2.2.2.1 3 (by decide)
  refine qa_aload_n (pc' := 1) ⟨rfl, rfl⟩ rfl ?_
  refine qa_gets (j := 5) (pc' := 4) ⟨rfl, rfl⟩ rfl qs_1_67 (show E.2 5 = .ref (Z (10 + 3)) from hzz) ?_
  refine qa_iload_n (pc' := 5) ⟨rfl, rfl⟩ rfl ?_
  refine qa_iconst (pc' := 6) ⟨rfl, rfl⟩ ?_
  refine qa_iconst (pc' := 7) ⟨rfl, rfl⟩ ?_
  refine qa_callV rfl qf_C_change ql_1_57 (c_C_change (E := E) (k := 3) (x := p) (y := 0) (z := 0) hZ hz hlo hC hsz hB9 (by decide) hp (by omega) (by omega)) hc rfl rfl rfl (qa_lt9 rfl) (qa_le9 rfl) (qa_le9 rfl) (qa_le9 rfl) (fun o9 τ9 hq9 => ?_)
  obtain ⟨ho9, hq9⟩ := hq9
  have hch : (∃ k9 : Nat, ch_o (so_do m 3 p 0 0) = .inr k9) ∨ ∃ v : Int, ch_o (so_do m 3 p 0 0) = .inl (some (.int (qa_i v))) := by unfold ch_o; repeat (first | exact Or.inl ⟨_, rfl⟩ | exact Or.inr ⟨_, rfl⟩ | split)
  rcases hch with ⟨k9, hk9⟩ | ⟨v9, hv9⟩
  · rw [hk9] at ho9; subst ho9; exact qa_Zout rfl (hQ _ _ ⟨hk9.symm, hq9⟩)
  · rw [hv9] at ho9; subst ho9
    refine qa_nx (pc' := 10) (st' := [_]) rfl rfl rfl rfl ?_
    refine qa_ireturn rfl rfl rfl (hQ _ _ ⟨hv9.symm, hq9⟩)
theorem c_C_transpose {E : qa_V} {σ : qa_S} {c vi vo : Nat} {Z : Nat → Nat} {B : Int} {m msn : Int → Int} {mh : Int → Int → Int} {sp ct : Int} {t u : List Int} {cs : sc_C} {n : Nat → Int} {p x y : Int} (hZ : qa_St E Z σ.1) (hz : qa_Sb E) (hlo : E.1 ≤ c) (hC : sR_C σ.1 c vi vo Z B m msn mh sp ct t u cs n) (hsz : c + 277 ≤ σ.2 ∧ vi < σ.2 ∧ vo < σ.2) (hB9 : B ≤ 900000000) (hp : qa_in p) (hx : qa_in x) (hy : qa_in y) : qa_T E qm_C_transpose 1 6 [.ref c, .int (qa_i p), .int (qa_i x)] σ (fun o9 τ => o9 = ch_o (so_do m 4 p x 0) ∧ sC_F σ τ c vi vo ∧ sR_C τ.1 c vi vo Z (B + 13000) (so_do m 4 p x 0).2.2 msn (sH_up mh sp m) (if (so_do m 4 p x 0).1 < 0 then sp else (sp + 1) % 9) (if (so_do m 4 p x 0).1 < 0 then ct else if ct < 8 then ct + 1 else 8) t u cs (if (so_do m 4 p x 0).1 < 0 ∧ -9 ≤ (so_do m 4 p x 0).1 then sN_rej n (-(so_do m 4 p x 0).1) (so_do m 4 p x 0).2.1 else n)) := by
  refine qa_enterQ (by decide) rfl qm_C_transpose_ok rfl rfl (fun Q9 hQ => ?_)
  have hc := hC.1.1
  have hzz := hZ.2.2.2.2.2.2.1 4 (by decide)
  refine qa_aload_n (pc' := 1) ⟨rfl, rfl⟩ rfl ?_
  refine qa_gets (j := 6) (pc' := 4) ⟨rfl, rfl⟩ rfl qs_1_70 (show E.2 6 = .ref (Z (10 + 4)) from hzz) ?_
  refine qa_iload_n (pc' := 5) ⟨rfl, rfl⟩ rfl ?_
  refine qa_iload_n (pc' := 6) ⟨rfl, rfl⟩ rfl ?_
  refine qa_iconst (pc' := 7) ⟨rfl, rfl⟩ ?_
  refine qa_callV rfl qf_C_change ql_1_57 (c_C_change (E := E) (k := 4) (x := p) (y := x) (z := 0) hZ hz hlo hC hsz hB9 (by decide) hp hx (by omega)) hc rfl rfl rfl (qa_lt9 rfl) (qa_le9 rfl) (qa_le9 rfl) (qa_le9 rfl) (fun o9 τ9 hq9 => ?_)
  obtain ⟨ho9, hq9⟩ := hq9
  have hch : (∃ k9 : Nat, ch_o (so_do m 4 p x 0) = .inr k9) ∨ ∃ v : Int, ch_o (so_do m 4 p x 0) = .inl (some (.int (qa_i v))) := by unfold ch_o; repeat (first | exact Or.inl ⟨_, rfl⟩ | exact Or.inr ⟨_, rfl⟩ | split)
  rcases hch with ⟨k9, hk9⟩ | ⟨v9, hv9⟩
  · rw [hk9] at ho9; subst ho9; exact qa_Zout rfl (hQ _ _ ⟨hk9.symm, hq9⟩)
  · rw [hv9] at ho9; subst ho9
    refine qa_nx (pc' := 10) (st' := [_]) rfl rfl rfl rfl ?_
    refine qa_ireturn rfl rfl rfl (hQ _ _ ⟨hv9.symm, hq9⟩)
theorem c_C_setTuning {E : qa_V} {σ : qa_S} {c vi vo : Nat} {Z : Nat → Nat} {B : Int} {m msn : Int → Int} {mh : Int → Int → Int} {sp ct : Int} {t u : List Int} {cs : sc_C} {n : Nat → Int} {p x y : Int} (hZ : qa_St E Z σ.1) (hz : qa_Sb E) (hlo : E.1 ≤ c) (hC : sR_C σ.1 c vi vo Z B m msn mh sp ct t u cs n) (hsz : c + 277 ≤ σ.2 ∧ vi < σ.2 ∧ vo < σ.2) (hB9 : B ≤ 900000000) (hp : qa_in p) (hx : qa_in x) (hy : qa_in y) : qa_T E qm_C_setTuning 1 6 [.ref c, .int (qa_i p), .int (qa_i x), .int (qa_i y)] σ (fun o9 τ => o9 = ch_o (so_do m 5 p x y) ∧ sC_F σ τ c vi vo ∧ sR_C τ.1 c vi vo Z (B + 13000) (so_do m 5 p x y).2.2 msn (sH_up mh sp m) (if (so_do m 5 p x y).1 < 0 then sp else (sp + 1) % 9) (if (so_do m 5 p x y).1 < 0 then ct else if ct < 8 then ct + 1 else 8) t u cs (if (so_do m 5 p x y).1 < 0 ∧ -9 ≤ (so_do m 5 p x y).1 then sN_rej n (-(so_do m 5 p x y).1) (so_do m 5 p x y).2.1 else n)) := by
  refine qa_enterQ (by decide) rfl qm_C_setTuning_ok rfl rfl (fun Q9 hQ => ?_)
  have hc := hC.1.1
  have hzz := hZ.2.2.2.2.2.2.1 5 (by decide)
  refine qa_aload_n (pc' := 1) ⟨rfl, rfl⟩ rfl ?_
  refine qa_gets (j := 7) (pc' := 4) ⟨rfl, rfl⟩ rfl qs_1_149 (show E.2 7 = .ref (Z (10 + 5)) from hzz) ?_
  refine qa_iload_n (pc' := 5) ⟨rfl, rfl⟩ rfl ?_
  refine qa_iload_n (pc' := 6) ⟨rfl, rfl⟩ rfl ?_
  refine qa_iload_n (pc' := 7) ⟨rfl, rfl⟩ rfl ?_
  refine qa_callV rfl qf_C_change ql_1_57 (c_C_change (E := E) (k := 5) (x := p) (y := x) (z := y) hZ hz hlo hC hsz hB9 (by decide) hp hx hy) hc rfl rfl rfl (qa_lt9 rfl) (qa_le9 rfl) (qa_le9 rfl) (qa_le9 rfl) (fun o9 τ9 hq9 => ?_)
  obtain ⟨ho9, hq9⟩ := hq9
  have hch : (∃ k9 : Nat, ch_o (so_do m 5 p x y) = .inr k9) ∨ ∃ v : Int, ch_o (so_do m 5 p x y) = .inl (some (.int (qa_i v))) := by unfold ch_o; repeat (first | exact Or.inl ⟨_, rfl⟩ | exact Or.inr ⟨_, rfl⟩ | split)
  rcases hch with ⟨k9, hk9⟩ | ⟨v9, hv9⟩
  · rw [hk9] at ho9; subst ho9; exact qa_Zout rfl (hQ _ _ ⟨hk9.symm, hq9⟩)
  · rw [hv9] at ho9; subst ho9
    refine qa_nx (pc' := 10) (st' := [_]) rfl rfl rfl rfl ?_
    refine qa_ireturn rfl rfl rfl (hQ _ _ ⟨hv9.symm, hq9⟩)
theorem c_C_setCue {E : qa_V} {σ : qa_S} {c vi vo : Nat} {Z : Nat → Nat} {B : Int} {m msn : Int → Int} {mh : Int → Int → Int} {sp ct : Int} {t u : List Int} {cs : sc_C} {n : Nat → Int} {p x y : Int} (hZ : qa_St E Z σ.1) (hz : qa_Sb E) (hlo : E.1 ≤ c) (hC : sR_C σ.1 c vi vo Z B m msn mh sp ct t u cs n) (hsz : c + 277 ≤ σ.2 ∧ vi < σ.2 ∧ vo < σ.2) (hB9 : B ≤ 900000000) (hp : qa_in p) (hx : qa_in x) (hy : qa_in y) : qa_T E qm_C_setCue 1 6 [.ref c, .int (qa_i p), .int (qa_i x)] σ (fun o9 τ => o9 = ch_o (so_do m 6 p x 0) ∧ sC_F σ τ c vi vo ∧ sR_C τ.1 c vi vo Z (B + 13000) (so_do m 6 p x 0).2.2 msn (sH_up mh sp m) (if (so_do m 6 p x 0).1 < 0 then sp else (sp + 1) % 9) (if (so_do m 6 p x 0).1 < 0 then ct else if ct < 8 then ct + 1 else 8) t u cs (if (so_do m 6 p x 0).1 < 0 ∧ -9 ≤ (so_do m 6 p x 0).1 then sN_rej n (-(so_do m 6 p x 0).1) (so_do m 6 p x 0).2.1 else n)) := by
  refine qa_enterQ (by decide) rfl qm_C_setCue_ok rfl rfl (fun Q9 hQ => ?_)
  have hc := hC.1.1
  have hzz := hZ.2.2.2.2.2.2.1 6 (by decide)
  refine qa_aload_n (pc' := 1) ⟨rfl, rfl⟩ rfl ?_
  refine qa_gets (j := 8) (pc' := 4) ⟨rfl, rfl⟩ rfl qs_1_177 (show E.2 8 = .ref (Z (10 + 6)) from hzz) ?_
  refine qa_iload_n (pc' := 5) ⟨rfl, rfl⟩ rfl ?_
  refine qa_iload_n (pc' := 6) ⟨rfl, rfl⟩ rfl ?_
  refine qa_iconst (pc' := 7) ⟨rfl, rfl⟩ ?_
  refine qa_callV rfl qf_C_change ql_1_57 (c_C_change (E := E) (k := 6) (x := p) (y := x) (z := 0) hZ hz hlo hC hsz hB9 (by decide) hp hx (by omega)) hc rfl rfl rfl (qa_lt9 rfl) (qa_le9 rfl) (qa_le9 rfl) (qa_le9 rfl) (fun o9 τ9 hq9 => ?_)
  obtain ⟨ho9, hq9⟩ := hq9
  have hch : (∃ k9 : Nat, ch_o (so_do m 6 p x 0) = .inr k9) ∨ ∃ v : Int, ch_o (so_do m 6 p x 0) = .inl (some (.int (qa_i v))) := by unfold ch_o; repeat (first | exact Or.inl ⟨_, rfl⟩ | exact Or.inr ⟨_, rfl⟩ | split)
  rcases hch with ⟨k9, hk9⟩ | ⟨v9, hv9⟩
  · rw [hk9] at ho9; subst ho9; exact qa_Zout rfl (hQ _ _ ⟨hk9.symm, hq9⟩)
  · rw [hv9] at ho9; subst ho9
    refine qa_nx (pc' := 10) (st' := [_]) rfl rfl rfl rfl ?_
    refine qa_ireturn rfl rfl rfl (hQ _ _ ⟨hv9.symm, hq9⟩)
theorem c_C_removeCue {E : qa_V} {σ : qa_S} {c vi vo : Nat} {Z : Nat → Nat} {B : Int} {m msn : Int → Int} {mh : Int → Int → Int} {sp ct : Int} {t u : List Int} {cs : sc_C} {n : Nat → Int} {p x y : Int} (hZ : qa_St E Z σ.1) (hz : qa_Sb E) (hlo : E.1 ≤ c) (hC : sR_C σ.1 c vi vo Z B m msn mh sp ct t u cs n) (hsz : c + 277 ≤ σ.2 ∧ vi < σ.2 ∧ vo < σ.2) (hB9 : B ≤ 900000000) (hp : qa_in p) (hx : qa_in x) (hy : qa_in y) : qa_T E qm_C_removeCue 1 6 [.ref c, .int (qa_i p)] σ (fun o9 τ => o9 = ch_o (so_do m 7 p 0 0) ∧ sC_F σ τ c vi vo ∧ sR_C τ.1 c vi vo Z (B + 13000) (so_do m 7 p 0 0).2.2 msn (sH_up mh sp m) (if (so_do m 7 p 0 0).1 < 0 then sp else (sp + 1) % 9) (if (so_do m 7 p 0 0).1 < 0 then ct else if ct < 8 then ct + 1 else 8) t u cs (if (so_do m 7 p 0 0).1 < 0 ∧ -9 ≤ (so_do m 7 p 0 0).1 then sN_rej n (-(so_do m 7 p 0 0).1) (so_do m 7 p 0 0).2.1 else n)) := by
  refine qa_enterQ (by decide) rfl qm_C_removeCue_ok rfl rfl (fun Q9 hQ => ?_)
  have hc := hC.1.1
  have hzz := hZ.2.2.2.2.2.2.1 7 (by decide)
  refine qa_aload_n (pc' := 1) ⟨rfl, rfl⟩ rfl ?_
  refine qa_gets (j := 9) (pc' := 4) ⟨rfl, rfl⟩ rfl qs_1_180 (show E.2 9 = .ref (Z (10 + 7)) from hzz) ?_
  refine qa_iload_n (pc' := 5) ⟨rfl, rfl⟩ rfl ?_
  refine qa_iconst (pc' := 6) ⟨rfl, rfl⟩ ?_
  refine qa_iconst (pc' := 7) ⟨rfl, rfl⟩ ?_
  refine qa_callV rfl qf_C_change ql_1_57 (c_C_change (E := E) (k := 7) (x := p) (y := 0) (z := 0) hZ hz hlo hC hsz hB9 (by decide) hp (by omega) (by omega)) hc rfl rfl rfl (qa_lt9 rfl) (qa_le9 rfl) (qa_le9 rfl) (qa_le9 rfl) (fun o9 τ9 hq9 => ?_)
  obtain ⟨ho9, hq9⟩ := hq9
  have hch : (∃ k9 : Nat, ch_o (so_do m 7 p 0 0) = .inr k9) ∨ ∃ v : Int, ch_o (so_do m 7 p 0 0) = .inl (some (.int (qa_i v))) := by unfold ch_o; repeat (first | exact Or.inl ⟨_, rfl⟩ | exact Or.inr ⟨_, rfl⟩ | split)
  rcases hch with ⟨k9, hk9⟩ | ⟨v9, hv9⟩
  · rw [hk9] at ho9; subst ho9; exact qa_Zout rfl (hQ _ _ ⟨hk9.symm, hq9⟩)
  · rw [hv9] at ho9; subst ho9
    refine qa_nx (pc' := 10) (st' := [_]) rfl rfl rfl rfl ?_
    refine qa_ireturn rfl rfl rfl (hQ _ _ ⟨hv9.symm, hq9⟩)
theorem c_C_setBar {E : qa_V} {σ : qa_S} {c vi vo : Nat} {Z : Nat → Nat} {B : Int} {m msn : Int → Int} {mh : Int → Int → Int} {sp ct : Int} {t u : List Int} {cs : sc_C} {n : Nat → Int} {p x y : Int} (hZ : qa_St E Z σ.1) (hz : qa_Sb E) (hlo : E.1 ≤ c) (hC : sR_C σ.1 c vi vo Z B m msn mh sp ct t u cs n) (hsz : c + 277 ≤ σ.2 ∧ vi < σ.2 ∧ vo < σ.2) (hB9 : B ≤ 900000000) (hp : qa_in p) (hx : qa_in x) (hy : qa_in y) : qa_T E qm_C_setBar 1 6 [.ref c, .int (qa_i x)] σ (fun o9 τ => o9 = ch_o (so_do m 8 x 0 0) ∧ sC_F σ τ c vi vo ∧ sR_C τ.1 c vi vo Z (B + 13000) (so_do m 8 x 0 0).2.2 msn (sH_up mh sp m) (if (so_do m 8 x 0 0).1 < 0 then sp else (sp + 1) % 9) (if (so_do m 8 x 0 0).1 < 0 then ct else if ct < 8 then ct + 1 else 8) t u cs (if (so_do m 8 x 0 0).1 < 0 ∧ -9 ≤ (so_do m 8 x 0 0).1 then sN_rej n (-(so_do m 8 x 0 0).1) (so_do m 8 x 0 0).2.1 else n)) := by
  refine qa_enterQ (by decide) rfl qm_C_setBar_ok rfl rfl (fun Q9 hQ => ?_)
  have hc := hC.1.1
  have hzz := hZ.2.2.2.2.2.2.1 8 (by decide)
  refine qa_aload_n (pc' := 1) ⟨rfl, rfl⟩ rfl ?_
  refine qa_gets (j := 10) (pc' := 4) ⟨rfl, rfl⟩ rfl qs_1_205 (show E.2 10 = .ref (Z (10 + 8)) from hzz) ?_
  refine qa_iload_n (pc' := 5) ⟨rfl, rfl⟩ rfl ?_
  refine qa_iconst (pc' := 6) ⟨rfl, rfl⟩ ?_
  refine qa_iconst (pc' := 7) ⟨rfl, rfl⟩ ?_
  refine qa_callV rfl qf_C_change ql_1_57 (c_C_change (E := E) (k := 8) (x := x) (y := 0) (z := 0) hZ hz hlo hC hsz hB9 (by decide) hx (by omega) (by omega)) hc rfl rfl rfl (qa_lt9 rfl) (qa_le9 rfl) (qa_le9 rfl) (qa_le9 rfl) (fun o9 τ9 hq9 => ?_)
  obtain ⟨ho9, hq9⟩ := hq9
  have hch : (∃ k9 : Nat, ch_o (so_do m 8 x 0 0) = .inr k9) ∨ ∃ v : Int, ch_o (so_do m 8 x 0 0) = .inl (some (.int (qa_i v))) := by unfold ch_o; repeat (first | exact Or.inl ⟨_, rfl⟩ | exact Or.inr ⟨_, rfl⟩ | split)
  rcases hch with ⟨k9, hk9⟩ | ⟨v9, hv9⟩
  · rw [hk9] at ho9; subst ho9; exact qa_Zout rfl (hQ _ _ ⟨hk9.symm, hq9⟩)
  · rw [hv9] at ho9; subst ho9
    refine qa_nx (pc' := 10) (st' := [_]) rfl rfl rfl rfl ?_
    refine qa_ireturn rfl rfl rfl (hQ _ _ ⟨hv9.symm, hq9⟩)
theorem c_C_setTempo {E : qa_V} {σ : qa_S} {c vi vo : Nat} {Z : Nat → Nat} {B : Int} {m msn : Int → Int} {mh : Int → Int → Int} {sp ct : Int} {t u : List Int} {cs : sc_C} {n : Nat → Int} {p x y : Int} (hZ : qa_St E Z σ.1) (hz : qa_Sb E) (hlo : E.1 ≤ c) (hC : sR_C σ.1 c vi vo Z B m msn mh sp ct t u cs n) (hsz : c + 277 ≤ σ.2 ∧ vi < σ.2 ∧ vo < σ.2) (hB9 : B ≤ 900000000) (hp : qa_in p) (hx : qa_in x) (hy : qa_in y) : qa_T E qm_C_setTempo 1 6 [.ref c, .int (qa_i x), .int (qa_i y)] σ (fun o9 τ => o9 = ch_o (so_do m 9 x y 0) ∧ sC_F σ τ c vi vo ∧ sR_C τ.1 c vi vo Z (B + 13000) (so_do m 9 x y 0).2.2 msn (sH_up mh sp m) (if (so_do m 9 x y 0).1 < 0 then sp else (sp + 1) % 9) (if (so_do m 9 x y 0).1 < 0 then ct else if ct < 8 then ct + 1 else 8) t u cs (if (so_do m 9 x y 0).1 < 0 ∧ -9 ≤ (so_do m 9 x y 0).1 then sN_rej n (-(so_do m 9 x y 0).1) (so_do m 9 x y 0).2.1 else n)) := by
  refine qa_enterQ (by decide) rfl qm_C_setTempo_ok rfl rfl (fun Q9 hQ => ?_)
  have hc := hC.1.1
  have hzz := hZ.2.2.2.2.2.2.1 9 (by decide)
  refine qa_aload_n (pc' := 1) ⟨rfl, rfl⟩ rfl ?_
  refine qa_gets (j := 11) (pc' := 4) ⟨rfl, rfl⟩ rfl qs_1_214 (show E.2 11 = .ref (Z (10 + 9)) from hzz) ?_
  refine qa_iload_n (pc' := 5) ⟨rfl, rfl⟩ rfl ?_
  refine qa_iload_n (pc' := 6) ⟨rfl, rfl⟩ rfl ?_
  refine qa_iconst (pc' := 7) ⟨rfl, rfl⟩ ?_
  refine qa_callV rfl qf_C_change ql_1_57 (c_C_change (E := E) (k := 9) (x := x) (y := y) (z := 0) hZ hz hlo hC hsz hB9 (by decide) hx hy (by omega)) hc rfl rfl rfl (qa_lt9 rfl) (qa_le9 rfl) (qa_le9 rfl) (qa_le9 rfl) (fun o9 τ9 hq9 => ?_)
  obtain ⟨ho9, hq9⟩ := hq9
  have hch : (∃ k9 : Nat, ch_o (so_do m 9 x y 0) = .inr k9) ∨ ∃ v : Int, ch_o (so_do m 9 x y 0) = .inl (some (.int (qa_i v))) := by unfold ch_o; repeat (first | exact Or.inl ⟨_, rfl⟩ | exact Or.inr ⟨_, rfl⟩ | split)
  rcases hch with ⟨k9, hk9⟩ | ⟨v9, hv9⟩
  · rw [hk9] at ho9; subst ho9; exact qa_Zout rfl (hQ _ _ ⟨hk9.symm, hq9⟩)
  · rw [hv9] at ho9; subst ho9
    refine qa_nx (pc' := 10) (st' := [_]) rfl rfl rfl rfl ?_
    refine qa_ireturn rfl rfl rfl (hQ _ _ ⟨hv9.symm, hq9⟩)
theorem c_C_play {E : qa_V} {σ : qa_S} {c vi vo : Nat} {Z : Nat → Nat} {B : Int} {m msn : Int → Int} {mh : Int → Int → Int} {sp ct : Int} {t u : List Int} {cs : sc_C} {n : Nat → Int} {p x y : Int} (hZ : qa_St E Z σ.1) (hz : qa_Sb E) (hlo : E.1 ≤ c) (hC : sR_C σ.1 c vi vo Z B m msn mh sp ct t u cs n) (hsz : c + 277 ≤ σ.2 ∧ vi < σ.2 ∧ vo < σ.2) (hB9 : B ≤ 900000000) (hp : qa_in p) (hx : qa_in x) (hy : qa_in y) : qa_T E qm_C_play 1 6 [.ref c, .int (qa_i x)] σ (fun o9 τ => o9 = ch_o (so_do m 10 x 0 0) ∧ sC_F σ τ c vi vo ∧ sR_C τ.1 c vi vo Z (B + 13000) (so_do m 10 x 0 0).2.2 msn (sH_up mh sp m) (if (so_do m 10 x 0 0).1 < 0 then sp else (sp + 1) % 9) (if (so_do m 10 x 0 0).1 < 0 then ct else if ct < 8 then ct + 1 else 8) t u cs (if (so_do m 10 x 0 0).1 < 0 ∧ -9 ≤ (so_do m 10 x 0 0).1 then sN_rej n (-(so_do m 10 x 0 0).1) (so_do m 10 x 0 0).2.1 else n)) := by
  refine qa_enterQ (by decide) rfl qm_C_play_ok rfl rfl (fun Q9 hQ => ?_)
  have hc := hC.1.1
  have hzz := hZ.2.2.2.2.2.2.1 10 (by decide)
  refine qa_aload_n (pc' := 1) ⟨rfl, rfl⟩ rfl ?_
  refine qa_gets (j := 12) (pc' := 4) ⟨rfl, rfl⟩ rfl qs_1_233 (show E.2 12 = .ref (Z (10 + 10)) from hzz) ?_
  refine qa_iload_n (pc' := 5) ⟨rfl, rfl⟩ rfl ?_
  refine qa_iconst (pc' := 6) ⟨rfl, rfl⟩ ?_
  refine qa_iconst (pc' := 7) ⟨rfl, rfl⟩ ?_
  refine qa_callV rfl qf_C_change ql_1_57 (c_C_change (E := E) (k := 10) (x := x) (y := 0) (z := 0) hZ hz hlo hC hsz hB9 (by decide) hx (by omega) (by omega)) hc rfl rfl rfl (qa_lt9 rfl) (qa_le9 rfl) (qa_le9 rfl) (qa_le9 rfl) (fun o9 τ9 hq9 => ?_)
  obtain ⟨ho9, hq9⟩ := hq9
  have hch : (∃ k9 : Nat, ch_o (so_do m 10 x 0 0) = .inr k9) ∨ ∃ v : Int, ch_o (so_do m 10 x 0 0) = .inl (some (.int (qa_i v))) := by unfold ch_o; repeat (first | exact Or.inl ⟨_, rfl⟩ | exact Or.inr ⟨_, rfl⟩ | split)
  rcases hch with ⟨k9, hk9⟩ | ⟨v9, hv9⟩
  · rw [hk9] at ho9; subst ho9; exact qa_Zout rfl (hQ _ _ ⟨hk9.symm, hq9⟩)
  · rw [hv9] at ho9; subst ho9
    refine qa_nx (pc' := 10) (st' := [_]) rfl rfl rfl rfl ?_
    refine qa_ireturn rfl rfl rfl (hQ _ _ ⟨hv9.symm, hq9⟩)
theorem c_C_undo {E : qa_V} {σ : qa_S} {c vi vo : Nat} {Z : Nat → Nat} {B : Int} {m msn : Int → Int} {mh : Int → Int → Int} {sp ct : Int} {t u : List Int} {cs : sc_C} {n : Nat → Int} (hZ : qa_St E Z σ.1) (hz : qa_Sb E) (hlo : E.1 ≤ c) (hC : sR_C σ.1 c vi vo Z B m msn mh sp ct t u cs n) (hsz : c + 277 ≤ σ.2 ∧ vi < σ.2 ∧ vo < σ.2) (hB9 : B ≤ 900000000) : qa_T E qm_C_undo 1 6 [.ref c] σ (fun o9 τ => o9 = (if ct = 0 then .inr 5 else .inl (some (.int (qa_i (ct - 1))))) ∧ sC_F σ τ c vi vo ∧ sR_C τ.1 c vi vo Z B (if ct = 0 then m else mh ((sp + 8) % 9)) msn mh (if ct = 0 then sp else (sp + 8) % 9) (if ct = 0 then ct else ct - 1) t u cs n) := by
  refine qa_enterQ (by decide) rfl qm_C_undo_ok rfl rfl (fun Q9 hQ => ?_)
  have hC9 := hC
  obtain ⟨⟨hc, hn0, hn1, hn4⟩, ⟨⟨rf, hS⟩, hk⟩, ⟨⟨rf2, hSn⟩, hkn⟩, hH, hX, hR, hBb, hv1, hv2, hv3⟩ := hC
  have hH1 := hH.1
  have hct := hH.2.2.2.1
  have hsp := hH.2.2.1
  refine qa_aload_n (pc' := 1) ⟨rfl, rfl⟩ rfl ?_
  refine qa_getf (pc' := 4) ⟨rfl, rfl⟩ qg_1_22 (by assumption) rfl ?_
  refine qa_getf (pc' := 7) ⟨rfl, rfl⟩ qg_1_361 (by assumption) rfl ?_
  refine qa_if_ne (pc' := 10) (tgt := 21) ⟨rfl, rfl⟩ rfl (by omega) (fun hc1 => ?_) (fun hc1 => ?_)
  · rw [if_neg hc1, if_neg hc1, if_neg hc1, if_neg hc1] at hQ
    refine qa_aload_n (pc' := 22) ⟨rfl, rfl⟩ rfl ?_
    refine qa_getf (pc' := 25) ⟨rfl, rfl⟩ qg_1_22 (by assumption) rfl ?_
    refine qa_aload_n (pc' := 26) ⟨rfl, rfl⟩ rfl ?_
    refine qa_getf (pc' := 29) ⟨rfl, rfl⟩ qg_1_10 (by assumption) rfl ?_
    refine qa_callV rfl qf_H_stepBack ql_1_366 (c_H_stepBack (E := E) (by omega) hH (by omega) (by omega) hS hk) hH1 rfl rfl rfl (qa_lt9 rfl) (qa_le9 rfl) (qa_le9 rfl) (qa_le9 rfl) (fun o9 τ9 hq9 => ?_)
    obtain ⟨rfl, e1, f1, w1, w2⟩ := hq9
    refine qa_nx (pc' := 32) (st' := []) rfl rfl rfl rfl ?_
    rw [if_pos (by omega)] at w1
    obtain ⟨rf9, g1, g2⟩ := hH.2.2.2.2 ((sp + 8) % 9) (by omega) (by omega)
    have hc2 := (f1 c (by omega) (by omega)).trans hc
    have hw1 := w1.1
    refine qa_aload_n (pc' := 33) ⟨rfl, rfl⟩ rfl ?_
    refine qa_getf (pc' := 36) ⟨rfl, rfl⟩ qg_1_22 (by assumption) rfl ?_
    refine qa_getf (pc' := 39) ⟨rfl, rfl⟩ qg_1_361 (by assumption) rfl ?_
    refine qa_ireturn rfl rfl rfl (hQ _ _ ⟨rfl, ⟨by omega, fun q q0 q1 q2 q3 => f1 q (by omega) (by omega)⟩, ⟨hc2, hn0, hn1, hn4⟩, ⟨⟨rf, w2⟩, g2⟩, ⟨⟨rf2, hSn.fr (fun q q0 q1 => f1 q (by omega) (by omega))⟩, hkn⟩, w1, hX.fr (fun q q0 q1 => f1 q (by omega) (by omega)), hR.fr (fun q hq => f1 q (by omega) (by omega)), hBb.fr (f1 _ (by omega) (by omega)) (f1 _ (by omega) (by omega)), hv1, hv2, hv3⟩)
  · rw [if_pos hc1, if_pos hc1, if_pos hc1, if_pos hc1] at hQ
    refine qa_throwW rfl rfl rfl rfl rfl rfl qt_1_306_364_310 (qa_le9 rfl) (fun n9 hn9 => hQ _ _ ⟨rfl, ⟨hn9, fun _ _ _ _ _ => rfl⟩, hC9⟩)
theorem c_C_saveSnapshot {E : qa_V} {σ : qa_S} {c vi vo : Nat} {Z : Nat → Nat} {B : Int} {m msn : Int → Int} {mh : Int → Int → Int} {sp ct : Int} {t u : List Int} {cs : sc_C} {n : Nat → Int} (hZ : qa_St E Z σ.1) (hz : qa_Sb E) (hlo : E.1 ≤ c) (hC : sR_C σ.1 c vi vo Z B m msn mh sp ct t u cs n) (hsz : c + 277 ≤ σ.2 ∧ vi < σ.2 ∧ vo < σ.2) (hB9 : B ≤ 900000000) : qa_T E qm_C_saveSnapshot 0 0 [.ref c] σ (fun o9 τ => o9 = .inl (some (.int (qa_i (m 0)))) ∧ sC_F σ τ c vi vo ∧ sR_C τ.1 c vi vo Z B m m mh sp ct t u cs (sN_put n 0 1)) := by
  refine qa_enterQ (by decide) rfl qm_C_saveSnapshot_ok rfl rfl (fun Q9 hQ => ?_)
  have hC9 := hC
  obtain ⟨⟨hc, hn0, hn1, hn4⟩, ⟨⟨rf, hS⟩, hk⟩, ⟨⟨rf2, hSn⟩, hkn⟩, hH, hX, hR, hBb, hv1, hv2, hv3⟩ := hC
  have hs := hS.1
  have hs2 := hSn.1
  refine qa_aload_n (pc' := 1) ⟨rfl, rfl⟩ rfl ?_
  refine qa_getf (pc' := 4) ⟨rfl, rfl⟩ qg_1_16 (by assumption) rfl ?_
  refine qa_aload_n (pc' := 5) ⟨rfl, rfl⟩ rfl ?_
  refine qa_getf (pc' := 8) ⟨rfl, rfl⟩ qg_1_10 (by assumption) rfl ?_
  refine qa_callV rfl qf_S_become ql_1_369 (c_S_become (E := E) (by omega) (by omega) (by omega) hSn hS hkn hk) hs2 rfl rfl rfl (qa_lt9 rfl) (qa_le9 rfl) (qa_le9 rfl) (qa_le9 rfl) (fun o9 τ9 hq9 => ?_)
  obtain ⟨rfl, e1, f1, w1⟩ := hq9
  refine qa_nx (pc' := 11) (st' := []) rfl rfl rfl rfl ?_
  have hc2 := (f1 c (by omega)).trans hc
  have hs1 := (f1 (c + 1) (by omega)).trans hs
  have e0 := e1
  refine qa_aload_n (pc' := 12) ⟨rfl, rfl⟩ rfl ?_
  refine qa_iconst (pc' := 13) ⟨rfl, rfl⟩ ?_
  refine qa_putf (fs' := [_, _, _, _, _, _, _, _, _, _, _]) (pc' := 16) ⟨rfl, rfl⟩ qg_1_372 qw_0 (by assumption) (by omega) rfl (fun r hr => by cases hr; exact ⟨rfl, Or.inl rfl⟩) rfl rfl ?_
  refine qa_gz (fun τ51 e51 w51 f51 => ?_)
  replace hs1 := (f51 _ (by omega)).trans hs1
  replace e0 := e51.trans e0
  refine qa_aload_n (pc' := 17) ⟨rfl, rfl⟩ rfl ?_
  refine qa_getf (pc' := 20) ⟨rfl, rfl⟩ qg_1_10 (by assumption) rfl ?_
  refine qa_getf (pc' := 23) ⟨rfl, rfl⟩ qg_1_73 (by assumption) rfl ?_
  refine qa_ireturn rfl rfl rfl (hQ _ _ ⟨rfl, ⟨by omega, fun q q0 q1 q2 q3 => (f51 q (by omega)).trans (f1 q (by omega))⟩, (hC9.setSn (fun q hq => f1 q (by omega)) ⟨rf2, w1⟩ hk).setN (n' := sN_put n 0 1) (by omega) f51 w51 ⟨⟨by show (0 : Int) ≤ 1; decide, by show (1 : Int) ≤ 1; decide⟩, hn1, hn4⟩⟩)
theorem c_C_restoreSnapshot {E : qa_V} {σ : qa_S} {c vi vo : Nat} {Z : Nat → Nat} {B : Int} {m msn : Int → Int} {mh : Int → Int → Int} {sp ct : Int} {t u : List Int} {cs : sc_C} {n : Nat → Int} (hZ : qa_St E Z σ.1) (hz : qa_Sb E) (hlo : E.1 ≤ c) (hC : sR_C σ.1 c vi vo Z B m msn mh sp ct t u cs n) (hsz : c + 277 ≤ σ.2 ∧ vi < σ.2 ∧ vo < σ.2) (hB9 : B ≤ 900000000) : qa_T E qm_C_restoreSnapshot 1 6 [.ref c] σ (fun o9 τ => o9 = (if n 0 = 0 then .inr 5 else .inl (some (.int (qa_i (msn 0))))) ∧ sC_F σ τ c vi vo ∧ sR_C τ.1 c vi vo Z B (if n 0 = 0 then m else msn) msn mh sp (if n 0 = 0 then ct else 0) t u cs n) := by
  refine qa_enterQ (by decide) rfl qm_C_restoreSnapshot_ok rfl rfl (fun Q9 hQ => ?_)
  have hC9 := hC
  obtain ⟨⟨hc, hn0, hn1, hn4⟩, ⟨⟨rf, hS⟩, hk⟩, ⟨⟨rf2, hSn⟩, hkn⟩, hH, hX, hR, hBb, hv1, hv2, hv3⟩ := hC
  have hs := hS.1
  have hs2 := hSn.1
  have hH1 := hH.1
  refine qa_aload_n (pc' := 1) ⟨rfl, rfl⟩ rfl ?_
  refine qa_getf (pc' := 4) ⟨rfl, rfl⟩ qg_1_372 (by assumption) rfl ?_
  refine qa_if_ne (pc' := 7) (tgt := 18) ⟨rfl, rfl⟩ rfl (by omega) (fun hc1 => ?_) (fun hc1 => ?_)
  · rw [if_neg hc1, if_neg hc1, if_neg hc1] at hQ
    refine qa_aload_n (pc' := 19) ⟨rfl, rfl⟩ rfl ?_
    refine qa_getf (pc' := 22) ⟨rfl, rfl⟩ qg_1_10 (by assumption) rfl ?_
    refine qa_aload_n (pc' := 23) ⟨rfl, rfl⟩ rfl ?_
    refine qa_getf (pc' := 26) ⟨rfl, rfl⟩ qg_1_16 (by assumption) rfl ?_
    refine qa_callV rfl qf_S_become ql_1_369 (c_S_become (E := E) (by omega) (by omega) (by omega) hS hSn hk hkn) hs rfl rfl rfl (qa_lt9 rfl) (qa_le9 rfl) (qa_le9 rfl) (qa_le9 rfl) (fun o9 τ9 hq9 => ?_)
    obtain ⟨rfl, e1, f1, w1⟩ := hq9
    refine qa_nx (pc' := 29) (st' := []) rfl rfl rfl rfl ?_
    have hC2 := hC9.setM (fun q hq => f1 q (by omega)) ⟨rf, w1⟩ hkn
    have hc2 := hC2.1.1
    have hH2 := hC2.2.2.2.1
    have hH21 := hH2.1
    refine qa_aload_n (pc' := 30) ⟨rfl, rfl⟩ rfl ?_
    refine qa_getf (pc' := 33) ⟨rfl, rfl⟩ qg_1_22 (by assumption) rfl ?_
    refine qa_callV rfl qf_H_forget ql_1_378 (c_H_forget (E := E) (by omega) hH2) hH21 rfl rfl rfl (qa_lt9 rfl) (qa_le9 rfl) (qa_le9 rfl) (qa_le9 rfl) (fun o9 τ9 hq9 => ?_)
    obtain ⟨rfl, e2, f2, w2⟩ := hq9
    refine qa_nx (pc' := 36) (st' := []) rfl rfl rfl rfl ?_
    have hC3 := hC2.setH (fun q hq => f2 q (by omega)) w2
    have hc3 := hC3.1.1
    obtain ⟨rf5, hS5⟩ := hC3.2.1.1
    have hs5 := hS5.1
    refine qa_aload_n (pc' := 37) ⟨rfl, rfl⟩ rfl ?_
    refine qa_getf (pc' := 40) ⟨rfl, rfl⟩ qg_1_10 (by assumption) rfl ?_
    refine qa_getf (pc' := 43) ⟨rfl, rfl⟩ qg_1_73 (by assumption) rfl ?_
    refine qa_ireturn rfl rfl rfl (hQ _ _ ⟨rfl, ⟨by omega, fun q q0 q1 q2 q3 => (f2 q (by omega)).trans (f1 q (by omega))⟩, hC3⟩)
  · rw [if_pos hc1, if_pos hc1, if_pos hc1] at hQ
    refine qa_throwW rfl rfl rfl rfl rfl rfl qt_1_306_376_310 (qa_le9 rfl) (fun n9 hn9 => hQ _ _ ⟨rfl, ⟨hn9, fun _ _ _ _ _ => rfl⟩, hC9⟩)
theorem c_C_outputAt {E : qa_V} {σ : qa_S} {c vi vo : Nat} {Z : Nat → Nat} {B : Int} {m msn : Int → Int} {mh : Int → Int → Int} {sp ct : Int} {t u : List Int} {cs : sc_C} {n : Nat → Int} {x : Int} (hZ : qa_St E Z σ.1) (hz : qa_Sb E) (hlo : E.1 ≤ c) (hC : sR_C σ.1 c vi vo Z B m msn mh sp ct t u cs n) (hsz : c + 277 ≤ σ.2 ∧ vi < σ.2 ∧ vo < σ.2) (hB9 : B ≤ 900000000) (hx : qa_in x) : qa_T E qm_C_outputAt 1 6 [.ref c, .int (qa_i x)] σ (qa_q σ (qa_out [0] (if 0 ≤ x ∧ x < u.length then (0, sc_at u x) else (1, 0)))) := by
  refine qa_enterQ (by decide) rfl qm_C_outputAt_ok rfl rfl (fun Q9 hQ => ?_)
  have hC9 := hC
  obtain ⟨⟨hc, hn0, hn1, hn4⟩, ⟨⟨rf, hS⟩, hk⟩, ⟨⟨rf2, hSn⟩, hkn⟩, hH, hX, hR, hBb, hv1, hv2, hv3⟩ := hC
  have hb9 := hBb
  have hch := sB_ch hBb x
  obtain ⟨ml, cap, f, hb, -, hcap, hcap2, -⟩ := hb9
  refine qa_iload_n (pc' := 1) ⟨rfl, rfl⟩ rfl ?_
  refine qa_if_lt (pc' := 4) (tgt := 15) ⟨rfl, rfl⟩ rfl (by omega) (fun hc1 => ?_) (fun hc1 => ?_)
  · refine qa_throwW rfl rfl rfl rfl rfl rfl qt_1_294_296_298 (qa_le9 rfl) (fun n9 hn9 => hQ _ _ ⟨by rw [if_neg (by omega)]; rfl, rfl, hn9⟩)
  · refine qa_iload_n (pc' := 5) ⟨rfl, rfl⟩ rfl ?_
    refine qa_aload_n (pc' := 6) ⟨rfl, rfl⟩ rfl ?_
    refine qa_getf (pc' := 9) ⟨rfl, rfl⟩ qg_1_43 (by assumption) rfl ?_
    refine qa_callV rfl qf_SB_length ql_1_291 (c_SB_length (E := E) hBb) hb rfl rfl rfl (qa_lt9 rfl) (qa_le9 rfl) (qa_le9 rfl) (qa_le9 rfl) (fun o9 τ9 hq9 => ?_)
    obtain ⟨rfl, hq9⟩ := hq9
    replace hq9 := hq9.symm; subst hq9
    refine qa_nx (pc' := 12) (st' := [_, _]) rfl rfl rfl rfl ?_
    refine qa_icmp_lt (pc' := 15) (tgt := 26) ⟨rfl, rfl⟩ rfl (by omega) (by omega) (fun hc2 => ?_) (fun hc2 => ?_)
    · refine qa_aload_n (pc' := 27) ⟨rfl, rfl⟩ rfl ?_
      refine qa_getf (pc' := 30) ⟨rfl, rfl⟩ qg_1_43 (by assumption) rfl ?_
      refine qa_iload_n (pc' := 31) ⟨rfl, rfl⟩ rfl ?_
      refine qa_callV rfl qf_SB_charAt ql_1_299 (c_SB_charAt (E := E) hz hBb (by omega)) hb rfl rfl rfl (qa_lt9 rfl) (qa_le9 rfl) (qa_le9 rfl) (qa_le9 rfl) (fun o9 τ9 hq9 => ?_)
      obtain ⟨rfl, hq9⟩ := hq9
      replace hq9 := hq9.symm; subst hq9
      refine qa_nx (pc' := 34) (st' := [_]) rfl rfl rfl rfl ?_
      rw [show u.getD x.toNat 0 = sc_at u x from rfl]
      refine qa_ireturn rfl rfl (by have := lg_i2c_word (v := qa_i (sc_at u x)) (by rw [qa_i_toInt (by omega)]; omega) (by rw [qa_i_toInt (by omega)]; omega); exact congrArg Value.int this) (hQ _ _ ⟨by rw [if_pos (by omega)]; rfl, rfl, Nat.le_refl _⟩)
    · refine qa_throwW rfl rfl rfl rfl rfl rfl qt_1_294_296_298 (qa_le9 rfl) (fun n9 hn9 => hQ _ _ ⟨by rw [if_neg (by omega)]; rfl, rfl, hn9⟩)
theorem c_C_appendInput {E : qa_V} {σ : qa_S} {c vi vo : Nat} {Z : Nat → Nat} {B : Int} {m msn : Int → Int} {mh : Int → Int → Int} {sp ct : Int} {t u : List Int} {cs : sc_C} {n : Nat → Int} {x : Int} (hZ : qa_St E Z σ.1) (hz : qa_Sb E) (hlo : E.1 ≤ c) (hC : sR_C σ.1 c vi vo Z B m msn mh sp ct t u cs n) (hsz : c + 277 ≤ σ.2 ∧ vi < σ.2 ∧ vo < σ.2) (hB9 : B ≤ 900000000) (hx : 0 ≤ x ∧ x ≤ 65535) : qa_T E qm_C_appendInput 2 160 [.ref c, .int (qa_i x)] σ (fun o9 τ => o9 = (if 32 ≤ x ∧ x ≤ 126 then (if t.length = 60 then .inr 5 else .inl (some (.int (qa_i ((t.length : Int) + 1))))) else .inr 1) ∧ sC_F σ τ c vi vo ∧ ∃ vi' : Nat, (vi' < τ.2 ∧ (vi' = vi ∨ σ.2 ≤ vi')) ∧ sR_C τ.1 c vi' vo Z B m msn mh sp ct (if (32 ≤ x ∧ x ≤ 126) ∧ t.length ≠ 60 then t ++ [x] else t) u cs n) := by
  refine qa_enterQ (by decide) rfl qm_C_appendInput_ok rfl rfl (fun Q9 hQ => ?_)
  have hC9 := hC
  obtain ⟨⟨hc, hn0, hn1, hn4⟩, ⟨⟨rf, hS⟩, hk⟩, ⟨⟨rf2, hSn⟩, hkn⟩, hH, hX, hR, hBb, hv1, hv2, hv3⟩ := hC
  have hR9 := hR
  obtain ⟨o8, a8, fa, ar, hr, hB, ⟨hv9, hv93⟩, hac, ha, hl, hcl, hb9, hcs⟩ := hR9
  refine qa_iload_n (pc' := 1) ⟨rfl, rfl⟩ rfl ?_
  refine qa_bipush (z := 32) (pc' := 3) ⟨rfl, rfl⟩ rfl ?_
  refine qa_bipush (z := 126) (pc' := 5) ⟨rfl, rfl⟩ rfl ?_
  refine qa_callS rfl qf_C_requireRange rfl ql_1_107 (c_C_requireRange (E := E) (by omega) (by omega) (by omega)) rfl rfl (qa_lt9 rfl) (qa_le9 rfl) (qa_le9 rfl) (qa_le9 rfl) (fun o9 τ9 hq9 => ?_)
  rcases hq9 with ⟨ok9, rfl, hq9⟩ | ⟨no9, rfl, hh9, hn9⟩
  · replace hq9 := hq9.symm; subst hq9
    refine qa_nx (pc' := 8) (st' := []) rfl rfl rfl rfl ?_
    refine qa_aload_n (pc' := 9) ⟨rfl, rfl⟩ rfl ?_
    refine qa_getf (pc' := 12) ⟨rfl, rfl⟩ qg_1_36 (by assumption) rfl ?_
    refine qa_callV rfl qf_R_isFull ql_1_303 (c_R_isFull (E := E) hr hB hl) hr rfl rfl rfl (qa_lt9 rfl) (qa_le9 rfl) (qa_le9 rfl) (qa_le9 rfl) (fun o9 τ9 hq9 => ?_)
    obtain ⟨rfl, hq9⟩ := hq9
    replace hq9 := hq9.symm; subst hq9
    refine qa_nx (pc' := 15) (st' := [_]) rfl rfl rfl rfl ?_
    by_cases hw : t.length = 60
    · rw [if_pos hw]
      refine qa_if_eq (pc' := 18) (tgt := 29) ⟨rfl, rfl⟩ rfl (by omega) (fun hw9 => ?_) (fun hw9 => ?_)
      · exact absurd hw9 (by omega)
      · rw [if_pos ok9, if_pos hw, if_neg (fun h => h.2 hw)] at hQ
        refine qa_throwW rfl rfl rfl rfl rfl rfl qt_1_306_308_310 (qa_le9 rfl) (fun n9 hn9 => hQ _ _ ⟨rfl, ⟨hn9, fun _ _ _ _ _ => rfl⟩, vi, ⟨by show vi < n9; omega, Or.inl rfl⟩, hC9⟩)
    · rw [if_neg hw]
      refine qa_if_eq (pc' := 18) (tgt := 29) ⟨rfl, rfl⟩ rfl (by omega) (fun hw9 => ?_) (fun hw9 => ?_)
      · rw [if_pos ok9, if_neg hw, if_pos ⟨ok9, hw⟩] at hQ
        refine qa_aload_n (pc' := 30) ⟨rfl, rfl⟩ rfl ?_
        refine qa_getf (pc' := 33) ⟨rfl, rfl⟩ qg_1_36 (by assumption) rfl ?_
        refine qa_iload_n (pc' := 34) ⟨rfl, rfl⟩ rfl ?_
        refine qa_callV rfl qf_R_accept ql_1_311 (c_R_accept (E := E) hz (by omega) (by omega) (by omega) hr hv9 hB (by omega) (by omega)) hr rfl rfl rfl (qa_lt9 rfl) (qa_le9 rfl) (qa_le9 rfl) (qa_le9 rfl) (fun o9 τ9 hq9 => ?_)
        obtain ⟨rfl, v1, w1, w2⟩ := hq9
        refine qa_nx (pc' := 37) (st' := [_]) rfl rfl rfl rfl ?_
        obtain ⟨g1, g2, g3⟩ := w1
        have hR1 : sR_R τ9.1 (c + 270) v1 (t ++ [x]) cs Z := ⟨o8, a8, fa, ar, (g2 _ (by omega) (by omega) (by omega)).trans hr, w2, by omega, (g2 _ (by omega) (by omega) (by omega)).trans hac, (g2 _ (by omega) (by intro h; obtain ⟨ml7, cap7, f7, -, hv7, -⟩ := hB; rw [← h] at hv7; exact absurd (ha.symm.trans hv7) (by intro h9; cases h9)) (by omega)).trans ha, by rw [List.length_append]; simp; omega, hcl, hb9, hcs⟩
        refine qa_ireturn rfl rfl rfl (hQ _ _ ⟨rfl, ⟨g1, fun q q0 q1 q2 q3 => g2 q (by omega) q1 q3⟩, v1, ⟨by omega, by omega⟩, hC9.setR (fun q hq => g2 q (by omega) (by omega) (by omega)) hR1 (by omega)⟩)
      · exact absurd hw9 (by omega)
  · rw [if_neg no9, if_neg (fun h => no9 h.1)] at hQ
    exact qa_Zout rfl (hQ _ _ ⟨rfl, sC_F.rf hh9 hn9, vi, ⟨by omega, Or.inl rfl⟩, hh9 ▸ hC9⟩)
def fo_per (m : Int → Int) (p v : Int) : Int × Int := if sm_is m p then (if sm_n m p ≠ 0 then (0, v) else (2, 0)) else (1, 0)
theorem c_C_period {E : qa_V} {σ : qa_S} {c vi vo : Nat} {Z : Nat → Nat} {B : Int} {m msn : Int → Int} {mh : Int → Int → Int} {sp ct : Int} {t u : List Int} {cs : sc_C} {n : Nat → Int} {p : Int} (hZ : qa_St E Z σ.1) (hz : qa_Sb E) (hlo : E.1 ≤ c) (hC : sR_C σ.1 c vi vo Z B m msn mh sp ct t u cs n) (hsz : c + 277 ≤ σ.2 ∧ vi < σ.2 ∧ vo < σ.2) (hB9 : B ≤ 900000000) (hp : qa_in p) : qa_T E qm_C_period 4 24 [.ref c, .int (qa_i p)] σ (fun o9 τ => o9 = qa_out [0, 3] (fo_per m p (sp_pt (sm_c m p) (sm_n m p) (sm_n m p - 1).toNat 1)) ∧ sC_F σ τ c vi vo ∧ sR_C τ.1 c vi vo Z B m msn mh sp ct t u cs n) := by
  refine qa_enterQ (by decide) rfl qm_C_period_ok rfl rfl (fun Q9 hQ => ?_)
  have hC9 := hC
  obtain ⟨⟨hc, hn0, hn1, hn4⟩, ⟨⟨rf, hS⟩, hk⟩, ⟨⟨rf2, hSn⟩, hkn⟩, hH, hX, hR, hBb, hv1, hv2, hv3⟩ := hC
  have hk9 := hk
  have hS9 := hS
  obtain ⟨k0, k1, k2, k3, k4, k5, k6, k7, k8⟩ := hk9
  obtain ⟨hs, hpa, hcq, htq, hpp⟩ := hS9
  have hX9 := hX
  obtain ⟨gg, TT, x1, -⟩ := hX9
  refine qa_aload_n (pc' := 1) ⟨rfl, rfl⟩ rfl ?_
  refine qa_getf (pc' := 4) ⟨rfl, rfl⟩ qg_1_29 (by assumption) rfl ?_
  refine qa_aload_n (pc' := 5) ⟨rfl, rfl⟩ rfl ?_
  refine qa_iload_n (pc' := 6) ⟨rfl, rfl⟩ rfl ?_
  refine qa_callV rfl qf_C_partWithNotes ql_1_132 (c_C_partWithNotes (E := E) hc hS hk hp) hc rfl rfl rfl (qa_lt9 rfl) (qa_le9 rfl) (qa_le9 rfl) (qa_le9 rfl) (fun o9 τ9 hq9 => ?_)
  rcases hq9 with ⟨ok1, ok2, rfl, hq9⟩ | ⟨no9, rfl, hh9, hn9⟩
  · replace hq9 := hq9.symm; subst hq9
    refine qa_nx (pc' := 9) (st' := [_, _]) rfl rfl rfl rfl ?_
    have kk := k4 p ok1.1 (by omega)
    have kn := kk.1
    have kp : c + 9 ≤ sm_pa (c + 1) p ∧ sm_pa (c + 1) p + 3 ≤ c + 24 := by unfold sm_pa; omega
    refine qa_callV rfl qf_X_periodByWalk ql_1_135 (c_X_periodByWalk (E := E) (by omega) (by omega) hX (hpp p ok1.1 (by omega)) kk) x1 rfl rfl rfl (qa_lt9 rfl) (qa_le9 rfl) (qa_le9 rfl) (qa_le9 rfl) (fun o9 τ9 hq9 => ?_)
    obtain ⟨⟨g9, g90, rfl⟩, e1, f1, w1⟩ := hq9
    refine qa_nx (pc' := 12) (st' := [_]) rfl rfl rfl rfl ?_
    rw [sk_period (sm_c m p) g9 (by omega) g90]
    refine qa_ireturn rfl rfl rfl (hQ _ _ ⟨by unfold fo_per; rw [if_pos ok1, if_pos ok2]; rfl, ⟨by omega, fun q q0 q1 q2 q3 => f1 q (by omega)⟩, hC9.setX (fun q hq => f1 q (by omega)) w1⟩)
  · refine qa_Zout rfl (hQ _ _ ⟨?_, sC_F.rf hh9 hn9, hh9 ▸ hC9⟩)
    unfold fo_per
    by_cases e : sm_is m p
    · rw [if_pos e, if_pos e, if_neg (fun h => no9 ⟨e, h⟩)]; rfl
    · rw [if_neg e, if_neg e]; rfl
theorem c_C_periodByTrying {E : qa_V} {σ : qa_S} {c vi vo : Nat} {Z : Nat → Nat} {B : Int} {m msn : Int → Int} {mh : Int → Int → Int} {sp ct : Int} {t u : List Int} {cs : sc_C} {n : Nat → Int} {p : Int} (hZ : qa_St E Z σ.1) (hz : qa_Sb E) (hlo : E.1 ≤ c) (hC : sR_C σ.1 c vi vo Z B m msn mh sp ct t u cs n) (hsz : c + 277 ≤ σ.2 ∧ vi < σ.2 ∧ vo < σ.2) (hB9 : B ≤ 900000000) (hp : qa_in p) : qa_T E qm_C_periodByTrying 4 24 [.ref c, .int (qa_i p)] σ (fun o9 τ => o9 = qa_out [0, 3] (fo_per m p (sp_pt (sm_c m p) (sm_n m p) (sm_n m p - 1).toNat 1)) ∧ sC_F σ τ c vi vo ∧ sR_C τ.1 c vi vo Z B m msn mh sp ct t u cs n) := by
  refine qa_enterQ (by decide) rfl qm_C_periodByTrying_ok rfl rfl (fun Q9 hQ => ?_)
  have hC9 := hC
  obtain ⟨⟨hc, hn0, hn1, hn4⟩, ⟨⟨rf, hS⟩, hk⟩, ⟨⟨rf2, hSn⟩, hkn⟩, hH, hX, hR, hBb, hv1, hv2, hv3⟩ := hC
  have hk9 := hk
  have hS9 := hS
  obtain ⟨k0, k1, k2, k3, k4, k5, k6, k7, k8⟩ := hk9
  obtain ⟨hs, hpa, hcq, htq, hpp⟩ := hS9
  have hX9 := hX
  obtain ⟨gg, TT, x1, -⟩ := hX9
  refine qa_aload_n (pc' := 1) ⟨rfl, rfl⟩ rfl ?_
  refine qa_getf (pc' := 4) ⟨rfl, rfl⟩ qg_1_29 (by assumption) rfl ?_
  refine qa_aload_n (pc' := 5) ⟨rfl, rfl⟩ rfl ?_
  refine qa_iload_n (pc' := 6) ⟨rfl, rfl⟩ rfl ?_
  refine qa_callV rfl qf_C_partWithNotes ql_1_132 (c_C_partWithNotes (E := E) hc hS hk hp) hc rfl rfl rfl (qa_lt9 rfl) (qa_le9 rfl) (qa_le9 rfl) (qa_le9 rfl) (fun o9 τ9 hq9 => ?_)
  rcases hq9 with ⟨ok1, ok2, rfl, hq9⟩ | ⟨no9, rfl, hh9, hn9⟩
  · replace hq9 := hq9.symm; subst hq9
    refine qa_nx (pc' := 9) (st' := [_, _]) rfl rfl rfl rfl ?_
    have kk := k4 p ok1.1 (by omega)
    have kn := kk.1
    have kp : c + 9 ≤ sm_pa (c + 1) p ∧ sm_pa (c + 1) p + 3 ≤ c + 24 := by unfold sm_pa; omega
    refine qa_callV rfl qf_X_periodByTrial ql_1_139 (c_X_periodByTrial (E := E) hX (hpp p ok1.1 (by omega)) kk) x1 rfl rfl rfl (qa_lt9 rfl) (qa_le9 rfl) (qa_le9 rfl) (qa_le9 rfl) (fun o9 τ9 hq9 => ?_)
    obtain ⟨rfl, hq9⟩ := hq9
    replace hq9 := hq9.symm; subst hq9
    refine qa_nx (pc' := 12) (st' := [_]) rfl rfl rfl rfl ?_
    refine qa_ireturn rfl rfl rfl (hQ _ _ ⟨by unfold fo_per; rw [if_pos ok1, if_pos ok2]; rfl, sC_F.rf rfl (Nat.le_refl _), hC9⟩)
  · refine qa_Zout rfl (hQ _ _ ⟨?_, sC_F.rf hh9 hn9, hh9 ▸ hC9⟩)
    unfold fo_per
    by_cases e : sm_is m p
    · rw [if_pos e, if_pos e, if_neg (fun h => no9 ⟨e, h⟩)]; rfl
    · rw [if_neg e, if_neg e]; rfl
theorem c_C_commonTheme {E : qa_V} {σ : qa_S} {c vi vo : Nat} {Z : Nat → Nat} {B : Int} {m msn : Int → Int} {mh : Int → Int → Int} {sp ct : Int} {t u : List Int} {cs : sc_C} {n : Nat → Int} {p q : Int} (hZ : qa_St E Z σ.1) (hz : qa_Sb E) (hlo : E.1 ≤ c) (hC : sR_C σ.1 c vi vo Z B m msn mh sp ct t u cs n) (hsz : c + 277 ≤ σ.2 ∧ vi < σ.2 ∧ vo < σ.2) (hB9 : B ≤ 900000000) (hp : qa_in p) (hq : qa_in q) : qa_T E qm_C_commonTheme 4 24 [.ref c, .int (qa_i p), .int (qa_i q)] σ (fun o9 τ => o9 = qa_out [0] (fo_of2 m p q (sp_lc (sm_c m p) (sm_c m q) (sm_n m p).toNat (sm_n m q).toNat)) ∧ sC_F σ τ c vi vo ∧ sR_C τ.1 c vi vo Z B m msn mh sp ct t u cs n) := by
  refine qa_enterQ (by decide) rfl qm_C_commonTheme_ok rfl rfl (fun Q9 hQ => ?_)
  have hC9 := hC
  obtain ⟨⟨hc, hn0, hn1, hn4⟩, ⟨⟨rf, hS⟩, hk⟩, ⟨⟨rf2, hSn⟩, hkn⟩, hH, hX, hR, hBb, hv1, hv2, hv3⟩ := hC
  have hk9 := hk
  have hS9 := hS
  obtain ⟨k0, k1, k2, k3, k4, k5, k6, k7, k8⟩ := hk9
  obtain ⟨hs, hpa, hcq, htq, hpp⟩ := hS9
  have hX9 := hX
  obtain ⟨gg, TT, x1, -⟩ := hX9
  refine qa_aload_n (pc' := 1) ⟨rfl, rfl⟩ rfl ?_
  refine qa_getf (pc' := 4) ⟨rfl, rfl⟩ qg_1_29 (by assumption) rfl ?_
  refine qa_aload_n (pc' := 5) ⟨rfl, rfl⟩ rfl ?_
  refine qa_iload_n (pc' := 6) ⟨rfl, rfl⟩ rfl ?_
  refine qa_callV rfl qf_C_partOf ql_1_76 (c_C_partOf (E := E) hc hS hk hp) hc rfl rfl rfl (qa_lt9 rfl) (qa_le9 rfl) (qa_le9 rfl) (qa_le9 rfl) (fun o9 τ9 hq9 => ?_)
  rcases hq9 with ⟨ok9, rfl, hq9⟩ | ⟨no9, rfl, hh9, hn9⟩
  · replace hq9 := hq9.symm; subst hq9
    refine qa_nx (pc' := 9) (st' := [_, _]) rfl rfl rfl rfl ?_
    refine qa_aload_n (pc' := 10) ⟨rfl, rfl⟩ rfl ?_
    refine qa_iload_n (pc' := 11) ⟨rfl, rfl⟩ rfl ?_
    refine qa_callV rfl qf_C_partOf ql_1_76 (c_C_partOf (E := E) hc hS hk hq) hc rfl rfl rfl (qa_lt9 rfl) (qa_le9 rfl) (qa_le9 rfl) (qa_le9 rfl) (fun o9 τ9 hq9 => ?_)
    rcases hq9 with ⟨ok8, rfl, hq9⟩ | ⟨no8, rfl, hh8, hn8⟩
    · replace hq9 := hq9.symm; subst hq9
      refine qa_nx (pc' := 14) (st' := [_, _, _]) rfl rfl rfl rfl ?_
      have kkp := k4 p ok9.1 (by omega)
      have kpp : c + 9 ≤ sm_pa (c + 1) p ∧ sm_pa (c + 1) p + 3 ≤ c + 24 := by unfold sm_pa; omega
      have kkq := k4 q ok8.1 (by omega)
      have kpq : c + 9 ≤ sm_pa (c + 1) q ∧ sm_pa (c + 1) q + 3 ≤ c + 24 := by unfold sm_pa; omega
      have knp := kkp.1
      refine qa_callV rfl qf_X_themeByTable ql_1_142 (c_X_themeByTable (E := E) (by omega) (by omega) (by omega) hX (hpp p ok9.1 (by omega)) kkp (hpp q ok8.1 (by omega)) kkq) x1 rfl rfl rfl (qa_lt9 rfl) (qa_le9 rfl) (qa_le9 rfl) (qa_le9 rfl) (fun o9 τ9 hq9 => ?_)
      obtain ⟨rfl, e1, f1, w1⟩ := hq9
      refine qa_nx (pc' := 17) (st' := [_]) rfl rfl rfl rfl ?_
      refine qa_ireturn rfl rfl rfl (hQ _ _ ⟨by unfold fo_of2; rw [if_pos ⟨ok9, ok8⟩]; rfl, ⟨by omega, fun q q0 q1 q2 q3 => f1 q (by omega)⟩, hC9.setX (fun q hq => f1 q (by omega)) w1⟩)
    · exact qa_Zout rfl (hQ _ _ ⟨by unfold fo_of2; rw [if_neg (fun h => no8 h.2)]; rfl, sC_F.rf hh8 hn8, hh8 ▸ hC9⟩)
  · exact qa_Zout rfl (hQ _ _ ⟨by unfold fo_of2; rw [if_neg (fun h => no9 h.1)]; rfl, sC_F.rf hh9 hn9, hh9 ▸ hC9⟩)
theorem c_C_commonThemeByTrying {E : qa_V} {σ : qa_S} {c vi vo : Nat} {Z : Nat → Nat} {B : Int} {m msn : Int → Int} {mh : Int → Int → Int} {sp ct : Int} {t u : List Int} {cs : sc_C} {n : Nat → Int} {p q : Int} (hZ : qa_St E Z σ.1) (hz : qa_Sb E) (hlo : E.1 ≤ c) (hC : sR_C σ.1 c vi vo Z B m msn mh sp ct t u cs n) (hsz : c + 277 ≤ σ.2 ∧ vi < σ.2 ∧ vo < σ.2) (hB9 : B ≤ 900000000) (hp : qa_in p) (hq : qa_in q) : qa_T E qm_C_commonThemeByTrying 4 24 [.ref c, .int (qa_i p), .int (qa_i q)] σ (fun o9 τ => o9 = qa_out [0] (fo_of2 m p q (sp_lc (sm_c m p) (sm_c m q) (sm_n m p).toNat (sm_n m q).toNat)) ∧ sC_F σ τ c vi vo ∧ sR_C τ.1 c vi vo Z B m msn mh sp ct t u cs n) := by
  refine qa_enterQ (by decide) rfl qm_C_commonThemeByTrying_ok rfl rfl (fun Q9 hQ => ?_)
  have hC9 := hC
  obtain ⟨⟨hc, hn0, hn1, hn4⟩, ⟨⟨rf, hS⟩, hk⟩, ⟨⟨rf2, hSn⟩, hkn⟩, hH, hX, hR, hBb, hv1, hv2, hv3⟩ := hC
  have hk9 := hk
  have hS9 := hS
  obtain ⟨k0, k1, k2, k3, k4, k5, k6, k7, k8⟩ := hk9
  obtain ⟨hs, hpa, hcq, htq, hpp⟩ := hS9
  have hX9 := hX
  obtain ⟨gg, TT, x1, -⟩ := hX9
  refine qa_aload_n (pc' := 1) ⟨rfl, rfl⟩ rfl ?_
  refine qa_getf (pc' := 4) ⟨rfl, rfl⟩ qg_1_29 (by assumption) rfl ?_
  refine qa_aload_n (pc' := 5) ⟨rfl, rfl⟩ rfl ?_
  refine qa_iload_n (pc' := 6) ⟨rfl, rfl⟩ rfl ?_
  refine qa_callV rfl qf_C_partOf ql_1_76 (c_C_partOf (E := E) hc hS hk hp) hc rfl rfl rfl (qa_lt9 rfl) (qa_le9 rfl) (qa_le9 rfl) (qa_le9 rfl) (fun o9 τ9 hq9 => ?_)
  rcases hq9 with ⟨ok9, rfl, hq9⟩ | ⟨no9, rfl, hh9, hn9⟩
  · replace hq9 := hq9.symm; subst hq9
    refine qa_nx (pc' := 9) (st' := [_, _]) rfl rfl rfl rfl ?_
    refine qa_aload_n (pc' := 10) ⟨rfl, rfl⟩ rfl ?_
    refine qa_iload_n (pc' := 11) ⟨rfl, rfl⟩ rfl ?_
    refine qa_callV rfl qf_C_partOf ql_1_76 (c_C_partOf (E := E) hc hS hk hq) hc rfl rfl rfl (qa_lt9 rfl) (qa_le9 rfl) (qa_le9 rfl) (qa_le9 rfl) (fun o9 τ9 hq9 => ?_)
    rcases hq9 with ⟨ok8, rfl, hq9⟩ | ⟨no8, rfl, hh8, hn8⟩
    · replace hq9 := hq9.symm; subst hq9
      refine qa_nx (pc' := 14) (st' := [_, _, _]) rfl rfl rfl rfl ?_
      have kkp := k4 p ok9.1 (by omega)
      have kpp : c + 9 ≤ sm_pa (c + 1) p ∧ sm_pa (c + 1) p + 3 ≤ c + 24 := by unfold sm_pa; omega
      have kkq := k4 q ok8.1 (by omega)
      have kpq : c + 9 ≤ sm_pa (c + 1) q ∧ sm_pa (c + 1) q + 3 ≤ c + 24 := by unfold sm_pa; omega
      have knp := kkp.1
      refine qa_callV rfl qf_X_themeByTrial ql_1_146 (c_X_themeByTrial (E := E) (hpp p ok9.1 (by omega)) kkp (hpp q ok8.1 (by omega)) kkq) x1 rfl rfl rfl (qa_lt9 rfl) (qa_le9 rfl) (qa_le9 rfl) (qa_le9 rfl) (fun o9 τ9 hq9 => ?_)
      obtain ⟨rfl, hq9⟩ := hq9
      replace hq9 := hq9.symm; subst hq9
      refine qa_nx (pc' := 17) (st' := [_]) rfl rfl rfl rfl ?_
      rw [sl_theme _ _ (by omega)]
      refine qa_ireturn rfl rfl rfl (hQ _ _ ⟨by unfold fo_of2; rw [if_pos ⟨ok9, ok8⟩]; rfl, sC_F.rf rfl (Nat.le_refl _), hC9⟩)
    · exact qa_Zout rfl (hQ _ _ ⟨by unfold fo_of2; rw [if_neg (fun h => no8 h.2)]; rfl, sC_F.rf hh8 hn8, hh8 ▸ hC9⟩)
  · exact qa_Zout rfl (hQ _ _ ⟨by unfold fo_of2; rw [if_neg (fun h => no9 h.1)]; rfl, sC_F.rf hh9 hn9, hh9 ▸ hC9⟩)
theorem c_C_circleLengthByMarks {E : qa_V} {σ : qa_S} {c vi vo : Nat} {Z : Nat → Nat} {B : Int} {m msn : Int → Int} {mh : Int → Int → Int} {sp ct : Int} {t u : List Int} {cs : sc_C} {n : Nat → Int} {p : Int} (hZ : qa_St E Z σ.1) (hz : qa_Sb E) (hlo : E.1 ≤ c) (hC : sR_C σ.1 c vi vo Z B m msn mh sp ct t u cs n) (hsz : c + 277 ≤ σ.2 ∧ vi < σ.2 ∧ vo < σ.2) (hB9 : B ≤ 900000000) (hp : qa_in p) : qa_T E qm_C_circleLengthByMarks 4 24 [.ref c, .int (qa_i p)] σ (fun o9 τ => o9 = qa_out [0] (fo_of m p (sp_mk (sm_src m) 6 p 0 (fun _ => -1))) ∧ sC_F σ τ c vi vo ∧ sR_C τ.1 c vi vo Z B m msn mh sp ct t u cs n) := by
  refine qa_enterQ (by decide) rfl qm_C_circleLengthByMarks_ok rfl rfl (fun Q9 hQ => ?_)
  have hC9 := hC
  obtain ⟨⟨hc, hn0, hn1, hn4⟩, ⟨⟨rf, hS⟩, hk⟩, ⟨⟨rf2, hSn⟩, hkn⟩, hH, hX, hR, hBb, hv1, hv2, hv3⟩ := hC
  have hk9 := hk
  have hS9 := hS
  obtain ⟨k0, k1, k2, k3, k4, k5, k6, k7, k8⟩ := hk9
  obtain ⟨hs, hpa, hcq, htq, hpp⟩ := hS9
  obtain ⟨src, mw, c1, c2, c3, c4⟩ := hcq
  have hs5 := sm_src_b hk c4
  refine qa_aload_n (pc' := 1) ⟨rfl, rfl⟩ rfl ?_
  refine qa_iload_n (pc' := 2) ⟨rfl, rfl⟩ rfl ?_
  refine qa_callV rfl qf_C_requirePart ql_1_183 (c_C_requirePart (E := E) hc hS hk hp) hc rfl rfl rfl (qa_lt9 rfl) (qa_le9 rfl) (qa_le9 rfl) (qa_le9 rfl) (fun o9 τ9 hq9 => ?_)
  rcases hq9 with ⟨ok9, rfl, hq9⟩ | ⟨no9, rfl, hh9, hn9⟩
  · replace hq9 := hq9.symm; subst hq9
    refine qa_nx (pc' := 5) (st' := []) rfl rfl rfl rfl ?_
    refine qa_aload_n (pc' := 6) ⟨rfl, rfl⟩ rfl ?_
    refine qa_getf (pc' := 9) ⟨rfl, rfl⟩ qg_1_10 (by assumption) rfl ?_
    refine qa_getf (pc' := 12) ⟨rfl, rfl⟩ qg_1_187 (by assumption) rfl ?_
    refine qa_iload_n (pc' := 13) ⟨rfl, rfl⟩ rfl ?_
    refine qa_callV rfl qf_Q_circleWithMarks ql_1_202 (c_Q_circleWithMarks (E := E) (by omega) c1 c2 c3 hs5 (by omega)) c1 rfl rfl rfl (qa_lt9 rfl) (qa_le9 rfl) (qa_le9 rfl) (qa_le9 rfl) (fun o9 τ9 hq9 => ?_)
    obtain ⟨rfl, e1, ⟨mk2, w1⟩, f1⟩ := hq9
    refine qa_nx (pc' := 16) (st' := [_]) rfl rfl rfl rfl ?_
    rw [sp_mk_ext2 (fun i i0 i1 => c4 i i0 (by omega))]
    have hS2 : sR_S τ9.1 (c + 1) m rf := ⟨(f1 _ (by omega)).trans hs, (f1 _ (by omega)).trans hpa, ⟨src, mk2, (f1 _ (by omega)).trans c1, (f1 _ (by omega)).trans c2, w1, c4⟩, (by obtain ⟨bb, vv, t1, t2, t3, t4⟩ := htq; exact ⟨bb, vv, (f1 _ (by omega)).trans t1, (f1 _ (by omega)).trans t2, (f1 _ (by omega)).trans t3, t4⟩), fun i i0 i1 => (hpp i i0 i1).fr (fun q q0 q1 => f1 q (by unfold sm_pa at q0; omega))⟩
    refine qa_ireturn rfl rfl rfl (hQ _ _ ⟨by unfold fo_of; rw [if_pos ok9]; rfl, ⟨by omega, fun q q0 q1 q2 q3 => f1 q (by omega)⟩, hC9.setM (fun q hq => f1 q (by omega)) ⟨rf, hS2⟩ hk⟩)
  · exact qa_Zout rfl (hQ _ _ ⟨by unfold fo_of; rw [if_neg no9]; rfl, sC_F.rf hh9 hn9, hh9 ▸ hC9⟩)
