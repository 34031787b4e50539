set_option maxHeartbeats 16000000 in
theorem c_C_init {E : qa_V} {σ : qa_S} {c : Nat} {Z : Nat → Nat} (hz : qa_Sb E) (hlo : E.1 ≤ c) (hn : σ.2 = c + 1) (hb : σ.1 c = some (.inl (0, [.null, .null, .null, .null, .null, .null, .int (qa_i 0), .int (qa_i 0), .int (qa_i 0), .int (qa_i 0), .int (qa_i 0)]))) : qa_T E qm_C_init 276 2234 [.ref c] σ (fun o9 τ => o9 = .inl none ∧ τ.2 = c + 277 ∧ (∀ q, (q < c ∨ c + 277 ≤ q) → τ.1 q = σ.1 q) ∧ sR_C τ.1 c (c + 272) (c + 276) Z 0 sm_0 sm_0 (fun _ => sm_0) 0 0 [] [] [] (fun j => if j = 4 then -1 else 0)) := by
  refine qa_enterQ (by decide) rfl qm_C_init_ok rfl rfl (fun Q9 hQ => ?_)
  have e0 := hn
  have fr : ∀ q, (q < c ∨ c + 277 ≤ q) → σ.1 q = σ.1 q := fun _ _ => rfl
  refine qa_aload_n (pc' := 1) ⟨rfl, rfl⟩ rfl ?_
  refine qa_objI (pc' := 4) ⟨rfl, rfl⟩ qoi_1_1 qoi_i qoi_c (qa_le9 rfl) ?_
  refine qa_aload_n (pc' := 5) ⟨rfl, rfl⟩ rfl ?_
  refine qa_new (pc' := 8) (ci := 1) (n := 7) (fs := [.null, .null, .null, .int (qa_i 0), .int (qa_i 0), .int (qa_i 0), .int (qa_i 0)]) ⟨rfl, rfl⟩ qw_1 (fun r hr => by cases hr; exact ⟨rfl, rfl, rfl, by decide +kernel⟩) qn_1_7 qini_1 ?_
  refine qa_gn (fun τ1 e1 w1 f1 => ?_)
  replace w1 : _ = some (Sum.inl (1, [.null, .null, .null, .int (qa_i 0), .int (qa_i 0), .int (qa_i 0), .int (qa_i 0)]) : qa_E) := w1
  rw [e0] at e1 w1 f1 ⊢
  replace hb := (f1 _ (by omega)).trans hb
  replace fr := fun q hq => (f1 q (by have := hq; omega)).trans (fr q hq)
  replace e0 := e1
  replace e0 : τ1.2 = c + 2 := by omega
  clear f1
  refine qa_dup (pc' := 9) ⟨rfl, rfl⟩ rfl ?_
  refine qa_callI rfl qf_S_init ql_1_9 (c_S_init (E := E) (by omega) e0 w1) rfl rfl (qa_lt9 rfl) (qa_le9 rfl) (qa_le9 rfl) (qa_le9 rfl) (fun o9 τ9 hq9 => ?_)
  obtain ⟨rfl, e9, f9, hS1⟩ := hq9
  refine qa_nx (pc' := 12) (kc' := 253) (ks' := 2054) (st' := [_, _]) rfl rfl rfl rfl ?_
  replace hb := (f9 _ (by omega)).trans hb
  replace fr := fun q hq => (f9 q (by have := hq; omega)).trans (fr q hq)
  clear e0
  have e0 : τ9.2 = c + 24 := by omega
  clear f9 e9 w1
  refine qa_putf (fs' := [_, _, _, _, _, _, _, _, _, _, _]) (pc' := 15) ⟨rfl, rfl⟩ qg_1_10 qw_0 hb (by omega) rfl (fun r hr => by cases hr; exact ⟨rfl, Or.inr ⟨rfl, rfl, rfl⟩⟩) rfl rfl ?_
  refine qa_gz (fun τ2 e2 w2 f2 => ?_)
  replace fr := fun q hq => (f2 q (by have := hq; omega)).trans (fr q hq)
  replace e0 := e2.trans e0
  clear hb
  have hb := w2
  replace e0 : τ2.2 = c + 24 := by omega
  replace hS1 := hS1.fr (fun q q0 q1 => f2 q (by omega))
  clear f2 w2 e2
  refine qa_aload_n (pc' := 16) ⟨rfl, rfl⟩ rfl ?_
  refine qa_new (pc' := 19) (ci := 1) (n := 7) (fs := [.null, .null, .null, .int (qa_i 0), .int (qa_i 0), .int (qa_i 0), .int (qa_i 0)]) ⟨rfl, rfl⟩ qw_1 (fun r hr => by cases hr; exact ⟨rfl, rfl, rfl, by decide +kernel⟩) qn_1_7 qini_1 ?_
  refine qa_gn (fun τ3 e3 w3 f3 => ?_)
  replace w3 : _ = some (Sum.inl (1, [.null, .null, .null, .int (qa_i 0), .int (qa_i 0), .int (qa_i 0), .int (qa_i 0)]) : qa_E) := w3
  rw [e0] at e3 w3 f3 ⊢
  replace hb := (f3 _ (by omega)).trans hb
  replace fr := fun q hq => (f3 q (by have := hq; omega)).trans (fr q hq)
  replace e0 := e3
  replace e0 : τ3.2 = c + 25 := by omega
  replace hS1 := hS1.fr (fun q q0 q1 => f3 q (by omega))
  clear f3
  refine qa_dup (pc' := 20) ⟨rfl, rfl⟩ rfl ?_
  refine qa_callI rfl qf_S_init ql_1_9 (c_S_init (E := E) (by omega) e0 w3) rfl rfl (qa_lt9 rfl) (qa_le9 rfl) (qa_le9 rfl) (qa_le9 rfl) (fun o9 τ9 hq9 => ?_)
  obtain ⟨rfl, e9, f9, hS2⟩ := hq9
  refine qa_nx (pc' := 23) (kc' := 230) (ks' := 1874) (st' := [_, _]) rfl rfl rfl rfl ?_
  replace hb := (f9 _ (by omega)).trans hb
  replace fr := fun q hq => (f9 q (by have := hq; omega)).trans (fr q hq)
  clear e0
  have e0 : τ9.2 = c + 47 := by omega
  replace hS1 := hS1.fr (fun q q0 q1 => f9 q (by omega))
  clear f9 e9 w3
  refine qa_putf (fs' := [_, _, _, _, _, _, _, _, _, _, _]) (pc' := 26) ⟨rfl, rfl⟩ qg_1_16 qw_0 hb (by omega) rfl (fun r hr => by cases hr; exact ⟨rfl, Or.inr ⟨rfl, rfl, rfl⟩⟩) rfl rfl ?_
  refine qa_gz (fun τ4 e4 w4 f4 => ?_)
  replace fr := fun q hq => (f4 q (by have := hq; omega)).trans (fr q hq)
  replace e0 := e4.trans e0
  clear hb
  have hb := w4
  replace e0 : τ4.2 = c + 47 := by omega
  replace hS1 := hS1.fr (fun q q0 q1 => f4 q (by omega))
  replace hS2 := hS2.fr (fun q q0 q1 => f4 q (by omega))
  clear f4 w4 e4
  refine qa_aload_n (pc' := 27) ⟨rfl, rfl⟩ rfl ?_
  refine qa_new (pc' := 30) (ci := 5) (n := 3) (fs := [.null, .int (qa_i 0), .int (qa_i 0)]) ⟨rfl, rfl⟩ qw_5 (fun r hr => by cases hr; exact ⟨rfl, rfl, rfl, by decide +kernel⟩) qn_1_19 qini_5 ?_
  refine qa_gn (fun τ5 e5 w5 f5 => ?_)
  replace w5 : _ = some (Sum.inl (5, [.null, .int (qa_i 0), .int (qa_i 0)]) : qa_E) := w5
  rw [e0] at e5 w5 f5 ⊢
  replace hb := (f5 _ (by omega)).trans hb
  replace fr := fun q hq => (f5 q (by have := hq; omega)).trans (fr q hq)
  replace e0 := e5
  replace e0 : τ5.2 = c + 48 := by omega
  replace hS1 := hS1.fr (fun q q0 q1 => f5 q (by omega))
  replace hS2 := hS2.fr (fun q q0 q1 => f5 q (by omega))
  clear f5
  refine qa_dup (pc' := 31) ⟨rfl, rfl⟩ rfl ?_
  refine qa_callI rfl qf_H_init ql_1_21 (c_H_init (E := E) (by omega) e0 w5) rfl rfl (qa_lt9 rfl) (qa_le9 rfl) (qa_le9 rfl) (qa_le9 rfl) (fun o9 τ9 hq9 => ?_)
  obtain ⟨rfl, e9, f9, hHH⟩ := hq9
  refine qa_nx (pc' := 34) (kc' := 21) (ks' := 242) (st' := [_, _]) rfl rfl rfl rfl ?_
  replace hb := (f9 _ (by omega)).trans hb
  replace fr := fun q hq => (f9 q (by have := hq; omega)).trans (fr q hq)
  clear e0
  have e0 : τ9.2 = c + 256 := by omega
  replace hS1 := hS1.fr (fun q q0 q1 => f9 q (by omega))
  replace hS2 := hS2.fr (fun q q0 q1 => f9 q (by omega))
  clear f9 e9 w5
  refine qa_putf (fs' := [_, _, _, _, _, _, _, _, _, _, _]) (pc' := 37) ⟨rfl, rfl⟩ qg_1_22 qw_0 hb (by omega) rfl (fun r hr => by cases hr; exact ⟨rfl, Or.inr ⟨rfl, rfl, rfl⟩⟩) rfl rfl ?_
  refine qa_gz (fun τ6 e6 w6 f6 => ?_)
  replace fr := fun q hq => (f6 q (by have := hq; omega)).trans (fr q hq)
  replace e0 := e6.trans e0
  clear hb
  have hb := w6
  replace e0 : τ6.2 = c + 256 := by omega
  replace hS1 := hS1.fr (fun q q0 q1 => f6 q (by omega))
  replace hS2 := hS2.fr (fun q q0 q1 => f6 q (by omega))
  replace hHH := hHH.fr (fun q q0 q1 => f6 q (by omega))
  clear f6 w6 e6
  refine qa_aload_n (pc' := 38) ⟨rfl, rfl⟩ rfl ?_
  refine qa_new (pc' := 41) (ci := 6) (n := 2) (fs := [.null, .null]) ⟨rfl, rfl⟩ qw_6 (fun r hr => by cases hr; exact ⟨rfl, rfl, rfl, by decide +kernel⟩) qn_1_26 qini_6 ?_
  refine qa_gn (fun τ7 e7 w7 f7 => ?_)
  replace w7 : _ = some (Sum.inl (6, [.null, .null]) : qa_E) := w7
  rw [e0] at e7 w7 f7 ⊢
  replace hb := (f7 _ (by omega)).trans hb
  replace fr := fun q hq => (f7 q (by have := hq; omega)).trans (fr q hq)
  replace e0 := e7
  replace e0 : τ7.2 = c + 257 := by omega
  replace hS1 := hS1.fr (fun q q0 q1 => f7 q (by omega))
  replace hS2 := hS2.fr (fun q q0 q1 => f7 q (by omega))
  replace hHH := hHH.fr (fun q q0 q1 => f7 q (by omega))
  clear f7
  refine qa_dup (pc' := 42) ⟨rfl, rfl⟩ rfl ?_
  refine qa_callI rfl qf_X_init ql_1_28 (c_X_init (E := E) (by omega) e0 w7) rfl rfl (qa_lt9 rfl) (qa_le9 rfl) (qa_le9 rfl) (qa_le9 rfl) (fun o9 τ9 hq9 => ?_)
  obtain ⟨rfl, e9, f9, hXX⟩ := hq9
  refine qa_nx (pc' := 45) (kc' := 7) (ks' := 98) (st' := [_, _]) rfl rfl rfl rfl ?_
  replace hb := (f9 _ (by omega)).trans hb
  replace fr := fun q hq => (f9 q (by have := hq; omega)).trans (fr q hq)
  clear e0
  have e0 : τ9.2 = c + 270 := by omega
  replace hS1 := hS1.fr (fun q q0 q1 => f9 q (by omega))
  replace hS2 := hS2.fr (fun q q0 q1 => f9 q (by omega))
  replace hHH := hHH.fr (fun q q0 q1 => f9 q (by omega))
  clear f9 e9 w7
  refine qa_putf (fs' := [_, _, _, _, _, _, _, _, _, _, _]) (pc' := 48) ⟨rfl, rfl⟩ qg_1_29 qw_0 hb (by omega) rfl (fun r hr => by cases hr; exact ⟨rfl, Or.inr ⟨rfl, rfl, rfl⟩⟩) rfl rfl ?_
  refine qa_gz (fun τ8 e8 w8 f8 => ?_)
  replace fr := fun q hq => (f8 q (by have := hq; omega)).trans (fr q hq)
  replace e0 := e8.trans e0
  clear hb
  have hb := w8
  replace e0 : τ8.2 = c + 270 := by omega
  replace hS1 := hS1.fr (fun q q0 q1 => f8 q (by omega))
  replace hS2 := hS2.fr (fun q q0 q1 => f8 q (by omega))
  replace hHH := hHH.fr (fun q q0 q1 => f8 q (by omega))
  replace hXX := hXX.fr (fun q q0 q1 => f8 q (by omega))
  clear f8 w8 e8
  refine qa_aload_n (pc' := 49) ⟨rfl, rfl⟩ rfl ?_
  refine qa_new (pc' := 52) (ci := 7) (n := 6) (fs := [.null, .null, .null, .int (qa_i 0), .int (qa_i 0), .int (qa_i 0)]) ⟨rfl, rfl⟩ qw_7 (fun r hr => by cases hr; exact ⟨rfl, rfl, rfl, by decide +kernel⟩) qn_1_33 qini_7 ?_
  refine qa_gn (fun τ9 e9 w9 f9 => ?_)
  replace w9 : _ = some (Sum.inl (7, [.null, .null, .null, .int (qa_i 0), .int (qa_i 0), .int (qa_i 0)]) : qa_E) := w9
  rw [e0] at e9 w9 f9 ⊢
  replace hb := (f9 _ (by omega)).trans hb
  replace fr := fun q hq => (f9 q (by have := hq; omega)).trans (fr q hq)
  replace e0 := e9
  replace e0 : τ9.2 = c + 271 := by omega
  replace hS1 := hS1.fr (fun q q0 q1 => f9 q (by omega))
  replace hS2 := hS2.fr (fun q q0 q1 => f9 q (by omega))
  replace hHH := hHH.fr (fun q q0 q1 => f9 q (by omega))
  replace hXX := hXX.fr (fun q q0 q1 => f9 q (by omega))
  clear f9
  refine qa_dup (pc' := 53) ⟨rfl, rfl⟩ rfl ?_
  refine qa_callI rfl qf_R_init ql_1_35 (c_R_init (E := E) (Z := Z) hz (by omega) e0 w9) rfl rfl (qa_lt9 rfl) (qa_le9 rfl) (qa_le9 rfl) (qa_le9 rfl) (fun o9 τ9 hq9 => ?_)
  obtain ⟨rfl, e9, f9, hRR⟩ := hq9
  refine qa_nx (pc' := 56) (kc' := 2) (ks' := 20) (st' := [_, _]) rfl rfl rfl rfl ?_
  replace hb := (f9 _ (by omega)).trans hb
  replace fr := fun q hq => (f9 q (by have := hq; omega)).trans (fr q hq)
  clear e0
  have e0 : τ9.2 = c + 275 := by omega
  replace hS1 := hS1.fr (fun q q0 q1 => f9 q (by omega))
  replace hS2 := hS2.fr (fun q q0 q1 => f9 q (by omega))
  replace hHH := hHH.fr (fun q q0 q1 => f9 q (by omega))
  replace hXX := hXX.fr (fun q q0 q1 => f9 q (by omega))
  clear f9 e9 w9
  refine qa_putf (fs' := [_, _, _, _, _, _, _, _, _, _, _]) (pc' := 59) ⟨rfl, rfl⟩ qg_1_36 qw_0 hb (by omega) rfl (fun r hr => by cases hr; exact ⟨rfl, Or.inr ⟨rfl, rfl, rfl⟩⟩) rfl rfl ?_
  refine qa_gz (fun τ10 e10 w10 f10 => ?_)
  replace fr := fun q hq => (f10 q (by have := hq; omega)).trans (fr q hq)
  replace e0 := e10.trans e0
  clear hb
  have hb := w10
  replace e0 : τ10.2 = c + 275 := by omega
  replace hS1 := hS1.fr (fun q q0 q1 => f10 q (by omega))
  replace hS2 := hS2.fr (fun q q0 q1 => f10 q (by omega))
  replace hHH := hHH.fr (fun q q0 q1 => f10 q (by omega))
  replace hXX := hXX.fr (fun q q0 q1 => f10 q (by omega))
  replace hRR := hRR.fr (fun q hq => f10 q (by omega))
  clear f10 w10 e10
  refine qa_aload_n (pc' := 60) ⟨rfl, rfl⟩ rfl ?_
  refine qa_new (pc' := 63) (ci := 8) (n := 4) (fs := [.null, .int (qa_i 0), .int (qa_i 0), .int (qa_i 0)]) ⟨rfl, rfl⟩ qw_8 (fun r hr => by cases hr; exact ⟨rfl, rfl, rfl, by decide +kernel⟩) qn_1_40 qini_8 ?_
  refine qa_gn (fun τ11 e11 w11 f11 => ?_)
  replace w11 : _ = some (Sum.inl (8, [.null, .int (qa_i 0), .int (qa_i 0), .int (qa_i 0)]) : qa_E) := w11
  rw [e0] at e11 w11 f11 ⊢
  replace hb := (f11 _ (by omega)).trans hb
  replace fr := fun q hq => (f11 q (by have := hq; omega)).trans (fr q hq)
  replace e0 := e11
  replace e0 : τ11.2 = c + 276 := by omega
  replace hS1 := hS1.fr (fun q q0 q1 => f11 q (by omega))
  replace hS2 := hS2.fr (fun q q0 q1 => f11 q (by omega))
  replace hHH := hHH.fr (fun q q0 q1 => f11 q (by omega))
  replace hXX := hXX.fr (fun q q0 q1 => f11 q (by omega))
  replace hRR := hRR.fr (fun q hq => f11 q (by omega))
  clear f11
  refine qa_dup (pc' := 64) ⟨rfl, rfl⟩ rfl ?_
  refine qa_callI rfl qf_SB_init ql_1_42 (c_SB_init (E := E) hz (by omega) e0 w11) rfl rfl (qa_lt9 rfl) (qa_le9 rfl) (qa_le9 rfl) (qa_le9 rfl) (fun o9 τ9 hq9 => ?_)
  obtain ⟨rfl, e9, f9, hBB⟩ := hq9
  refine qa_nx (pc' := 67) (kc' := 0) (ks' := 0) (st' := [_, _]) rfl rfl rfl rfl ?_
  replace hb := (f9 _ (by omega)).trans hb
  replace fr := fun q hq => (f9 q (by have := hq; omega)).trans (fr q hq)
  clear e0
  have e0 : τ9.2 = c + 277 := by omega
  replace hS1 := hS1.fr (fun q q0 q1 => f9 q (by omega))
  replace hS2 := hS2.fr (fun q q0 q1 => f9 q (by omega))
  replace hHH := hHH.fr (fun q q0 q1 => f9 q (by omega))
  replace hXX := hXX.fr (fun q q0 q1 => f9 q (by omega))
  replace hRR := hRR.fr (fun q hq => f9 q (by omega))
  clear f9 e9 w11
  refine qa_putf (fs' := [_, _, _, _, _, _, _, _, _, _, _]) (pc' := 70) ⟨rfl, rfl⟩ qg_1_43 qw_0 hb (by omega) rfl (fun r hr => by cases hr; exact ⟨rfl, Or.inr ⟨rfl, rfl, rfl⟩⟩) rfl rfl ?_
  refine qa_gz (fun τ12 e12 w12 f12 => ?_)
  replace fr := fun q hq => (f12 q (by have := hq; omega)).trans (fr q hq)
  replace e0 := e12.trans e0
  clear hb
  have hb := w12
  replace e0 : τ12.2 = c + 277 := by omega
  replace hS1 := hS1.fr (fun q q0 q1 => f12 q (by omega))
  replace hS2 := hS2.fr (fun q q0 q1 => f12 q (by omega))
  replace hHH := hHH.fr (fun q q0 q1 => f12 q (by omega))
  replace hXX := hXX.fr (fun q q0 q1 => f12 q (by omega))
  replace hRR := hRR.fr (fun q hq => f12 q (by omega))
  replace hBB := hBB.fr (f12 _ (by omega)) (f12 _ (by omega))
  clear f12 w12 e12
  refine qa_aload_n (pc' := 71) ⟨rfl, rfl⟩ rfl ?_
  refine qa_iconst (pc' := 72) ⟨rfl, rfl⟩ ?_
  refine qa_putf (fs' := [_, _, _, _, _, _, _, _, _, _, _]) (pc' := 75) ⟨rfl, rfl⟩ qg_1_47 qw_0 hb (by omega) rfl (fun r hr => by cases hr; exact ⟨rfl, Or.inl rfl⟩) rfl rfl ?_
  refine qa_gz (fun τ13 e13 w13 f13 => ?_)
  replace fr := fun q hq => (f13 q (by have := hq; omega)).trans (fr q hq)
  replace e0 := e13.trans e0
  have hb := w13
  replace hS1 := hS1.fr (fun q q0 q1 => f13 q (by omega))
  replace hS2 := hS2.fr (fun q q0 q1 => f13 q (by omega))
  replace hHH := hHH.fr (fun q q0 q1 => f13 q (by omega))
  replace hXX := hXX.fr (fun q q0 q1 => f13 q (by omega))
  replace hRR := hRR.fr (fun q hq => f13 q (by omega))
  replace hBB := hBB.fr (f13 _ (by omega)) (f13 _ (by omega))
  refine qa_return rfl rfl (hQ _ _ ⟨rfl, by omega, fr, ⟨hb, ⟨by decide, by decide⟩, ⟨by decide, by decide⟩, ⟨by decide, by decide⟩⟩, ⟨⟨0, hS1⟩, sm_0_ok⟩, ⟨⟨0, hS2⟩, sm_0_ok⟩, hHH, hXX, hRR, hBB, Or.inl rfl, Or.inl rfl, by omega⟩)
