theorem qM_let_k : ∀ n : Fin 54, (qa_up (qa_up (qa_up (qa_up (qa_up (qa_up (qa_up (qa_up (qa_up (qa_up (qa_up (qa_up (qa_up (qa_up (qa_up (qa_up (qa_up (qa_up (qa_up (qa_up (qa_up (qa_up (qa_up (qa_up (qa_up (qa_up (qa_up (qa_up (qa_up (qa_up (qa_up (qa_up (qa_up (qa_up (qa_up (qa_up (qa_up (qa_up (qa_up (qa_up (qa_up (qa_up (qa_up (qa_up (qa_up (qa_up (qa_up (qa_up (qa_up (qa_up (qa_up (qa_up (qa_up (qa_up (fun _ => 0) 0 112) 1 97) 2 114) 3 116) 4 110) 5 111) 6 116) 7 101) 8 32) 9 114) 10 101) 11 115) 12 116) 13 32) 14 108) 15 97) 16 115) 17 116) 18 32) 19 109) 20 111) 21 118) 22 101) 23 32) 24 116) 25 117) 26 110) 27 101) 28 32) 29 99) 30 117) 31 101) 32 32) 33 97) 34 108) 35 111) 36 110) 37 101) 38 32) 39 98) 40 97) 41 114) 42 32) 43 116) 44 101) 45 109) 46 112) 47 111) 48 32) 49 112) 50 108) 51 97) 52 121) 53 32) (n.val : Int) = qM_let (n.val : Int) := by decide +kernel
theorem qM_beg_k : ∀ n : Fin 12, (qa_up (qa_up (qa_up (qa_up (qa_up (qa_up (qa_up (qa_up (qa_up (qa_up (qa_up (qa_up (fun _ => 0) 0 0) 1 4) 2 9) 3 14) 4 19) 5 24) 6 29) 7 33) 8 39) 9 43) 10 49) 11 54) (n.val : Int) = qM_beg (n.val : Int) := by decide +kernel
theorem sm_0_up : qa_up (qa_up (qa_up (fun _ => 0) 1 8) 2 1) 135 60 = sm_0 := by
  funext q
  unfold qa_up sm_0
  by_cases h : q = 135
  · rw [if_pos h, if_neg (by omega), if_neg (by omega), if_pos h]
  · rw [if_neg h, if_neg h]
    by_cases h2 : q = 2
    · rw [if_pos h2, if_neg (by omega), if_pos h2]
    · rw [if_neg h2, if_neg h2]
set_option maxHeartbeats 16000000 in
theorem c_M_init {E : qa_V} {σ : qa_S} {μ : Nat} (hlo : E.1 ≤ μ) (hn : σ.2 = μ + 1) (hb : σ.1 μ = some (.inl (9, [.null, .null, .null, .int (qa_i 0), .null, .int (qa_i 0), .int (qa_i 0), .int (qa_i 0), .int (qa_i 0), .int (qa_i 0), .int (qa_i 0), .int (qa_i 0), .int (qa_i 0), .null, .int (qa_i 0), .null, .int (qa_i 0), .int (qa_i 0), .null, .int (qa_i 0), .null, .null, .null, .int (qa_i 0), .int (qa_i 0), .int (qa_i 0), .int (qa_i 0)]))) : qa_T E qm_M_init 10 2217 [.ref μ] σ (fun o9 τ => o9 = .inl none ∧ τ.2 = μ + 11 ∧ (∀ q, (q < μ ∨ μ + 11 ≤ q) → τ.1 q = σ.1 q) ∧ sR_M τ.1 μ (fun j => if j = 6 ∨ j = 7 ∨ j = 9 then -1 else 0) sm_0 (fun _ => 0) (fun _ => 0) (fun _ => 0) (fun _ => 0)) := by
  refine qa_enterQ (by decide) rfl qm_M_init_ok rfl rfl (fun Q9 hQ => ?_)
  have e0 := hn
  have fr : ∀ q, (q < μ ∨ μ + 11 ≤ q) → σ.1 q = σ.1 q := fun _ _ => rfl
  refine qa_aload_n (pc' := 1) ⟨rfl, rfl⟩ rfl ?_
  refine qa_objI (pc' := 4) ⟨rfl, rfl⟩ qoi_10_1 qoi_i qoi_c (qa_le9 rfl) ?_
  refine qa_aload_n (pc' := 5) ⟨rfl, rfl⟩ rfl ?_
  refine qa_sipush (z := 146) (pc' := 8) ⟨rfl, rfl⟩ rfl ?_
  refine qa_newarr (pc' := 10) (t := 0) (N := 146) (y := (146, .inl (fun q => qa_i ((fun _ : Int => 0) q)))) ⟨rfl, rfl⟩ rfl rfl qa_ac_int rfl (by omega) (fun _ _ => rfl) (qa_le9 rfl) (fun _ _ => Iff.rfl) ?_
  refine qa_gn (fun τ1 e1 w1 f1 => ?_)
  replace w1 : _ = some (qa_ia 146 (fun _ => 0)) := w1
  rw [e0] at e1 w1 f1 ⊢
  replace hb := (f1 _ (by omega)).trans hb
  replace fr := fun q hq => (f1 q (by have := hq; omega)).trans (fr q hq)
  replace e0 := e1
  have a1 := w1
  replace e0 : τ1.2 = μ + 2 := by omega
  clear f1 e1
  refine qa_putf (fs' := [_, _, _, _, _, _, _, _, _, _, _, _, _, _, _, _, _, _, _, _, _, _, _, _, _, _, _]) (pc' := 13) ⟨rfl, rfl⟩ qg_10_9 qw_9 hb (by omega) rfl (fun r hr => by cases hr; exact ⟨rfl, Or.inr ⟨rfl, rfl, rfl⟩⟩) rfl rfl ?_
  refine qa_gz (fun τ2 e2 w2 f2 => ?_)
  replace a1 := (f2 _ (by omega)).trans a1
  replace fr := fun q hq => (f2 q (by have := hq; omega)).trans (fr q hq)
  replace e0 := e2.trans e0
  have hb := w2
  refine qa_aload_n (pc' := 14) ⟨rfl, rfl⟩ rfl ?_
  refine qa_sipush (z := 146) (pc' := 17) ⟨rfl, rfl⟩ rfl ?_
  refine qa_newarr (pc' := 19) (t := 0) (N := 146) (y := (146, .inl (fun q => qa_i ((fun _ : Int => 0) q)))) ⟨rfl, rfl⟩ rfl rfl qa_ac_int rfl (by omega) (fun _ _ => rfl) (qa_le9 rfl) (fun _ _ => Iff.rfl) ?_
  refine qa_gn (fun τ3 e3 w3 f3 => ?_)
  replace w3 : _ = some (qa_ia 146 (fun _ => 0)) := w3
  rw [e0] at e3 w3 f3 ⊢
  replace a1 := (f3 _ (by omega)).trans a1
  replace hb := (f3 _ (by omega)).trans hb
  replace fr := fun q hq => (f3 q (by have := hq; omega)).trans (fr q hq)
  replace e0 := e3
  have a2 := w3
  replace e0 : τ3.2 = μ + 3 := by omega
  clear f3 e3
  refine qa_putf (fs' := [_, _, _, _, _, _, _, _, _, _, _, _, _, _, _, _, _, _, _, _, _, _, _, _, _, _, _]) (pc' := 22) ⟨rfl, rfl⟩ qg_10_13 qw_9 hb (by omega) rfl (fun r hr => by cases hr; exact ⟨rfl, Or.inr ⟨rfl, rfl, rfl⟩⟩) rfl rfl ?_
  refine qa_gz (fun τ4 e4 w4 f4 => ?_)
  replace a1 := (f4 _ (by omega)).trans a1
  replace a2 := (f4 _ (by omega)).trans a2
  replace fr := fun q hq => (f4 q (by have := hq; omega)).trans (fr q hq)
  replace e0 := e4.trans e0
  have hb := w4
  refine qa_aload_n (pc' := 23) ⟨rfl, rfl⟩ rfl ?_
  refine qa_sipush (z := 146) (pc' := 26) ⟨rfl, rfl⟩ rfl ?_
  refine qa_newarr (pc' := 28) (t := 0) (N := 146) (y := (146, .inl (fun q => qa_i ((fun _ : Int => 0) q)))) ⟨rfl, rfl⟩ rfl rfl qa_ac_int rfl (by omega) (fun _ _ => rfl) (qa_le9 rfl) (fun _ _ => Iff.rfl) ?_
  refine qa_gn (fun τ5 e5 w5 f5 => ?_)
  replace w5 : _ = some (qa_ia 146 (fun _ => 0)) := w5
  rw [e0] at e5 w5 f5 ⊢
  replace a1 := (f5 _ (by omega)).trans a1
  replace a2 := (f5 _ (by omega)).trans a2
  replace hb := (f5 _ (by omega)).trans hb
  replace fr := fun q hq => (f5 q (by have := hq; omega)).trans (fr q hq)
  replace e0 := e5
  have a3 := w5
  replace e0 : τ5.2 = μ + 4 := by omega
  clear f5 e5
  refine qa_putf (fs' := [_, _, _, _, _, _, _, _, _, _, _, _, _, _, _, _, _, _, _, _, _, _, _, _, _, _, _]) (pc' := 31) ⟨rfl, rfl⟩ qg_10_16 qw_9 hb (by omega) rfl (fun r hr => by cases hr; exact ⟨rfl, Or.inr ⟨rfl, rfl, rfl⟩⟩) rfl rfl ?_
  refine qa_gz (fun τ6 e6 w6 f6 => ?_)
  replace a1 := (f6 _ (by omega)).trans a1
  replace a2 := (f6 _ (by omega)).trans a2
  replace a3 := (f6 _ (by omega)).trans a3
  replace fr := fun q hq => (f6 q (by have := hq; omega)).trans (fr q hq)
  replace e0 := e6.trans e0
  have hb := w6
  refine qa_aload_n (pc' := 32) ⟨rfl, rfl⟩ rfl ?_
  refine qa_sipush (z := 1168) (pc' := 35) ⟨rfl, rfl⟩ rfl ?_
  refine qa_newarr (pc' := 37) (t := 0) (N := 1168) (y := (1168, .inl (fun q => qa_i ((fun _ : Int => 0) q)))) ⟨rfl, rfl⟩ rfl rfl qa_ac_int rfl (by omega) (fun _ _ => rfl) (qa_le9 rfl) (fun _ _ => Iff.rfl) ?_
  refine qa_gn (fun τ7 e7 w7 f7 => ?_)
  replace w7 : _ = some (qa_ia 1168 (fun _ => 0)) := w7
  rw [e0] at e7 w7 f7 ⊢
  replace a1 := (f7 _ (by omega)).trans a1
  replace a2 := (f7 _ (by omega)).trans a2
  replace a3 := (f7 _ (by omega)).trans a3
  replace hb := (f7 _ (by omega)).trans hb
  replace fr := fun q hq => (f7 q (by have := hq; omega)).trans (fr q hq)
  replace e0 := e7
  have a4 := w7
  replace e0 : τ7.2 = μ + 5 := by omega
  clear f7 e7
  refine qa_putf (fs' := [_, _, _, _, _, _, _, _, _, _, _, _, _, _, _, _, _, _, _, _, _, _, _, _, _, _, _]) (pc' := 40) ⟨rfl, rfl⟩ qg_10_19 qw_9 hb (by omega) rfl (fun r hr => by cases hr; exact ⟨rfl, Or.inr ⟨rfl, rfl, rfl⟩⟩) rfl rfl ?_
  refine qa_gz (fun τ8 e8 w8 f8 => ?_)
  replace a1 := (f8 _ (by omega)).trans a1
  replace a2 := (f8 _ (by omega)).trans a2
  replace a3 := (f8 _ (by omega)).trans a3
  replace a4 := (f8 _ (by omega)).trans a4
  replace fr := fun q hq => (f8 q (by have := hq; omega)).trans (fr q hq)
  replace e0 := e8.trans e0
  have hb := w8
  refine qa_aload_n (pc' := 41) ⟨rfl, rfl⟩ rfl ?_
  refine qa_iconst (pc' := 42) ⟨rfl, rfl⟩ ?_
  refine qa_putf (fs' := [_, _, _, _, _, _, _, _, _, _, _, _, _, _, _, _, _, _, _, _, _, _, _, _, _, _, _]) (pc' := 45) ⟨rfl, rfl⟩ qg_10_22 qw_9 hb (by omega) rfl (fun r hr => by cases hr; exact ⟨rfl, Or.inl rfl⟩) rfl rfl ?_
  refine qa_gz (fun τ9 e9 w9 f9 => ?_)
  replace a1 := (f9 _ (by omega)).trans a1
  replace a2 := (f9 _ (by omega)).trans a2
  replace a3 := (f9 _ (by omega)).trans a3
  replace a4 := (f9 _ (by omega)).trans a4
  replace fr := fun q hq => (f9 q (by have := hq; omega)).trans (fr q hq)
  replace e0 := e9.trans e0
  have hb := w9
  refine qa_aload_n (pc' := 46) ⟨rfl, rfl⟩ rfl ?_
  refine qa_iconst (pc' := 47) ⟨rfl, rfl⟩ ?_
  refine qa_putf (fs' := [_, _, _, _, _, _, _, _, _, _, _, _, _, _, _, _, _, _, _, _, _, _, _, _, _, _, _]) (pc' := 50) ⟨rfl, rfl⟩ qg_10_26 qw_9 hb (by omega) rfl (fun r hr => by cases hr; exact ⟨rfl, Or.inl rfl⟩) rfl rfl ?_
  refine qa_gz (fun τ10 e10 w10 f10 => ?_)
  replace a1 := (f10 _ (by omega)).trans a1
  replace a2 := (f10 _ (by omega)).trans a2
  replace a3 := (f10 _ (by omega)).trans a3
  replace a4 := (f10 _ (by omega)).trans a4
  replace fr := fun q hq => (f10 q (by have := hq; omega)).trans (fr q hq)
  replace e0 := e10.trans e0
  have hb := w10
  refine qa_aload_n (pc' := 51) ⟨rfl, rfl⟩ rfl ?_
  refine qa_iconst (pc' := 52) ⟨rfl, rfl⟩ ?_
  refine qa_putf (fs' := [_, _, _, _, _, _, _, _, _, _, _, _, _, _, _, _, _, _, _, _, _, _, _, _, _, _, _]) (pc' := 55) ⟨rfl, rfl⟩ qg_10_29 qw_9 hb (by omega) rfl (fun r hr => by cases hr; exact ⟨rfl, Or.inl rfl⟩) rfl rfl ?_
  refine qa_gz (fun τ11 e11 w11 f11 => ?_)
  replace a1 := (f11 _ (by omega)).trans a1
  replace a2 := (f11 _ (by omega)).trans a2
  replace a3 := (f11 _ (by omega)).trans a3
  replace a4 := (f11 _ (by omega)).trans a4
  replace fr := fun q hq => (f11 q (by have := hq; omega)).trans (fr q hq)
  replace e0 := e11.trans e0
  have hb := w11
  refine qa_aload_n (pc' := 56) ⟨rfl, rfl⟩ rfl ?_
  refine qa_bipush (z := 60) (pc' := 58) ⟨rfl, rfl⟩ rfl ?_
  refine qa_newarr (pc' := 60) (t := 0) (N := 60) (y := (60, .inl (fun q => qa_i ((fun _ : Int => 0) q)))) ⟨rfl, rfl⟩ rfl rfl qa_ac_int rfl (by omega) (fun _ _ => rfl) (qa_le9 rfl) (fun _ _ => Iff.rfl) ?_
  refine qa_gn (fun τ12 e12 w12 f12 => ?_)
  replace w12 : _ = some (qa_ia 60 (fun _ => 0)) := w12
  rw [e0] at e12 w12 f12 ⊢
  replace a1 := (f12 _ (by omega)).trans a1
  replace a2 := (f12 _ (by omega)).trans a2
  replace a3 := (f12 _ (by omega)).trans a3
  replace a4 := (f12 _ (by omega)).trans a4
  replace hb := (f12 _ (by omega)).trans hb
  replace fr := fun q hq => (f12 q (by have := hq; omega)).trans (fr q hq)
  replace e0 := e12
  have a5 := w12
  replace e0 : τ12.2 = μ + 6 := by omega
  clear f12 e12
  refine qa_putf (fs' := [_, _, _, _, _, _, _, _, _, _, _, _, _, _, _, _, _, _, _, _, _, _, _, _, _, _, _]) (pc' := 63) ⟨rfl, rfl⟩ qg_10_32 qw_9 hb (by omega) rfl (fun r hr => by cases hr; exact ⟨rfl, Or.inr ⟨rfl, rfl, rfl⟩⟩) rfl rfl ?_
  refine qa_gz (fun τ13 e13 w13 f13 => ?_)
  replace a1 := (f13 _ (by omega)).trans a1
  replace a2 := (f13 _ (by omega)).trans a2
  replace a3 := (f13 _ (by omega)).trans a3
  replace a4 := (f13 _ (by omega)).trans a4
  replace a5 := (f13 _ (by omega)).trans a5
  replace fr := fun q hq => (f13 q (by have := hq; omega)).trans (fr q hq)
  replace e0 := e13.trans e0
  have hb := w13
  refine qa_aload_n (pc' := 64) ⟨rfl, rfl⟩ rfl ?_
  refine qa_bipush (z := 121) (pc' := 66) ⟨rfl, rfl⟩ rfl ?_
  refine qa_newarr (pc' := 68) (t := 0) (N := 121) (y := (121, .inl (fun q => qa_i ((fun _ : Int => 0) q)))) ⟨rfl, rfl⟩ rfl rfl qa_ac_int rfl (by omega) (fun _ _ => rfl) (qa_le9 rfl) (fun _ _ => Iff.rfl) ?_
  refine qa_gn (fun τ14 e14 w14 f14 => ?_)
  replace w14 : _ = some (qa_ia 121 (fun _ => 0)) := w14
  rw [e0] at e14 w14 f14 ⊢
  replace a1 := (f14 _ (by omega)).trans a1
  replace a2 := (f14 _ (by omega)).trans a2
  replace a3 := (f14 _ (by omega)).trans a3
  replace a4 := (f14 _ (by omega)).trans a4
  replace a5 := (f14 _ (by omega)).trans a5
  replace hb := (f14 _ (by omega)).trans hb
  replace fr := fun q hq => (f14 q (by have := hq; omega)).trans (fr q hq)
  replace e0 := e14
  have a6 := w14
  replace e0 : τ14.2 = μ + 7 := by omega
  clear f14 e14
  refine qa_putf (fs' := [_, _, _, _, _, _, _, _, _, _, _, _, _, _, _, _, _, _, _, _, _, _, _, _, _, _, _]) (pc' := 71) ⟨rfl, rfl⟩ qg_10_35 qw_9 hb (by omega) rfl (fun r hr => by cases hr; exact ⟨rfl, Or.inr ⟨rfl, rfl, rfl⟩⟩) rfl rfl ?_
  refine qa_gz (fun τ15 e15 w15 f15 => ?_)
  replace a1 := (f15 _ (by omega)).trans a1
  replace a2 := (f15 _ (by omega)).trans a2
  replace a3 := (f15 _ (by omega)).trans a3
  replace a4 := (f15 _ (by omega)).trans a4
  replace a5 := (f15 _ (by omega)).trans a5
  replace a6 := (f15 _ (by omega)).trans a6
  replace fr := fun q hq => (f15 q (by have := hq; omega)).trans (fr q hq)
  replace e0 := e15.trans e0
  have hb := w15
  refine qa_aload_n (pc' := 72) ⟨rfl, rfl⟩ rfl ?_
  refine qa_bipush (z := 120) (pc' := 74) ⟨rfl, rfl⟩ rfl ?_
  refine qa_newarr (pc' := 76) (t := 0) (N := 120) (y := (120, .inl (fun q => qa_i ((fun _ : Int => 0) q)))) ⟨rfl, rfl⟩ rfl rfl qa_ac_int rfl (by omega) (fun _ _ => rfl) (qa_le9 rfl) (fun _ _ => Iff.rfl) ?_
  refine qa_gn (fun τ16 e16 w16 f16 => ?_)
  replace w16 : _ = some (qa_ia 120 (fun _ => 0)) := w16
  rw [e0] at e16 w16 f16 ⊢
  replace a1 := (f16 _ (by omega)).trans a1
  replace a2 := (f16 _ (by omega)).trans a2
  replace a3 := (f16 _ (by omega)).trans a3
  replace a4 := (f16 _ (by omega)).trans a4
  replace a5 := (f16 _ (by omega)).trans a5
  replace a6 := (f16 _ (by omega)).trans a6
  replace hb := (f16 _ (by omega)).trans hb
  replace fr := fun q hq => (f16 q (by have := hq; omega)).trans (fr q hq)
  replace e0 := e16
  have a7 := w16
  replace e0 : τ16.2 = μ + 8 := by omega
  clear f16 e16
  refine qa_putf (fs' := [_, _, _, _, _, _, _, _, _, _, _, _, _, _, _, _, _, _, _, _, _, _, _, _, _, _, _]) (pc' := 79) ⟨rfl, rfl⟩ qg_10_38 qw_9 hb (by omega) rfl (fun r hr => by cases hr; exact ⟨rfl, Or.inr ⟨rfl, rfl, rfl⟩⟩) rfl rfl ?_
  refine qa_gz (fun τ17 e17 w17 f17 => ?_)
  replace a1 := (f17 _ (by omega)).trans a1
  replace a2 := (f17 _ (by omega)).trans a2
  replace a3 := (f17 _ (by omega)).trans a3
  replace a4 := (f17 _ (by omega)).trans a4
  replace a5 := (f17 _ (by omega)).trans a5
  replace a6 := (f17 _ (by omega)).trans a6
  replace a7 := (f17 _ (by omega)).trans a7
  replace fr := fun q hq => (f17 q (by have := hq; omega)).trans (fr q hq)
  replace e0 := e17.trans e0
  have hb := w17
  refine qa_aload_n (pc' := 80) ⟨rfl, rfl⟩ rfl ?_
  refine qa_bipush (z := 54) (pc' := 82) ⟨rfl, rfl⟩ rfl ?_
  refine qa_newarr (pc' := 84) (t := 3) (N := 54) (y := (54, .inl (fun q => qa_i ((fun _ : Int => 0) q)))) ⟨rfl, rfl⟩ rfl rfl qa_ac_char rfl (by omega) (fun _ _ => rfl) (qa_le9 rfl) (fun _ _ => Iff.rfl) ?_
  refine qa_gn (fun τ18 e18 w18 f18 => ?_)
  replace w18 : _ = some (qa_ca 54 (fun _ => 0)) := w18
  rw [e0] at e18 w18 f18 ⊢
  replace a1 := (f18 _ (by omega)).trans a1
  replace a2 := (f18 _ (by omega)).trans a2
  replace a3 := (f18 _ (by omega)).trans a3
  replace a4 := (f18 _ (by omega)).trans a4
  replace a5 := (f18 _ (by omega)).trans a5
  replace a6 := (f18 _ (by omega)).trans a6
  replace a7 := (f18 _ (by omega)).trans a7
  replace hb := (f18 _ (by omega)).trans hb
  replace fr := fun q hq => (f18 q (by have := hq; omega)).trans (fr q hq)
  replace e0 := e18
  have a8 := w18
  replace e0 : τ18.2 = μ + 9 := by omega
  clear f18 e18
  obtain ⟨g0, hg0⟩ : ∃ y9 : Int → Int, y9 = fun _ => 0 := ⟨_, rfl⟩
  rw [← hg0] at a8
  refine qa_dup (pc' := 85) ⟨rfl, rfl⟩ rfl ?_
  refine qa_iconst (pc' := 86) ⟨rfl, rfl⟩ ?_
  refine qa_bipush (z := 112) (pc' := 88) ⟨rfl, rfl⟩ rfl ?_
  refine qa_castore (pc' := 89) ⟨rfl, rfl⟩ a8 (by omega) (by omega) rfl ?_
  refine qa_gz (fun τ19 e19 w19 f19 => ?_)
  replace a1 := (f19 _ (by omega)).trans a1
  replace a2 := (f19 _ (by omega)).trans a2
  replace a3 := (f19 _ (by omega)).trans a3
  replace a4 := (f19 _ (by omega)).trans a4
  replace a5 := (f19 _ (by omega)).trans a5
  replace a6 := (f19 _ (by omega)).trans a6
  replace a7 := (f19 _ (by omega)).trans a7
  replace hb := (f19 _ (by omega)).trans hb
  replace fr := fun q hq => (f19 q (by have := hq; omega)).trans (fr q hq)
  replace e0 := e19.trans e0
  obtain ⟨g1, hg1⟩ : ∃ y9 : Int → Int, y9 = qa_up g0 0 112 := ⟨_, rfl⟩
  replace a8 := w19
  rw [← hg1] at a8
  clear f19 e19 w19
  refine qa_dup (pc' := 90) ⟨rfl, rfl⟩ rfl ?_
  refine qa_iconst (pc' := 91) ⟨rfl, rfl⟩ ?_
  refine qa_bipush (z := 97) (pc' := 93) ⟨rfl, rfl⟩ rfl ?_
  refine qa_castore (pc' := 94) ⟨rfl, rfl⟩ a8 (by omega) (by omega) rfl ?_
  refine qa_gz (fun τ20 e20 w20 f20 => ?_)
  replace a1 := (f20 _ (by omega)).trans a1
  replace a2 := (f20 _ (by omega)).trans a2
  replace a3 := (f20 _ (by omega)).trans a3
  replace a4 := (f20 _ (by omega)).trans a4
  replace a5 := (f20 _ (by omega)).trans a5
  replace a6 := (f20 _ (by omega)).trans a6
  replace a7 := (f20 _ (by omega)).trans a7
  replace hb := (f20 _ (by omega)).trans hb
  replace fr := fun q hq => (f20 q (by have := hq; omega)).trans (fr q hq)
  replace e0 := e20.trans e0
  obtain ⟨g2, hg2⟩ : ∃ y9 : Int → Int, y9 = qa_up g1 1 97 := ⟨_, rfl⟩
  replace a8 := w20
  rw [← hg2] at a8
  clear f20 e20 w20
  refine qa_dup (pc' := 95) ⟨rfl, rfl⟩ rfl ?_
  refine qa_iconst (pc' := 96) ⟨rfl, rfl⟩ ?_
  refine qa_bipush (z := 114) (pc' := 98) ⟨rfl, rfl⟩ rfl ?_
  refine qa_castore (pc' := 99) ⟨rfl, rfl⟩ a8 (by omega) (by omega) rfl ?_
  refine qa_gz (fun τ21 e21 w21 f21 => ?_)
  replace a1 := (f21 _ (by omega)).trans a1
  replace a2 := (f21 _ (by omega)).trans a2
  replace a3 := (f21 _ (by omega)).trans a3
  replace a4 := (f21 _ (by omega)).trans a4
  replace a5 := (f21 _ (by omega)).trans a5
  replace a6 := (f21 _ (by omega)).trans a6
  replace a7 := (f21 _ (by omega)).trans a7
  replace hb := (f21 _ (by omega)).trans hb
  replace fr := fun q hq => (f21 q (by have := hq; omega)).trans (fr q hq)
  replace e0 := e21.trans e0
  obtain ⟨g3, hg3⟩ : ∃ y9 : Int → Int, y9 = qa_up g2 2 114 := ⟨_, rfl⟩
  replace a8 := w21
  rw [← hg3] at a8
  clear f21 e21 w21
  refine qa_dup (pc' := 100) ⟨rfl, rfl⟩ rfl ?_
  refine qa_iconst (pc' := 101) ⟨rfl, rfl⟩ ?_
  refine qa_bipush (z := 116) (pc' := 103) ⟨rfl, rfl⟩ rfl ?_
  refine qa_castore (pc' := 104) ⟨rfl, rfl⟩ a8 (by omega) (by omega) rfl ?_
  refine qa_gz (fun τ22 e22 w22 f22 => ?_)
  replace a1 := (f22 _ (by omega)).trans a1
  replace a2 := (f22 _ (by omega)).trans a2
  replace a3 := (f22 _ (by omega)).trans a3
  replace a4 := (f22 _ (by omega)).trans a4
  replace a5 := (f22 _ (by omega)).trans a5
  replace a6 := (f22 _ (by omega)).trans a6
  replace a7 := (f22 _ (by omega)).trans a7
  replace hb := (f22 _ (by omega)).trans hb
  replace fr := fun q hq => (f22 q (by have := hq; omega)).trans (fr q hq)
  replace e0 := e22.trans e0
  obtain ⟨g4, hg4⟩ : ∃ y9 : Int → Int, y9 = qa_up g3 3 116 := ⟨_, rfl⟩
  replace a8 := w22
  rw [← hg4] at a8
  clear f22 e22 w22
  refine qa_dup (pc' := 105) ⟨rfl, rfl⟩ rfl ?_
  refine qa_iconst (pc' := 106) ⟨rfl, rfl⟩ ?_
  refine qa_bipush (z := 110) (pc' := 108) ⟨rfl, rfl⟩ rfl ?_
  refine qa_castore (pc' := 109) ⟨rfl, rfl⟩ a8 (by omega) (by omega) rfl ?_
  refine qa_gz (fun τ23 e23 w23 f23 => ?_)
  replace a1 := (f23 _ (by omega)).trans a1
  replace a2 := (f23 _ (by omega)).trans a2
  replace a3 := (f23 _ (by omega)).trans a3
  replace a4 := (f23 _ (by omega)).trans a4
  replace a5 := (f23 _ (by omega)).trans a5
  replace a6 := (f23 _ (by omega)).trans a6
  replace a7 := (f23 _ (by omega)).trans a7
  replace hb := (f23 _ (by omega)).trans hb
  replace fr := fun q hq => (f23 q (by have := hq; omega)).trans (fr q hq)
  replace e0 := e23.trans e0
  obtain ⟨g5, hg5⟩ : ∃ y9 : Int → Int, y9 = qa_up g4 4 110 := ⟨_, rfl⟩
  replace a8 := w23
  rw [← hg5] at a8
  clear f23 e23 w23
  refine qa_dup (pc' := 110) ⟨rfl, rfl⟩ rfl ?_
  refine qa_iconst (pc' := 111) ⟨rfl, rfl⟩ ?_
  refine qa_bipush (z := 111) (pc' := 113) ⟨rfl, rfl⟩ rfl ?_
  refine qa_castore (pc' := 114) ⟨rfl, rfl⟩ a8 (by omega) (by omega) rfl ?_
  refine qa_gz (fun τ24 e24 w24 f24 => ?_)
  replace a1 := (f24 _ (by omega)).trans a1
  replace a2 := (f24 _ (by omega)).trans a2
  replace a3 := (f24 _ (by omega)).trans a3
  replace a4 := (f24 _ (by omega)).trans a4
  replace a5 := (f24 _ (by omega)).trans a5
  replace a6 := (f24 _ (by omega)).trans a6
  replace a7 := (f24 _ (by omega)).trans a7
  replace hb := (f24 _ (by omega)).trans hb
  replace fr := fun q hq => (f24 q (by have := hq; omega)).trans (fr q hq)
  replace e0 := e24.trans e0
  obtain ⟨g6, hg6⟩ : ∃ y9 : Int → Int, y9 = qa_up g5 5 111 := ⟨_, rfl⟩
  replace a8 := w24
  rw [← hg6] at a8
  clear f24 e24 w24
  refine qa_dup (pc' := 115) ⟨rfl, rfl⟩ rfl ?_
  refine qa_bipush (z := 6) (pc' := 117) ⟨rfl, rfl⟩ rfl ?_
  refine qa_bipush (z := 116) (pc' := 119) ⟨rfl, rfl⟩ rfl ?_
  refine qa_castore (pc' := 120) ⟨rfl, rfl⟩ a8 (by omega) (by omega) rfl ?_
  refine qa_gz (fun τ25 e25 w25 f25 => ?_)
  replace a1 := (f25 _ (by omega)).trans a1
  replace a2 := (f25 _ (by omega)).trans a2
  replace a3 := (f25 _ (by omega)).trans a3
  replace a4 := (f25 _ (by omega)).trans a4
  replace a5 := (f25 _ (by omega)).trans a5
  replace a6 := (f25 _ (by omega)).trans a6
  replace a7 := (f25 _ (by omega)).trans a7
  replace hb := (f25 _ (by omega)).trans hb
  replace fr := fun q hq => (f25 q (by have := hq; omega)).trans (fr q hq)
  replace e0 := e25.trans e0
  obtain ⟨g7, hg7⟩ : ∃ y9 : Int → Int, y9 = qa_up g6 6 116 := ⟨_, rfl⟩
  replace a8 := w25
  rw [← hg7] at a8
  clear f25 e25 w25
  refine qa_dup (pc' := 121) ⟨rfl, rfl⟩ rfl ?_
  refine qa_bipush (z := 7) (pc' := 123) ⟨rfl, rfl⟩ rfl ?_
  refine qa_bipush (z := 101) (pc' := 125) ⟨rfl, rfl⟩ rfl ?_
  refine qa_castore (pc' := 126) ⟨rfl, rfl⟩ a8 (by omega) (by omega) rfl ?_
  refine qa_gz (fun τ26 e26 w26 f26 => ?_)
  replace a1 := (f26 _ (by omega)).trans a1
  replace a2 := (f26 _ (by omega)).trans a2
  replace a3 := (f26 _ (by omega)).trans a3
  replace a4 := (f26 _ (by omega)).trans a4
  replace a5 := (f26 _ (by omega)).trans a5
  replace a6 := (f26 _ (by omega)).trans a6
  replace a7 := (f26 _ (by omega)).trans a7
  replace hb := (f26 _ (by omega)).trans hb
  replace fr := fun q hq => (f26 q (by have := hq; omega)).trans (fr q hq)
  replace e0 := e26.trans e0
  obtain ⟨g8, hg8⟩ : ∃ y9 : Int → Int, y9 = qa_up g7 7 101 := ⟨_, rfl⟩
  replace a8 := w26
  rw [← hg8] at a8
  clear f26 e26 w26
  refine qa_dup (pc' := 127) ⟨rfl, rfl⟩ rfl ?_
  refine qa_bipush (z := 8) (pc' := 129) ⟨rfl, rfl⟩ rfl ?_
  refine qa_bipush (z := 32) (pc' := 131) ⟨rfl, rfl⟩ rfl ?_
  refine qa_castore (pc' := 132) ⟨rfl, rfl⟩ a8 (by omega) (by omega) rfl ?_
  refine qa_gz (fun τ27 e27 w27 f27 => ?_)
  replace a1 := (f27 _ (by omega)).trans a1
  replace a2 := (f27 _ (by omega)).trans a2
  replace a3 := (f27 _ (by omega)).trans a3
  replace a4 := (f27 _ (by omega)).trans a4
  replace a5 := (f27 _ (by omega)).trans a5
  replace a6 := (f27 _ (by omega)).trans a6
  replace a7 := (f27 _ (by omega)).trans a7
  replace hb := (f27 _ (by omega)).trans hb
  replace fr := fun q hq => (f27 q (by have := hq; omega)).trans (fr q hq)
  replace e0 := e27.trans e0
  obtain ⟨g9, hg9⟩ : ∃ y9 : Int → Int, y9 = qa_up g8 8 32 := ⟨_, rfl⟩
  replace a8 := w27
  rw [← hg9] at a8
  clear f27 e27 w27
  refine qa_dup (pc' := 133) ⟨rfl, rfl⟩ rfl ?_
  refine qa_bipush (z := 9) (pc' := 135) ⟨rfl, rfl⟩ rfl ?_
  refine qa_bipush (z := 114) (pc' := 137) ⟨rfl, rfl⟩ rfl ?_
  refine qa_castore (pc' := 138) ⟨rfl, rfl⟩ a8 (by omega) (by omega) rfl ?_
  refine qa_gz (fun τ28 e28 w28 f28 => ?_)
  replace a1 := (f28 _ (by omega)).trans a1
  replace a2 := (f28 _ (by omega)).trans a2
  replace a3 := (f28 _ (by omega)).trans a3
  replace a4 := (f28 _ (by omega)).trans a4
  replace a5 := (f28 _ (by omega)).trans a5
  replace a6 := (f28 _ (by omega)).trans a6
  replace a7 := (f28 _ (by omega)).trans a7
  replace hb := (f28 _ (by omega)).trans hb
  replace fr := fun q hq => (f28 q (by have := hq; omega)).trans (fr q hq)
  replace e0 := e28.trans e0
  obtain ⟨g10, hg10⟩ : ∃ y9 : Int → Int, y9 = qa_up g9 9 114 := ⟨_, rfl⟩
  replace a8 := w28
  rw [← hg10] at a8
  clear f28 e28 w28
  refine qa_dup (pc' := 139) ⟨rfl, rfl⟩ rfl ?_
  refine qa_bipush (z := 10) (pc' := 141) ⟨rfl, rfl⟩ rfl ?_
  refine qa_bipush (z := 101) (pc' := 143) ⟨rfl, rfl⟩ rfl ?_
  refine qa_castore (pc' := 144) ⟨rfl, rfl⟩ a8 (by omega) (by omega) rfl ?_
  refine qa_gz (fun τ29 e29 w29 f29 => ?_)
  replace a1 := (f29 _ (by omega)).trans a1
  replace a2 := (f29 _ (by omega)).trans a2
  replace a3 := (f29 _ (by omega)).trans a3
  replace a4 := (f29 _ (by omega)).trans a4
  replace a5 := (f29 _ (by omega)).trans a5
  replace a6 := (f29 _ (by omega)).trans a6
  replace a7 := (f29 _ (by omega)).trans a7
  replace hb := (f29 _ (by omega)).trans hb
  replace fr := fun q hq => (f29 q (by have := hq; omega)).trans (fr q hq)
  replace e0 := e29.trans e0
  obtain ⟨g11, hg11⟩ : ∃ y9 : Int → Int, y9 = qa_up g10 10 101 := ⟨_, rfl⟩
  replace a8 := w29
  rw [← hg11] at a8
  clear f29 e29 w29
  refine qa_dup (pc' := 145) ⟨rfl, rfl⟩ rfl ?_
  refine qa_bipush (z := 11) (pc' := 147) ⟨rfl, rfl⟩ rfl ?_
  refine qa_bipush (z := 115) (pc' := 149) ⟨rfl, rfl⟩ rfl ?_
  refine qa_castore (pc' := 150) ⟨rfl, rfl⟩ a8 (by omega) (by omega) rfl ?_
  refine qa_gz (fun τ30 e30 w30 f30 => ?_)
  replace a1 := (f30 _ (by omega)).trans a1
  replace a2 := (f30 _ (by omega)).trans a2
  replace a3 := (f30 _ (by omega)).trans a3
  replace a4 := (f30 _ (by omega)).trans a4
  replace a5 := (f30 _ (by omega)).trans a5
  replace a6 := (f30 _ (by omega)).trans a6
  replace a7 := (f30 _ (by omega)).trans a7
  replace hb := (f30 _ (by omega)).trans hb
  replace fr := fun q hq => (f30 q (by have := hq; omega)).trans (fr q hq)
  replace e0 := e30.trans e0
  obtain ⟨g12, hg12⟩ : ∃ y9 : Int → Int, y9 = qa_up g11 11 115 := ⟨_, rfl⟩
  replace a8 := w30
  rw [← hg12] at a8
  clear f30 e30 w30
  refine qa_dup (pc' := 151) ⟨rfl, rfl⟩ rfl ?_
  refine qa_bipush (z := 12) (pc' := 153) ⟨rfl, rfl⟩ rfl ?_
  refine qa_bipush (z := 116) (pc' := 155) ⟨rfl, rfl⟩ rfl ?_
  refine qa_castore (pc' := 156) ⟨rfl, rfl⟩ a8 (by omega) (by omega) rfl ?_
  refine qa_gz (fun τ31 e31 w31 f31 => ?_)
  replace a1 := (f31 _ (by omega)).trans a1
  replace a2 := (f31 _ (by omega)).trans a2
  replace a3 := (f31 _ (by omega)).trans a3
  replace a4 := (f31 _ (by omega)).trans a4
  replace a5 := (f31 _ (by omega)).trans a5
  replace a6 := (f31 _ (by omega)).trans a6
  replace a7 := (f31 _ (by omega)).trans a7
  replace hb := (f31 _ (by omega)).trans hb
  replace fr := fun q hq => (f31 q (by have := hq; omega)).trans (fr q hq)
  replace e0 := e31.trans e0
  obtain ⟨g13, hg13⟩ : ∃ y9 : Int → Int, y9 = qa_up g12 12 116 := ⟨_, rfl⟩
  replace a8 := w31
  rw [← hg13] at a8
  clear f31 e31 w31
  refine qa_dup (pc' := 157) ⟨rfl, rfl⟩ rfl ?_
  refine qa_bipush (z := 13) (pc' := 159) ⟨rfl, rfl⟩ rfl ?_
  refine qa_bipush (z := 32) (pc' := 161) ⟨rfl, rfl⟩ rfl ?_
  refine qa_castore (pc' := 162) ⟨rfl, rfl⟩ a8 (by omega) (by omega) rfl ?_
  refine qa_gz (fun τ32 e32 w32 f32 => ?_)
  replace a1 := (f32 _ (by omega)).trans a1
  replace a2 := (f32 _ (by omega)).trans a2
  replace a3 := (f32 _ (by omega)).trans a3
  replace a4 := (f32 _ (by omega)).trans a4
  replace a5 := (f32 _ (by omega)).trans a5
  replace a6 := (f32 _ (by omega)).trans a6
  replace a7 := (f32 _ (by omega)).trans a7
  replace hb := (f32 _ (by omega)).trans hb
  replace fr := fun q hq => (f32 q (by have := hq; omega)).trans (fr q hq)
  replace e0 := e32.trans e0
  obtain ⟨g14, hg14⟩ : ∃ y9 : Int → Int, y9 = qa_up g13 13 32 := ⟨_, rfl⟩
  replace a8 := w32
  rw [← hg14] at a8
  clear f32 e32 w32
  refine qa_dup (pc' := 163) ⟨rfl, rfl⟩ rfl ?_
  refine qa_bipush (z := 14) (pc' := 165) ⟨rfl, rfl⟩ rfl ?_
  refine qa_bipush (z := 108) (pc' := 167) ⟨rfl, rfl⟩ rfl ?_
  refine qa_castore (pc' := 168) ⟨rfl, rfl⟩ a8 (by omega) (by omega) rfl ?_
  refine qa_gz (fun τ33 e33 w33 f33 => ?_)
  replace a1 := (f33 _ (by omega)).trans a1
  replace a2 := (f33 _ (by omega)).trans a2
  replace a3 := (f33 _ (by omega)).trans a3
  replace a4 := (f33 _ (by omega)).trans a4
  replace a5 := (f33 _ (by omega)).trans a5
  replace a6 := (f33 _ (by omega)).trans a6
  replace a7 := (f33 _ (by omega)).trans a7
  replace hb := (f33 _ (by omega)).trans hb
  replace fr := fun q hq => (f33 q (by have := hq; omega)).trans (fr q hq)
  replace e0 := e33.trans e0
  obtain ⟨g15, hg15⟩ : ∃ y9 : Int → Int, y9 = qa_up g14 14 108 := ⟨_, rfl⟩
  replace a8 := w33
  rw [← hg15] at a8
  clear f33 e33 w33
  refine qa_dup (pc' := 169) ⟨rfl, rfl⟩ rfl ?_
  refine qa_bipush (z := 15) (pc' := 171) ⟨rfl, rfl⟩ rfl ?_
  refine qa_bipush (z := 97) (pc' := 173) ⟨rfl, rfl⟩ rfl ?_
  refine qa_castore (pc' := 174) ⟨rfl, rfl⟩ a8 (by omega) (by omega) rfl ?_
  refine qa_gz (fun τ34 e34 w34 f34 => ?_)
  replace a1 := (f34 _ (by omega)).trans a1
  replace a2 := (f34 _ (by omega)).trans a2
  replace a3 := (f34 _ (by omega)).trans a3
  replace a4 := (f34 _ (by omega)).trans a4
  replace a5 := (f34 _ (by omega)).trans a5
  replace a6 := (f34 _ (by omega)).trans a6
  replace a7 := (f34 _ (by omega)).trans a7
  replace hb := (f34 _ (by omega)).trans hb
  replace fr := fun q hq => (f34 q (by have := hq; omega)).trans (fr q hq)
  replace e0 := e34.trans e0
  obtain ⟨g16, hg16⟩ : ∃ y9 : Int → Int, y9 = qa_up g15 15 97 := ⟨_, rfl⟩
  replace a8 := w34
  rw [← hg16] at a8
  clear f34 e34 w34
  refine qa_dup (pc' := 175) ⟨rfl, rfl⟩ rfl ?_
  refine qa_bipush (z := 16) (pc' := 177) ⟨rfl, rfl⟩ rfl ?_
  refine qa_bipush (z := 115) (pc' := 179) ⟨rfl, rfl⟩ rfl ?_
  refine qa_castore (pc' := 180) ⟨rfl, rfl⟩ a8 (by omega) (by omega) rfl ?_
  refine qa_gz (fun τ35 e35 w35 f35 => ?_)
  replace a1 := (f35 _ (by omega)).trans a1
  replace a2 := (f35 _ (by omega)).trans a2
  replace a3 := (f35 _ (by omega)).trans a3
  replace a4 := (f35 _ (by omega)).trans a4
  replace a5 := (f35 _ (by omega)).trans a5
  replace a6 := (f35 _ (by omega)).trans a6
  replace a7 := (f35 _ (by omega)).trans a7
  replace hb := (f35 _ (by omega)).trans hb
  replace fr := fun q hq => (f35 q (by have := hq; omega)).trans (fr q hq)
  replace e0 := e35.trans e0
  obtain ⟨g17, hg17⟩ : ∃ y9 : Int → Int, y9 = qa_up g16 16 115 := ⟨_, rfl⟩
  replace a8 := w35
  rw [← hg17] at a8
  clear f35 e35 w35
  refine qa_dup (pc' := 181) ⟨rfl, rfl⟩ rfl ?_
  refine qa_bipush (z := 17) (pc' := 183) ⟨rfl, rfl⟩ rfl ?_
  refine qa_bipush (z := 116) (pc' := 185) ⟨rfl, rfl⟩ rfl ?_
  refine qa_castore (pc' := 186) ⟨rfl, rfl⟩ a8 (by omega) (by omega) rfl ?_
  refine qa_gz (fun τ36 e36 w36 f36 => ?_)
  replace a1 := (f36 _ (by omega)).trans a1
  replace a2 := (f36 _ (by omega)).trans a2
  replace a3 := (f36 _ (by omega)).trans a3
  replace a4 := (f36 _ (by omega)).trans a4
  replace a5 := (f36 _ (by omega)).trans a5
  replace a6 := (f36 _ (by omega)).trans a6
  replace a7 := (f36 _ (by omega)).trans a7
  replace hb := (f36 _ (by omega)).trans hb
  replace fr := fun q hq => (f36 q (by have := hq; omega)).trans (fr q hq)
  replace e0 := e36.trans e0
  obtain ⟨g18, hg18⟩ : ∃ y9 : Int → Int, y9 = qa_up g17 17 116 := ⟨_, rfl⟩
  replace a8 := w36
  rw [← hg18] at a8
  clear f36 e36 w36
  refine qa_dup (pc' := 187) ⟨rfl, rfl⟩ rfl ?_
  refine qa_bipush (z := 18) (pc' := 189) ⟨rfl, rfl⟩ rfl ?_
  refine qa_bipush (z := 32) (pc' := 191) ⟨rfl, rfl⟩ rfl ?_
  refine qa_castore (pc' := 192) ⟨rfl, rfl⟩ a8 (by omega) (by omega) rfl ?_
  refine qa_gz (fun τ37 e37 w37 f37 => ?_)
  replace a1 := (f37 _ (by omega)).trans a1
  replace a2 := (f37 _ (by omega)).trans a2
  replace a3 := (f37 _ (by omega)).trans a3
  replace a4 := (f37 _ (by omega)).trans a4
  replace a5 := (f37 _ (by omega)).trans a5
  replace a6 := (f37 _ (by omega)).trans a6
  replace a7 := (f37 _ (by omega)).trans a7
  replace hb := (f37 _ (by omega)).trans hb
  replace fr := fun q hq => (f37 q (by have := hq; omega)).trans (fr q hq)
  replace e0 := e37.trans e0
  obtain ⟨g19, hg19⟩ : ∃ y9 : Int → Int, y9 = qa_up g18 18 32 := ⟨_, rfl⟩
  replace a8 := w37
  rw [← hg19] at a8
  clear f37 e37 w37
  refine qa_dup (pc' := 193) ⟨rfl, rfl⟩ rfl ?_
  refine qa_bipush (z := 19) (pc' := 195) ⟨rfl, rfl⟩ rfl ?_
  refine qa_bipush (z := 109) (pc' := 197) ⟨rfl, rfl⟩ rfl ?_
  refine qa_castore (pc' := 198) ⟨rfl, rfl⟩ a8 (by omega) (by omega) rfl ?_
  refine qa_gz (fun τ38 e38 w38 f38 => ?_)
  replace a1 := (f38 _ (by omega)).trans a1
  replace a2 := (f38 _ (by omega)).trans a2
  replace a3 := (f38 _ (by omega)).trans a3
  replace a4 := (f38 _ (by omega)).trans a4
  replace a5 := (f38 _ (by omega)).trans a5
  replace a6 := (f38 _ (by omega)).trans a6
  replace a7 := (f38 _ (by omega)).trans a7
  replace hb := (f38 _ (by omega)).trans hb
  replace fr := fun q hq => (f38 q (by have := hq; omega)).trans (fr q hq)
  replace e0 := e38.trans e0
  obtain ⟨g20, hg20⟩ : ∃ y9 : Int → Int, y9 = qa_up g19 19 109 := ⟨_, rfl⟩
  replace a8 := w38
  rw [← hg20] at a8
  clear f38 e38 w38
  refine qa_dup (pc' := 199) ⟨rfl, rfl⟩ rfl ?_
  refine qa_bipush (z := 20) (pc' := 201) ⟨rfl, rfl⟩ rfl ?_
  refine qa_bipush (z := 111) (pc' := 203) ⟨rfl, rfl⟩ rfl ?_
  refine qa_castore (pc' := 204) ⟨rfl, rfl⟩ a8 (by omega) (by omega) rfl ?_
  refine qa_gz (fun τ39 e39 w39 f39 => ?_)
  replace a1 := (f39 _ (by omega)).trans a1
  replace a2 := (f39 _ (by omega)).trans a2
  replace a3 := (f39 _ (by omega)).trans a3
  replace a4 := (f39 _ (by omega)).trans a4
  replace a5 := (f39 _ (by omega)).trans a5
  replace a6 := (f39 _ (by omega)).trans a6
  replace a7 := (f39 _ (by omega)).trans a7
  replace hb := (f39 _ (by omega)).trans hb
  replace fr := fun q hq => (f39 q (by have := hq; omega)).trans (fr q hq)
  replace e0 := e39.trans e0
  obtain ⟨g21, hg21⟩ : ∃ y9 : Int → Int, y9 = qa_up g20 20 111 := ⟨_, rfl⟩
  replace a8 := w39
  rw [← hg21] at a8
  clear f39 e39 w39
  refine qa_dup (pc' := 205) ⟨rfl, rfl⟩ rfl ?_
  refine qa_bipush (z := 21) (pc' := 207) ⟨rfl, rfl⟩ rfl ?_
  refine qa_bipush (z := 118) (pc' := 209) ⟨rfl, rfl⟩ rfl ?_
  refine qa_castore (pc' := 210) ⟨rfl, rfl⟩ a8 (by omega) (by omega) rfl ?_
  refine qa_gz (fun τ40 e40 w40 f40 => ?_)
  replace a1 := (f40 _ (by omega)).trans a1
  replace a2 := (f40 _ (by omega)).trans a2
  replace a3 := (f40 _ (by omega)).trans a3
  replace a4 := (f40 _ (by omega)).trans a4
  replace a5 := (f40 _ (by omega)).trans a5
  replace a6 := (f40 _ (by omega)).trans a6
  replace a7 := (f40 _ (by omega)).trans a7
  replace hb := (f40 _ (by omega)).trans hb
  replace fr := fun q hq => (f40 q (by have := hq; omega)).trans (fr q hq)
  replace e0 := e40.trans e0
  obtain ⟨g22, hg22⟩ : ∃ y9 : Int → Int, y9 = qa_up g21 21 118 := ⟨_, rfl⟩
  replace a8 := w40
  rw [← hg22] at a8
  clear f40 e40 w40
  refine qa_dup (pc' := 211) ⟨rfl, rfl⟩ rfl ?_
  refine qa_bipush (z := 22) (pc' := 213) ⟨rfl, rfl⟩ rfl ?_
  refine qa_bipush (z := 101) (pc' := 215) ⟨rfl, rfl⟩ rfl ?_
  refine qa_castore (pc' := 216) ⟨rfl, rfl⟩ a8 (by omega) (by omega) rfl ?_
  refine qa_gz (fun τ41 e41 w41 f41 => ?_)
  replace a1 := (f41 _ (by omega)).trans a1
  replace a2 := (f41 _ (by omega)).trans a2
  replace a3 := (f41 _ (by omega)).trans a3
  replace a4 := (f41 _ (by omega)).trans a4
  replace a5 := (f41 _ (by omega)).trans a5
  replace a6 := (f41 _ (by omega)).trans a6
  replace a7 := (f41 _ (by omega)).trans a7
  replace hb := (f41 _ (by omega)).trans hb
  replace fr := fun q hq => (f41 q (by have := hq; omega)).trans (fr q hq)
  replace e0 := e41.trans e0
  obtain ⟨g23, hg23⟩ : ∃ y9 : Int → Int, y9 = qa_up g22 22 101 := ⟨_, rfl⟩
  replace a8 := w41
  rw [← hg23] at a8
  clear f41 e41 w41
  refine qa_dup (pc' := 217) ⟨rfl, rfl⟩ rfl ?_
  refine qa_bipush (z := 23) (pc' := 219) ⟨rfl, rfl⟩ rfl ?_
  refine qa_bipush (z := 32) (pc' := 221) ⟨rfl, rfl⟩ rfl ?_
  refine qa_castore (pc' := 222) ⟨rfl, rfl⟩ a8 (by omega) (by omega) rfl ?_
  refine qa_gz (fun τ42 e42 w42 f42 => ?_)
  replace a1 := (f42 _ (by omega)).trans a1
  replace a2 := (f42 _ (by omega)).trans a2
  replace a3 := (f42 _ (by omega)).trans a3
  replace a4 := (f42 _ (by omega)).trans a4
  replace a5 := (f42 _ (by omega)).trans a5
  replace a6 := (f42 _ (by omega)).trans a6
  replace a7 := (f42 _ (by omega)).trans a7
  replace hb := (f42 _ (by omega)).trans hb
  replace fr := fun q hq => (f42 q (by have := hq; omega)).trans (fr q hq)
  replace e0 := e42.trans e0
  obtain ⟨g24, hg24⟩ : ∃ y9 : Int → Int, y9 = qa_up g23 23 32 := ⟨_, rfl⟩
  replace a8 := w42
  rw [← hg24] at a8
  clear f42 e42 w42
  refine qa_dup (pc' := 223) ⟨rfl, rfl⟩ rfl ?_
  refine qa_bipush (z := 24) (pc' := 225) ⟨rfl, rfl⟩ rfl ?_
  refine qa_bipush (z := 116) (pc' := 227) ⟨rfl, rfl⟩ rfl ?_
  refine qa_castore (pc' := 228) ⟨rfl, rfl⟩ a8 (by omega) (by omega) rfl ?_
  refine qa_gz (fun τ43 e43 w43 f43 => ?_)
  replace a1 := (f43 _ (by omega)).trans a1
  replace a2 := (f43 _ (by omega)).trans a2
  replace a3 := (f43 _ (by omega)).trans a3
  replace a4 := (f43 _ (by omega)).trans a4
  replace a5 := (f43 _ (by omega)).trans a5
  replace a6 := (f43 _ (by omega)).trans a6
  replace a7 := (f43 _ (by omega)).trans a7
  replace hb := (f43 _ (by omega)).trans hb
  replace fr := fun q hq => (f43 q (by have := hq; omega)).trans (fr q hq)
  replace e0 := e43.trans e0
  obtain ⟨g25, hg25⟩ : ∃ y9 : Int → Int, y9 = qa_up g24 24 116 := ⟨_, rfl⟩
  replace a8 := w43
  rw [← hg25] at a8
  clear f43 e43 w43
  refine qa_dup (pc' := 229) ⟨rfl, rfl⟩ rfl ?_
  refine qa_bipush (z := 25) (pc' := 231) ⟨rfl, rfl⟩ rfl ?_
  refine qa_bipush (z := 117) (pc' := 233) ⟨rfl, rfl⟩ rfl ?_
  refine qa_castore (pc' := 234) ⟨rfl, rfl⟩ a8 (by omega) (by omega) rfl ?_
  refine qa_gz (fun τ44 e44 w44 f44 => ?_)
  replace a1 := (f44 _ (by omega)).trans a1
  replace a2 := (f44 _ (by omega)).trans a2
  replace a3 := (f44 _ (by omega)).trans a3
  replace a4 := (f44 _ (by omega)).trans a4
  replace a5 := (f44 _ (by omega)).trans a5
  replace a6 := (f44 _ (by omega)).trans a6
  replace a7 := (f44 _ (by omega)).trans a7
  replace hb := (f44 _ (by omega)).trans hb
  replace fr := fun q hq => (f44 q (by have := hq; omega)).trans (fr q hq)
  replace e0 := e44.trans e0
  obtain ⟨g26, hg26⟩ : ∃ y9 : Int → Int, y9 = qa_up g25 25 117 := ⟨_, rfl⟩
  replace a8 := w44
  rw [← hg26] at a8
  clear f44 e44 w44
  refine qa_dup (pc' := 235) ⟨rfl, rfl⟩ rfl ?_
  refine qa_bipush (z := 26) (pc' := 237) ⟨rfl, rfl⟩ rfl ?_
  refine qa_bipush (z := 110) (pc' := 239) ⟨rfl, rfl⟩ rfl ?_
  refine qa_castore (pc' := 240) ⟨rfl, rfl⟩ a8 (by omega) (by omega) rfl ?_
  refine qa_gz (fun τ45 e45 w45 f45 => ?_)
  replace a1 := (f45 _ (by omega)).trans a1
  replace a2 := (f45 _ (by omega)).trans a2
  replace a3 := (f45 _ (by omega)).trans a3
  replace a4 := (f45 _ (by omega)).trans a4
  replace a5 := (f45 _ (by omega)).trans a5
  replace a6 := (f45 _ (by omega)).trans a6
  replace a7 := (f45 _ (by omega)).trans a7
  replace hb := (f45 _ (by omega)).trans hb
  replace fr := fun q hq => (f45 q (by have := hq; omega)).trans (fr q hq)
  replace e0 := e45.trans e0
  obtain ⟨g27, hg27⟩ : ∃ y9 : Int → Int, y9 = qa_up g26 26 110 := ⟨_, rfl⟩
  replace a8 := w45
  rw [← hg27] at a8
  clear f45 e45 w45
  refine qa_dup (pc' := 241) ⟨rfl, rfl⟩ rfl ?_
  refine qa_bipush (z := 27) (pc' := 243) ⟨rfl, rfl⟩ rfl ?_
  refine qa_bipush (z := 101) (pc' := 245) ⟨rfl, rfl⟩ rfl ?_
  refine qa_castore (pc' := 246) ⟨rfl, rfl⟩ a8 (by omega) (by omega) rfl ?_
  refine qa_gz (fun τ46 e46 w46 f46 => ?_)
  replace a1 := (f46 _ (by omega)).trans a1
  replace a2 := (f46 _ (by omega)).trans a2
  replace a3 := (f46 _ (by omega)).trans a3
  replace a4 := (f46 _ (by omega)).trans a4
  replace a5 := (f46 _ (by omega)).trans a5
  replace a6 := (f46 _ (by omega)).trans a6
  replace a7 := (f46 _ (by omega)).trans a7
  replace hb := (f46 _ (by omega)).trans hb
  replace fr := fun q hq => (f46 q (by have := hq; omega)).trans (fr q hq)
  replace e0 := e46.trans e0
  obtain ⟨g28, hg28⟩ : ∃ y9 : Int → Int, y9 = qa_up g27 27 101 := ⟨_, rfl⟩
  replace a8 := w46
  rw [← hg28] at a8
  clear f46 e46 w46
  refine qa_dup (pc' := 247) ⟨rfl, rfl⟩ rfl ?_
  refine qa_bipush (z := 28) (pc' := 249) ⟨rfl, rfl⟩ rfl ?_
  refine qa_bipush (z := 32) (pc' := 251) ⟨rfl, rfl⟩ rfl ?_
  refine qa_castore (pc' := 252) ⟨rfl, rfl⟩ a8 (by omega) (by omega) rfl ?_
  refine qa_gz (fun τ47 e47 w47 f47 => ?_)
  replace a1 := (f47 _ (by omega)).trans a1
  replace a2 := (f47 _ (by omega)).trans a2
  replace a3 := (f47 _ (by omega)).trans a3
  replace a4 := (f47 _ (by omega)).trans a4
  replace a5 := (f47 _ (by omega)).trans a5
  replace a6 := (f47 _ (by omega)).trans a6
  replace a7 := (f47 _ (by omega)).trans a7
  replace hb := (f47 _ (by omega)).trans hb
  replace fr := fun q hq => (f47 q (by have := hq; omega)).trans (fr q hq)
  replace e0 := e47.trans e0
  obtain ⟨g29, hg29⟩ : ∃ y9 : Int → Int, y9 = qa_up g28 28 32 := ⟨_, rfl⟩
  replace a8 := w47
  rw [← hg29] at a8
  clear f47 e47 w47
  refine qa_dup (pc' := 253) ⟨rfl, rfl⟩ rfl ?_
  refine qa_bipush (z := 29) (pc' := 255) ⟨rfl, rfl⟩ rfl ?_
  refine qa_bipush (z := 99) (pc' := 257) ⟨rfl, rfl⟩ rfl ?_
  refine qa_castore (pc' := 258) ⟨rfl, rfl⟩ a8 (by omega) (by omega) rfl ?_
  refine qa_gz (fun τ48 e48 w48 f48 => ?_)
  replace a1 := (f48 _ (by omega)).trans a1
  replace a2 := (f48 _ (by omega)).trans a2
  replace a3 := (f48 _ (by omega)).trans a3
  replace a4 := (f48 _ (by omega)).trans a4
  replace a5 := (f48 _ (by omega)).trans a5
  replace a6 := (f48 _ (by omega)).trans a6
  replace a7 := (f48 _ (by omega)).trans a7
  replace hb := (f48 _ (by omega)).trans hb
  replace fr := fun q hq => (f48 q (by have := hq; omega)).trans (fr q hq)
  replace e0 := e48.trans e0
  obtain ⟨g30, hg30⟩ : ∃ y9 : Int → Int, y9 = qa_up g29 29 99 := ⟨_, rfl⟩
  replace a8 := w48
  rw [← hg30] at a8
  clear f48 e48 w48
  refine qa_dup (pc' := 259) ⟨rfl, rfl⟩ rfl ?_
  refine qa_bipush (z := 30) (pc' := 261) ⟨rfl, rfl⟩ rfl ?_
  refine qa_bipush (z := 117) (pc' := 263) ⟨rfl, rfl⟩ rfl ?_
  refine qa_castore (pc' := 264) ⟨rfl, rfl⟩ a8 (by omega) (by omega) rfl ?_
  refine qa_gz (fun τ49 e49 w49 f49 => ?_)
  replace a1 := (f49 _ (by omega)).trans a1
  replace a2 := (f49 _ (by omega)).trans a2
  replace a3 := (f49 _ (by omega)).trans a3
  replace a4 := (f49 _ (by omega)).trans a4
  replace a5 := (f49 _ (by omega)).trans a5
  replace a6 := (f49 _ (by omega)).trans a6
  replace a7 := (f49 _ (by omega)).trans a7
  replace hb := (f49 _ (by omega)).trans hb
  replace fr := fun q hq => (f49 q (by have := hq; omega)).trans (fr q hq)
  replace e0 := e49.trans e0
  obtain ⟨g31, hg31⟩ : ∃ y9 : Int → Int, y9 = qa_up g30 30 117 := ⟨_, rfl⟩
  replace a8 := w49
  rw [← hg31] at a8
  clear f49 e49 w49
  refine qa_dup (pc' := 265) ⟨rfl, rfl⟩ rfl ?_
  refine qa_bipush (z := 31) (pc' := 267) ⟨rfl, rfl⟩ rfl ?_
  refine qa_bipush (z := 101) (pc' := 269) ⟨rfl, rfl⟩ rfl ?_
  refine qa_castore (pc' := 270) ⟨rfl, rfl⟩ a8 (by omega) (by omega) rfl ?_
  refine qa_gz (fun τ50 e50 w50 f50 => ?_)
  replace a1 := (f50 _ (by omega)).trans a1
  replace a2 := (f50 _ (by omega)).trans a2
  replace a3 := (f50 _ (by omega)).trans a3
  replace a4 := (f50 _ (by omega)).trans a4
  replace a5 := (f50 _ (by omega)).trans a5
  replace a6 := (f50 _ (by omega)).trans a6
  replace a7 := (f50 _ (by omega)).trans a7
  replace hb := (f50 _ (by omega)).trans hb
  replace fr := fun q hq => (f50 q (by have := hq; omega)).trans (fr q hq)
  replace e0 := e50.trans e0
  obtain ⟨g32, hg32⟩ : ∃ y9 : Int → Int, y9 = qa_up g31 31 101 := ⟨_, rfl⟩
  replace a8 := w50
  rw [← hg32] at a8
  clear f50 e50 w50
  refine qa_dup (pc' := 271) ⟨rfl, rfl⟩ rfl ?_
  refine qa_bipush (z := 32) (pc' := 273) ⟨rfl, rfl⟩ rfl ?_
  refine qa_bipush (z := 32) (pc' := 275) ⟨rfl, rfl⟩ rfl ?_
  refine qa_castore (pc' := 276) ⟨rfl, rfl⟩ a8 (by omega) (by omega) rfl ?_
  refine qa_gz (fun τ51 e51 w51 f51 => ?_)
  replace a1 := (f51 _ (by omega)).trans a1
  replace a2 := (f51 _ (by omega)).trans a2
  replace a3 := (f51 _ (by omega)).trans a3
  replace a4 := (f51 _ (by omega)).trans a4
  replace a5 := (f51 _ (by omega)).trans a5
  replace a6 := (f51 _ (by omega)).trans a6
  replace a7 := (f51 _ (by omega)).trans a7
  replace hb := (f51 _ (by omega)).trans hb
  replace fr := fun q hq => (f51 q (by have := hq; omega)).trans (fr q hq)
  replace e0 := e51.trans e0
  obtain ⟨g33, hg33⟩ : ∃ y9 : Int → Int, y9 = qa_up g32 32 32 := ⟨_, rfl⟩
  replace a8 := w51
  rw [← hg33] at a8
  clear f51 e51 w51
  refine qa_dup (pc' := 277) ⟨rfl, rfl⟩ rfl ?_
  refine qa_bipush (z := 33) (pc' := 279) ⟨rfl, rfl⟩ rfl ?_
  refine qa_bipush (z := 97) (pc' := 281) ⟨rfl, rfl⟩ rfl ?_
  refine qa_castore (pc' := 282) ⟨rfl, rfl⟩ a8 (by omega) (by omega) rfl ?_
  refine qa_gz (fun τ52 e52 w52 f52 => ?_)
  replace a1 := (f52 _ (by omega)).trans a1
  replace a2 := (f52 _ (by omega)).trans a2
  replace a3 := (f52 _ (by omega)).trans a3
  replace a4 := (f52 _ (by omega)).trans a4
  replace a5 := (f52 _ (by omega)).trans a5
  replace a6 := (f52 _ (by omega)).trans a6
  replace a7 := (f52 _ (by omega)).trans a7
  replace hb := (f52 _ (by omega)).trans hb
  replace fr := fun q hq => (f52 q (by have := hq; omega)).trans (fr q hq)
  replace e0 := e52.trans e0
  obtain ⟨g34, hg34⟩ : ∃ y9 : Int → Int, y9 = qa_up g33 33 97 := ⟨_, rfl⟩
  replace a8 := w52
  rw [← hg34] at a8
  clear f52 e52 w52
  refine qa_dup (pc' := 283) ⟨rfl, rfl⟩ rfl ?_
  refine qa_bipush (z := 34) (pc' := 285) ⟨rfl, rfl⟩ rfl ?_
  refine qa_bipush (z := 108) (pc' := 287) ⟨rfl, rfl⟩ rfl ?_
  refine qa_castore (pc' := 288) ⟨rfl, rfl⟩ a8 (by omega) (by omega) rfl ?_
  refine qa_gz (fun τ53 e53 w53 f53 => ?_)
  replace a1 := (f53 _ (by omega)).trans a1
  replace a2 := (f53 _ (by omega)).trans a2
  replace a3 := (f53 _ (by omega)).trans a3
  replace a4 := (f53 _ (by omega)).trans a4
  replace a5 := (f53 _ (by omega)).trans a5
  replace a6 := (f53 _ (by omega)).trans a6
  replace a7 := (f53 _ (by omega)).trans a7
  replace hb := (f53 _ (by omega)).trans hb
  replace fr := fun q hq => (f53 q (by have := hq; omega)).trans (fr q hq)
  replace e0 := e53.trans e0
  obtain ⟨g35, hg35⟩ : ∃ y9 : Int → Int, y9 = qa_up g34 34 108 := ⟨_, rfl⟩
  replace a8 := w53
  rw [← hg35] at a8
  clear f53 e53 w53
  refine qa_dup (pc' := 289) ⟨rfl, rfl⟩ rfl ?_
  refine qa_bipush (z := 35) (pc' := 291) ⟨rfl, rfl⟩ rfl ?_
  refine qa_bipush (z := 111) (pc' := 293) ⟨rfl, rfl⟩ rfl ?_
  refine qa_castore (pc' := 294) ⟨rfl, rfl⟩ a8 (by omega) (by omega) rfl ?_
  refine qa_gz (fun τ54 e54 w54 f54 => ?_)
  replace a1 := (f54 _ (by omega)).trans a1
  replace a2 := (f54 _ (by omega)).trans a2
  replace a3 := (f54 _ (by omega)).trans a3
  replace a4 := (f54 _ (by omega)).trans a4
  replace a5 := (f54 _ (by omega)).trans a5
  replace a6 := (f54 _ (by omega)).trans a6
  replace a7 := (f54 _ (by omega)).trans a7
  replace hb := (f54 _ (by omega)).trans hb
  replace fr := fun q hq => (f54 q (by have := hq; omega)).trans (fr q hq)
  replace e0 := e54.trans e0
  obtain ⟨g36, hg36⟩ : ∃ y9 : Int → Int, y9 = qa_up g35 35 111 := ⟨_, rfl⟩
  replace a8 := w54
  rw [← hg36] at a8
  clear f54 e54 w54
  refine qa_dup (pc' := 295) ⟨rfl, rfl⟩ rfl ?_
  refine qa_bipush (z := 36) (pc' := 297) ⟨rfl, rfl⟩ rfl ?_
  refine qa_bipush (z := 110) (pc' := 299) ⟨rfl, rfl⟩ rfl ?_
  refine qa_castore (pc' := 300) ⟨rfl, rfl⟩ a8 (by omega) (by omega) rfl ?_
  refine qa_gz (fun τ55 e55 w55 f55 => ?_)
  replace a1 := (f55 _ (by omega)).trans a1
  replace a2 := (f55 _ (by omega)).trans a2
  replace a3 := (f55 _ (by omega)).trans a3
  replace a4 := (f55 _ (by omega)).trans a4
  replace a5 := (f55 _ (by omega)).trans a5
  replace a6 := (f55 _ (by omega)).trans a6
  replace a7 := (f55 _ (by omega)).trans a7
  replace hb := (f55 _ (by omega)).trans hb
  replace fr := fun q hq => (f55 q (by have := hq; omega)).trans (fr q hq)
  replace e0 := e55.trans e0
  obtain ⟨g37, hg37⟩ : ∃ y9 : Int → Int, y9 = qa_up g36 36 110 := ⟨_, rfl⟩
  replace a8 := w55
  rw [← hg37] at a8
  clear f55 e55 w55
  refine qa_dup (pc' := 301) ⟨rfl, rfl⟩ rfl ?_
  refine qa_bipush (z := 37) (pc' := 303) ⟨rfl, rfl⟩ rfl ?_
  refine qa_bipush (z := 101) (pc' := 305) ⟨rfl, rfl⟩ rfl ?_
  refine qa_castore (pc' := 306) ⟨rfl, rfl⟩ a8 (by omega) (by omega) rfl ?_
  refine qa_gz (fun τ56 e56 w56 f56 => ?_)
  replace a1 := (f56 _ (by omega)).trans a1
  replace a2 := (f56 _ (by omega)).trans a2
  replace a3 := (f56 _ (by omega)).trans a3
  replace a4 := (f56 _ (by omega)).trans a4
  replace a5 := (f56 _ (by omega)).trans a5
  replace a6 := (f56 _ (by omega)).trans a6
  replace a7 := (f56 _ (by omega)).trans a7
  replace hb := (f56 _ (by omega)).trans hb
  replace fr := fun q hq => (f56 q (by have := hq; omega)).trans (fr q hq)
  replace e0 := e56.trans e0
  obtain ⟨g38, hg38⟩ : ∃ y9 : Int → Int, y9 = qa_up g37 37 101 := ⟨_, rfl⟩
  replace a8 := w56
  rw [← hg38] at a8
  clear f56 e56 w56
  refine qa_dup (pc' := 307) ⟨rfl, rfl⟩ rfl ?_
  refine qa_bipush (z := 38) (pc' := 309) ⟨rfl, rfl⟩ rfl ?_
  refine qa_bipush (z := 32) (pc' := 311) ⟨rfl, rfl⟩ rfl ?_
  refine qa_castore (pc' := 312) ⟨rfl, rfl⟩ a8 (by omega) (by omega) rfl ?_
  refine qa_gz (fun τ57 e57 w57 f57 => ?_)
  replace a1 := (f57 _ (by omega)).trans a1
  replace a2 := (f57 _ (by omega)).trans a2
  replace a3 := (f57 _ (by omega)).trans a3
  replace a4 := (f57 _ (by omega)).trans a4
  replace a5 := (f57 _ (by omega)).trans a5
  replace a6 := (f57 _ (by omega)).trans a6
  replace a7 := (f57 _ (by omega)).trans a7
  replace hb := (f57 _ (by omega)).trans hb
  replace fr := fun q hq => (f57 q (by have := hq; omega)).trans (fr q hq)
  replace e0 := e57.trans e0
  obtain ⟨g39, hg39⟩ : ∃ y9 : Int → Int, y9 = qa_up g38 38 32 := ⟨_, rfl⟩
  replace a8 := w57
  rw [← hg39] at a8
  clear f57 e57 w57
  refine qa_dup (pc' := 313) ⟨rfl, rfl⟩ rfl ?_
  refine qa_bipush (z := 39) (pc' := 315) ⟨rfl, rfl⟩ rfl ?_
  refine qa_bipush (z := 98) (pc' := 317) ⟨rfl, rfl⟩ rfl ?_
  refine qa_castore (pc' := 318) ⟨rfl, rfl⟩ a8 (by omega) (by omega) rfl ?_
  refine qa_gz (fun τ58 e58 w58 f58 => ?_)
  replace a1 := (f58 _ (by omega)).trans a1
  replace a2 := (f58 _ (by omega)).trans a2
  replace a3 := (f58 _ (by omega)).trans a3
  replace a4 := (f58 _ (by omega)).trans a4
  replace a5 := (f58 _ (by omega)).trans a5
  replace a6 := (f58 _ (by omega)).trans a6
  replace a7 := (f58 _ (by omega)).trans a7
  replace hb := (f58 _ (by omega)).trans hb
  replace fr := fun q hq => (f58 q (by have := hq; omega)).trans (fr q hq)
  replace e0 := e58.trans e0
  obtain ⟨g40, hg40⟩ : ∃ y9 : Int → Int, y9 = qa_up g39 39 98 := ⟨_, rfl⟩
  replace a8 := w58
  rw [← hg40] at a8
  clear f58 e58 w58
  refine qa_dup (pc' := 319) ⟨rfl, rfl⟩ rfl ?_
  refine qa_bipush (z := 40) (pc' := 321) ⟨rfl, rfl⟩ rfl ?_
  refine qa_bipush (z := 97) (pc' := 323) ⟨rfl, rfl⟩ rfl ?_
  refine qa_castore (pc' := 324) ⟨rfl, rfl⟩ a8 (by omega) (by omega) rfl ?_
  refine qa_gz (fun τ59 e59 w59 f59 => ?_)
  replace a1 := (f59 _ (by omega)).trans a1
  replace a2 := (f59 _ (by omega)).trans a2
  replace a3 := (f59 _ (by omega)).trans a3
  replace a4 := (f59 _ (by omega)).trans a4
  replace a5 := (f59 _ (by omega)).trans a5
  replace a6 := (f59 _ (by omega)).trans a6
  replace a7 := (f59 _ (by omega)).trans a7
  replace hb := (f59 _ (by omega)).trans hb
  replace fr := fun q hq => (f59 q (by have := hq; omega)).trans (fr q hq)
  replace e0 := e59.trans e0
  obtain ⟨g41, hg41⟩ : ∃ y9 : Int → Int, y9 = qa_up g40 40 97 := ⟨_, rfl⟩
  replace a8 := w59
  rw [← hg41] at a8
  clear f59 e59 w59
  refine qa_dup (pc' := 325) ⟨rfl, rfl⟩ rfl ?_
  refine qa_bipush (z := 41) (pc' := 327) ⟨rfl, rfl⟩ rfl ?_
  refine qa_bipush (z := 114) (pc' := 329) ⟨rfl, rfl⟩ rfl ?_
  refine qa_castore (pc' := 330) ⟨rfl, rfl⟩ a8 (by omega) (by omega) rfl ?_
  refine qa_gz (fun τ60 e60 w60 f60 => ?_)
  replace a1 := (f60 _ (by omega)).trans a1
  replace a2 := (f60 _ (by omega)).trans a2
  replace a3 := (f60 _ (by omega)).trans a3
  replace a4 := (f60 _ (by omega)).trans a4
  replace a5 := (f60 _ (by omega)).trans a5
  replace a6 := (f60 _ (by omega)).trans a6
  replace a7 := (f60 _ (by omega)).trans a7
  replace hb := (f60 _ (by omega)).trans hb
  replace fr := fun q hq => (f60 q (by have := hq; omega)).trans (fr q hq)
  replace e0 := e60.trans e0
  obtain ⟨g42, hg42⟩ : ∃ y9 : Int → Int, y9 = qa_up g41 41 114 := ⟨_, rfl⟩
  replace a8 := w60
  rw [← hg42] at a8
  clear f60 e60 w60
  refine qa_dup (pc' := 331) ⟨rfl, rfl⟩ rfl ?_
  refine qa_bipush (z := 42) (pc' := 333) ⟨rfl, rfl⟩ rfl ?_
  refine qa_bipush (z := 32) (pc' := 335) ⟨rfl, rfl⟩ rfl ?_
  refine qa_castore (pc' := 336) ⟨rfl, rfl⟩ a8 (by omega) (by omega) rfl ?_
  refine qa_gz (fun τ61 e61 w61 f61 => ?_)
  replace a1 := (f61 _ (by omega)).trans a1
  replace a2 := (f61 _ (by omega)).trans a2
  replace a3 := (f61 _ (by omega)).trans a3
  replace a4 := (f61 _ (by omega)).trans a4
  replace a5 := (f61 _ (by omega)).trans a5
  replace a6 := (f61 _ (by omega)).trans a6
  replace a7 := (f61 _ (by omega)).trans a7
  replace hb := (f61 _ (by omega)).trans hb
  replace fr := fun q hq => (f61 q (by have := hq; omega)).trans (fr q hq)
  replace e0 := e61.trans e0
  obtain ⟨g43, hg43⟩ : ∃ y9 : Int → Int, y9 = qa_up g42 42 32 := ⟨_, rfl⟩
  replace a8 := w61
  rw [← hg43] at a8
  clear f61 e61 w61
  refine qa_dup (pc' := 337) ⟨rfl, rfl⟩ rfl ?_
  refine qa_bipush (z := 43) (pc' := 339) ⟨rfl, rfl⟩ rfl ?_
  refine qa_bipush (z := 116) (pc' := 341) ⟨rfl, rfl⟩ rfl ?_
  refine qa_castore (pc' := 342) ⟨rfl, rfl⟩ a8 (by omega) (by omega) rfl ?_
  refine qa_gz (fun τ62 e62 w62 f62 => ?_)
  replace a1 := (f62 _ (by omega)).trans a1
  replace a2 := (f62 _ (by omega)).trans a2
  replace a3 := (f62 _ (by omega)).trans a3
  replace a4 := (f62 _ (by omega)).trans a4
  replace a5 := (f62 _ (by omega)).trans a5
  replace a6 := (f62 _ (by omega)).trans a6
  replace a7 := (f62 _ (by omega)).trans a7
  replace hb := (f62 _ (by omega)).trans hb
  replace fr := fun q hq => (f62 q (by have := hq; omega)).trans (fr q hq)
  replace e0 := e62.trans e0
  obtain ⟨g44, hg44⟩ : ∃ y9 : Int → Int, y9 = qa_up g43 43 116 := ⟨_, rfl⟩
  replace a8 := w62
  rw [← hg44] at a8
  clear f62 e62 w62
  refine qa_dup (pc' := 343) ⟨rfl, rfl⟩ rfl ?_
  refine qa_bipush (z := 44) (pc' := 345) ⟨rfl, rfl⟩ rfl ?_
  refine qa_bipush (z := 101) (pc' := 347) ⟨rfl, rfl⟩ rfl ?_
  refine qa_castore (pc' := 348) ⟨rfl, rfl⟩ a8 (by omega) (by omega) rfl ?_
  refine qa_gz (fun τ63 e63 w63 f63 => ?_)
  replace a1 := (f63 _ (by omega)).trans a1
  replace a2 := (f63 _ (by omega)).trans a2
  replace a3 := (f63 _ (by omega)).trans a3
  replace a4 := (f63 _ (by omega)).trans a4
  replace a5 := (f63 _ (by omega)).trans a5
  replace a6 := (f63 _ (by omega)).trans a6
  replace a7 := (f63 _ (by omega)).trans a7
  replace hb := (f63 _ (by omega)).trans hb
  replace fr := fun q hq => (f63 q (by have := hq; omega)).trans (fr q hq)
  replace e0 := e63.trans e0
  obtain ⟨g45, hg45⟩ : ∃ y9 : Int → Int, y9 = qa_up g44 44 101 := ⟨_, rfl⟩
  replace a8 := w63
  rw [← hg45] at a8
  clear f63 e63 w63
  refine qa_dup (pc' := 349) ⟨rfl, rfl⟩ rfl ?_
  refine qa_bipush (z := 45) (pc' := 351) ⟨rfl, rfl⟩ rfl ?_
  refine qa_bipush (z := 109) (pc' := 353) ⟨rfl, rfl⟩ rfl ?_
  refine qa_castore (pc' := 354) ⟨rfl, rfl⟩ a8 (by omega) (by omega) rfl ?_
  refine qa_gz (fun τ64 e64 w64 f64 => ?_)
  replace a1 := (f64 _ (by omega)).trans a1
  replace a2 := (f64 _ (by omega)).trans a2
  replace a3 := (f64 _ (by omega)).trans a3
  replace a4 := (f64 _ (by omega)).trans a4
  replace a5 := (f64 _ (by omega)).trans a5
  replace a6 := (f64 _ (by omega)).trans a6
  replace a7 := (f64 _ (by omega)).trans a7
  replace hb := (f64 _ (by omega)).trans hb
  replace fr := fun q hq => (f64 q (by have := hq; omega)).trans (fr q hq)
  replace e0 := e64.trans e0
  obtain ⟨g46, hg46⟩ : ∃ y9 : Int → Int, y9 = qa_up g45 45 109 := ⟨_, rfl⟩
  replace a8 := w64
  rw [← hg46] at a8
  clear f64 e64 w64
  refine qa_dup (pc' := 355) ⟨rfl, rfl⟩ rfl ?_
  refine qa_bipush (z := 46) (pc' := 357) ⟨rfl, rfl⟩ rfl ?_
  refine qa_bipush (z := 112) (pc' := 359) ⟨rfl, rfl⟩ rfl ?_
  refine qa_castore (pc' := 360) ⟨rfl, rfl⟩ a8 (by omega) (by omega) rfl ?_
  refine qa_gz (fun τ65 e65 w65 f65 => ?_)
  replace a1 := (f65 _ (by omega)).trans a1
  replace a2 := (f65 _ (by omega)).trans a2
  replace a3 := (f65 _ (by omega)).trans a3
  replace a4 := (f65 _ (by omega)).trans a4
  replace a5 := (f65 _ (by omega)).trans a5
  replace a6 := (f65 _ (by omega)).trans a6
  replace a7 := (f65 _ (by omega)).trans a7
  replace hb := (f65 _ (by omega)).trans hb
  replace fr := fun q hq => (f65 q (by have := hq; omega)).trans (fr q hq)
  replace e0 := e65.trans e0
  obtain ⟨g47, hg47⟩ : ∃ y9 : Int → Int, y9 = qa_up g46 46 112 := ⟨_, rfl⟩
  replace a8 := w65
  rw [← hg47] at a8
  clear f65 e65 w65
  refine qa_dup (pc' := 361) ⟨rfl, rfl⟩ rfl ?_
  refine qa_bipush (z := 47) (pc' := 363) ⟨rfl, rfl⟩ rfl ?_
  refine qa_bipush (z := 111) (pc' := 365) ⟨rfl, rfl⟩ rfl ?_
  refine qa_castore (pc' := 366) ⟨rfl, rfl⟩ a8 (by omega) (by omega) rfl ?_
  refine qa_gz (fun τ66 e66 w66 f66 => ?_)
  replace a1 := (f66 _ (by omega)).trans a1
  replace a2 := (f66 _ (by omega)).trans a2
  replace a3 := (f66 _ (by omega)).trans a3
  replace a4 := (f66 _ (by omega)).trans a4
  replace a5 := (f66 _ (by omega)).trans a5
  replace a6 := (f66 _ (by omega)).trans a6
  replace a7 := (f66 _ (by omega)).trans a7
  replace hb := (f66 _ (by omega)).trans hb
  replace fr := fun q hq => (f66 q (by have := hq; omega)).trans (fr q hq)
  replace e0 := e66.trans e0
  obtain ⟨g48, hg48⟩ : ∃ y9 : Int → Int, y9 = qa_up g47 47 111 := ⟨_, rfl⟩
  replace a8 := w66
  rw [← hg48] at a8
  clear f66 e66 w66
  refine qa_dup (pc' := 367) ⟨rfl, rfl⟩ rfl ?_
  refine qa_bipush (z := 48) (pc' := 369) ⟨rfl, rfl⟩ rfl ?_
  refine qa_bipush (z := 32) (pc' := 371) ⟨rfl, rfl⟩ rfl ?_
  refine qa_castore (pc' := 372) ⟨rfl, rfl⟩ a8 (by omega) (by omega) rfl ?_
  refine qa_gz (fun τ67 e67 w67 f67 => ?_)
  replace a1 := (f67 _ (by omega)).trans a1
  replace a2 := (f67 _ (by omega)).trans a2
  replace a3 := (f67 _ (by omega)).trans a3
  replace a4 := (f67 _ (by omega)).trans a4
  replace a5 := (f67 _ (by omega)).trans a5
  replace a6 := (f67 _ (by omega)).trans a6
  replace a7 := (f67 _ (by omega)).trans a7
  replace hb := (f67 _ (by omega)).trans hb
  replace fr := fun q hq => (f67 q (by have := hq; omega)).trans (fr q hq)
  replace e0 := e67.trans e0
  obtain ⟨g49, hg49⟩ : ∃ y9 : Int → Int, y9 = qa_up g48 48 32 := ⟨_, rfl⟩
  replace a8 := w67
  rw [← hg49] at a8
  clear f67 e67 w67
  refine qa_dup (pc' := 373) ⟨rfl, rfl⟩ rfl ?_
  refine qa_bipush (z := 49) (pc' := 375) ⟨rfl, rfl⟩ rfl ?_
  refine qa_bipush (z := 112) (pc' := 377) ⟨rfl, rfl⟩ rfl ?_
  refine qa_castore (pc' := 378) ⟨rfl, rfl⟩ a8 (by omega) (by omega) rfl ?_
  refine qa_gz (fun τ68 e68 w68 f68 => ?_)
  replace a1 := (f68 _ (by omega)).trans a1
  replace a2 := (f68 _ (by omega)).trans a2
  replace a3 := (f68 _ (by omega)).trans a3
  replace a4 := (f68 _ (by omega)).trans a4
  replace a5 := (f68 _ (by omega)).trans a5
  replace a6 := (f68 _ (by omega)).trans a6
  replace a7 := (f68 _ (by omega)).trans a7
  replace hb := (f68 _ (by omega)).trans hb
  replace fr := fun q hq => (f68 q (by have := hq; omega)).trans (fr q hq)
  replace e0 := e68.trans e0
  obtain ⟨g50, hg50⟩ : ∃ y9 : Int → Int, y9 = qa_up g49 49 112 := ⟨_, rfl⟩
  replace a8 := w68
  rw [← hg50] at a8
  clear f68 e68 w68
  refine qa_dup (pc' := 379) ⟨rfl, rfl⟩ rfl ?_
  refine qa_bipush (z := 50) (pc' := 381) ⟨rfl, rfl⟩ rfl ?_
  refine qa_bipush (z := 108) (pc' := 383) ⟨rfl, rfl⟩ rfl ?_
  refine qa_castore (pc' := 384) ⟨rfl, rfl⟩ a8 (by omega) (by omega) rfl ?_
  refine qa_gz (fun τ69 e69 w69 f69 => ?_)
  replace a1 := (f69 _ (by omega)).trans a1
  replace a2 := (f69 _ (by omega)).trans a2
  replace a3 := (f69 _ (by omega)).trans a3
  replace a4 := (f69 _ (by omega)).trans a4
  replace a5 := (f69 _ (by omega)).trans a5
  replace a6 := (f69 _ (by omega)).trans a6
  replace a7 := (f69 _ (by omega)).trans a7
  replace hb := (f69 _ (by omega)).trans hb
  replace fr := fun q hq => (f69 q (by have := hq; omega)).trans (fr q hq)
  replace e0 := e69.trans e0
  obtain ⟨g51, hg51⟩ : ∃ y9 : Int → Int, y9 = qa_up g50 50 108 := ⟨_, rfl⟩
  replace a8 := w69
  rw [← hg51] at a8
  clear f69 e69 w69
  refine qa_dup (pc' := 385) ⟨rfl, rfl⟩ rfl ?_
  refine qa_bipush (z := 51) (pc' := 387) ⟨rfl, rfl⟩ rfl ?_
  refine qa_bipush (z := 97) (pc' := 389) ⟨rfl, rfl⟩ rfl ?_
  refine qa_castore (pc' := 390) ⟨rfl, rfl⟩ a8 (by omega) (by omega) rfl ?_
  refine qa_gz (fun τ70 e70 w70 f70 => ?_)
  replace a1 := (f70 _ (by omega)).trans a1
  replace a2 := (f70 _ (by omega)).trans a2
  replace a3 := (f70 _ (by omega)).trans a3
  replace a4 := (f70 _ (by omega)).trans a4
  replace a5 := (f70 _ (by omega)).trans a5
  replace a6 := (f70 _ (by omega)).trans a6
  replace a7 := (f70 _ (by omega)).trans a7
  replace hb := (f70 _ (by omega)).trans hb
  replace fr := fun q hq => (f70 q (by have := hq; omega)).trans (fr q hq)
  replace e0 := e70.trans e0
  obtain ⟨g52, hg52⟩ : ∃ y9 : Int → Int, y9 = qa_up g51 51 97 := ⟨_, rfl⟩
  replace a8 := w70
  rw [← hg52] at a8
  clear f70 e70 w70
  refine qa_dup (pc' := 391) ⟨rfl, rfl⟩ rfl ?_
  refine qa_bipush (z := 52) (pc' := 393) ⟨rfl, rfl⟩ rfl ?_
  refine qa_bipush (z := 121) (pc' := 395) ⟨rfl, rfl⟩ rfl ?_
  refine qa_castore (pc' := 396) ⟨rfl, rfl⟩ a8 (by omega) (by omega) rfl ?_
  refine qa_gz (fun τ71 e71 w71 f71 => ?_)
  replace a1 := (f71 _ (by omega)).trans a1
  replace a2 := (f71 _ (by omega)).trans a2
  replace a3 := (f71 _ (by omega)).trans a3
  replace a4 := (f71 _ (by omega)).trans a4
  replace a5 := (f71 _ (by omega)).trans a5
  replace a6 := (f71 _ (by omega)).trans a6
  replace a7 := (f71 _ (by omega)).trans a7
  replace hb := (f71 _ (by omega)).trans hb
  replace fr := fun q hq => (f71 q (by have := hq; omega)).trans (fr q hq)
  replace e0 := e71.trans e0
  obtain ⟨g53, hg53⟩ : ∃ y9 : Int → Int, y9 = qa_up g52 52 121 := ⟨_, rfl⟩
  replace a8 := w71
  rw [← hg53] at a8
  clear f71 e71 w71
  refine qa_dup (pc' := 397) ⟨rfl, rfl⟩ rfl ?_
  refine qa_bipush (z := 53) (pc' := 399) ⟨rfl, rfl⟩ rfl ?_
  refine qa_bipush (z := 32) (pc' := 401) ⟨rfl, rfl⟩ rfl ?_
  refine qa_castore (pc' := 402) ⟨rfl, rfl⟩ a8 (by omega) (by omega) rfl ?_
  refine qa_gz (fun τ72 e72 w72 f72 => ?_)
  replace a1 := (f72 _ (by omega)).trans a1
  replace a2 := (f72 _ (by omega)).trans a2
  replace a3 := (f72 _ (by omega)).trans a3
  replace a4 := (f72 _ (by omega)).trans a4
  replace a5 := (f72 _ (by omega)).trans a5
  replace a6 := (f72 _ (by omega)).trans a6
  replace a7 := (f72 _ (by omega)).trans a7
  replace hb := (f72 _ (by omega)).trans hb
  replace fr := fun q hq => (f72 q (by have := hq; omega)).trans (fr q hq)
  replace e0 := e72.trans e0
  obtain ⟨g54, hg54⟩ : ∃ y9 : Int → Int, y9 = qa_up g53 53 32 := ⟨_, rfl⟩
  replace a8 := w72
  rw [← hg54] at a8
  clear f72 e72 w72
  refine qa_putf (fs' := [_, _, _, _, _, _, _, _, _, _, _, _, _, _, _, _, _, _, _, _, _, _, _, _, _, _, _]) (pc' := 405) ⟨rfl, rfl⟩ qg_10_41 qw_9 hb (by omega) rfl (fun r hr => by cases hr; exact ⟨rfl, Or.inr ⟨rfl, rfl, rfl⟩⟩) rfl rfl ?_
  refine qa_gz (fun τ73 e73 w73 f73 => ?_)
  replace a1 := (f73 _ (by omega)).trans a1
  replace a2 := (f73 _ (by omega)).trans a2
  replace a3 := (f73 _ (by omega)).trans a3
  replace a4 := (f73 _ (by omega)).trans a4
  replace a5 := (f73 _ (by omega)).trans a5
  replace a6 := (f73 _ (by omega)).trans a6
  replace a7 := (f73 _ (by omega)).trans a7
  replace a8 := (f73 _ (by omega)).trans a8
  replace fr := fun q hq => (f73 q (by have := hq; omega)).trans (fr q hq)
  replace e0 := e73.trans e0
  have hb := w73
  refine qa_aload_n (pc' := 406) ⟨rfl, rfl⟩ rfl ?_
  refine qa_bipush (z := 12) (pc' := 408) ⟨rfl, rfl⟩ rfl ?_
  refine qa_newarr (pc' := 410) (t := 0) (N := 12) (y := (12, .inl (fun q => qa_i ((fun _ : Int => 0) q)))) ⟨rfl, rfl⟩ rfl rfl qa_ac_int rfl (by omega) (fun _ _ => rfl) (qa_le9 rfl) (fun _ _ => Iff.rfl) ?_
  refine qa_gn (fun τ74 e74 w74 f74 => ?_)
  replace w74 : _ = some (qa_ia 12 (fun _ => 0)) := w74
  rw [e0] at e74 w74 f74 ⊢
  replace a1 := (f74 _ (by omega)).trans a1
  replace a2 := (f74 _ (by omega)).trans a2
  replace a3 := (f74 _ (by omega)).trans a3
  replace a4 := (f74 _ (by omega)).trans a4
  replace a5 := (f74 _ (by omega)).trans a5
  replace a6 := (f74 _ (by omega)).trans a6
  replace a7 := (f74 _ (by omega)).trans a7
  replace a8 := (f74 _ (by omega)).trans a8
  replace hb := (f74 _ (by omega)).trans hb
  replace fr := fun q hq => (f74 q (by have := hq; omega)).trans (fr q hq)
  replace e0 := e74
  have a9 := w74
  replace e0 : τ74.2 = μ + 10 := by omega
  clear f74 e74
  obtain ⟨u0, hu0⟩ : ∃ y9 : Int → Int, y9 = fun _ => 0 := ⟨_, rfl⟩
  rw [← hu0] at a9
  refine qa_dup (pc' := 411) ⟨rfl, rfl⟩ rfl ?_
  refine qa_iconst (pc' := 412) ⟨rfl, rfl⟩ ?_
  refine qa_iconst (pc' := 413) ⟨rfl, rfl⟩ ?_
  refine qa_iastore (pc' := 414) ⟨rfl, rfl⟩ a9 (by omega) (by omega) ?_
  refine qa_gz (fun τ75 e75 w75 f75 => ?_)
  replace a1 := (f75 _ (by omega)).trans a1
  replace a2 := (f75 _ (by omega)).trans a2
  replace a3 := (f75 _ (by omega)).trans a3
  replace a4 := (f75 _ (by omega)).trans a4
  replace a5 := (f75 _ (by omega)).trans a5
  replace a6 := (f75 _ (by omega)).trans a6
  replace a7 := (f75 _ (by omega)).trans a7
  replace a8 := (f75 _ (by omega)).trans a8
  replace hb := (f75 _ (by omega)).trans hb
  replace fr := fun q hq => (f75 q (by have := hq; omega)).trans (fr q hq)
  replace e0 := e75.trans e0
  obtain ⟨u1, hu1⟩ : ∃ y9 : Int → Int, y9 = qa_up u0 0 0 := ⟨_, rfl⟩
  replace a9 := w75
  rw [← hu1] at a9
  clear f75 e75 w75
  refine qa_dup (pc' := 415) ⟨rfl, rfl⟩ rfl ?_
  refine qa_iconst (pc' := 416) ⟨rfl, rfl⟩ ?_
  refine qa_iconst (pc' := 417) ⟨rfl, rfl⟩ ?_
  refine qa_iastore (pc' := 418) ⟨rfl, rfl⟩ a9 (by omega) (by omega) ?_
  refine qa_gz (fun τ76 e76 w76 f76 => ?_)
  replace a1 := (f76 _ (by omega)).trans a1
  replace a2 := (f76 _ (by omega)).trans a2
  replace a3 := (f76 _ (by omega)).trans a3
  replace a4 := (f76 _ (by omega)).trans a4
  replace a5 := (f76 _ (by omega)).trans a5
  replace a6 := (f76 _ (by omega)).trans a6
  replace a7 := (f76 _ (by omega)).trans a7
  replace a8 := (f76 _ (by omega)).trans a8
  replace hb := (f76 _ (by omega)).trans hb
  replace fr := fun q hq => (f76 q (by have := hq; omega)).trans (fr q hq)
  replace e0 := e76.trans e0
  obtain ⟨u2, hu2⟩ : ∃ y9 : Int → Int, y9 = qa_up u1 1 4 := ⟨_, rfl⟩
  replace a9 := w76
  rw [← hu2] at a9
  clear f76 e76 w76
  refine qa_dup (pc' := 419) ⟨rfl, rfl⟩ rfl ?_
  refine qa_iconst (pc' := 420) ⟨rfl, rfl⟩ ?_
  refine qa_bipush (z := 9) (pc' := 422) ⟨rfl, rfl⟩ rfl ?_
  refine qa_iastore (pc' := 423) ⟨rfl, rfl⟩ a9 (by omega) (by omega) ?_
  refine qa_gz (fun τ77 e77 w77 f77 => ?_)
  replace a1 := (f77 _ (by omega)).trans a1
  replace a2 := (f77 _ (by omega)).trans a2
  replace a3 := (f77 _ (by omega)).trans a3
  replace a4 := (f77 _ (by omega)).trans a4
  replace a5 := (f77 _ (by omega)).trans a5
  replace a6 := (f77 _ (by omega)).trans a6
  replace a7 := (f77 _ (by omega)).trans a7
  replace a8 := (f77 _ (by omega)).trans a8
  replace hb := (f77 _ (by omega)).trans hb
  replace fr := fun q hq => (f77 q (by have := hq; omega)).trans (fr q hq)
  replace e0 := e77.trans e0
  obtain ⟨u3, hu3⟩ : ∃ y9 : Int → Int, y9 = qa_up u2 2 9 := ⟨_, rfl⟩
  replace a9 := w77
  rw [← hu3] at a9
  clear f77 e77 w77
  refine qa_dup (pc' := 424) ⟨rfl, rfl⟩ rfl ?_
  refine qa_iconst (pc' := 425) ⟨rfl, rfl⟩ ?_
  refine qa_bipush (z := 14) (pc' := 427) ⟨rfl, rfl⟩ rfl ?_
  refine qa_iastore (pc' := 428) ⟨rfl, rfl⟩ a9 (by omega) (by omega) ?_
  refine qa_gz (fun τ78 e78 w78 f78 => ?_)
  replace a1 := (f78 _ (by omega)).trans a1
  replace a2 := (f78 _ (by omega)).trans a2
  replace a3 := (f78 _ (by omega)).trans a3
  replace a4 := (f78 _ (by omega)).trans a4
  replace a5 := (f78 _ (by omega)).trans a5
  replace a6 := (f78 _ (by omega)).trans a6
  replace a7 := (f78 _ (by omega)).trans a7
  replace a8 := (f78 _ (by omega)).trans a8
  replace hb := (f78 _ (by omega)).trans hb
  replace fr := fun q hq => (f78 q (by have := hq; omega)).trans (fr q hq)
  replace e0 := e78.trans e0
  obtain ⟨u4, hu4⟩ : ∃ y9 : Int → Int, y9 = qa_up u3 3 14 := ⟨_, rfl⟩
  replace a9 := w78
  rw [← hu4] at a9
  clear f78 e78 w78
  refine qa_dup (pc' := 429) ⟨rfl, rfl⟩ rfl ?_
  refine qa_iconst (pc' := 430) ⟨rfl, rfl⟩ ?_
  refine qa_bipush (z := 19) (pc' := 432) ⟨rfl, rfl⟩ rfl ?_
  refine qa_iastore (pc' := 433) ⟨rfl, rfl⟩ a9 (by omega) (by omega) ?_
  refine qa_gz (fun τ79 e79 w79 f79 => ?_)
  replace a1 := (f79 _ (by omega)).trans a1
  replace a2 := (f79 _ (by omega)).trans a2
  replace a3 := (f79 _ (by omega)).trans a3
  replace a4 := (f79 _ (by omega)).trans a4
  replace a5 := (f79 _ (by omega)).trans a5
  replace a6 := (f79 _ (by omega)).trans a6
  replace a7 := (f79 _ (by omega)).trans a7
  replace a8 := (f79 _ (by omega)).trans a8
  replace hb := (f79 _ (by omega)).trans hb
  replace fr := fun q hq => (f79 q (by have := hq; omega)).trans (fr q hq)
  replace e0 := e79.trans e0
  obtain ⟨u5, hu5⟩ : ∃ y9 : Int → Int, y9 = qa_up u4 4 19 := ⟨_, rfl⟩
  replace a9 := w79
  rw [← hu5] at a9
  clear f79 e79 w79
  refine qa_dup (pc' := 434) ⟨rfl, rfl⟩ rfl ?_
  refine qa_iconst (pc' := 435) ⟨rfl, rfl⟩ ?_
  refine qa_bipush (z := 24) (pc' := 437) ⟨rfl, rfl⟩ rfl ?_
  refine qa_iastore (pc' := 438) ⟨rfl, rfl⟩ a9 (by omega) (by omega) ?_
  refine qa_gz (fun τ80 e80 w80 f80 => ?_)
  replace a1 := (f80 _ (by omega)).trans a1
  replace a2 := (f80 _ (by omega)).trans a2
  replace a3 := (f80 _ (by omega)).trans a3
  replace a4 := (f80 _ (by omega)).trans a4
  replace a5 := (f80 _ (by omega)).trans a5
  replace a6 := (f80 _ (by omega)).trans a6
  replace a7 := (f80 _ (by omega)).trans a7
  replace a8 := (f80 _ (by omega)).trans a8
  replace hb := (f80 _ (by omega)).trans hb
  replace fr := fun q hq => (f80 q (by have := hq; omega)).trans (fr q hq)
  replace e0 := e80.trans e0
  obtain ⟨u6, hu6⟩ : ∃ y9 : Int → Int, y9 = qa_up u5 5 24 := ⟨_, rfl⟩
  replace a9 := w80
  rw [← hu6] at a9
  clear f80 e80 w80
  refine qa_dup (pc' := 439) ⟨rfl, rfl⟩ rfl ?_
  refine qa_bipush (z := 6) (pc' := 441) ⟨rfl, rfl⟩ rfl ?_
  refine qa_bipush (z := 29) (pc' := 443) ⟨rfl, rfl⟩ rfl ?_
  refine qa_iastore (pc' := 444) ⟨rfl, rfl⟩ a9 (by omega) (by omega) ?_
  refine qa_gz (fun τ81 e81 w81 f81 => ?_)
  replace a1 := (f81 _ (by omega)).trans a1
  replace a2 := (f81 _ (by omega)).trans a2
  replace a3 := (f81 _ (by omega)).trans a3
  replace a4 := (f81 _ (by omega)).trans a4
  replace a5 := (f81 _ (by omega)).trans a5
  replace a6 := (f81 _ (by omega)).trans a6
  replace a7 := (f81 _ (by omega)).trans a7
  replace a8 := (f81 _ (by omega)).trans a8
  replace hb := (f81 _ (by omega)).trans hb
  replace fr := fun q hq => (f81 q (by have := hq; omega)).trans (fr q hq)
  replace e0 := e81.trans e0
  obtain ⟨u7, hu7⟩ : ∃ y9 : Int → Int, y9 = qa_up u6 6 29 := ⟨_, rfl⟩
  replace a9 := w81
  rw [← hu7] at a9
  clear f81 e81 w81
  refine qa_dup (pc' := 445) ⟨rfl, rfl⟩ rfl ?_
  refine qa_bipush (z := 7) (pc' := 447) ⟨rfl, rfl⟩ rfl ?_
  refine qa_bipush (z := 33) (pc' := 449) ⟨rfl, rfl⟩ rfl ?_
  refine qa_iastore (pc' := 450) ⟨rfl, rfl⟩ a9 (by omega) (by omega) ?_
  refine qa_gz (fun τ82 e82 w82 f82 => ?_)
  replace a1 := (f82 _ (by omega)).trans a1
  replace a2 := (f82 _ (by omega)).trans a2
  replace a3 := (f82 _ (by omega)).trans a3
  replace a4 := (f82 _ (by omega)).trans a4
  replace a5 := (f82 _ (by omega)).trans a5
  replace a6 := (f82 _ (by omega)).trans a6
  replace a7 := (f82 _ (by omega)).trans a7
  replace a8 := (f82 _ (by omega)).trans a8
  replace hb := (f82 _ (by omega)).trans hb
  replace fr := fun q hq => (f82 q (by have := hq; omega)).trans (fr q hq)
  replace e0 := e82.trans e0
  obtain ⟨u8, hu8⟩ : ∃ y9 : Int → Int, y9 = qa_up u7 7 33 := ⟨_, rfl⟩
  replace a9 := w82
  rw [← hu8] at a9
  clear f82 e82 w82
  refine qa_dup (pc' := 451) ⟨rfl, rfl⟩ rfl ?_
  refine qa_bipush (z := 8) (pc' := 453) ⟨rfl, rfl⟩ rfl ?_
  refine qa_bipush (z := 39) (pc' := 455) ⟨rfl, rfl⟩ rfl ?_
  refine qa_iastore (pc' := 456) ⟨rfl, rfl⟩ a9 (by omega) (by omega) ?_
  refine qa_gz (fun τ83 e83 w83 f83 => ?_)
  replace a1 := (f83 _ (by omega)).trans a1
  replace a2 := (f83 _ (by omega)).trans a2
  replace a3 := (f83 _ (by omega)).trans a3
  replace a4 := (f83 _ (by omega)).trans a4
  replace a5 := (f83 _ (by omega)).trans a5
  replace a6 := (f83 _ (by omega)).trans a6
  replace a7 := (f83 _ (by omega)).trans a7
  replace a8 := (f83 _ (by omega)).trans a8
  replace hb := (f83 _ (by omega)).trans hb
  replace fr := fun q hq => (f83 q (by have := hq; omega)).trans (fr q hq)
  replace e0 := e83.trans e0
  obtain ⟨u9, hu9⟩ : ∃ y9 : Int → Int, y9 = qa_up u8 8 39 := ⟨_, rfl⟩
  replace a9 := w83
  rw [← hu9] at a9
  clear f83 e83 w83
  refine qa_dup (pc' := 457) ⟨rfl, rfl⟩ rfl ?_
  refine qa_bipush (z := 9) (pc' := 459) ⟨rfl, rfl⟩ rfl ?_
  refine qa_bipush (z := 43) (pc' := 461) ⟨rfl, rfl⟩ rfl ?_
  refine qa_iastore (pc' := 462) ⟨rfl, rfl⟩ a9 (by omega) (by omega) ?_
  refine qa_gz (fun τ84 e84 w84 f84 => ?_)
  replace a1 := (f84 _ (by omega)).trans a1
  replace a2 := (f84 _ (by omega)).trans a2
  replace a3 := (f84 _ (by omega)).trans a3
  replace a4 := (f84 _ (by omega)).trans a4
  replace a5 := (f84 _ (by omega)).trans a5
  replace a6 := (f84 _ (by omega)).trans a6
  replace a7 := (f84 _ (by omega)).trans a7
  replace a8 := (f84 _ (by omega)).trans a8
  replace hb := (f84 _ (by omega)).trans hb
  replace fr := fun q hq => (f84 q (by have := hq; omega)).trans (fr q hq)
  replace e0 := e84.trans e0
  obtain ⟨u10, hu10⟩ : ∃ y9 : Int → Int, y9 = qa_up u9 9 43 := ⟨_, rfl⟩
  replace a9 := w84
  rw [← hu10] at a9
  clear f84 e84 w84
  refine qa_dup (pc' := 463) ⟨rfl, rfl⟩ rfl ?_
  refine qa_bipush (z := 10) (pc' := 465) ⟨rfl, rfl⟩ rfl ?_
  refine qa_bipush (z := 49) (pc' := 467) ⟨rfl, rfl⟩ rfl ?_
  refine qa_iastore (pc' := 468) ⟨rfl, rfl⟩ a9 (by omega) (by omega) ?_
  refine qa_gz (fun τ85 e85 w85 f85 => ?_)
  replace a1 := (f85 _ (by omega)).trans a1
  replace a2 := (f85 _ (by omega)).trans a2
  replace a3 := (f85 _ (by omega)).trans a3
  replace a4 := (f85 _ (by omega)).trans a4
  replace a5 := (f85 _ (by omega)).trans a5
  replace a6 := (f85 _ (by omega)).trans a6
  replace a7 := (f85 _ (by omega)).trans a7
  replace a8 := (f85 _ (by omega)).trans a8
  replace hb := (f85 _ (by omega)).trans hb
  replace fr := fun q hq => (f85 q (by have := hq; omega)).trans (fr q hq)
  replace e0 := e85.trans e0
  obtain ⟨u11, hu11⟩ : ∃ y9 : Int → Int, y9 = qa_up u10 10 49 := ⟨_, rfl⟩
  replace a9 := w85
  rw [← hu11] at a9
  clear f85 e85 w85
  refine qa_dup (pc' := 469) ⟨rfl, rfl⟩ rfl ?_
  refine qa_bipush (z := 11) (pc' := 471) ⟨rfl, rfl⟩ rfl ?_
  refine qa_bipush (z := 54) (pc' := 473) ⟨rfl, rfl⟩ rfl ?_
  refine qa_iastore (pc' := 474) ⟨rfl, rfl⟩ a9 (by omega) (by omega) ?_
  refine qa_gz (fun τ86 e86 w86 f86 => ?_)
  replace a1 := (f86 _ (by omega)).trans a1
  replace a2 := (f86 _ (by omega)).trans a2
  replace a3 := (f86 _ (by omega)).trans a3
  replace a4 := (f86 _ (by omega)).trans a4
  replace a5 := (f86 _ (by omega)).trans a5
  replace a6 := (f86 _ (by omega)).trans a6
  replace a7 := (f86 _ (by omega)).trans a7
  replace a8 := (f86 _ (by omega)).trans a8
  replace hb := (f86 _ (by omega)).trans hb
  replace fr := fun q hq => (f86 q (by have := hq; omega)).trans (fr q hq)
  replace e0 := e86.trans e0
  obtain ⟨u12, hu12⟩ : ∃ y9 : Int → Int, y9 = qa_up u11 11 54 := ⟨_, rfl⟩
  replace a9 := w86
  rw [← hu12] at a9
  clear f86 e86 w86
  refine qa_putf (fs' := [_, _, _, _, _, _, _, _, _, _, _, _, _, _, _, _, _, _, _, _, _, _, _, _, _, _, _]) (pc' := 477) ⟨rfl, rfl⟩ qg_10_45 qw_9 hb (by omega) rfl (fun r hr => by cases hr; exact ⟨rfl, Or.inr ⟨rfl, rfl, rfl⟩⟩) rfl rfl ?_
  refine qa_gz (fun τ87 e87 w87 f87 => ?_)
  replace a1 := (f87 _ (by omega)).trans a1
  replace a2 := (f87 _ (by omega)).trans a2
  replace a3 := (f87 _ (by omega)).trans a3
  replace a4 := (f87 _ (by omega)).trans a4
  replace a5 := (f87 _ (by omega)).trans a5
  replace a6 := (f87 _ (by omega)).trans a6
  replace a7 := (f87 _ (by omega)).trans a7
  replace a8 := (f87 _ (by omega)).trans a8
  replace a9 := (f87 _ (by omega)).trans a9
  replace fr := fun q hq => (f87 q (by have := hq; omega)).trans (fr q hq)
  replace e0 := e87.trans e0
  have hb := w87
  refine qa_aload_n (pc' := 478) ⟨rfl, rfl⟩ rfl ?_
  refine qa_sipush (z := 244) (pc' := 481) ⟨rfl, rfl⟩ rfl ?_
  refine qa_newarr (pc' := 483) (t := 0) (N := 244) (y := (244, .inl (fun q => qa_i ((fun _ : Int => 0) q)))) ⟨rfl, rfl⟩ rfl rfl qa_ac_int rfl (by omega) (fun _ _ => rfl) (qa_le9 rfl) (fun _ _ => Iff.rfl) ?_
  refine qa_gn (fun τ88 e88 w88 f88 => ?_)
  replace w88 : _ = some (qa_ia 244 (fun _ => 0)) := w88
  rw [e0] at e88 w88 f88 ⊢
  replace a1 := (f88 _ (by omega)).trans a1
  replace a2 := (f88 _ (by omega)).trans a2
  replace a3 := (f88 _ (by omega)).trans a3
  replace a4 := (f88 _ (by omega)).trans a4
  replace a5 := (f88 _ (by omega)).trans a5
  replace a6 := (f88 _ (by omega)).trans a6
  replace a7 := (f88 _ (by omega)).trans a7
  replace a8 := (f88 _ (by omega)).trans a8
  replace a9 := (f88 _ (by omega)).trans a9
  replace hb := (f88 _ (by omega)).trans hb
  replace fr := fun q hq => (f88 q (by have := hq; omega)).trans (fr q hq)
  replace e0 := e88
  have a10 := w88
  replace e0 : τ88.2 = μ + 11 := by omega
  clear f88 e88
  refine qa_putf (fs' := [_, _, _, _, _, _, _, _, _, _, _, _, _, _, _, _, _, _, _, _, _, _, _, _, _, _, _]) (pc' := 486) ⟨rfl, rfl⟩ qg_10_48 qw_9 hb (by omega) rfl (fun r hr => by cases hr; exact ⟨rfl, Or.inr ⟨rfl, rfl, rfl⟩⟩) rfl rfl ?_
  refine qa_gz (fun τ89 e89 w89 f89 => ?_)
  replace a1 := (f89 _ (by omega)).trans a1
  replace a2 := (f89 _ (by omega)).trans a2
  replace a3 := (f89 _ (by omega)).trans a3
  replace a4 := (f89 _ (by omega)).trans a4
  replace a5 := (f89 _ (by omega)).trans a5
  replace a6 := (f89 _ (by omega)).trans a6
  replace a7 := (f89 _ (by omega)).trans a7
  replace a8 := (f89 _ (by omega)).trans a8
  replace a9 := (f89 _ (by omega)).trans a9
  replace a10 := (f89 _ (by omega)).trans a10
  replace fr := fun q hq => (f89 q (by have := hq; omega)).trans (fr q hq)
  replace e0 := e89.trans e0
  have hb := w89
  refine qa_aload_n (pc' := 487) ⟨rfl, rfl⟩ rfl ?_
  refine qa_getf (pc' := 490) ⟨rfl, rfl⟩ qg_10_9 (by assumption) rfl ?_
  refine qa_iconst (pc' := 491) ⟨rfl, rfl⟩ ?_
  refine qa_bipush (z := 8) (pc' := 493) ⟨rfl, rfl⟩ rfl ?_
  refine qa_iastore (pc' := 494) ⟨rfl, rfl⟩ a1 (by omega) (by omega) ?_
  refine qa_gz (fun τ90 e90 w90 f90 => ?_)
  replace a2 := (f90 _ (by omega)).trans a2
  replace a3 := (f90 _ (by omega)).trans a3
  replace a4 := (f90 _ (by omega)).trans a4
  replace a5 := (f90 _ (by omega)).trans a5
  replace a6 := (f90 _ (by omega)).trans a6
  replace a7 := (f90 _ (by omega)).trans a7
  replace a8 := (f90 _ (by omega)).trans a8
  replace a9 := (f90 _ (by omega)).trans a9
  replace a10 := (f90 _ (by omega)).trans a10
  replace hb := (f90 _ (by omega)).trans hb
  replace fr := fun q hq => (f90 q (by have := hq; omega)).trans (fr q hq)
  replace e0 := e90.trans e0
  have a1 := w90
  refine qa_aload_n (pc' := 495) ⟨rfl, rfl⟩ rfl ?_
  refine qa_getf (pc' := 498) ⟨rfl, rfl⟩ qg_10_9 (by assumption) rfl ?_
  refine qa_iconst (pc' := 499) ⟨rfl, rfl⟩ ?_
  refine qa_iconst (pc' := 500) ⟨rfl, rfl⟩ ?_
  refine qa_iastore (pc' := 501) ⟨rfl, rfl⟩ a1 (by omega) (by omega) ?_
  refine qa_gz (fun τ91 e91 w91 f91 => ?_)
  replace a2 := (f91 _ (by omega)).trans a2
  replace a3 := (f91 _ (by omega)).trans a3
  replace a4 := (f91 _ (by omega)).trans a4
  replace a5 := (f91 _ (by omega)).trans a5
  replace a6 := (f91 _ (by omega)).trans a6
  replace a7 := (f91 _ (by omega)).trans a7
  replace a8 := (f91 _ (by omega)).trans a8
  replace a9 := (f91 _ (by omega)).trans a9
  replace a10 := (f91 _ (by omega)).trans a10
  replace hb := (f91 _ (by omega)).trans hb
  replace fr := fun q hq => (f91 q (by have := hq; omega)).trans (fr q hq)
  replace e0 := e91.trans e0
  have a1 := w91
  refine qa_aload_n (pc' := 502) ⟨rfl, rfl⟩ rfl ?_
  refine qa_getf (pc' := 505) ⟨rfl, rfl⟩ qg_10_9 (by assumption) rfl ?_
  refine qa_sipush (z := 135) (pc' := 508) ⟨rfl, rfl⟩ rfl ?_
  refine qa_bipush (z := 60) (pc' := 510) ⟨rfl, rfl⟩ rfl ?_
  refine qa_iastore (pc' := 511) ⟨rfl, rfl⟩ a1 (by omega) (by omega) ?_
  refine qa_gz (fun τ92 e92 w92 f92 => ?_)
  replace a2 := (f92 _ (by omega)).trans a2
  replace a3 := (f92 _ (by omega)).trans a3
  replace a4 := (f92 _ (by omega)).trans a4
  replace a5 := (f92 _ (by omega)).trans a5
  replace a6 := (f92 _ (by omega)).trans a6
  replace a7 := (f92 _ (by omega)).trans a7
  replace a8 := (f92 _ (by omega)).trans a8
  replace a9 := (f92 _ (by omega)).trans a9
  replace a10 := (f92 _ (by omega)).trans a10
  replace hb := (f92 _ (by omega)).trans hb
  replace fr := fun q hq => (f92 q (by have := hq; omega)).trans (fr q hq)
  replace e0 := e92.trans e0
  have a1 := w92
  have kl : ∀ j : Int, 0 ≤ j → j < 54 → g54 j = qM_let j := by
    intro j j0 j1
    obtain ⟨n, rfl⟩ : ∃ n : Nat, j = n := ⟨j.toNat, by omega⟩
    rw [hg54, hg53, hg52, hg51, hg50, hg49, hg48, hg47, hg46, hg45, hg44, hg43, hg42, hg41, hg40, hg39, hg38, hg37, hg36, hg35, hg34, hg33, hg32, hg31, hg30, hg29, hg28, hg27, hg26, hg25, hg24, hg23, hg22, hg21, hg20, hg19, hg18, hg17, hg16, hg15, hg14, hg13, hg12, hg11, hg10, hg9, hg8, hg7, hg6, hg5, hg4, hg3, hg2, hg1, hg0]
    exact qM_let_k ⟨n, by omega⟩
  have kb : ∀ j : Int, 0 ≤ j → j < 12 → u12 j = qM_beg j := by
    intro j j0 j1
    obtain ⟨n, rfl⟩ : ∃ n : Nat, j = n := ⟨j.toNat, by omega⟩
    rw [hu12, hu11, hu10, hu9, hu8, hu7, hu6, hu5, hu4, hu3, hu2, hu1, hu0]
    exact qM_beg_k ⟨n, by omega⟩
  rw [sm_0_up] at a1
  refine qa_W.lk (qa_lk.setc a8 kl) ?_
  refine qa_W.lk (qa_lk.set ((qa_set_ne (by omega)).trans a9) kb) ?_
  have n8 : ∀ {h9 : qa_H} {x9 : qa_E} {q : Nat}, q ≠ μ + 8 → (qa_set h9 (μ + 8) x9) q = h9 q := fun hq => qa_set_ne hq
  have n9 : ∀ {h9 : qa_H} {x9 : qa_E} {q : Nat}, q ≠ μ + 9 → (qa_set h9 (μ + 9) x9) q = h9 q := fun hq => qa_set_ne hq
  refine qa_return rfl rfl (hQ _ _ ⟨rfl, e0, fun q hq => (n9 (by omega)).trans ((n8 (by omega)).trans (fr q hq)), ⟨(n9 (by omega)).trans ((n8 (by omega)).trans hb), (n9 (by omega)).trans ((n8 (by omega)).trans a1)⟩, ⟨_, (n9 (by omega)).trans ((n8 (by omega)).trans a2)⟩, (n9 (by omega)).trans ((n8 (by omega)).trans a3), (n9 (by omega)).trans ((n8 (by omega)).trans a4), (n9 (by omega)).trans ((n8 (by omega)).trans a5), ⟨_, (n9 (by omega)).trans ((n8 (by omega)).trans a6)⟩, (n9 (by omega)).trans ((n8 (by omega)).trans a7), (n9 (by omega)).trans qa_set_up, qa_set_up, _, (n9 (by omega)).trans ((n8 (by omega)).trans a10)⟩)
