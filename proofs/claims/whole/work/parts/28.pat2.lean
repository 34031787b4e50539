/-- bits of a choice of at most ten notes -/
def sp_tN : Nat → Nat → Nat
  | 0, _ => 0
  | f + 1, x => if x % 2 = 1 then 0 else sp_tN f (x / 2) + 1
def sp_bN : Nat → Nat → Nat
  | 0, _ => 0
  | f + 1, x => x % 2 + sp_bN f (x / 2)
def sp_tz (x : Int) : Int := (sp_tN 10 x.toNat : Nat)
def sp_bc (x : Int) : Int := (sp_bN 10 x.toNat : Nat)
def sp_cl (x : Int) : Int := ((x.toNat - 2 ^ sp_tN 10 x.toNat : Nat) : Int)
def qa_bcx (x : Int32) : Int32 :=
  let u := fun (y : Int32) (k : Int32) => (y.toUInt32 >>> (k.toUInt32 &&& Int32.toUInt32 31)).toInt32
  let x1 := x - (u x (qa_i 1) &&& qa_i 1431655765)
  let x2 := (x1 &&& qa_i 858993459) + (u x1 (qa_i 2) &&& qa_i 858993459)
  let x3 := (x2 + u x2 (qa_i 4)) &&& qa_i 252645135
  let x4 := x3 + u x3 (qa_i 8)
  let x5 := x4 + u x4 (qa_i 16)
  x5 &&& qa_i 63
theorem sp_bits1 : ∀ x : Fin 1024, qa_bcx (qa_i (x.val : Int)) = qa_i ((sp_bN 10 x.val : Nat) : Int) := by decide +kernel
theorem sp_bits2 : ∀ x : Fin 1024, x.val ≠ 0 → (qa_i (x.val : Int) ^^^ qa_i (-1)) &&& qa_i ((x.val : Int) - 1) = qa_i ((2 ^ sp_tN 10 x.val - 1 : Nat) : Int) ∧ qa_i (x.val : Int) &&& qa_i ((x.val : Int) - 1) = qa_i ((x.val - 2 ^ sp_tN 10 x.val : Nat) : Int) ∧ sp_tN 10 x.val < 10 ∧ 2 ^ sp_tN 10 x.val ≤ x.val := by decide +kernel
theorem sp_bits3 : ∀ n : Fin 11, qa_i 1 <<< (qa_i (n.val : Int) &&& 31) = qa_i ((2 ^ n.val : Nat) : Int) := by decide +kernel
theorem sp_bc_b (x : Int) : 0 ≤ sp_bc x ∧ sp_bc x ≤ 10 := by
  have h : ∀ f x, sp_bN f x ≤ f := by
    intro f
    induction f with
    | zero => intro x; exact Nat.le_refl _
    | succ f ih => intro x; unfold sp_bN; have := ih (x / 2); omega
  have := h 10 x.toNat
  unfold sp_bc; omega
theorem sp_tz_b {x : Int} (h : 1 ≤ x ∧ x < 1024) : (0 ≤ sp_tz x ∧ sp_tz x < 10) ∧ 2 ^ (sp_tz x).toNat ≤ x.toNat ∧ (0 ≤ sp_cl x ∧ sp_cl x < x) ∧ qa_i x &&& qa_i (x - 1) = qa_i (sp_cl x) ∧ (qa_i x ^^^ qa_i (-1)) &&& qa_i (x - 1) = qa_i ((2 ^ (sp_tz x).toNat - 1 : Nat) : Int) := by
  obtain ⟨n, rfl⟩ : ∃ n : Nat, x = n := ⟨x.toNat, by omega⟩
  obtain ⟨h1, h2, h3, h4⟩ := sp_bits2 ⟨n, by omega⟩ (by show n ≠ 0; omega)
  have hp := Nat.two_pow_pos (sp_tN 10 n)
  simp only at h1 h2 h3 h4
  unfold sp_tz sp_cl
  simp only [Int.toNat_natCast]
  refine ⟨by omega, h4, by omega, h2, h1⟩
theorem sp_tz_n {x : Int} {n : Nat} (h : 1 ≤ x ∧ x < 1024) (hn : x < ((2 ^ n : Nat) : Int)) : sp_tz x < n := by
  have h1 := (sp_tz_b h).2.1
  have h2 := (sp_tz_b h).1
  rcases Nat.lt_or_ge (sp_tz x).toNat n with h3 | h3
  · omega
  · have := Nat.pow_le_pow_right (n := 2) (by omega) h3; omega
theorem c_IN_bitCount {E : qa_V} {σ : qa_S} {x : Int} (hx : 0 ≤ x ∧ x < 1024) : qa_T E qm_IN_bitCount 0 0 [.int (qa_i x)] σ (fun o9 τ => o9 = .inl (some (.int (qa_i (sp_bc x)))) ∧ τ = σ) := by
  refine qa_enterF (by decide +kernel) rfl qm_IN_bitCount_ok rfl rfl (fun Q9 hQ => ?_)
  have hb : qa_bcx (qa_i x) = qa_i (sp_bc x) := by
    obtain ⟨n, rfl⟩ : ∃ n : Nat, x = n := ⟨x.toNat, by omega⟩
    exact sp_bits1 ⟨n, by omega⟩
  rw [← hb] at hQ
  refine qa_iload_n (pc' := 1) ⟨rfl, rfl⟩ rfl ?_
  refine qa_iload_n (pc' := 2) ⟨rfl, rfl⟩ rfl ?_
  refine qa_iconst (pc' := 3) ⟨rfl, rfl⟩ ?_
  refine qa_iushrR (pc' := 4) ⟨rfl, rfl⟩ rfl ?_
  refine qa_ldcw (z := 1431655765) (pc' := 7) ⟨rfl, rfl⟩ qk_16_265 ?_
  refine qa_iandR (pc' := 8) ⟨rfl, rfl⟩ rfl ?_
  refine qa_isubR (pc' := 9) ⟨rfl, rfl⟩ rfl ?_
  refine qa_istore_n (L' := [(0, _)]) (pc' := 10) ⟨rfl, rfl⟩ rfl rfl ?_
  refine qa_iload_n (pc' := 11) ⟨rfl, rfl⟩ rfl ?_
  refine qa_ldcw (z := 858993459) (pc' := 14) ⟨rfl, rfl⟩ qk_16_266 ?_
  refine qa_iandR (pc' := 15) ⟨rfl, rfl⟩ rfl ?_
  refine qa_iload_n (pc' := 16) ⟨rfl, rfl⟩ rfl ?_
  refine qa_iconst (pc' := 17) ⟨rfl, rfl⟩ ?_
  refine qa_iushrR (pc' := 18) ⟨rfl, rfl⟩ rfl ?_
  refine qa_ldcw (z := 858993459) (pc' := 21) ⟨rfl, rfl⟩ qk_16_266 ?_
  refine qa_iandR (pc' := 22) ⟨rfl, rfl⟩ rfl ?_
  refine qa_iaddR (pc' := 23) ⟨rfl, rfl⟩ rfl ?_
  refine qa_istore_n (L' := [(0, _)]) (pc' := 24) ⟨rfl, rfl⟩ rfl rfl ?_
  refine qa_iload_n (pc' := 25) ⟨rfl, rfl⟩ rfl ?_
  refine qa_iload_n (pc' := 26) ⟨rfl, rfl⟩ rfl ?_
  refine qa_iconst (pc' := 27) ⟨rfl, rfl⟩ ?_
  refine qa_iushrR (pc' := 28) ⟨rfl, rfl⟩ rfl ?_
  refine qa_iaddR (pc' := 29) ⟨rfl, rfl⟩ rfl ?_
  refine qa_ldcw (z := 252645135) (pc' := 32) ⟨rfl, rfl⟩ qk_16_267 ?_
  refine qa_iandR (pc' := 33) ⟨rfl, rfl⟩ rfl ?_
  refine qa_istore_n (L' := [(0, _)]) (pc' := 34) ⟨rfl, rfl⟩ rfl rfl ?_
  refine qa_iload_n (pc' := 35) ⟨rfl, rfl⟩ rfl ?_
  refine qa_iload_n (pc' := 36) ⟨rfl, rfl⟩ rfl ?_
  refine qa_bipush (z := 8) (pc' := 38) ⟨rfl, rfl⟩ rfl ?_
  refine qa_iushrR (pc' := 39) ⟨rfl, rfl⟩ rfl ?_
  refine qa_iaddR (pc' := 40) ⟨rfl, rfl⟩ rfl ?_
  refine qa_istore_n (L' := [(0, _)]) (pc' := 41) ⟨rfl, rfl⟩ rfl rfl ?_
  refine qa_iload_n (pc' := 42) ⟨rfl, rfl⟩ rfl ?_
  refine qa_iload_n (pc' := 43) ⟨rfl, rfl⟩ rfl ?_
  refine qa_bipush (z := 16) (pc' := 45) ⟨rfl, rfl⟩ rfl ?_
  refine qa_iushrR (pc' := 46) ⟨rfl, rfl⟩ rfl ?_
  refine qa_iaddR (pc' := 47) ⟨rfl, rfl⟩ rfl ?_
  refine qa_istore_n (L' := [(0, _)]) (pc' := 48) ⟨rfl, rfl⟩ rfl rfl ?_
  refine qa_iload_n (pc' := 49) ⟨rfl, rfl⟩ rfl ?_
  refine qa_bipush (z := 63) (pc' := 51) ⟨rfl, rfl⟩ rfl ?_
  refine qa_iandR (pc' := 52) ⟨rfl, rfl⟩ rfl ?_
  refine qa_ireturn rfl rfl rfl (hQ _ _ ⟨rfl, rfl⟩)
theorem c_IN_ntz {E : qa_V} {σ : qa_S} {x : Int} (hx : 1 ≤ x ∧ x < 1024) : qa_T E qm_IN_numberOfTrailingZeros 0 0 [.int (qa_i x)] σ (fun o9 τ => o9 = .inl (some (.int (qa_i (sp_tz x)))) ∧ τ = σ) := by
  refine qa_enterF (by decide +kernel) rfl qm_IN_numberOfTrailingZeros_ok rfl rfl (fun Q9 hQ => ?_)
  obtain ⟨h1, -, -, -, h2⟩ := sp_tz_b hx
  generalize sp_tz x = t at *
  refine qa_iload_n (pc' := 1) ⟨rfl, rfl⟩ rfl ?_
  refine qa_iconst (pc' := 2) ⟨rfl, rfl⟩ ?_
  refine qa_ixorR (pc' := 3) ⟨rfl, rfl⟩ rfl ?_
  refine qa_iload_n (pc' := 4) ⟨rfl, rfl⟩ rfl ?_
  refine qa_iconst (pc' := 5) ⟨rfl, rfl⟩ ?_
  refine qa_isub (z := x - 1) (pc' := 6) ⟨rfl, rfl⟩ rfl ?_
  refine qa_iandR (pc' := 7) ⟨rfl, rfl⟩ h2 ?_
  obtain rfl | rfl | rfl | rfl | rfl | rfl | rfl | rfl | rfl | rfl : t = 0 ∨ t = 1 ∨ t = 2 ∨ t = 3 ∨ t = 4 ∨ t = 5 ∨ t = 6 ∨ t = 7 ∨ t = 8 ∨ t = 9 := by omega
  · show qa_W E qm_IN_numberOfTrailingZeros Q9 0 0 7 _ [.int (qa_i 0)] _
    refine qa_istore_n (L' := [(0, _)]) (pc' := 8) ⟨rfl, rfl⟩ rfl rfl ?_
    refine qa_iload_n (pc' := 9) ⟨rfl, rfl⟩ rfl ?_
    refine qa_if_gt (pc' := 12) (tgt := 17) ⟨rfl, rfl⟩ rfl (by omega) (fun hc => ?_) (fun hc => ?_)
    · exact absurd hc (by omega)
    refine qa_iload_n (pc' := 13) ⟨rfl, rfl⟩ rfl ?_
    refine qa_bipush (z := 32) (pc' := 15) ⟨rfl, rfl⟩ rfl ?_
    refine qa_iandX (z := 0) (pc' := 16) ⟨rfl, rfl⟩ (by decide) ?_
    refine qa_ireturn rfl rfl rfl (hQ _ _ ⟨rfl, rfl⟩)
  · show qa_W E qm_IN_numberOfTrailingZeros Q9 0 0 7 _ [.int (qa_i 1)] _
    refine qa_istore_n (L' := [(0, _)]) (pc' := 8) ⟨rfl, rfl⟩ rfl rfl ?_
    refine qa_iload_n (pc' := 9) ⟨rfl, rfl⟩ rfl ?_
    refine qa_if_gt (pc' := 12) (tgt := 17) ⟨rfl, rfl⟩ rfl (by omega) (fun hc => ?_) (fun hc => ?_)
    rotate_left
    · exact absurd hc (by omega)
    refine qa_iconst (pc' := 18) ⟨rfl, rfl⟩ ?_
    refine qa_istore_n (L' := [(0, _), (1, _)]) (pc' := 19) ⟨rfl, rfl⟩ rfl rfl ?_
    refine qa_iload_n (pc' := 20) ⟨rfl, rfl⟩ rfl ?_
    refine qa_ldcw (z := 65536) (pc' := 23) ⟨rfl, rfl⟩ qk_16_264 ?_
    refine qa_icmp_le (pc' := 26) (tgt := 34) ⟨rfl, rfl⟩ rfl (by omega) (by omega) (fun hc => ?_) (fun hc => ?_)
    rotate_left
    · exact absurd hc (by omega)
    refine qa_iload_n (pc' := 35) ⟨rfl, rfl⟩ rfl ?_
    refine qa_sipush (z := 256) (pc' := 38) ⟨rfl, rfl⟩ rfl ?_
    refine qa_icmp_le (pc' := 41) (tgt := 49) ⟨rfl, rfl⟩ rfl (by omega) (by omega) (fun hc => ?_) (fun hc => ?_)
    rotate_left
    · exact absurd hc (by omega)
    refine qa_iload_n (pc' := 50) ⟨rfl, rfl⟩ rfl ?_
    refine qa_bipush (z := 16) (pc' := 52) ⟨rfl, rfl⟩ rfl ?_
    refine qa_icmp_le (pc' := 55) (tgt := 62) ⟨rfl, rfl⟩ rfl (by omega) (by omega) (fun hc => ?_) (fun hc => ?_)
    rotate_left
    · exact absurd hc (by omega)
    refine qa_iload_n (pc' := 63) ⟨rfl, rfl⟩ rfl ?_
    refine qa_iconst (pc' := 64) ⟨rfl, rfl⟩ ?_
    refine qa_icmp_le (pc' := 67) (tgt := 74) ⟨rfl, rfl⟩ rfl (by omega) (by omega) (fun hc => ?_) (fun hc => ?_)
    rotate_left
    · exact absurd hc (by omega)
    refine qa_iload_n (pc' := 75) ⟨rfl, rfl⟩ rfl ?_
    refine qa_iload_n (pc' := 76) ⟨rfl, rfl⟩ rfl ?_
    refine qa_iconst (pc' := 77) ⟨rfl, rfl⟩ ?_
    refine qa_iushrX (z := 0) (pc' := 78) ⟨rfl, rfl⟩ (by decide) ?_
    refine qa_iadd (z := 1) (pc' := 79) ⟨rfl, rfl⟩ (by decide) ?_
    refine qa_ireturn rfl rfl rfl (hQ _ _ ⟨rfl, rfl⟩)
  · show qa_W E qm_IN_numberOfTrailingZeros Q9 0 0 7 _ [.int (qa_i 3)] _
    refine qa_istore_n (L' := [(0, _)]) (pc' := 8) ⟨rfl, rfl⟩ rfl rfl ?_
    refine qa_iload_n (pc' := 9) ⟨rfl, rfl⟩ rfl ?_
    refine qa_if_gt (pc' := 12) (tgt := 17) ⟨rfl, rfl⟩ rfl (by omega) (fun hc => ?_) (fun hc => ?_)
    rotate_left
    · exact absurd hc (by omega)
    refine qa_iconst (pc' := 18) ⟨rfl, rfl⟩ ?_
    refine qa_istore_n (L' := [(0, _), (1, _)]) (pc' := 19) ⟨rfl, rfl⟩ rfl rfl ?_
    refine qa_iload_n (pc' := 20) ⟨rfl, rfl⟩ rfl ?_
    refine qa_ldcw (z := 65536) (pc' := 23) ⟨rfl, rfl⟩ qk_16_264 ?_
    refine qa_icmp_le (pc' := 26) (tgt := 34) ⟨rfl, rfl⟩ rfl (by omega) (by omega) (fun hc => ?_) (fun hc => ?_)
    rotate_left
    · exact absurd hc (by omega)
    refine qa_iload_n (pc' := 35) ⟨rfl, rfl⟩ rfl ?_
    refine qa_sipush (z := 256) (pc' := 38) ⟨rfl, rfl⟩ rfl ?_
    refine qa_icmp_le (pc' := 41) (tgt := 49) ⟨rfl, rfl⟩ rfl (by omega) (by omega) (fun hc => ?_) (fun hc => ?_)
    rotate_left
    · exact absurd hc (by omega)
    refine qa_iload_n (pc' := 50) ⟨rfl, rfl⟩ rfl ?_
    refine qa_bipush (z := 16) (pc' := 52) ⟨rfl, rfl⟩ rfl ?_
    refine qa_icmp_le (pc' := 55) (tgt := 62) ⟨rfl, rfl⟩ rfl (by omega) (by omega) (fun hc => ?_) (fun hc => ?_)
    rotate_left
    · exact absurd hc (by omega)
    refine qa_iload_n (pc' := 63) ⟨rfl, rfl⟩ rfl ?_
    refine qa_iconst (pc' := 64) ⟨rfl, rfl⟩ ?_
    refine qa_icmp_le (pc' := 67) (tgt := 74) ⟨rfl, rfl⟩ rfl (by omega) (by omega) (fun hc => ?_) (fun hc => ?_)
    rotate_left
    · exact absurd hc (by omega)
    refine qa_iload_n (pc' := 75) ⟨rfl, rfl⟩ rfl ?_
    refine qa_iload_n (pc' := 76) ⟨rfl, rfl⟩ rfl ?_
    refine qa_iconst (pc' := 77) ⟨rfl, rfl⟩ ?_
    refine qa_iushrX (z := 1) (pc' := 78) ⟨rfl, rfl⟩ (by decide) ?_
    refine qa_iadd (z := 2) (pc' := 79) ⟨rfl, rfl⟩ (by decide) ?_
    refine qa_ireturn rfl rfl rfl (hQ _ _ ⟨rfl, rfl⟩)
  · show qa_W E qm_IN_numberOfTrailingZeros Q9 0 0 7 _ [.int (qa_i 7)] _
    refine qa_istore_n (L' := [(0, _)]) (pc' := 8) ⟨rfl, rfl⟩ rfl rfl ?_
    refine qa_iload_n (pc' := 9) ⟨rfl, rfl⟩ rfl ?_
    refine qa_if_gt (pc' := 12) (tgt := 17) ⟨rfl, rfl⟩ rfl (by omega) (fun hc => ?_) (fun hc => ?_)
    rotate_left
    · exact absurd hc (by omega)
    refine qa_iconst (pc' := 18) ⟨rfl, rfl⟩ ?_
    refine qa_istore_n (L' := [(0, _), (1, _)]) (pc' := 19) ⟨rfl, rfl⟩ rfl rfl ?_
    refine qa_iload_n (pc' := 20) ⟨rfl, rfl⟩ rfl ?_
    refine qa_ldcw (z := 65536) (pc' := 23) ⟨rfl, rfl⟩ qk_16_264 ?_
    refine qa_icmp_le (pc' := 26) (tgt := 34) ⟨rfl, rfl⟩ rfl (by omega) (by omega) (fun hc => ?_) (fun hc => ?_)
    rotate_left
    · exact absurd hc (by omega)
    refine qa_iload_n (pc' := 35) ⟨rfl, rfl⟩ rfl ?_
    refine qa_sipush (z := 256) (pc' := 38) ⟨rfl, rfl⟩ rfl ?_
    refine qa_icmp_le (pc' := 41) (tgt := 49) ⟨rfl, rfl⟩ rfl (by omega) (by omega) (fun hc => ?_) (fun hc => ?_)
    rotate_left
    · exact absurd hc (by omega)
    refine qa_iload_n (pc' := 50) ⟨rfl, rfl⟩ rfl ?_
    refine qa_bipush (z := 16) (pc' := 52) ⟨rfl, rfl⟩ rfl ?_
    refine qa_icmp_le (pc' := 55) (tgt := 62) ⟨rfl, rfl⟩ rfl (by omega) (by omega) (fun hc => ?_) (fun hc => ?_)
    rotate_left
    · exact absurd hc (by omega)
    refine qa_iload_n (pc' := 63) ⟨rfl, rfl⟩ rfl ?_
    refine qa_iconst (pc' := 64) ⟨rfl, rfl⟩ ?_
    refine qa_icmp_le (pc' := 67) (tgt := 74) ⟨rfl, rfl⟩ rfl (by omega) (by omega) (fun hc => ?_) (fun hc => ?_)
    · exact absurd hc (by omega)
    refine qa_iinc (L' := [(0, _), (1, _)]) (z := 3) (pc' := 70) ⟨rfl, rfl⟩ rfl (by decide) rfl rfl ?_
    refine qa_iload_n (pc' := 71) ⟨rfl, rfl⟩ rfl ?_
    refine qa_iconst (pc' := 72) ⟨rfl, rfl⟩ ?_
    refine qa_iushrX (z := 1) (pc' := 73) ⟨rfl, rfl⟩ (by decide) ?_
    refine qa_istore_n (L' := [(0, _), (1, _)]) (pc' := 74) ⟨rfl, rfl⟩ rfl rfl ?_
    refine qa_iload_n (pc' := 75) ⟨rfl, rfl⟩ rfl ?_
    refine qa_iload_n (pc' := 76) ⟨rfl, rfl⟩ rfl ?_
    refine qa_iconst (pc' := 77) ⟨rfl, rfl⟩ ?_
    refine qa_iushrX (z := 0) (pc' := 78) ⟨rfl, rfl⟩ (by decide) ?_
    refine qa_iadd (z := 3) (pc' := 79) ⟨rfl, rfl⟩ (by decide) ?_
    refine qa_ireturn rfl rfl rfl (hQ _ _ ⟨rfl, rfl⟩)
  · show qa_W E qm_IN_numberOfTrailingZeros Q9 0 0 7 _ [.int (qa_i 15)] _
    refine qa_istore_n (L' := [(0, _)]) (pc' := 8) ⟨rfl, rfl⟩ rfl rfl ?_
    refine qa_iload_n (pc' := 9) ⟨rfl, rfl⟩ rfl ?_
    refine qa_if_gt (pc' := 12) (tgt := 17) ⟨rfl, rfl⟩ rfl (by omega) (fun hc => ?_) (fun hc => ?_)
    rotate_left
    · exact absurd hc (by omega)
    refine qa_iconst (pc' := 18) ⟨rfl, rfl⟩ ?_
    refine qa_istore_n (L' := [(0, _), (1, _)]) (pc' := 19) ⟨rfl, rfl⟩ rfl rfl ?_
    refine qa_iload_n (pc' := 20) ⟨rfl, rfl⟩ rfl ?_
    refine qa_ldcw (z := 65536) (pc' := 23) ⟨rfl, rfl⟩ qk_16_264 ?_
    refine qa_icmp_le (pc' := 26) (tgt := 34) ⟨rfl, rfl⟩ rfl (by omega) (by omega) (fun hc => ?_) (fun hc => ?_)
    rotate_left
    · exact absurd hc (by omega)
    refine qa_iload_n (pc' := 35) ⟨rfl, rfl⟩ rfl ?_
    refine qa_sipush (z := 256) (pc' := 38) ⟨rfl, rfl⟩ rfl ?_
    refine qa_icmp_le (pc' := 41) (tgt := 49) ⟨rfl, rfl⟩ rfl (by omega) (by omega) (fun hc => ?_) (fun hc => ?_)
    rotate_left
    · exact absurd hc (by omega)
    refine qa_iload_n (pc' := 50) ⟨rfl, rfl⟩ rfl ?_
    refine qa_bipush (z := 16) (pc' := 52) ⟨rfl, rfl⟩ rfl ?_
    refine qa_icmp_le (pc' := 55) (tgt := 62) ⟨rfl, rfl⟩ rfl (by omega) (by omega) (fun hc => ?_) (fun hc => ?_)
    rotate_left
    · exact absurd hc (by omega)
    refine qa_iload_n (pc' := 63) ⟨rfl, rfl⟩ rfl ?_
    refine qa_iconst (pc' := 64) ⟨rfl, rfl⟩ ?_
    refine qa_icmp_le (pc' := 67) (tgt := 74) ⟨rfl, rfl⟩ rfl (by omega) (by omega) (fun hc => ?_) (fun hc => ?_)
    · exact absurd hc (by omega)
    refine qa_iinc (L' := [(0, _), (1, _)]) (z := 3) (pc' := 70) ⟨rfl, rfl⟩ rfl (by decide) rfl rfl ?_
    refine qa_iload_n (pc' := 71) ⟨rfl, rfl⟩ rfl ?_
    refine qa_iconst (pc' := 72) ⟨rfl, rfl⟩ ?_
    refine qa_iushrX (z := 3) (pc' := 73) ⟨rfl, rfl⟩ (by decide) ?_
    refine qa_istore_n (L' := [(0, _), (1, _)]) (pc' := 74) ⟨rfl, rfl⟩ rfl rfl ?_
    refine qa_iload_n (pc' := 75) ⟨rfl, rfl⟩ rfl ?_
    refine qa_iload_n (pc' := 76) ⟨rfl, rfl⟩ rfl ?_
    refine qa_iconst (pc' := 77) ⟨rfl, rfl⟩ ?_
    refine qa_iushrX (z := 1) (pc' := 78) ⟨rfl, rfl⟩ (by decide) ?_
    refine qa_iadd (z := 4) (pc' := 79) ⟨rfl, rfl⟩ (by decide) ?_
    refine qa_ireturn rfl rfl rfl (hQ _ _ ⟨rfl, rfl⟩)
  · show qa_W E qm_IN_numberOfTrailingZeros Q9 0 0 7 _ [.int (qa_i 31)] _
    refine qa_istore_n (L' := [(0, _)]) (pc' := 8) ⟨rfl, rfl⟩ rfl rfl ?_
    refine qa_iload_n (pc' := 9) ⟨rfl, rfl⟩ rfl ?_
    refine qa_if_gt (pc' := 12) (tgt := 17) ⟨rfl, rfl⟩ rfl (by omega) (fun hc => ?_) (fun hc => ?_)
    rotate_left
    · exact absurd hc (by omega)
    refine qa_iconst (pc' := 18) ⟨rfl, rfl⟩ ?_
    refine qa_istore_n (L' := [(0, _), (1, _)]) (pc' := 19) ⟨rfl, rfl⟩ rfl rfl ?_
    refine qa_iload_n (pc' := 20) ⟨rfl, rfl⟩ rfl ?_
    refine qa_ldcw (z := 65536) (pc' := 23) ⟨rfl, rfl⟩ qk_16_264 ?_
    refine qa_icmp_le (pc' := 26) (tgt := 34) ⟨rfl, rfl⟩ rfl (by omega) (by omega) (fun hc => ?_) (fun hc => ?_)
    rotate_left
    · exact absurd hc (by omega)
    refine qa_iload_n (pc' := 35) ⟨rfl, rfl⟩ rfl ?_
    refine qa_sipush (z := 256) (pc' := 38) ⟨rfl, rfl⟩ rfl ?_
    refine qa_icmp_le (pc' := 41) (tgt := 49) ⟨rfl, rfl⟩ rfl (by omega) (by omega) (fun hc => ?_) (fun hc => ?_)
    rotate_left
    · exact absurd hc (by omega)
    refine qa_iload_n (pc' := 50) ⟨rfl, rfl⟩ rfl ?_
    refine qa_bipush (z := 16) (pc' := 52) ⟨rfl, rfl⟩ rfl ?_
    refine qa_icmp_le (pc' := 55) (tgt := 62) ⟨rfl, rfl⟩ rfl (by omega) (by omega) (fun hc => ?_) (fun hc => ?_)
    · exact absurd hc (by omega)
    refine qa_iinc (L' := [(0, _), (1, _)]) (z := 5) (pc' := 58) ⟨rfl, rfl⟩ rfl (by decide) rfl rfl ?_
    refine qa_iload_n (pc' := 59) ⟨rfl, rfl⟩ rfl ?_
    refine qa_iconst (pc' := 60) ⟨rfl, rfl⟩ ?_
    refine qa_iushrX (z := 1) (pc' := 61) ⟨rfl, rfl⟩ (by decide) ?_
    refine qa_istore_n (L' := [(0, _), (1, _)]) (pc' := 62) ⟨rfl, rfl⟩ rfl rfl ?_
    refine qa_iload_n (pc' := 63) ⟨rfl, rfl⟩ rfl ?_
    refine qa_iconst (pc' := 64) ⟨rfl, rfl⟩ ?_
    refine qa_icmp_le (pc' := 67) (tgt := 74) ⟨rfl, rfl⟩ rfl (by omega) (by omega) (fun hc => ?_) (fun hc => ?_)
    rotate_left
    · exact absurd hc (by omega)
    refine qa_iload_n (pc' := 75) ⟨rfl, rfl⟩ rfl ?_
    refine qa_iload_n (pc' := 76) ⟨rfl, rfl⟩ rfl ?_
    refine qa_iconst (pc' := 77) ⟨rfl, rfl⟩ ?_
    refine qa_iushrX (z := 0) (pc' := 78) ⟨rfl, rfl⟩ (by decide) ?_
    refine qa_iadd (z := 5) (pc' := 79) ⟨rfl, rfl⟩ (by decide) ?_
    refine qa_ireturn rfl rfl rfl (hQ _ _ ⟨rfl, rfl⟩)
  · show qa_W E qm_IN_numberOfTrailingZeros Q9 0 0 7 _ [.int (qa_i 63)] _
    refine qa_istore_n (L' := [(0, _)]) (pc' := 8) ⟨rfl, rfl⟩ rfl rfl ?_
    refine qa_iload_n (pc' := 9) ⟨rfl, rfl⟩ rfl ?_
    refine qa_if_gt (pc' := 12) (tgt := 17) ⟨rfl, rfl⟩ rfl (by omega) (fun hc => ?_) (fun hc => ?_)
    rotate_left
    · exact absurd hc (by omega)
    refine qa_iconst (pc' := 18) ⟨rfl, rfl⟩ ?_
    refine qa_istore_n (L' := [(0, _), (1, _)]) (pc' := 19) ⟨rfl, rfl⟩ rfl rfl ?_
    refine qa_iload_n (pc' := 20) ⟨rfl, rfl⟩ rfl ?_
    refine qa_ldcw (z := 65536) (pc' := 23) ⟨rfl, rfl⟩ qk_16_264 ?_
    refine qa_icmp_le (pc' := 26) (tgt := 34) ⟨rfl, rfl⟩ rfl (by omega) (by omega) (fun hc => ?_) (fun hc => ?_)
    rotate_left
    · exact absurd hc (by omega)
    refine qa_iload_n (pc' := 35) ⟨rfl, rfl⟩ rfl ?_
    refine qa_sipush (z := 256) (pc' := 38) ⟨rfl, rfl⟩ rfl ?_
    refine qa_icmp_le (pc' := 41) (tgt := 49) ⟨rfl, rfl⟩ rfl (by omega) (by omega) (fun hc => ?_) (fun hc => ?_)
    rotate_left
    · exact absurd hc (by omega)
    refine qa_iload_n (pc' := 50) ⟨rfl, rfl⟩ rfl ?_
    refine qa_bipush (z := 16) (pc' := 52) ⟨rfl, rfl⟩ rfl ?_
    refine qa_icmp_le (pc' := 55) (tgt := 62) ⟨rfl, rfl⟩ rfl (by omega) (by omega) (fun hc => ?_) (fun hc => ?_)
    · exact absurd hc (by omega)
    refine qa_iinc (L' := [(0, _), (1, _)]) (z := 5) (pc' := 58) ⟨rfl, rfl⟩ rfl (by decide) rfl rfl ?_
    refine qa_iload_n (pc' := 59) ⟨rfl, rfl⟩ rfl ?_
    refine qa_iconst (pc' := 60) ⟨rfl, rfl⟩ ?_
    refine qa_iushrX (z := 3) (pc' := 61) ⟨rfl, rfl⟩ (by decide) ?_
    refine qa_istore_n (L' := [(0, _), (1, _)]) (pc' := 62) ⟨rfl, rfl⟩ rfl rfl ?_
    refine qa_iload_n (pc' := 63) ⟨rfl, rfl⟩ rfl ?_
    refine qa_iconst (pc' := 64) ⟨rfl, rfl⟩ ?_
    refine qa_icmp_le (pc' := 67) (tgt := 74) ⟨rfl, rfl⟩ rfl (by omega) (by omega) (fun hc => ?_) (fun hc => ?_)
    rotate_left
    · exact absurd hc (by omega)
    refine qa_iload_n (pc' := 75) ⟨rfl, rfl⟩ rfl ?_
    refine qa_iload_n (pc' := 76) ⟨rfl, rfl⟩ rfl ?_
    refine qa_iconst (pc' := 77) ⟨rfl, rfl⟩ ?_
    refine qa_iushrX (z := 1) (pc' := 78) ⟨rfl, rfl⟩ (by decide) ?_
    refine qa_iadd (z := 6) (pc' := 79) ⟨rfl, rfl⟩ (by decide) ?_
    refine qa_ireturn rfl rfl rfl (hQ _ _ ⟨rfl, rfl⟩)
  · show qa_W E qm_IN_numberOfTrailingZeros Q9 0 0 7 _ [.int (qa_i 127)] _
    refine qa_istore_n (L' := [(0, _)]) (pc' := 8) ⟨rfl, rfl⟩ rfl rfl ?_
    refine qa_iload_n (pc' := 9) ⟨rfl, rfl⟩ rfl ?_
    refine qa_if_gt (pc' := 12) (tgt := 17) ⟨rfl, rfl⟩ rfl (by omega) (fun hc => ?_) (fun hc => ?_)
    rotate_left
    · exact absurd hc (by omega)
    refine qa_iconst (pc' := 18) ⟨rfl, rfl⟩ ?_
    refine qa_istore_n (L' := [(0, _), (1, _)]) (pc' := 19) ⟨rfl, rfl⟩ rfl rfl ?_
    refine qa_iload_n (pc' := 20) ⟨rfl, rfl⟩ rfl ?_
    refine qa_ldcw (z := 65536) (pc' := 23) ⟨rfl, rfl⟩ qk_16_264 ?_
    refine qa_icmp_le (pc' := 26) (tgt := 34) ⟨rfl, rfl⟩ rfl (by omega) (by omega) (fun hc => ?_) (fun hc => ?_)
    rotate_left
    · exact absurd hc (by omega)
    refine qa_iload_n (pc' := 35) ⟨rfl, rfl⟩ rfl ?_
    refine qa_sipush (z := 256) (pc' := 38) ⟨rfl, rfl⟩ rfl ?_
    refine qa_icmp_le (pc' := 41) (tgt := 49) ⟨rfl, rfl⟩ rfl (by omega) (by omega) (fun hc => ?_) (fun hc => ?_)
    rotate_left
    · exact absurd hc (by omega)
    refine qa_iload_n (pc' := 50) ⟨rfl, rfl⟩ rfl ?_
    refine qa_bipush (z := 16) (pc' := 52) ⟨rfl, rfl⟩ rfl ?_
    refine qa_icmp_le (pc' := 55) (tgt := 62) ⟨rfl, rfl⟩ rfl (by omega) (by omega) (fun hc => ?_) (fun hc => ?_)
    · exact absurd hc (by omega)
    refine qa_iinc (L' := [(0, _), (1, _)]) (z := 5) (pc' := 58) ⟨rfl, rfl⟩ rfl (by decide) rfl rfl ?_
    refine qa_iload_n (pc' := 59) ⟨rfl, rfl⟩ rfl ?_
    refine qa_iconst (pc' := 60) ⟨rfl, rfl⟩ ?_
    refine qa_iushrX (z := 7) (pc' := 61) ⟨rfl, rfl⟩ (by decide) ?_
    refine qa_istore_n (L' := [(0, _), (1, _)]) (pc' := 62) ⟨rfl, rfl⟩ rfl rfl ?_
    refine qa_iload_n (pc' := 63) ⟨rfl, rfl⟩ rfl ?_
    refine qa_iconst (pc' := 64) ⟨rfl, rfl⟩ ?_
    refine qa_icmp_le (pc' := 67) (tgt := 74) ⟨rfl, rfl⟩ rfl (by omega) (by omega) (fun hc => ?_) (fun hc => ?_)
    · exact absurd hc (by omega)
    refine qa_iinc (L' := [(0, _), (1, _)]) (z := 7) (pc' := 70) ⟨rfl, rfl⟩ rfl (by decide) rfl rfl ?_
    refine qa_iload_n (pc' := 71) ⟨rfl, rfl⟩ rfl ?_
    refine qa_iconst (pc' := 72) ⟨rfl, rfl⟩ ?_
    refine qa_iushrX (z := 1) (pc' := 73) ⟨rfl, rfl⟩ (by decide) ?_
    refine qa_istore_n (L' := [(0, _), (1, _)]) (pc' := 74) ⟨rfl, rfl⟩ rfl rfl ?_
    refine qa_iload_n (pc' := 75) ⟨rfl, rfl⟩ rfl ?_
    refine qa_iload_n (pc' := 76) ⟨rfl, rfl⟩ rfl ?_
    refine qa_iconst (pc' := 77) ⟨rfl, rfl⟩ ?_
    refine qa_iushrX (z := 0) (pc' := 78) ⟨rfl, rfl⟩ (by decide) ?_
    refine qa_iadd (z := 7) (pc' := 79) ⟨rfl, rfl⟩ (by decide) ?_
    refine qa_ireturn rfl rfl rfl (hQ _ _ ⟨rfl, rfl⟩)
  · show qa_W E qm_IN_numberOfTrailingZeros Q9 0 0 7 _ [.int (qa_i 255)] _
    refine qa_istore_n (L' := [(0, _)]) (pc' := 8) ⟨rfl, rfl⟩ rfl rfl ?_
    refine qa_iload_n (pc' := 9) ⟨rfl, rfl⟩ rfl ?_
    refine qa_if_gt (pc' := 12) (tgt := 17) ⟨rfl, rfl⟩ rfl (by omega) (fun hc => ?_) (fun hc => ?_)
    rotate_left
    · exact absurd hc (by omega)
    refine qa_iconst (pc' := 18) ⟨rfl, rfl⟩ ?_
    refine qa_istore_n (L' := [(0, _), (1, _)]) (pc' := 19) ⟨rfl, rfl⟩ rfl rfl ?_
    refine qa_iload_n (pc' := 20) ⟨rfl, rfl⟩ rfl ?_
    refine qa_ldcw (z := 65536) (pc' := 23) ⟨rfl, rfl⟩ qk_16_264 ?_
    refine qa_icmp_le (pc' := 26) (tgt := 34) ⟨rfl, rfl⟩ rfl (by omega) (by omega) (fun hc => ?_) (fun hc => ?_)
    rotate_left
    · exact absurd hc (by omega)
    refine qa_iload_n (pc' := 35) ⟨rfl, rfl⟩ rfl ?_
    refine qa_sipush (z := 256) (pc' := 38) ⟨rfl, rfl⟩ rfl ?_
    refine qa_icmp_le (pc' := 41) (tgt := 49) ⟨rfl, rfl⟩ rfl (by omega) (by omega) (fun hc => ?_) (fun hc => ?_)
    rotate_left
    · exact absurd hc (by omega)
    refine qa_iload_n (pc' := 50) ⟨rfl, rfl⟩ rfl ?_
    refine qa_bipush (z := 16) (pc' := 52) ⟨rfl, rfl⟩ rfl ?_
    refine qa_icmp_le (pc' := 55) (tgt := 62) ⟨rfl, rfl⟩ rfl (by omega) (by omega) (fun hc => ?_) (fun hc => ?_)
    · exact absurd hc (by omega)
    refine qa_iinc (L' := [(0, _), (1, _)]) (z := 5) (pc' := 58) ⟨rfl, rfl⟩ rfl (by decide) rfl rfl ?_
    refine qa_iload_n (pc' := 59) ⟨rfl, rfl⟩ rfl ?_
    refine qa_iconst (pc' := 60) ⟨rfl, rfl⟩ ?_
    refine qa_iushrX (z := 15) (pc' := 61) ⟨rfl, rfl⟩ (by decide) ?_
    refine qa_istore_n (L' := [(0, _), (1, _)]) (pc' := 62) ⟨rfl, rfl⟩ rfl rfl ?_
    refine qa_iload_n (pc' := 63) ⟨rfl, rfl⟩ rfl ?_
    refine qa_iconst (pc' := 64) ⟨rfl, rfl⟩ ?_
    refine qa_icmp_le (pc' := 67) (tgt := 74) ⟨rfl, rfl⟩ rfl (by omega) (by omega) (fun hc => ?_) (fun hc => ?_)
    · exact absurd hc (by omega)
    refine qa_iinc (L' := [(0, _), (1, _)]) (z := 7) (pc' := 70) ⟨rfl, rfl⟩ rfl (by decide) rfl rfl ?_
    refine qa_iload_n (pc' := 71) ⟨rfl, rfl⟩ rfl ?_
    refine qa_iconst (pc' := 72) ⟨rfl, rfl⟩ ?_
    refine qa_iushrX (z := 3) (pc' := 73) ⟨rfl, rfl⟩ (by decide) ?_
    refine qa_istore_n (L' := [(0, _), (1, _)]) (pc' := 74) ⟨rfl, rfl⟩ rfl rfl ?_
    refine qa_iload_n (pc' := 75) ⟨rfl, rfl⟩ rfl ?_
    refine qa_iload_n (pc' := 76) ⟨rfl, rfl⟩ rfl ?_
    refine qa_iconst (pc' := 77) ⟨rfl, rfl⟩ ?_
    refine qa_iushrX (z := 1) (pc' := 78) ⟨rfl, rfl⟩ (by decide) ?_
    refine qa_iadd (z := 8) (pc' := 79) ⟨rfl, rfl⟩ (by decide) ?_
    refine qa_ireturn rfl rfl rfl (hQ _ _ ⟨rfl, rfl⟩)
  · show qa_W E qm_IN_numberOfTrailingZeros Q9 0 0 7 _ [.int (qa_i 511)] _
    refine qa_istore_n (L' := [(0, _)]) (pc' := 8) ⟨rfl, rfl⟩ rfl rfl ?_
    refine qa_iload_n (pc' := 9) ⟨rfl, rfl⟩ rfl ?_
    refine qa_if_gt (pc' := 12) (tgt := 17) ⟨rfl, rfl⟩ rfl (by omega) (fun hc => ?_) (fun hc => ?_)
    rotate_left
    · exact absurd hc (by omega)
    refine qa_iconst (pc' := 18) ⟨rfl, rfl⟩ ?_
    refine qa_istore_n (L' := [(0, _), (1, _)]) (pc' := 19) ⟨rfl, rfl⟩ rfl rfl ?_
    refine qa_iload_n (pc' := 20) ⟨rfl, rfl⟩ rfl ?_
    refine qa_ldcw (z := 65536) (pc' := 23) ⟨rfl, rfl⟩ qk_16_264 ?_
    refine qa_icmp_le (pc' := 26) (tgt := 34) ⟨rfl, rfl⟩ rfl (by omega) (by omega) (fun hc => ?_) (fun hc => ?_)
    rotate_left
    · exact absurd hc (by omega)
    refine qa_iload_n (pc' := 35) ⟨rfl, rfl⟩ rfl ?_
    refine qa_sipush (z := 256) (pc' := 38) ⟨rfl, rfl⟩ rfl ?_
    refine qa_icmp_le (pc' := 41) (tgt := 49) ⟨rfl, rfl⟩ rfl (by omega) (by omega) (fun hc => ?_) (fun hc => ?_)
    · exact absurd hc (by omega)
    refine qa_iinc (L' := [(0, _), (1, _)]) (z := 9) (pc' := 44) ⟨rfl, rfl⟩ rfl (by decide) rfl rfl ?_
    refine qa_iload_n (pc' := 45) ⟨rfl, rfl⟩ rfl ?_
    refine qa_bipush (z := 8) (pc' := 47) ⟨rfl, rfl⟩ rfl ?_
    refine qa_iushrX (z := 1) (pc' := 48) ⟨rfl, rfl⟩ (by decide) ?_
    refine qa_istore_n (L' := [(0, _), (1, _)]) (pc' := 49) ⟨rfl, rfl⟩ rfl rfl ?_
    refine qa_iload_n (pc' := 50) ⟨rfl, rfl⟩ rfl ?_
    refine qa_bipush (z := 16) (pc' := 52) ⟨rfl, rfl⟩ rfl ?_
    refine qa_icmp_le (pc' := 55) (tgt := 62) ⟨rfl, rfl⟩ rfl (by omega) (by omega) (fun hc => ?_) (fun hc => ?_)
    rotate_left
    · exact absurd hc (by omega)
    refine qa_iload_n (pc' := 63) ⟨rfl, rfl⟩ rfl ?_
    refine qa_iconst (pc' := 64) ⟨rfl, rfl⟩ ?_
    refine qa_icmp_le (pc' := 67) (tgt := 74) ⟨rfl, rfl⟩ rfl (by omega) (by omega) (fun hc => ?_) (fun hc => ?_)
    rotate_left
    · exact absurd hc (by omega)
    refine qa_iload_n (pc' := 75) ⟨rfl, rfl⟩ rfl ?_
    refine qa_iload_n (pc' := 76) ⟨rfl, rfl⟩ rfl ?_
    refine qa_iconst (pc' := 77) ⟨rfl, rfl⟩ ?_
    refine qa_iushrX (z := 0) (pc' := 78) ⟨rfl, rfl⟩ (by decide) ?_
    refine qa_iadd (z := 9) (pc' := 79) ⟨rfl, rfl⟩ (by decide) ?_
    refine qa_ireturn rfl rfl rfl (hQ _ _ ⟨rfl, rfl⟩)
/-- what is left of a choice when it has been sought in the other part -/
def sp_it (s t : Int → Int) : Nat → Int → Int → Int
  | 0, _, x => x
  | f + 1, i, x => if x = 0 then 0 else sp_it s t f (i + 1) (if s (sp_tz x) = t i then sp_cl x else x)
def sp_tt (s t : Int → Int) (n : Nat) : Nat → Int → Int → Int
  | 0, _, b => b
  | f + 1, x, b => sp_tt s t n f (x + 1) (if b < sp_bc x ∧ sp_it s t n 0 x = 0 then sp_bc x else b)
theorem sp_it_0 (s t : Int → Int) : ∀ (f : Nat) (i : Int), sp_it s t f i 0 = 0
  | 0, _ => rfl
  | f + 1, i => by unfold sp_it; rw [if_pos rfl]
theorem c_X_isTheme {E : qa_V} {σ : qa_S} {b b2 : Nat} {m : Int → Int} {i i2 : Int} {x : Int} (hP : sR_P σ.1 b m i) (hk : sm_okp m i) (hP2 : sR_P σ.1 b2 m i2) (hk2 : sm_okp m i2) (hx : 0 ≤ x ∧ x < ((2 ^ (sm_n m i).toNat : Nat) : Int)) : qa_T E qm_X_isTheme 0 0 [.int (qa_i x), .ref b, .ref b2] σ (fun o9 τ => o9 = .inl (some (.int (qa_i (if sp_it (sm_c m i) (sm_c m i2) (sm_n m i2).toNat 0 x = 0 then 1 else 0)))) ∧ τ = σ) := by
  refine qa_enterQ (by decide) rfl qm_X_isTheme_ok rfl rfl (fun Q9 hQ => ?_)
  have hn := hk.1
  have hn2 := hk2.1
  have hP9 := hP
  have hQ9 := hP2
  obtain ⟨p5, l5, u5, d5, q1, q2, q3, q4, q5, q6⟩ := hP
  obtain ⟨p6, l6, u6, d6, r1, r2, r3, r4, r5, r6⟩ := hP2
  have hpw : 2 ^ (sm_n m i).toNat ≤ 1024 := (Nat.pow_le_pow_right (by omega) (show (sm_n m i).toNat ≤ 10 by omega) : 2 ^ (sm_n m i).toNat ≤ 2 ^ 10)
  refine qa_iload_n (pc' := 1) ⟨rfl, rfl⟩ rfl ?_
  refine qa_istore_n (L' := [(0, _), (1, _), (2, _), (3, _)]) (pc' := 2) ⟨rfl, rfl⟩ rfl rfl ?_
  refine qa_iconst (pc' := 3) ⟨rfl, rfl⟩ ?_
  refine qa_istore (L' := [(0, _), (1, _), (2, _), (3, _), (4, _)]) (pc' := 5) ⟨rfl, rfl⟩ rfl rfl ?_
  refine qa_sub (ks' := [1, 2, 3, 4]) (L' := [(1, _), (2, _), (3, _), (4, _)]) rfl ?_
  have lp : ∀ (f : Nat) (k y : Int), k + f = sm_n m i2 ∧ 0 ≤ k ∧ (0 ≤ y ∧ y < ((2 ^ (sm_n m i).toNat : Nat) : Int)) ∧ sp_it (sm_c m i) (sm_c m i2) f k y = sp_it (sm_c m i) (sm_c m i2) (sm_n m i2).toNat 0 x → qa_W E qm_X_isTheme Q9 0 0 5 [(1, .ref b), (2, .ref b2), (3, .int (qa_i y)), (4, .int (qa_i k))] [] σ := by
    intro f
    induction f with
    | zero =>
      intro k y ⟨hkf, hk9, hy, hr⟩
      refine qa_iload (pc' := 7) ⟨rfl, rfl⟩ rfl ?_
      refine qa_aload_n (pc' := 8) ⟨rfl, rfl⟩ rfl ?_
      refine qa_getf (pc' := 11) ⟨rfl, rfl⟩ qg_7_20 (by assumption) rfl ?_
      refine qa_icmp_ge (pc' := 14) (tgt := 44) ⟨rfl, rfl⟩ rfl (by omega) (by omega) (fun hc1 => ?_) (fun hc1 => ?_)
      · have e9 : sp_it (sm_c m i) (sm_c m i2) (sm_n m i2).toNat 0 x = y := by rw [← hr]; rfl
        refine qa_iload_n (pc' := 45) ⟨rfl, rfl⟩ rfl ?_
        refine qa_if_ne (pc' := 48) (tgt := 52) ⟨rfl, rfl⟩ rfl (by omega) (fun hc9 => ?_) (fun hc9 => ?_)
        · refine qa_iconst (pc' := 53) ⟨rfl, rfl⟩ ?_
          refine qa_ireturn rfl rfl rfl (hQ _ _ ⟨by rw [e9, if_neg (by omega)], rfl⟩)
        · refine qa_iconst (pc' := 49) ⟨rfl, rfl⟩ ?_
          refine qa_goto (pc' := 52) (tgt := 53) ⟨rfl, rfl⟩ rfl ?_
          refine qa_ireturn rfl rfl rfl (hQ _ _ ⟨by rw [e9, if_pos (by omega)], rfl⟩)
      · exact absurd hc1 (by omega)
    | succ f ih =>
      intro k y ⟨hkf, hk9, hy, hr⟩
      refine qa_iload (pc' := 7) ⟨rfl, rfl⟩ rfl ?_
      refine qa_aload_n (pc' := 8) ⟨rfl, rfl⟩ rfl ?_
      refine qa_getf (pc' := 11) ⟨rfl, rfl⟩ qg_7_20 (by assumption) rfl ?_
      refine qa_icmp_ge (pc' := 14) (tgt := 44) ⟨rfl, rfl⟩ rfl (by omega) (by omega) (fun hc1 => ?_) (fun hc1 => ?_)
      · exact absurd hc1 (by omega)
      · refine qa_iload_n (pc' := 15) ⟨rfl, rfl⟩ rfl ?_
        refine qa_if_eq (pc' := 18) (tgt := 44) ⟨rfl, rfl⟩ rfl (by omega) (fun hc2 => ?_) (fun hc2 => ?_)
        · have e9 : sp_it (sm_c m i) (sm_c m i2) (sm_n m i2).toNat 0 x = y := by rw [← hr, hc2]; exact sp_it_0 _ _ _ _
          refine qa_iload_n (pc' := 45) ⟨rfl, rfl⟩ rfl ?_
          refine qa_if_ne (pc' := 48) (tgt := 52) ⟨rfl, rfl⟩ rfl (by omega) (fun hc9 => ?_) (fun hc9 => ?_)
          · refine qa_iconst (pc' := 53) ⟨rfl, rfl⟩ ?_
            refine qa_ireturn rfl rfl rfl (hQ _ _ ⟨by rw [e9, if_neg (by omega)], rfl⟩)
          · refine qa_iconst (pc' := 49) ⟨rfl, rfl⟩ ?_
            refine qa_goto (pc' := 52) (tgt := 53) ⟨rfl, rfl⟩ rfl ?_
            refine qa_ireturn rfl rfl rfl (hQ _ _ ⟨by rw [e9, if_pos (by omega)], rfl⟩)
        · have tb := sp_tz_b (x := y) (by omega)
          have tn := sp_tz_n (x := y) (by omega) hy.2
          refine qa_aload_n (pc' := 19) ⟨rfl, rfl⟩ rfl ?_
          refine qa_iload_n (pc' := 20) ⟨rfl, rfl⟩ rfl ?_
          refine qa_callS rfl qf_IN_numberOfTrailingZeros rfl ql_7_50 (c_IN_ntz (E := E) (by omega)) rfl rfl (qa_lt9 rfl) (qa_le9 rfl) (qa_le9 rfl) (qa_le9 rfl) (fun o9 τ9 hq9 => ?_)
          obtain ⟨rfl, hq9⟩ := hq9
          replace hq9 := hq9.symm; subst hq9
          refine qa_nx (pc' := 23) (st' := [_, _]) rfl rfl rfl rfl ?_
          refine qa_aload_n (pc' := 24) ⟨rfl, rfl⟩ rfl ?_
          refine qa_iload (pc' := 26) ⟨rfl, rfl⟩ rfl ?_
          refine qa_callV rfl qf_P_hasSameAt ql_7_26 (dC_P_same (E := E) hP9 hk hQ9 hk2 (by omega) (by omega)) q1 rfl rfl rfl (qa_lt9 rfl) (qa_le9 rfl) (qa_le9 rfl) (qa_le9 rfl) (fun o9 τ9 hq9 => ?_)
          obtain ⟨v9, rfl, hv9, hq9⟩ := hq9
          refine qa_nx (pc' := 29) (st' := [_]) rfl rfl rfl rfl ?_
          replace hq9 := hq9.symm
          subst hq9
          refine qa_if_eq (pc' := 32) (tgt := 38) ⟨rfl, rfl⟩ rfl (by omega) (fun hc3 => ?_) (fun hc3 => ?_)
          · refine qa_iinc (L' := [(1, _), (2, _), (3, _), (4, _)]) (z := k + 1) (pc' := 41) ⟨rfl, rfl⟩ rfl (by omega) rfl rfl ?_
            refine qa_goto (pc' := 44) (tgt := 5) ⟨rfl, rfl⟩ rfl ?_
            refine ih (k + 1) y ⟨by omega, by omega, hy, ?_⟩
            rw [← hr]; conv => rhs; unfold sp_it
            rw [if_neg (by omega), if_neg (by omega)]
          · refine qa_iload_n (pc' := 33) ⟨rfl, rfl⟩ rfl ?_
            refine qa_iload_n (pc' := 34) ⟨rfl, rfl⟩ rfl ?_
            refine qa_iconst (pc' := 35) ⟨rfl, rfl⟩ ?_
            refine qa_isub (z := y - 1) (pc' := 36) ⟨rfl, rfl⟩ rfl ?_
            refine qa_iandX (z := sp_cl y) (pc' := 37) ⟨rfl, rfl⟩ tb.2.2.2.1 ?_
            refine qa_istore_n (L' := [(1, _), (2, _), (3, _), (4, _)]) (pc' := 38) ⟨rfl, rfl⟩ rfl rfl ?_
            refine qa_iinc (L' := [(1, _), (2, _), (3, _), (4, _)]) (z := k + 1) (pc' := 41) ⟨rfl, rfl⟩ rfl (by omega) rfl rfl ?_
            refine qa_goto (pc' := 44) (tgt := 5) ⟨rfl, rfl⟩ rfl ?_
            refine ih (k + 1) (sp_cl y) ⟨by omega, by omega, by omega, ?_⟩
            rw [← hr]; conv => rhs; unfold sp_it
            rw [if_neg (by omega), if_pos (by omega)]
  exact lp (sm_n m i2).toNat 0 x ⟨by omega, by omega, hx, rfl⟩
theorem c_X_themeByTrial {E : qa_V} {σ : qa_S} {b b2 : Nat} {m : Int → Int} {i i2 : Int} {c : Nat} (hP : sR_P σ.1 b m i) (hk : sm_okp m i) (hP2 : sR_P σ.1 b2 m i2) (hk2 : sm_okp m i2) : qa_T E qm_X_themeByTrial 0 0 [.ref c, .ref b, .ref b2] σ (fun o9 τ => o9 = .inl (some (.int (qa_i (sp_tt (sm_c m i) (sm_c m i2) (sm_n m i2).toNat (2 ^ (sm_n m i).toNat - 1) 1 0)))) ∧ τ = σ) := by
  refine qa_enterQ (by decide) rfl qm_X_themeByTrial_ok rfl rfl (fun Q9 hQ => ?_)
  have hn := hk.1
  have hn2 := hk2.1
  have hP9 := hP
  have hQ9 := hP2
  obtain ⟨p5, l5, u5, d5, q1, q2, q3, q4, q5, q6⟩ := hP
  obtain ⟨p6, l6, u6, d6, r1, r2, r3, r4, r5, r6⟩ := hP2
  have hpw : 2 ^ (sm_n m i).toNat ≤ 1024 := (Nat.pow_le_pow_right (by omega) (show (sm_n m i).toNat ≤ 10 by omega) : 2 ^ (sm_n m i).toNat ≤ 2 ^ 10)
  have hpp := Nat.two_pow_pos (sm_n m i).toNat
  have hsh : qa_i 1 <<< (qa_i (sm_n m i) &&& 31) = qa_i ((2 ^ (sm_n m i).toNat : Nat) : Int) := by
    have := sp_bits3 ⟨(sm_n m i).toNat, by omega⟩
    rw [show (((⟨(sm_n m i).toNat, by omega⟩ : Fin 11).val : Nat) : Int) = sm_n m i from Int.toNat_of_nonneg (by omega)] at this
    exact this
  refine qa_iconst (pc' := 1) ⟨rfl, rfl⟩ ?_
  refine qa_istore_n (L' := [(0, _), (1, _), (2, _), (3, _)]) (pc' := 2) ⟨rfl, rfl⟩ rfl rfl ?_
  refine qa_iconst (pc' := 3) ⟨rfl, rfl⟩ ?_
  refine qa_aload_n (pc' := 4) ⟨rfl, rfl⟩ rfl ?_
  refine qa_getf (pc' := 7) ⟨rfl, rfl⟩ qg_7_20 (by assumption) rfl ?_
  refine qa_ishlX (z := ((2 ^ (sm_n m i).toNat : Nat) : Int)) (pc' := 8) ⟨rfl, rfl⟩ hsh ?_
  refine qa_istore (L' := [(0, _), (1, _), (2, _), (3, _), (4, _)]) (pc' := 10) ⟨rfl, rfl⟩ rfl rfl ?_
  refine qa_iconst (pc' := 11) ⟨rfl, rfl⟩ ?_
  refine qa_istore (L' := [(0, _), (1, _), (2, _), (3, _), (4, _), (5, _)]) (pc' := 13) ⟨rfl, rfl⟩ rfl rfl ?_
  refine qa_sub (ks' := [1, 2, 3, 4, 5]) (L' := [(1, _), (2, _), (3, _), (4, _), (5, _)]) rfl ?_
  have lp : ∀ (f : Nat) (k be : Int), k + f = ((2 ^ (sm_n m i).toNat : Nat) : Int) ∧ 1 ≤ k ∧ (0 ≤ be ∧ be ≤ 10) ∧ sp_tt (sm_c m i) (sm_c m i2) (sm_n m i2).toNat f k be = sp_tt (sm_c m i) (sm_c m i2) (sm_n m i2).toNat (2 ^ (sm_n m i).toNat - 1) 1 0 → qa_W E qm_X_themeByTrial Q9 0 0 13 [(1, .ref b), (2, .ref b2), (3, .int (qa_i be)), (4, .int (qa_i ((2 ^ (sm_n m i).toNat : Nat) : Int))), (5, .int (qa_i k))] [] σ := by
    intro f
    induction f with
    | zero =>
      intro k be ⟨hkf, hk9, hbe, hr⟩
      refine qa_iload (pc' := 15) ⟨rfl, rfl⟩ rfl ?_
      refine qa_iload (pc' := 17) ⟨rfl, rfl⟩ rfl ?_
      refine qa_icmp_ge (pc' := 20) (tgt := 52) ⟨rfl, rfl⟩ rfl (by omega) (by omega) (fun hc1 => ?_) (fun hc1 => ?_)
      · refine qa_iload_n (pc' := 53) ⟨rfl, rfl⟩ rfl ?_
        refine qa_ireturn rfl rfl rfl (hQ _ _ ⟨by rw [← hr]; rfl, rfl⟩)
      · exact absurd hc1 (by omega)
    | succ f ih =>
      intro k be ⟨hkf, hk9, hbe, hr⟩
      refine qa_iload (pc' := 15) ⟨rfl, rfl⟩ rfl ?_
      refine qa_iload (pc' := 17) ⟨rfl, rfl⟩ rfl ?_
      refine qa_icmp_ge (pc' := 20) (tgt := 52) ⟨rfl, rfl⟩ rfl (by omega) (by omega) (fun hc1 => ?_) (fun hc1 => ?_)
      · exact absurd hc1 (by omega)
      · have bb := sp_bc_b k
        refine qa_iload (pc' := 22) ⟨rfl, rfl⟩ rfl ?_
        refine qa_callS rfl qf_IN_bitCount rfl ql_7_40 (c_IN_bitCount (E := E) (by omega)) rfl rfl (qa_lt9 rfl) (qa_le9 rfl) (qa_le9 rfl) (qa_le9 rfl) (fun o9 τ9 hq9 => ?_)
        obtain ⟨rfl, hq9⟩ := hq9
        replace hq9 := hq9.symm; subst hq9
        refine qa_nx (pc' := 25) (st' := [_]) rfl rfl rfl rfl ?_
        refine qa_istore (L' := [(1, _), (2, _), (3, _), (4, _), (5, _), (6, _)]) (pc' := 27) ⟨rfl, rfl⟩ rfl rfl ?_
        refine qa_iload (pc' := 29) ⟨rfl, rfl⟩ rfl ?_
        refine qa_iload_n (pc' := 30) ⟨rfl, rfl⟩ rfl ?_
        refine qa_icmp_le (pc' := 33) (tgt := 46) ⟨rfl, rfl⟩ rfl (by omega) (by omega) (fun hc2 => ?_) (fun hc2 => ?_)
        · refine qa_iinc (L' := [(1, _), (2, _), (3, _), (4, _), (5, _), (6, _)]) (z := k + 1) (pc' := 49) ⟨rfl, rfl⟩ rfl (by omega) rfl rfl ?_
          refine qa_goto (pc' := 52) (tgt := 13) ⟨rfl, rfl⟩ rfl ?_
          refine qa_sub (ks' := [0, 1, 2, 3, 4]) (L' := [(1, _), (2, _), (3, _), (4, _), (5, _)]) rfl ?_
          refine ih (k + 1) (be) ⟨by omega, by omega, by omega, ?_⟩
          rw [← hr]; conv => rhs; unfold sp_tt
          rw [if_neg (fun h => absurd h.1 (by omega))]
        · refine qa_iload (pc' := 35) ⟨rfl, rfl⟩ rfl ?_
          refine qa_aload_n (pc' := 36) ⟨rfl, rfl⟩ rfl ?_
          refine qa_aload_n (pc' := 37) ⟨rfl, rfl⟩ rfl ?_
          refine qa_callS rfl qf_X_isTheme rfl ql_7_46 (c_X_isTheme (E := E) hP9 hk hQ9 hk2 (by omega)) rfl rfl (qa_lt9 rfl) (qa_le9 rfl) (qa_le9 rfl) (qa_le9 rfl) (fun o9 τ9 hq9 => ?_)
          obtain ⟨rfl, hq9⟩ := hq9
          replace hq9 := hq9.symm; subst hq9
          refine qa_nx (pc' := 40) (st' := [_]) rfl rfl rfl rfl ?_
          by_cases h9 : sp_it (sm_c m i) (sm_c m i2) (sm_n m i2).toNat 0 k = 0
          · rw [if_pos h9]
            refine qa_if_eq (pc' := 43) (tgt := 46) ⟨rfl, rfl⟩ rfl (by omega) (fun hc3 => ?_) (fun hc3 => ?_)
            · exact absurd hc3 (by omega)
            refine qa_iload (pc' := 45) ⟨rfl, rfl⟩ rfl ?_
            refine qa_istore_n (L' := [(1, _), (2, _), (3, _), (4, _), (5, _), (6, _)]) (pc' := 46) ⟨rfl, rfl⟩ rfl rfl ?_
            refine qa_iinc (L' := [(1, _), (2, _), (3, _), (4, _), (5, _), (6, _)]) (z := k + 1) (pc' := 49) ⟨rfl, rfl⟩ rfl (by omega) rfl rfl ?_
            refine qa_goto (pc' := 52) (tgt := 13) ⟨rfl, rfl⟩ rfl ?_
            refine qa_sub (ks' := [0, 1, 2, 3, 4]) (L' := [(1, _), (2, _), (3, _), (4, _), (5, _)]) rfl ?_
            refine ih (k + 1) (sp_bc k) ⟨by omega, by omega, by omega, ?_⟩
            rw [← hr]; conv => rhs; unfold sp_tt
            rw [if_pos ⟨by omega, h9⟩]
          · rw [if_neg h9]
            refine qa_if_eq (pc' := 43) (tgt := 46) ⟨rfl, rfl⟩ rfl (by omega) (fun hc3 => ?_) (fun hc3 => ?_)
            rotate_left
            · exact absurd hc3 (by omega)
            refine qa_iinc (L' := [(1, _), (2, _), (3, _), (4, _), (5, _), (6, _)]) (z := k + 1) (pc' := 49) ⟨rfl, rfl⟩ rfl (by omega) rfl rfl ?_
            refine qa_goto (pc' := 52) (tgt := 13) ⟨rfl, rfl⟩ rfl ?_
            refine qa_sub (ks' := [0, 1, 2, 3, 4]) (L' := [(1, _), (2, _), (3, _), (4, _), (5, _)]) rfl ?_
            refine ih (k + 1) (be) ⟨by omega, by omega, by omega, ?_⟩
            rw [← hr]; conv => rhs; unfold sp_tt
            rw [if_neg (fun h => h9 h.2)]
  exact lp (2 ^ (sm_n m i).toNat - 1) 1 0 ⟨by omega, by omega, by omega, rfl⟩
def sX_I (σ τ : qa_S) (c : Nat) (T : Int → Int → Int) : Prop := τ.2 = σ.2 ∧ (∀ q, (q < c + 3 ∨ c + 14 ≤ q) → τ.1 q = σ.1 q) ∧ (∀ r : Int, 0 ≤ r → r < 11 → τ.1 (c + 3 + r.toNat) = some (qa_ia 11 (T r))) ∧ (∀ j : Int, T 0 j = 0) ∧ ∀ r : Int, T r 0 = 0
def sX_up (T : Int → Int → Int) (r j v : Int) : Int → Int → Int := fun r1 => if r1 = r then qa_up (T r) j v else T r1
theorem sX_I.put {σ τ τ1 : qa_S} {c : Nat} {T : Int → Int → Int} {r j v : Int} (h : sX_I σ τ c T) (he : τ1.2 = τ.2) (hw : τ1.1 (c + 3 + r.toNat) = some (qa_ia 11 (qa_up (T r) j v))) (hf : ∀ q, q ≠ c + 3 + r.toNat → τ1.1 q = τ.1 q) (hr : 1 ≤ r ∧ r < 11) (hj : 1 ≤ j) : sX_I σ τ1 c (sX_up T r j v) := by
  obtain ⟨h1, h2, h3, h4, h5⟩ := h
  refine ⟨he.trans h1, fun q hq => (hf q (by omega)).trans (h2 q hq), fun r1 r0 r2 => ?_, fun j1 => ?_, fun r1 => ?_⟩
  · unfold sX_up
    by_cases e : r1 = r
    · rw [if_pos e, e]; exact hw
    · rw [if_neg e, hf _ (by omega)]; exact h3 r1 r0 r2
  · unfold sX_up; rw [if_neg (by omega)]; exact h4 j1
  · unfold sX_up
    by_cases e : r1 = r
    · rw [if_pos e, qa_up_ne (by omega)]; exact h5 r
    · rw [if_neg e]; exact h5 r1
theorem sX_up_eq (T : Int → Int → Int) (r j v : Int) : sX_up T r j v r j = v := by unfold sX_up; rw [if_pos rfl, qa_up_eq]
theorem sX_up_ne {T : Int → Int → Int} {r j v r1 j1 : Int} (h : r1 ≠ r ∨ j1 ≠ j) : sX_up T r j v r1 j1 = T r1 j1 := by
  unfold sX_up
  by_cases e : r1 = r
  · rw [if_pos e, e, qa_up_ne (by omega)]
  · rw [if_neg e]
theorem c_X_themeByTable {E : qa_V} {σ : qa_S} {b b2 : Nat} {m : Int → Int} {i i2 : Int} {c : Nat} (hlo : E.1 ≤ c) (hd : b + 3 ≤ c) (hd2 : b2 + 3 ≤ c) (hX : sR_X σ.1 c) (hP : sR_P σ.1 b m i) (hk : sm_okp m i) (hP2 : sR_P σ.1 b2 m i2) (hk2 : sm_okp m i2) : qa_T E qm_X_themeByTable 0 0 [.ref c, .ref b, .ref b2] σ (fun o9 τ => o9 = .inl (some (.int (qa_i (sp_lc (sm_c m i) (sm_c m i2) (sm_n m i).toNat (sm_n m i2).toNat)))) ∧ τ.2 = σ.2 ∧ (∀ q, (q < c ∨ c + 14 ≤ q) → τ.1 q = σ.1 q) ∧ sR_X τ.1 c) := by
  refine qa_enterQ (by decide) rfl qm_X_themeByTable_ok rfl rfl (fun Q9 hQ => ?_)
  have hn := hk.1
  have hn2 := hk2.1
  obtain ⟨g0, T0, x1, x2, x3, x4, x5, x6, x7⟩ := hX
  refine qa_iconst (pc' := 1) ⟨rfl, rfl⟩ ?_
  refine qa_istore_n (L' := [(0, _), (1, _), (2, _), (3, _)]) (pc' := 2) ⟨rfl, rfl⟩ rfl rfl ?_
  have lp : ∀ (f : Nat) (τ : qa_S) (k : Nat) (T : Int → Int → Int), (k : Int) + f = sm_n m i + 1 ∧ 1 ≤ k ∧ sX_I σ τ c T ∧ (∀ i1 j1 : Nat, i1 < k → (j1 : Int) ≤ sm_n m i2 → T i1 j1 = sp_lc (sm_c m i) (sm_c m i2) i1 j1) → qa_W E qm_X_themeByTable Q9 0 0 2 [(0, .ref c), (1, .ref b), (2, .ref b2), (3, .int (qa_i k))] [] τ := by
    intro f
    induction f with
    | zero =>
      intro τ k T ⟨hkf, hk9, hI, hT⟩
      have hP9 := hP.fr (fun q a0 a1 => hI.2.1 q (by omega))
      have hQ9 := hP2.fr (fun q a0 a1 => hI.2.1 q (by omega))
      have x1t := (hI.2.1 c (by omega)).trans x1
      have x4t := (hI.2.1 (c + 2) (by omega)).trans x4
      have q1 := hP9
      have r1 := hQ9
      obtain ⟨p5, l5, u5, d5, q1, -⟩ := q1
      obtain ⟨p6, l6, u6, d6, r1, -⟩ := r1
      refine qa_iload_n (pc' := 3) ⟨rfl, rfl⟩ rfl ?_
      refine qa_aload_n (pc' := 4) ⟨rfl, rfl⟩ rfl ?_
      refine qa_getf (pc' := 7) ⟨rfl, rfl⟩ qg_7_20 (by assumption) rfl ?_
      refine qa_icmp_gt (pc' := 10) (tgt := 101) ⟨rfl, rfl⟩ rfl (by omega) (by omega) (fun hc1 => ?_) (fun hc1 => ?_)
      · refine qa_aload_n (pc' := 102) ⟨rfl, rfl⟩ rfl ?_
        refine qa_getf (pc' := 105) ⟨rfl, rfl⟩ qg_7_17 (by assumption) rfl ?_
        refine qa_aload_n (pc' := 106) ⟨rfl, rfl⟩ rfl ?_
        refine qa_getf (pc' := 109) ⟨rfl, rfl⟩ qg_7_20 (by assumption) rfl ?_
        refine qa_aaload (pc' := 110) ⟨rfl, rfl⟩ x4t rfl rfl (by omega) (sX_q_at (by omega)) ?_
        refine qa_aload_n (pc' := 111) ⟨rfl, rfl⟩ rfl ?_
        refine qa_getf (pc' := 114) ⟨rfl, rfl⟩ qg_7_20 (by assumption) rfl ?_
        refine qa_iaload (pc' := 115) ⟨rfl, rfl⟩ (hI.2.2.1 _ (by omega) (by omega)) (by omega) ?_
        refine qa_ireturn rfl rfl rfl (hQ _ _ ⟨?_, hI.1, fun q hq => hI.2.1 q (by omega), g0, T, (hI.2.1 _ (by omega)).trans x1, (hI.2.1 _ (by omega)).trans x2, x3, x4t, fun r hr => hI.2.2.1 r (by omega) (by omega), hI.2.2.2⟩)
        rw [← hT (sm_n m i).toNat (sm_n m i2).toNat (by omega) (by omega), Int.toNat_of_nonneg hn.1, Int.toNat_of_nonneg hn2.1]
      · exact absurd hc1 (by omega)
    | succ f ih =>
      intro τ k T ⟨hkf, hk9, hI, hT⟩
      have hP9 := hP.fr (fun q a0 a1 => hI.2.1 q (by omega))
      have hQ9 := hP2.fr (fun q a0 a1 => hI.2.1 q (by omega))
      have x1t := (hI.2.1 c (by omega)).trans x1
      have x4t := (hI.2.1 (c + 2) (by omega)).trans x4
      have q1 := hP9
      have r1 := hQ9
      obtain ⟨p5, l5, u5, d5, q1, -⟩ := q1
      obtain ⟨p6, l6, u6, d6, r1, -⟩ := r1
      refine qa_iload_n (pc' := 3) ⟨rfl, rfl⟩ rfl ?_
      refine qa_aload_n (pc' := 4) ⟨rfl, rfl⟩ rfl ?_
      refine qa_getf (pc' := 7) ⟨rfl, rfl⟩ qg_7_20 (by assumption) rfl ?_
      refine qa_icmp_gt (pc' := 10) (tgt := 101) ⟨rfl, rfl⟩ rfl (by omega) (by omega) (fun hc1 => ?_) (fun hc1 => ?_)
      · exact absurd hc1 (by omega)
      · refine qa_iconst (pc' := 11) ⟨rfl, rfl⟩ ?_
        refine qa_istore (L' := [(0, _), (1, _), (2, _), (3, _), (4, _)]) (pc' := 13) ⟨rfl, rfl⟩ rfl rfl ?_
        have lq : ∀ (f2 : Nat) (τ : qa_S) (j : Nat) (T : Int → Int → Int), (j : Int) + f2 = sm_n m i2 + 1 ∧ 1 ≤ j ∧ sX_I σ τ c T ∧ (∀ i1 j1 : Nat, i1 < k → (j1 : Int) ≤ sm_n m i2 → T i1 j1 = sp_lc (sm_c m i) (sm_c m i2) i1 j1) ∧ (∀ j1 : Nat, j1 < j → T k j1 = sp_lc (sm_c m i) (sm_c m i2) k j1) → qa_W E qm_X_themeByTable Q9 0 0 13 [(0, .ref c), (1, .ref b), (2, .ref b2), (3, .int (qa_i k)), (4, .int (qa_i j))] [] τ := by
          intro f2
          induction f2 with
          | zero =>
            intro τ j T ⟨hjf, hj9, hI, hT, hU⟩
            have hP9 := hP.fr (fun q a0 a1 => hI.2.1 q (by omega))
            have hQ9 := hP2.fr (fun q a0 a1 => hI.2.1 q (by omega))
            have x1t := (hI.2.1 c (by omega)).trans x1
            have x4t := (hI.2.1 (c + 2) (by omega)).trans x4
            have q1 := hP9
            have r1 := hQ9
            obtain ⟨p5, l5, u5, d5, q1, -⟩ := q1
            obtain ⟨p6, l6, u6, d6, r1, -⟩ := r1
            refine qa_iload (pc' := 15) ⟨rfl, rfl⟩ rfl ?_
            refine qa_aload_n (pc' := 16) ⟨rfl, rfl⟩ rfl ?_
            refine qa_getf (pc' := 19) ⟨rfl, rfl⟩ qg_7_20 (by assumption) rfl ?_
            refine qa_icmp_gt (pc' := 22) (tgt := 95) ⟨rfl, rfl⟩ rfl (by omega) (by omega) (fun hc2 => ?_) (fun hc2 => ?_)
            · refine qa_iinc (L' := [(0, _), (1, _), (2, _), (3, _), (4, _)]) (z := ((k + 1 : Nat) : Int)) (pc' := 98) ⟨rfl, rfl⟩ rfl (by omega) rfl rfl ?_
              refine qa_goto (pc' := 101) (tgt := 2) ⟨rfl, rfl⟩ rfl ?_
              refine qa_sub (ks' := [0, 1, 2, 3]) (L' := [(0, _), (1, _), (2, _), (3, _)]) rfl ?_
              refine ih τ (k + 1) T ⟨by omega, by omega, hI, fun i1 j1 i9 j9 => ?_⟩
              by_cases e : i1 = k
              · rw [e]; exact hU j1 (by omega)
              · exact hT i1 j1 (by omega) j9
            · exact absurd hc2 (by omega)
          | succ f2 ih2 =>
            intro τ j T ⟨hjf, hj9, hI, hT, hU⟩
            have hP9 := hP.fr (fun q a0 a1 => hI.2.1 q (by omega))
            have hQ9 := hP2.fr (fun q a0 a1 => hI.2.1 q (by omega))
            have x1t := (hI.2.1 c (by omega)).trans x1
            have x4t := (hI.2.1 (c + 2) (by omega)).trans x4
            have q1 := hP9
            have r1 := hQ9
            obtain ⟨p5, l5, u5, d5, q1, -⟩ := q1
            obtain ⟨p6, l6, u6, d6, r1, -⟩ := r1
            refine qa_iload (pc' := 15) ⟨rfl, rfl⟩ rfl ?_
            refine qa_aload_n (pc' := 16) ⟨rfl, rfl⟩ rfl ?_
            refine qa_getf (pc' := 19) ⟨rfl, rfl⟩ qg_7_20 (by assumption) rfl ?_
            refine qa_icmp_gt (pc' := 22) (tgt := 95) ⟨rfl, rfl⟩ rfl (by omega) (by omega) (fun hc2 => ?_) (fun hc2 => ?_)
            · exact absurd hc2 (by omega)
            · obtain ⟨k9, rfl⟩ : ∃ k9, k = k9 + 1 := ⟨k - 1, by omega⟩
              obtain ⟨j9, rfl⟩ : ∃ j9, j = j9 + 1 := ⟨j - 1, by omega⟩
              have t1 := hT k9 j9 (by omega) (by omega)
              have t2 := hT k9 (j9 + 1) (by omega) (by omega)
              have t3 := hU j9 (by omega)
              have lb1 := sp_lc_b (sm_c m i) (sm_c m i2) k9 j9
              have lb2 := sp_lc_b (sm_c m i) (sm_c m i2) k9 (j9 + 1)
              have lb3 := sp_lc_b (sm_c m i) (sm_c m i2) (k9 + 1) j9
              refine qa_aload_n (pc' := 23) ⟨rfl, rfl⟩ rfl ?_
              refine qa_getf (pc' := 26) ⟨rfl, rfl⟩ qg_7_17 (by assumption) rfl ?_
              refine qa_iload_n (pc' := 27) ⟨rfl, rfl⟩ rfl ?_
              refine qa_aaload (pc' := 28) ⟨rfl, rfl⟩ x4t rfl rfl (by omega) (sX_q_at (by omega)) ?_
              refine qa_iload (pc' := 30) ⟨rfl, rfl⟩ rfl ?_
              refine qa_aload_n (pc' := 31) ⟨rfl, rfl⟩ rfl ?_
              refine qa_iload_n (pc' := 32) ⟨rfl, rfl⟩ rfl ?_
              refine qa_iconst (pc' := 33) ⟨rfl, rfl⟩ ?_
              refine qa_isub (z := (k9 : Int)) (pc' := 34) ⟨rfl, rfl⟩ (by omega) ?_
              refine qa_aload_n (pc' := 35) ⟨rfl, rfl⟩ rfl ?_
              refine qa_iload (pc' := 37) ⟨rfl, rfl⟩ rfl ?_
              refine qa_iconst (pc' := 38) ⟨rfl, rfl⟩ ?_
              refine qa_isub (z := (j9 : Int)) (pc' := 39) ⟨rfl, rfl⟩ (by omega) ?_
              refine qa_callV rfl qf_P_hasSameAt ql_7_26 (dC_P_same (E := E) hP9 hk hQ9 hk2 (by omega) (by omega)) q1 rfl rfl rfl (qa_lt9 rfl) (qa_le9 rfl) (qa_le9 rfl) (qa_le9 rfl) (fun o9 τ9 hq9 => ?_)
              obtain ⟨v9, rfl, hv9, hq9⟩ := hq9
              refine qa_nx (pc' := 42) (st' := [_, _, _]) rfl rfl rfl rfl ?_
              replace hq9 := hq9.symm
              subst hq9
              refine qa_if_eq (pc' := 45) (tgt := 63) ⟨rfl, rfl⟩ rfl (by omega) (fun hc3 => ?_) (fun hc3 => ?_)
              · refine qa_aload_n (pc' := 64) ⟨rfl, rfl⟩ rfl ?_
                refine qa_getf (pc' := 67) ⟨rfl, rfl⟩ qg_7_17 (by assumption) rfl ?_
                refine qa_iload_n (pc' := 68) ⟨rfl, rfl⟩ rfl ?_
                refine qa_iconst (pc' := 69) ⟨rfl, rfl⟩ ?_
                refine qa_isub (z := (k9 : Int)) (pc' := 70) ⟨rfl, rfl⟩ (by omega) ?_
                refine qa_aaload (pc' := 71) ⟨rfl, rfl⟩ x4t rfl rfl (by omega) (sX_q_at (by omega)) ?_
                refine qa_iload (pc' := 73) ⟨rfl, rfl⟩ rfl ?_
                refine qa_iaload (pc' := 74) ⟨rfl, rfl⟩ (hI.2.2.1 _ (by omega) (by omega)) (by omega) ?_
                refine qa_aload_n (pc' := 75) ⟨rfl, rfl⟩ rfl ?_
                refine qa_getf (pc' := 78) ⟨rfl, rfl⟩ qg_7_17 (by assumption) rfl ?_
                refine qa_iload_n (pc' := 79) ⟨rfl, rfl⟩ rfl ?_
                refine qa_aaload (pc' := 80) ⟨rfl, rfl⟩ x4t rfl rfl (by omega) (sX_q_at (by omega)) ?_
                refine qa_iload (pc' := 82) ⟨rfl, rfl⟩ rfl ?_
                refine qa_iconst (pc' := 83) ⟨rfl, rfl⟩ ?_
                refine qa_isub (z := (j9 : Int)) (pc' := 84) ⟨rfl, rfl⟩ (by omega) ?_
                refine qa_iaload (pc' := 85) ⟨rfl, rfl⟩ (hI.2.2.1 _ (by omega) (by omega)) (by omega) ?_
                refine qa_callS rfl qf_MA_max rfl ql_7_34 (c_MA_max (E := E) (by omega) (by omega)) rfl rfl (qa_lt9 rfl) (qa_le9 rfl) (qa_le9 rfl) (qa_le9 rfl) (fun o9 τ9 hq9 => ?_)
                obtain ⟨rfl, hq9⟩ := hq9
                replace hq9 := hq9.symm; subst hq9
                refine qa_nx (pc' := 88) (st' := [_, _, _]) rfl rfl rfl rfl ?_
                refine qa_iastore (pc' := 89) ⟨rfl, rfl⟩ (hI.2.2.1 _ (by omega) (by omega)) (by omega) (by omega) ?_
                refine qa_gz (fun τ1 e1 w1 f1 => ?_)
                refine qa_iinc (L' := [(0, _), (1, _), (2, _), (3, _), (4, _)]) (z := ((j9 + 1 + 1 : Nat) : Int)) (pc' := 92) ⟨rfl, rfl⟩ rfl (by omega) rfl rfl ?_
                refine qa_goto (pc' := 95) (tgt := 13) ⟨rfl, rfl⟩ rfl ?_
                have hI1 := hI.put e1 w1 f1 (by omega) (by omega)
                refine ih2 τ1 (j9 + 1 + 1) _ ⟨by omega, by omega, hI1, fun i1 j1 i9 j8 => ?_, fun j1 j8 => ?_⟩
                · rw [sX_up_ne (by omega)]; exact hT i1 j1 i9 j8
                · by_cases e : j1 = j9 + 1
                  · rw [e, sX_up_eq, sp_lc_s]; rw [t2, t3, if_neg (show ¬ sm_c m i (k9 : Int) = sm_c m i2 (j9 : Int) by omega)]
                  · rw [sX_up_ne (by omega)]; exact hU j1 (by omega)
              · refine qa_aload_n (pc' := 46) ⟨rfl, rfl⟩ rfl ?_
                refine qa_getf (pc' := 49) ⟨rfl, rfl⟩ qg_7_17 (by assumption) rfl ?_
                refine qa_iload_n (pc' := 50) ⟨rfl, rfl⟩ rfl ?_
                refine qa_iconst (pc' := 51) ⟨rfl, rfl⟩ ?_
                refine qa_isub (z := (k9 : Int)) (pc' := 52) ⟨rfl, rfl⟩ (by omega) ?_
                refine qa_aaload (pc' := 53) ⟨rfl, rfl⟩ x4t rfl rfl (by omega) (sX_q_at (by omega)) ?_
                refine qa_iload (pc' := 55) ⟨rfl, rfl⟩ rfl ?_
                refine qa_iconst (pc' := 56) ⟨rfl, rfl⟩ ?_
                refine qa_isub (z := (j9 : Int)) (pc' := 57) ⟨rfl, rfl⟩ (by omega) ?_
                refine qa_iaload (pc' := 58) ⟨rfl, rfl⟩ (hI.2.2.1 _ (by omega) (by omega)) (by omega) ?_
                refine qa_iconst (pc' := 59) ⟨rfl, rfl⟩ ?_
                refine qa_iadd (pc' := 60) ⟨rfl, rfl⟩ rfl ?_
                refine qa_goto (pc' := 63) (tgt := 88) ⟨rfl, rfl⟩ rfl ?_
                refine qa_iastore (pc' := 89) ⟨rfl, rfl⟩ (hI.2.2.1 _ (by omega) (by omega)) (by omega) (by omega) ?_
                refine qa_gz (fun τ1 e1 w1 f1 => ?_)
                refine qa_iinc (L' := [(0, _), (1, _), (2, _), (3, _), (4, _)]) (z := ((j9 + 1 + 1 : Nat) : Int)) (pc' := 92) ⟨rfl, rfl⟩ rfl (by omega) rfl rfl ?_
                refine qa_goto (pc' := 95) (tgt := 13) ⟨rfl, rfl⟩ rfl ?_
                have hI1 := hI.put e1 w1 f1 (by omega) (by omega)
                refine ih2 τ1 (j9 + 1 + 1) _ ⟨by omega, by omega, hI1, fun i1 j1 i9 j8 => ?_, fun j1 j8 => ?_⟩
                · rw [sX_up_ne (by omega)]; exact hT i1 j1 i9 j8
                · by_cases e : j1 = j9 + 1
                  · rw [e, sX_up_eq, sp_lc_s]; rw [if_pos (by omega), t1]
                  · rw [sX_up_ne (by omega)]; exact hU j1 (by omega)
        exact lq (sm_n m i2).toNat τ 1 T ⟨by omega, by omega, hI, hT, fun j1 j9 => by rw [show j1 = 0 by omega, sp_lc_0]; exact hI.2.2.2.2 k⟩
  exact lp (sm_n m i).toNat σ 1 T0 ⟨by omega, by omega, ⟨rfl, fun _ _ => rfl, fun r r0 r1 => by have := x5 r.toNat (by omega); rw [Int.toNat_of_nonneg r0] at this; exact this, x6, x7⟩, fun i1 j1 i9 j9 => by rw [show i1 = 0 by omega]; exact x6 j1⟩
