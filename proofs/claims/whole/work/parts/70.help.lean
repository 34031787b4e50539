/-! the law's helpers -/
theorem jo0 {X : List Nat} {v : Value} : qa_ov 0 X v = .inl (some v) := rfl
theorem jo1 {a : Nat} {l : List Nat} {v : Value} : qa_ov 1 (a :: l) v = .inr a := rfl
theorem jo2 {a b : Nat} {l : List Nat} {v : Value} : qa_ov 2 (a :: b :: l) v = .inr b := rfl
theorem jo3 {a b d : Nat} {l : List Nat} {v : Value} : qa_ov 3 (a :: b :: d :: l) v = .inr d := rfl
theorem jk0 {k : Int} (h : 0 ≤ k ∧ k ≤ (([] : List Nat).length : Int)) : k = 0 := by have e : (([] : List Nat).length : Int) = 0 := rfl; omega
theorem jk1 {a : Nat} {k : Int} (h : 0 ≤ k ∧ k ≤ (([a] : List Nat).length : Int)) : k = 0 ∨ k = 1 := by have e : (([a] : List Nat).length : Int) = 1 := rfl; omega
theorem jk2 {a b : Nat} {k : Int} (h : 0 ≤ k ∧ k ≤ (([a, b] : List Nat).length : Int)) : k = 0 ∨ k = 1 ∨ k = 2 := by have e : (([a, b] : List Nat).length : Int) = 2 := rfl; omega
theorem jk3 {a b d : Nat} {k : Int} (h : 0 ≤ k ∧ k ≤ (([a, b, d] : List Nat).length : Int)) : k = 0 ∨ k = 1 ∨ k = 2 ∨ k = 3 := by have e : (([a, b, d] : List Nat).length : Int) = 3 := rfl; omega
/-- what a helper leaves: its number k; where k is 0 the row of longs holds W of the value -/
def jL (E : qa_V) (c : Nat) (Z : Nat → Nat) (B : Int) (N : qa_M) (as : List Value) {α : Type} (C : α → Value) (W : α → Int) (σ : qa_S) : qa_O → qa_S → Prop := fun o9 τ => ∃ (k : Int) (x : α), o9 = .inl (some (.int (qa_i k))) ∧ (0 ≤ k ∧ k ≤ 3) ∧ σ.2 ≤ τ.2 ∧ (∀ q, (q < c ∨ (c + 277 ≤ q ∧ q < c + 290 ∧ q ≠ c + 288)) → τ.1 q = σ.1 q) ∧ (∃ a1 : Int → Int, τ.1 (c + 288) = some (qa_la 1 a1) ∧ (k = 0 → a1 0 = W x)) ∧ jN E c Z B N as C k x τ
/-- .. the row of doubles -/
def jLd (E : qa_V) (c : Nat) (Z : Nat → Nat) (B : Int) (N : qa_M) (as : List Value) {α : Type} (C : α → Value) (W : α → UInt64) (p : α → Prop) (σ : qa_S) : qa_O → qa_S → Prop := fun o9 τ => ∃ (k : Int) (x : α), o9 = .inl (some (.int (qa_i k))) ∧ (0 ≤ k ∧ k ≤ 3) ∧ σ.2 ≤ τ.2 ∧ (∀ q, (q < c ∨ (c + 277 ≤ q ∧ q < c + 290 ∧ q ≠ c + 289)) → τ.1 q = σ.1 q) ∧ (∃ a1 : Int → UInt64, τ.1 (c + 289) = some (qa_da 1 a1) ∧ (k = 0 → a1 0 = W x)) ∧ (k = 0 → p x) ∧ jN E c Z B N as C k x τ
def jb (x : Int32) : Int := if x.toInt = 0 then 0 else 1
theorem qa_l_in (x : Int64) : qa_ln x.toInt := ⟨by have := x.le_toInt; omega, by have := x.toInt_lt; omega⟩
theorem l_addPart {E : qa_V} {σ : qa_S} {c : Nat} {Z : Nat → Nat} {B : Int} {N : qa_M} {as : List Value} {n : Nat → Int}  (hlo : E.1 ≤ c) (hsz : c + 290 ≤ σ.2) (hc : σ.1 c = some (qa_CoF c n)) {a0 : Int → Int} (ho : σ.1 (c + 288) = some (qa_la 1 a0)) (hT : qa_T E qm_C_addPart 1 6 [.ref c] σ (jC E c Z B N as [2] Value.int σ)) : qa_T E qm_L_addPart 64 8000 [.ref c, .ref (c + 288)] σ (jL E c Z B N as Value.int Int32.toInt σ) := by
  refine qa_enterHQ (by decide) rfl qm_L_addPart_ok rfl rfl (fun Q9 hQ => ?_)
  refine qa_aload_n (pc' := 1) ⟨rfl, rfl⟩ rfl ?_
  refine qa_iconst (pc' := 2) ⟨rfl, rfl⟩ ?_
  refine qa_aload_n (pc' := 3) ⟨rfl, rfl⟩ rfl ?_
  refine qa_callV rfl qf_C_addPart ql_0_7 hT hc rfl rfl rfl (qa_lt9 rfl) (qa_le9 rfl) (qa_le9 rfl) (qa_le9 rfl) (fun o9 τ9 hq9 => ?_)
  obtain ⟨k9, y9, rfl, hk9, hs9, hf9, hm9⟩ := hq9
  have ho9 := (hf9 (c + 288) (by omega)).trans ho
  have e0 : τ9.2 = τ9.2 := rfl
  rcases jk1 hk9 with rfl | rfl
  · rw [jo0]
    refine qa_nx (pc' := 6) (kc' := 63) (ks' := 7994) (st' := [_, _, _]) rfl rfl rfl rfl ?_
    obtain ⟨v9, hv9, rfl⟩ : ∃ v9 : Int, qa_in v9 ∧ y9 = qa_i v9 := ⟨y9.toInt, qa_i_in y9, (qa_i_of y9).symm⟩
    refine qa_i2l (pc' := 7) ⟨rfl, rfl⟩ hv9 ?_
    refine qa_lastore (pc' := 8) ⟨rfl, rfl⟩ ho9 (by omega) (by omega) ?_
    refine qa_gz (fun τ1 e1 w1 f1 => ?_)
    replace e0 := e1.trans e0
    refine qa_goto (pc' := 11) (tgt := 14) ⟨rfl, rfl⟩ rfl ?_
    refine qa_iconst (pc' := 15) ⟨rfl, rfl⟩ ?_
    refine qa_ireturn rfl rfl rfl (hQ _ _ ⟨0, qa_i v9, rfl, ⟨by decide, by decide⟩, by omega, fun q hq => (f1 q (by omega)).trans (hf9 q (by omega)), ⟨_, w1, fun _ => by rw [qa_up_eq]; exact (qa_i_toInt hv9).symm⟩, fun τ2 e2 f2 => hm9 τ2 (e2.trans e1) (fun q q0 q1 => (f2 q q0 q1).trans (f1 q q0))⟩)
  · rw [jo1]
    refine qa_nz ?_
    refine qa_Zh 0 rfl rfl rfl rfl rfl (fun q9 => ?_)
    show qa_W _ _ _ _ _ 11 _ _ _
    refine qa_astore_n (L' := [(0, _), (1, _), (2, _)]) (pc' := 12) ⟨rfl, rfl⟩ rfl rfl ?_
    refine qa_iconst (pc' := 13) ⟨rfl, rfl⟩ ?_
    refine qa_ireturn rfl rfl rfl (hQ _ _ ⟨1, y9, rfl, ⟨by decide, by decide⟩, hs9, fun q hq => hf9 q (by omega), ⟨_, ho9, fun h => absurd h (by decide)⟩, hm9⟩)
theorem l_addNote {E : qa_V} {σ : qa_S} {c : Nat} {Z : Nat → Nat} {B : Int} {N : qa_M} {as : List Value} {n : Nat → Int} {p : Int} {q : Int} {r : Int}  (hlo : E.1 ≤ c) (hsz : c + 290 ≤ σ.2) (hc : σ.1 c = some (qa_CoF c n)) {a0 : Int → Int} (ho : σ.1 (c + 288) = some (qa_la 1 a0)) (hT : qa_T E qm_C_addNote 1 6 [.ref c, .int (qa_i p), .int (qa_i q), .int (qa_i r)] σ (jC E c Z B N as [0, 1, 2] Value.int σ)) : qa_T E qm_L_addNote 64 8000 [.ref c, .int (qa_i p), .int (qa_i q), .int (qa_i r), .ref (c + 288)] σ (jL E c Z B N as Value.int Int32.toInt σ) := by
  refine qa_enterHQ (by decide) rfl qm_L_addNote_ok rfl rfl (fun Q9 hQ => ?_)
  refine qa_aload (pc' := 2) ⟨rfl, rfl⟩ rfl ?_
  refine qa_iconst (pc' := 3) ⟨rfl, rfl⟩ ?_
  refine qa_aload_n (pc' := 4) ⟨rfl, rfl⟩ rfl ?_
  refine qa_iload_n (pc' := 5) ⟨rfl, rfl⟩ rfl ?_
  refine qa_iload_n (pc' := 6) ⟨rfl, rfl⟩ rfl ?_
  refine qa_iload_n (pc' := 7) ⟨rfl, rfl⟩ rfl ?_
  refine qa_callV rfl qf_C_addNote ql_0_15 hT hc rfl rfl rfl (qa_lt9 rfl) (qa_le9 rfl) (qa_le9 rfl) (qa_le9 rfl) (fun o9 τ9 hq9 => ?_)
  obtain ⟨k9, y9, rfl, hk9, hs9, hf9, hm9⟩ := hq9
  have ho9 := (hf9 (c + 288) (by omega)).trans ho
  have e0 : τ9.2 = τ9.2 := rfl
  rcases jk3 hk9 with rfl | rfl | rfl | rfl
  · rw [jo0]
    refine qa_nx (pc' := 10) (kc' := 63) (ks' := 7994) (st' := [_, _, _]) rfl rfl rfl rfl ?_
    obtain ⟨v9, hv9, rfl⟩ : ∃ v9 : Int, qa_in v9 ∧ y9 = qa_i v9 := ⟨y9.toInt, qa_i_in y9, (qa_i_of y9).symm⟩
    refine qa_i2l (pc' := 11) ⟨rfl, rfl⟩ hv9 ?_
    refine qa_lastore (pc' := 12) ⟨rfl, rfl⟩ ho9 (by omega) (by omega) ?_
    refine qa_gz (fun τ1 e1 w1 f1 => ?_)
    replace e0 := e1.trans e0
    refine qa_goto (pc' := 15) (tgt := 27) ⟨rfl, rfl⟩ rfl ?_
    refine qa_iconst (pc' := 28) ⟨rfl, rfl⟩ ?_
    refine qa_ireturn rfl rfl rfl (hQ _ _ ⟨0, qa_i v9, rfl, ⟨by decide, by decide⟩, by omega, fun q hq => (f1 q (by omega)).trans (hf9 q (by omega)), ⟨_, w1, fun _ => by rw [qa_up_eq]; exact (qa_i_toInt hv9).symm⟩, fun τ2 e2 f2 => hm9 τ2 (e2.trans e1) (fun q q0 q1 => (f2 q q0 q1).trans (f1 q q0))⟩)
  · rw [jo1]
    refine qa_nz ?_
    refine qa_Zh 0 rfl rfl rfl rfl rfl (fun q9 => ?_)
    show qa_W _ _ _ _ _ 15 _ _ _
    refine qa_astore (L' := [(0, _), (1, _), (2, _), (3, _), (4, _), (5, _)]) (pc' := 17) ⟨rfl, rfl⟩ rfl rfl ?_
    refine qa_iconst (pc' := 18) ⟨rfl, rfl⟩ ?_
    refine qa_ireturn rfl rfl rfl (hQ _ _ ⟨1, y9, rfl, ⟨by decide, by decide⟩, hs9, fun q hq => hf9 q (by omega), ⟨_, ho9, fun h => absurd h (by decide)⟩, hm9⟩)
  · rw [jo2]
    refine qa_nz ?_
    refine qa_Zh 1 rfl rfl rfl rfl rfl (fun q9 => ?_)
    show qa_W _ _ _ _ _ 19 _ _ _
    refine qa_astore (L' := [(0, _), (1, _), (2, _), (3, _), (4, _), (5, _)]) (pc' := 21) ⟨rfl, rfl⟩ rfl rfl ?_
    refine qa_iconst (pc' := 22) ⟨rfl, rfl⟩ ?_
    refine qa_ireturn rfl rfl rfl (hQ _ _ ⟨2, y9, rfl, ⟨by decide, by decide⟩, hs9, fun q hq => hf9 q (by omega), ⟨_, ho9, fun h => absurd h (by decide)⟩, hm9⟩)
  · rw [jo3]
    refine qa_nz ?_
    refine qa_Zh 2 rfl rfl rfl rfl rfl (fun q9 => ?_)
    show qa_W _ _ _ _ _ 23 _ _ _
    refine qa_astore (L' := [(0, _), (1, _), (2, _), (3, _), (4, _), (5, _)]) (pc' := 25) ⟨rfl, rfl⟩ rfl rfl ?_
    refine qa_iconst (pc' := 26) ⟨rfl, rfl⟩ ?_
    refine qa_ireturn rfl rfl rfl (hQ _ _ ⟨3, y9, rfl, ⟨by decide, by decide⟩, hs9, fun q hq => hf9 q (by omega), ⟨_, ho9, fun h => absurd h (by decide)⟩, hm9⟩)
theorem l_addRest {E : qa_V} {σ : qa_S} {c : Nat} {Z : Nat → Nat} {B : Int} {N : qa_M} {as : List Value} {n : Nat → Int} {p : Int} {q : Int}  (hlo : E.1 ≤ c) (hsz : c + 290 ≤ σ.2) (hc : σ.1 c = some (qa_CoF c n)) {a0 : Int → Int} (ho : σ.1 (c + 288) = some (qa_la 1 a0)) (hT : qa_T E qm_C_addRest 1 6 [.ref c, .int (qa_i p), .int (qa_i q)] σ (jC E c Z B N as [0, 1, 2] Value.int σ)) : qa_T E qm_L_addRest 64 8000 [.ref c, .int (qa_i p), .int (qa_i q), .ref (c + 288)] σ (jL E c Z B N as Value.int Int32.toInt σ) := by
  refine qa_enterHQ (by decide) rfl qm_L_addRest_ok rfl rfl (fun Q9 hQ => ?_)
  refine qa_aload_n (pc' := 1) ⟨rfl, rfl⟩ rfl ?_
  refine qa_iconst (pc' := 2) ⟨rfl, rfl⟩ ?_
  refine qa_aload_n (pc' := 3) ⟨rfl, rfl⟩ rfl ?_
  refine qa_iload_n (pc' := 4) ⟨rfl, rfl⟩ rfl ?_
  refine qa_iload_n (pc' := 5) ⟨rfl, rfl⟩ rfl ?_
  refine qa_callV rfl qf_C_addRest ql_0_23 hT hc rfl rfl rfl (qa_lt9 rfl) (qa_le9 rfl) (qa_le9 rfl) (qa_le9 rfl) (fun o9 τ9 hq9 => ?_)
  obtain ⟨k9, y9, rfl, hk9, hs9, hf9, hm9⟩ := hq9
  have ho9 := (hf9 (c + 288) (by omega)).trans ho
  have e0 : τ9.2 = τ9.2 := rfl
  rcases jk3 hk9 with rfl | rfl | rfl | rfl
  · rw [jo0]
    refine qa_nx (pc' := 8) (kc' := 63) (ks' := 7994) (st' := [_, _, _]) rfl rfl rfl rfl ?_
    obtain ⟨v9, hv9, rfl⟩ : ∃ v9 : Int, qa_in v9 ∧ y9 = qa_i v9 := ⟨y9.toInt, qa_i_in y9, (qa_i_of y9).symm⟩
    refine qa_i2l (pc' := 9) ⟨rfl, rfl⟩ hv9 ?_
    refine qa_lastore (pc' := 10) ⟨rfl, rfl⟩ ho9 (by omega) (by omega) ?_
    refine qa_gz (fun τ1 e1 w1 f1 => ?_)
    replace e0 := e1.trans e0
    refine qa_goto (pc' := 13) (tgt := 25) ⟨rfl, rfl⟩ rfl ?_
    refine qa_iconst (pc' := 26) ⟨rfl, rfl⟩ ?_
    refine qa_ireturn rfl rfl rfl (hQ _ _ ⟨0, qa_i v9, rfl, ⟨by decide, by decide⟩, by omega, fun q hq => (f1 q (by omega)).trans (hf9 q (by omega)), ⟨_, w1, fun _ => by rw [qa_up_eq]; exact (qa_i_toInt hv9).symm⟩, fun τ2 e2 f2 => hm9 τ2 (e2.trans e1) (fun q q0 q1 => (f2 q q0 q1).trans (f1 q q0))⟩)
  · rw [jo1]
    refine qa_nz ?_
    refine qa_Zh 0 rfl rfl rfl rfl rfl (fun q9 => ?_)
    show qa_W _ _ _ _ _ 13 _ _ _
    refine qa_astore (L' := [(0, _), (1, _), (2, _), (3, _), (4, _)]) (pc' := 15) ⟨rfl, rfl⟩ rfl rfl ?_
    refine qa_iconst (pc' := 16) ⟨rfl, rfl⟩ ?_
    refine qa_ireturn rfl rfl rfl (hQ _ _ ⟨1, y9, rfl, ⟨by decide, by decide⟩, hs9, fun q hq => hf9 q (by omega), ⟨_, ho9, fun h => absurd h (by decide)⟩, hm9⟩)
  · rw [jo2]
    refine qa_nz ?_
    refine qa_Zh 1 rfl rfl rfl rfl rfl (fun q9 => ?_)
    show qa_W _ _ _ _ _ 17 _ _ _
    refine qa_astore (L' := [(0, _), (1, _), (2, _), (3, _), (4, _)]) (pc' := 19) ⟨rfl, rfl⟩ rfl rfl ?_
    refine qa_iconst (pc' := 20) ⟨rfl, rfl⟩ ?_
    refine qa_ireturn rfl rfl rfl (hQ _ _ ⟨2, y9, rfl, ⟨by decide, by decide⟩, hs9, fun q hq => hf9 q (by omega), ⟨_, ho9, fun h => absurd h (by decide)⟩, hm9⟩)
  · rw [jo3]
    refine qa_nz ?_
    refine qa_Zh 2 rfl rfl rfl rfl rfl (fun q9 => ?_)
    show qa_W _ _ _ _ _ 21 _ _ _
    refine qa_astore (L' := [(0, _), (1, _), (2, _), (3, _), (4, _)]) (pc' := 23) ⟨rfl, rfl⟩ rfl rfl ?_
    refine qa_iconst (pc' := 24) ⟨rfl, rfl⟩ ?_
    refine qa_ireturn rfl rfl rfl (hQ _ _ ⟨3, y9, rfl, ⟨by decide, by decide⟩, hs9, fun q hq => hf9 q (by omega), ⟨_, ho9, fun h => absurd h (by decide)⟩, hm9⟩)
theorem l_removeLast {E : qa_V} {σ : qa_S} {c : Nat} {Z : Nat → Nat} {B : Int} {N : qa_M} {as : List Value} {n : Nat → Int} {p : Int}  (hlo : E.1 ≤ c) (hsz : c + 290 ≤ σ.2) (hc : σ.1 c = some (qa_CoF c n)) {a0 : Int → Int} (ho : σ.1 (c + 288) = some (qa_la 1 a0)) (hT : qa_T E qm_C_removeLast 1 6 [.ref c, .int (qa_i p)] σ (jC E c Z B N as [0, 2] Value.int σ)) : qa_T E qm_L_removeLast 64 8000 [.ref c, .int (qa_i p), .ref (c + 288)] σ (jL E c Z B N as Value.int Int32.toInt σ) := by
  refine qa_enterHQ (by decide) rfl qm_L_removeLast_ok rfl rfl (fun Q9 hQ => ?_)
  refine qa_aload_n (pc' := 1) ⟨rfl, rfl⟩ rfl ?_
  refine qa_iconst (pc' := 2) ⟨rfl, rfl⟩ ?_
  refine qa_aload_n (pc' := 3) ⟨rfl, rfl⟩ rfl ?_
  refine qa_iload_n (pc' := 4) ⟨rfl, rfl⟩ rfl ?_
  refine qa_callV rfl qf_C_removeLast ql_0_27 hT hc rfl rfl rfl (qa_lt9 rfl) (qa_le9 rfl) (qa_le9 rfl) (qa_le9 rfl) (fun o9 τ9 hq9 => ?_)
  obtain ⟨k9, y9, rfl, hk9, hs9, hf9, hm9⟩ := hq9
  have ho9 := (hf9 (c + 288) (by omega)).trans ho
  have e0 : τ9.2 = τ9.2 := rfl
  rcases jk2 hk9 with rfl | rfl | rfl
  · rw [jo0]
    refine qa_nx (pc' := 7) (kc' := 63) (ks' := 7994) (st' := [_, _, _]) rfl rfl rfl rfl ?_
    obtain ⟨v9, hv9, rfl⟩ : ∃ v9 : Int, qa_in v9 ∧ y9 = qa_i v9 := ⟨y9.toInt, qa_i_in y9, (qa_i_of y9).symm⟩
    refine qa_i2l (pc' := 8) ⟨rfl, rfl⟩ hv9 ?_
    refine qa_lastore (pc' := 9) ⟨rfl, rfl⟩ ho9 (by omega) (by omega) ?_
    refine qa_gz (fun τ1 e1 w1 f1 => ?_)
    replace e0 := e1.trans e0
    refine qa_goto (pc' := 12) (tgt := 18) ⟨rfl, rfl⟩ rfl ?_
    refine qa_iconst (pc' := 19) ⟨rfl, rfl⟩ ?_
    refine qa_ireturn rfl rfl rfl (hQ _ _ ⟨0, qa_i v9, rfl, ⟨by decide, by decide⟩, by omega, fun q hq => (f1 q (by omega)).trans (hf9 q (by omega)), ⟨_, w1, fun _ => by rw [qa_up_eq]; exact (qa_i_toInt hv9).symm⟩, fun τ2 e2 f2 => hm9 τ2 (e2.trans e1) (fun q q0 q1 => (f2 q q0 q1).trans (f1 q q0))⟩)
  · rw [jo1]
    refine qa_nz ?_
    refine qa_Zh 0 rfl rfl rfl rfl rfl (fun q9 => ?_)
    show qa_W _ _ _ _ _ 12 _ _ _
    refine qa_astore_n (L' := [(0, _), (1, _), (2, _), (3, _)]) (pc' := 13) ⟨rfl, rfl⟩ rfl rfl ?_
    refine qa_iconst (pc' := 14) ⟨rfl, rfl⟩ ?_
    refine qa_ireturn rfl rfl rfl (hQ _ _ ⟨1, y9, rfl, ⟨by decide, by decide⟩, hs9, fun q hq => hf9 q (by omega), ⟨_, ho9, fun h => absurd h (by decide)⟩, hm9⟩)
  · rw [jo2]
    refine qa_nz ?_
    refine qa_Zh 1 rfl rfl rfl rfl rfl (fun q9 => ?_)
    show qa_W _ _ _ _ _ 15 _ _ _
    refine qa_astore_n (L' := [(0, _), (1, _), (2, _), (3, _)]) (pc' := 16) ⟨rfl, rfl⟩ rfl rfl ?_
    refine qa_iconst (pc' := 17) ⟨rfl, rfl⟩ ?_
    refine qa_ireturn rfl rfl rfl (hQ _ _ ⟨2, y9, rfl, ⟨by decide, by decide⟩, hs9, fun q hq => hf9 q (by omega), ⟨_, ho9, fun h => absurd h (by decide)⟩, hm9⟩)
theorem l_transpose {E : qa_V} {σ : qa_S} {c : Nat} {Z : Nat → Nat} {B : Int} {N : qa_M} {as : List Value} {n : Nat → Int} {p : Int} {q : Int}  (hlo : E.1 ≤ c) (hsz : c + 290 ≤ σ.2) (hc : σ.1 c = some (qa_CoF c n)) {a0 : Int → Int} (ho : σ.1 (c + 288) = some (qa_la 1 a0)) (hT : qa_T E qm_C_transpose 1 6 [.ref c, .int (qa_i p), .int (qa_i q)] σ (jC E c Z B N as [0, 1, 2] Value.int σ)) : qa_T E qm_L_transpose 64 8000 [.ref c, .int (qa_i p), .int (qa_i q), .ref (c + 288)] σ (jL E c Z B N as Value.int Int32.toInt σ) := by
  refine qa_enterHQ (by decide) rfl qm_L_transpose_ok rfl rfl (fun Q9 hQ => ?_)
  refine qa_aload_n (pc' := 1) ⟨rfl, rfl⟩ rfl ?_
  refine qa_iconst (pc' := 2) ⟨rfl, rfl⟩ ?_
  refine qa_aload_n (pc' := 3) ⟨rfl, rfl⟩ rfl ?_
  refine qa_iload_n (pc' := 4) ⟨rfl, rfl⟩ rfl ?_
  refine qa_iload_n (pc' := 5) ⟨rfl, rfl⟩ rfl ?_
  refine qa_callV rfl qf_C_transpose ql_0_31 hT hc rfl rfl rfl (qa_lt9 rfl) (qa_le9 rfl) (qa_le9 rfl) (qa_le9 rfl) (fun o9 τ9 hq9 => ?_)
  obtain ⟨k9, y9, rfl, hk9, hs9, hf9, hm9⟩ := hq9
  have ho9 := (hf9 (c + 288) (by omega)).trans ho
  have e0 : τ9.2 = τ9.2 := rfl
  rcases jk3 hk9 with rfl | rfl | rfl | rfl
  · rw [jo0]
    refine qa_nx (pc' := 8) (kc' := 63) (ks' := 7994) (st' := [_, _, _]) rfl rfl rfl rfl ?_
    obtain ⟨v9, hv9, rfl⟩ : ∃ v9 : Int, qa_in v9 ∧ y9 = qa_i v9 := ⟨y9.toInt, qa_i_in y9, (qa_i_of y9).symm⟩
    refine qa_i2l (pc' := 9) ⟨rfl, rfl⟩ hv9 ?_
    refine qa_lastore (pc' := 10) ⟨rfl, rfl⟩ ho9 (by omega) (by omega) ?_
    refine qa_gz (fun τ1 e1 w1 f1 => ?_)
    replace e0 := e1.trans e0
    refine qa_goto (pc' := 13) (tgt := 25) ⟨rfl, rfl⟩ rfl ?_
    refine qa_iconst (pc' := 26) ⟨rfl, rfl⟩ ?_
    refine qa_ireturn rfl rfl rfl (hQ _ _ ⟨0, qa_i v9, rfl, ⟨by decide, by decide⟩, by omega, fun q hq => (f1 q (by omega)).trans (hf9 q (by omega)), ⟨_, w1, fun _ => by rw [qa_up_eq]; exact (qa_i_toInt hv9).symm⟩, fun τ2 e2 f2 => hm9 τ2 (e2.trans e1) (fun q q0 q1 => (f2 q q0 q1).trans (f1 q q0))⟩)
  · rw [jo1]
    refine qa_nz ?_
    refine qa_Zh 0 rfl rfl rfl rfl rfl (fun q9 => ?_)
    show qa_W _ _ _ _ _ 13 _ _ _
    refine qa_astore (L' := [(0, _), (1, _), (2, _), (3, _), (4, _)]) (pc' := 15) ⟨rfl, rfl⟩ rfl rfl ?_
    refine qa_iconst (pc' := 16) ⟨rfl, rfl⟩ ?_
    refine qa_ireturn rfl rfl rfl (hQ _ _ ⟨1, y9, rfl, ⟨by decide, by decide⟩, hs9, fun q hq => hf9 q (by omega), ⟨_, ho9, fun h => absurd h (by decide)⟩, hm9⟩)
  · rw [jo2]
    refine qa_nz ?_
    refine qa_Zh 1 rfl rfl rfl rfl rfl (fun q9 => ?_)
    show qa_W _ _ _ _ _ 17 _ _ _
    refine qa_astore (L' := [(0, _), (1, _), (2, _), (3, _), (4, _)]) (pc' := 19) ⟨rfl, rfl⟩ rfl rfl ?_
    refine qa_iconst (pc' := 20) ⟨rfl, rfl⟩ ?_
    refine qa_ireturn rfl rfl rfl (hQ _ _ ⟨2, y9, rfl, ⟨by decide, by decide⟩, hs9, fun q hq => hf9 q (by omega), ⟨_, ho9, fun h => absurd h (by decide)⟩, hm9⟩)
  · rw [jo3]
    refine qa_nz ?_
    refine qa_Zh 2 rfl rfl rfl rfl rfl (fun q9 => ?_)
    show qa_W _ _ _ _ _ 21 _ _ _
    refine qa_astore (L' := [(0, _), (1, _), (2, _), (3, _), (4, _)]) (pc' := 23) ⟨rfl, rfl⟩ rfl rfl ?_
    refine qa_iconst (pc' := 24) ⟨rfl, rfl⟩ ?_
    refine qa_ireturn rfl rfl rfl (hQ _ _ ⟨3, y9, rfl, ⟨by decide, by decide⟩, hs9, fun q hq => hf9 q (by omega), ⟨_, ho9, fun h => absurd h (by decide)⟩, hm9⟩)
theorem l_noteCount {E : qa_V} {σ : qa_S} {c : Nat} {Z : Nat → Nat} {B : Int} {N : qa_M} {as : List Value} {n : Nat → Int} {p : Int}  (hlo : E.1 ≤ c) (hsz : c + 290 ≤ σ.2) (hc : σ.1 c = some (qa_CoF c n)) {a0 : Int → Int} (ho : σ.1 (c + 288) = some (qa_la 1 a0)) (hT : qa_T E qm_C_noteCount 4 24 [.ref c, .int (qa_i p)] σ (jC E c Z B N as [0] Value.int σ)) : qa_T E qm_L_noteCount 64 8000 [.ref c, .int (qa_i p), .ref (c + 288)] σ (jL E c Z B N as Value.int Int32.toInt σ) := by
  refine qa_enterHQ (by decide) rfl qm_L_noteCount_ok rfl rfl (fun Q9 hQ => ?_)
  refine qa_aload_n (pc' := 1) ⟨rfl, rfl⟩ rfl ?_
  refine qa_iconst (pc' := 2) ⟨rfl, rfl⟩ ?_
  refine qa_aload_n (pc' := 3) ⟨rfl, rfl⟩ rfl ?_
  refine qa_iload_n (pc' := 4) ⟨rfl, rfl⟩ rfl ?_
  refine qa_callV rfl qf_C_noteCount ql_0_34 hT hc rfl rfl rfl (qa_lt9 rfl) (qa_le9 rfl) (qa_le9 rfl) (qa_le9 rfl) (fun o9 τ9 hq9 => ?_)
  obtain ⟨k9, y9, rfl, hk9, hs9, hf9, hm9⟩ := hq9
  have ho9 := (hf9 (c + 288) (by omega)).trans ho
  have e0 : τ9.2 = τ9.2 := rfl
  rcases jk1 hk9 with rfl | rfl
  · rw [jo0]
    refine qa_nx (pc' := 7) (kc' := 60) (ks' := 7976) (st' := [_, _, _]) rfl rfl rfl rfl ?_
    obtain ⟨v9, hv9, rfl⟩ : ∃ v9 : Int, qa_in v9 ∧ y9 = qa_i v9 := ⟨y9.toInt, qa_i_in y9, (qa_i_of y9).symm⟩
    refine qa_i2l (pc' := 8) ⟨rfl, rfl⟩ hv9 ?_
    refine qa_lastore (pc' := 9) ⟨rfl, rfl⟩ ho9 (by omega) (by omega) ?_
    refine qa_gz (fun τ1 e1 w1 f1 => ?_)
    replace e0 := e1.trans e0
    refine qa_goto (pc' := 12) (tgt := 15) ⟨rfl, rfl⟩ rfl ?_
    refine qa_iconst (pc' := 16) ⟨rfl, rfl⟩ ?_
    refine qa_ireturn rfl rfl rfl (hQ _ _ ⟨0, qa_i v9, rfl, ⟨by decide, by decide⟩, by omega, fun q hq => (f1 q (by omega)).trans (hf9 q (by omega)), ⟨_, w1, fun _ => by rw [qa_up_eq]; exact (qa_i_toInt hv9).symm⟩, fun τ2 e2 f2 => hm9 τ2 (e2.trans e1) (fun q q0 q1 => (f2 q q0 q1).trans (f1 q q0))⟩)
  · rw [jo1]
    refine qa_nz ?_
    refine qa_Zh 0 rfl rfl rfl rfl rfl (fun q9 => ?_)
    show qa_W _ _ _ _ _ 12 _ _ _
    refine qa_astore_n (L' := [(0, _), (1, _), (2, _), (3, _)]) (pc' := 13) ⟨rfl, rfl⟩ rfl rfl ?_
    refine qa_iconst (pc' := 14) ⟨rfl, rfl⟩ ?_
    refine qa_ireturn rfl rfl rfl (hQ _ _ ⟨1, y9, rfl, ⟨by decide, by decide⟩, hs9, fun q hq => hf9 q (by omega), ⟨_, ho9, fun h => absurd h (by decide)⟩, hm9⟩)
theorem l_isRest {E : qa_V} {σ : qa_S} {c : Nat} {Z : Nat → Nat} {B : Int} {N : qa_M} {as : List Value} {n : Nat → Int} {p : Int} {q : Int}  (hlo : E.1 ≤ c) (hsz : c + 290 ≤ σ.2) (hc : σ.1 c = some (qa_CoF c n)) {a0 : Int → Int} (ho : σ.1 (c + 288) = some (qa_la 1 a0)) (hT : qa_T E qm_C_isRest 4 24 [.ref c, .int (qa_i p), .int (qa_i q)] σ (jC E c Z B N as [0] Value.int σ)) : qa_T E qm_L_isRest 64 8000 [.ref c, .int (qa_i p), .int (qa_i q), .ref (c + 288)] σ (jL E c Z B N as Value.int jb σ) := by
  refine qa_enterHQ (by decide) rfl qm_L_isRest_ok rfl rfl (fun Q9 hQ => ?_)
  refine qa_aload_n (pc' := 1) ⟨rfl, rfl⟩ rfl ?_
  refine qa_iconst (pc' := 2) ⟨rfl, rfl⟩ ?_
  refine qa_aload_n (pc' := 3) ⟨rfl, rfl⟩ rfl ?_
  refine qa_iload_n (pc' := 4) ⟨rfl, rfl⟩ rfl ?_
  refine qa_iload_n (pc' := 5) ⟨rfl, rfl⟩ rfl ?_
  refine qa_callV rfl qf_C_isRest ql_0_37 hT hc rfl rfl rfl (qa_lt9 rfl) (qa_le9 rfl) (qa_le9 rfl) (qa_le9 rfl) (fun o9 τ9 hq9 => ?_)
  obtain ⟨k9, y9, rfl, hk9, hs9, hf9, hm9⟩ := hq9
  have ho9 := (hf9 (c + 288) (by omega)).trans ho
  have e0 : τ9.2 = τ9.2 := rfl
  rcases jk1 hk9 with rfl | rfl
  · rw [jo0]
    refine qa_nx (pc' := 8) (kc' := 60) (ks' := 7976) (st' := [_, _, _]) rfl rfl rfl rfl ?_
    obtain ⟨v9, hv9, rfl⟩ : ∃ v9 : Int, qa_in v9 ∧ y9 = qa_i v9 := ⟨y9.toInt, qa_i_in y9, (qa_i_of y9).symm⟩
    refine qa_if_eq (pc' := 11) (tgt := 15) ⟨rfl, rfl⟩ rfl hv9 (fun hc1 => ?_) (fun hc1 => ?_)
    · refine qa_lconst (z := 0) (pc' := 16) ⟨rfl, rfl⟩ rfl ?_
      refine qa_lastore (pc' := 17) ⟨rfl, rfl⟩ ho9 (by omega) (by omega) ?_
      refine qa_gz (fun τ1 e1 w1 f1 => ?_)
      replace e0 := e1.trans e0
      refine qa_goto (pc' := 20) (tgt := 24) ⟨rfl, rfl⟩ rfl ?_
      refine qa_iconst (pc' := 25) ⟨rfl, rfl⟩ ?_
      refine qa_ireturn rfl rfl rfl (hQ _ _ ⟨0, qa_i v9, rfl, ⟨by decide, by decide⟩, by omega, fun q hq => (f1 q (by omega)).trans (hf9 q (by omega)), ⟨_, w1, fun _ => by rw [qa_up_eq]; unfold jb; rw [qa_i_toInt hv9, if_pos hc1]⟩, fun τ2 e2 f2 => hm9 τ2 (e2.trans e1) (fun q q0 q1 => (f2 q q0 q1).trans (f1 q q0))⟩)
    · refine qa_lconst (z := 1) (pc' := 12) ⟨rfl, rfl⟩ rfl ?_
      refine qa_goto (pc' := 15) (tgt := 16) ⟨rfl, rfl⟩ rfl ?_
      refine qa_lastore (pc' := 17) ⟨rfl, rfl⟩ ho9 (by omega) (by omega) ?_
      refine qa_gz (fun τ1 e1 w1 f1 => ?_)
      replace e0 := e1.trans e0
      refine qa_goto (pc' := 20) (tgt := 24) ⟨rfl, rfl⟩ rfl ?_
      refine qa_iconst (pc' := 25) ⟨rfl, rfl⟩ ?_
      refine qa_ireturn rfl rfl rfl (hQ _ _ ⟨0, qa_i v9, rfl, ⟨by decide, by decide⟩, by omega, fun q hq => (f1 q (by omega)).trans (hf9 q (by omega)), ⟨_, w1, fun _ => by rw [qa_up_eq]; unfold jb; rw [qa_i_toInt hv9, if_neg hc1]⟩, fun τ2 e2 f2 => hm9 τ2 (e2.trans e1) (fun q q0 q1 => (f2 q q0 q1).trans (f1 q q0))⟩)
  · rw [jo1]
    refine qa_nz ?_
    refine qa_Zh 0 rfl rfl rfl rfl rfl (fun q9 => ?_)
    show qa_W _ _ _ _ _ 20 _ _ _
    refine qa_astore (L' := [(0, _), (1, _), (2, _), (3, _), (4, _)]) (pc' := 22) ⟨rfl, rfl⟩ rfl rfl ?_
    refine qa_iconst (pc' := 23) ⟨rfl, rfl⟩ ?_
    refine qa_ireturn rfl rfl rfl (hQ _ _ ⟨1, y9, rfl, ⟨by decide, by decide⟩, hs9, fun q hq => hf9 q (by omega), ⟨_, ho9, fun h => absurd h (by decide)⟩, hm9⟩)
theorem l_pitchOf {E : qa_V} {σ : qa_S} {c : Nat} {Z : Nat → Nat} {B : Int} {N : qa_M} {as : List Value} {n : Nat → Int} {p : Int} {q : Int}  (hlo : E.1 ≤ c) (hsz : c + 290 ≤ σ.2) (hc : σ.1 c = some (qa_CoF c n)) {a0 : Int → Int} (ho : σ.1 (c + 288) = some (qa_la 1 a0)) (hT : qa_T E qm_C_pitchOf 4 24 [.ref c, .int (qa_i p), .int (qa_i q)] σ (jC E c Z B N as [0, 3] Value.int σ)) : qa_T E qm_L_pitchOf 64 8000 [.ref c, .int (qa_i p), .int (qa_i q), .ref (c + 288)] σ (jL E c Z B N as Value.int Int32.toInt σ) := by
  refine qa_enterHQ (by decide) rfl qm_L_pitchOf_ok rfl rfl (fun Q9 hQ => ?_)
  refine qa_aload_n (pc' := 1) ⟨rfl, rfl⟩ rfl ?_
  refine qa_iconst (pc' := 2) ⟨rfl, rfl⟩ ?_
  refine qa_aload_n (pc' := 3) ⟨rfl, rfl⟩ rfl ?_
  refine qa_iload_n (pc' := 4) ⟨rfl, rfl⟩ rfl ?_
  refine qa_iload_n (pc' := 5) ⟨rfl, rfl⟩ rfl ?_
  refine qa_callV rfl qf_C_pitchOf ql_0_41 hT hc rfl rfl rfl (qa_lt9 rfl) (qa_le9 rfl) (qa_le9 rfl) (qa_le9 rfl) (fun o9 τ9 hq9 => ?_)
  obtain ⟨k9, y9, rfl, hk9, hs9, hf9, hm9⟩ := hq9
  have ho9 := (hf9 (c + 288) (by omega)).trans ho
  have e0 : τ9.2 = τ9.2 := rfl
  rcases jk2 hk9 with rfl | rfl | rfl
  · rw [jo0]
    refine qa_nx (pc' := 8) (kc' := 60) (ks' := 7976) (st' := [_, _, _]) rfl rfl rfl rfl ?_
    obtain ⟨v9, hv9, rfl⟩ : ∃ v9 : Int, qa_in v9 ∧ y9 = qa_i v9 := ⟨y9.toInt, qa_i_in y9, (qa_i_of y9).symm⟩
    refine qa_i2l (pc' := 9) ⟨rfl, rfl⟩ hv9 ?_
    refine qa_lastore (pc' := 10) ⟨rfl, rfl⟩ ho9 (by omega) (by omega) ?_
    refine qa_gz (fun τ1 e1 w1 f1 => ?_)
    replace e0 := e1.trans e0
    refine qa_goto (pc' := 13) (tgt := 21) ⟨rfl, rfl⟩ rfl ?_
    refine qa_iconst (pc' := 22) ⟨rfl, rfl⟩ ?_
    refine qa_ireturn rfl rfl rfl (hQ _ _ ⟨0, qa_i v9, rfl, ⟨by decide, by decide⟩, by omega, fun q hq => (f1 q (by omega)).trans (hf9 q (by omega)), ⟨_, w1, fun _ => by rw [qa_up_eq]; exact (qa_i_toInt hv9).symm⟩, fun τ2 e2 f2 => hm9 τ2 (e2.trans e1) (fun q q0 q1 => (f2 q q0 q1).trans (f1 q q0))⟩)
  · rw [jo1]
    refine qa_nz ?_
    refine qa_Zh 0 rfl rfl rfl rfl rfl (fun q9 => ?_)
    show qa_W _ _ _ _ _ 13 _ _ _
    refine qa_astore (L' := [(0, _), (1, _), (2, _), (3, _), (4, _)]) (pc' := 15) ⟨rfl, rfl⟩ rfl rfl ?_
    refine qa_iconst (pc' := 16) ⟨rfl, rfl⟩ ?_
    refine qa_ireturn rfl rfl rfl (hQ _ _ ⟨1, y9, rfl, ⟨by decide, by decide⟩, hs9, fun q hq => hf9 q (by omega), ⟨_, ho9, fun h => absurd h (by decide)⟩, hm9⟩)
  · rw [jo2]
    refine qa_nz ?_
    refine qa_Zh 1 rfl rfl rfl rfl rfl (fun q9 => ?_)
    show qa_W _ _ _ _ _ 17 _ _ _
    refine qa_astore (L' := [(0, _), (1, _), (2, _), (3, _), (4, _)]) (pc' := 19) ⟨rfl, rfl⟩ rfl rfl ?_
    refine qa_iconst (pc' := 20) ⟨rfl, rfl⟩ ?_
    refine qa_ireturn rfl rfl rfl (hQ _ _ ⟨2, y9, rfl, ⟨by decide, by decide⟩, hs9, fun q hq => hf9 q (by omega), ⟨_, ho9, fun h => absurd h (by decide)⟩, hm9⟩)
theorem l_lengthOf {E : qa_V} {σ : qa_S} {c : Nat} {Z : Nat → Nat} {B : Int} {N : qa_M} {as : List Value} {n : Nat → Int} {p : Int} {q : Int}  (hlo : E.1 ≤ c) (hsz : c + 290 ≤ σ.2) (hc : σ.1 c = some (qa_CoF c n)) {a0 : Int → Int} (ho : σ.1 (c + 288) = some (qa_la 1 a0)) (hT : qa_T E qm_C_lengthOf 4 24 [.ref c, .int (qa_i p), .int (qa_i q)] σ (jC E c Z B N as [0] Value.int σ)) : qa_T E qm_L_lengthOf 64 8000 [.ref c, .int (qa_i p), .int (qa_i q), .ref (c + 288)] σ (jL E c Z B N as Value.int Int32.toInt σ) := by
  refine qa_enterHQ (by decide) rfl qm_L_lengthOf_ok rfl rfl (fun Q9 hQ => ?_)
  refine qa_aload_n (pc' := 1) ⟨rfl, rfl⟩ rfl ?_
  refine qa_iconst (pc' := 2) ⟨rfl, rfl⟩ ?_
  refine qa_aload_n (pc' := 3) ⟨rfl, rfl⟩ rfl ?_
  refine qa_iload_n (pc' := 4) ⟨rfl, rfl⟩ rfl ?_
  refine qa_iload_n (pc' := 5) ⟨rfl, rfl⟩ rfl ?_
  refine qa_callV rfl qf_C_lengthOf ql_0_46 hT hc rfl rfl rfl (qa_lt9 rfl) (qa_le9 rfl) (qa_le9 rfl) (qa_le9 rfl) (fun o9 τ9 hq9 => ?_)
  obtain ⟨k9, y9, rfl, hk9, hs9, hf9, hm9⟩ := hq9
  have ho9 := (hf9 (c + 288) (by omega)).trans ho
  have e0 : τ9.2 = τ9.2 := rfl
  rcases jk1 hk9 with rfl | rfl
  · rw [jo0]
    refine qa_nx (pc' := 8) (kc' := 60) (ks' := 7976) (st' := [_, _, _]) rfl rfl rfl rfl ?_
    obtain ⟨v9, hv9, rfl⟩ : ∃ v9 : Int, qa_in v9 ∧ y9 = qa_i v9 := ⟨y9.toInt, qa_i_in y9, (qa_i_of y9).symm⟩
    refine qa_i2l (pc' := 9) ⟨rfl, rfl⟩ hv9 ?_
    refine qa_lastore (pc' := 10) ⟨rfl, rfl⟩ ho9 (by omega) (by omega) ?_
    refine qa_gz (fun τ1 e1 w1 f1 => ?_)
    replace e0 := e1.trans e0
    refine qa_goto (pc' := 13) (tgt := 17) ⟨rfl, rfl⟩ rfl ?_
    refine qa_iconst (pc' := 18) ⟨rfl, rfl⟩ ?_
    refine qa_ireturn rfl rfl rfl (hQ _ _ ⟨0, qa_i v9, rfl, ⟨by decide, by decide⟩, by omega, fun q hq => (f1 q (by omega)).trans (hf9 q (by omega)), ⟨_, w1, fun _ => by rw [qa_up_eq]; exact (qa_i_toInt hv9).symm⟩, fun τ2 e2 f2 => hm9 τ2 (e2.trans e1) (fun q q0 q1 => (f2 q q0 q1).trans (f1 q q0))⟩)
  · rw [jo1]
    refine qa_nz ?_
    refine qa_Zh 0 rfl rfl rfl rfl rfl (fun q9 => ?_)
    show qa_W _ _ _ _ _ 13 _ _ _
    refine qa_astore (L' := [(0, _), (1, _), (2, _), (3, _), (4, _)]) (pc' := 15) ⟨rfl, rfl⟩ rfl rfl ?_
    refine qa_iconst (pc' := 16) ⟨rfl, rfl⟩ ?_
    refine qa_ireturn rfl rfl rfl (hQ _ _ ⟨1, y9, rfl, ⟨by decide, by decide⟩, hs9, fun q hq => hf9 q (by omega), ⟨_, ho9, fun h => absurd h (by decide)⟩, hm9⟩)
theorem l_partLength {E : qa_V} {σ : qa_S} {c : Nat} {Z : Nat → Nat} {B : Int} {N : qa_M} {as : List Value} {n : Nat → Int} {p : Int}  (hlo : E.1 ≤ c) (hsz : c + 290 ≤ σ.2) (hc : σ.1 c = some (qa_CoF c n)) {a0 : Int → Int} (ho : σ.1 (c + 288) = some (qa_la 1 a0)) (hT : qa_T E qm_C_partLength 4 24 [.ref c, .int (qa_i p)] σ (jC E c Z B N as [0] Value.int σ)) : qa_T E qm_L_partLength 64 8000 [.ref c, .int (qa_i p), .ref (c + 288)] σ (jL E c Z B N as Value.int Int32.toInt σ) := by
  refine qa_enterHQ (by decide) rfl qm_L_partLength_ok rfl rfl (fun Q9 hQ => ?_)
  refine qa_aload_n (pc' := 1) ⟨rfl, rfl⟩ rfl ?_
  refine qa_iconst (pc' := 2) ⟨rfl, rfl⟩ ?_
  refine qa_aload_n (pc' := 3) ⟨rfl, rfl⟩ rfl ?_
  refine qa_iload_n (pc' := 4) ⟨rfl, rfl⟩ rfl ?_
  refine qa_callV rfl qf_C_partLength ql_0_49 hT hc rfl rfl rfl (qa_lt9 rfl) (qa_le9 rfl) (qa_le9 rfl) (qa_le9 rfl) (fun o9 τ9 hq9 => ?_)
  obtain ⟨k9, y9, rfl, hk9, hs9, hf9, hm9⟩ := hq9
  have ho9 := (hf9 (c + 288) (by omega)).trans ho
  have e0 : τ9.2 = τ9.2 := rfl
  rcases jk1 hk9 with rfl | rfl
  · rw [jo0]
    refine qa_nx (pc' := 7) (kc' := 60) (ks' := 7976) (st' := [_, _, _]) rfl rfl rfl rfl ?_
    obtain ⟨v9, hv9, rfl⟩ : ∃ v9 : Int, qa_in v9 ∧ y9 = qa_i v9 := ⟨y9.toInt, qa_i_in y9, (qa_i_of y9).symm⟩
    refine qa_i2l (pc' := 8) ⟨rfl, rfl⟩ hv9 ?_
    refine qa_lastore (pc' := 9) ⟨rfl, rfl⟩ ho9 (by omega) (by omega) ?_
    refine qa_gz (fun τ1 e1 w1 f1 => ?_)
    replace e0 := e1.trans e0
    refine qa_goto (pc' := 12) (tgt := 15) ⟨rfl, rfl⟩ rfl ?_
    refine qa_iconst (pc' := 16) ⟨rfl, rfl⟩ ?_
    refine qa_ireturn rfl rfl rfl (hQ _ _ ⟨0, qa_i v9, rfl, ⟨by decide, by decide⟩, by omega, fun q hq => (f1 q (by omega)).trans (hf9 q (by omega)), ⟨_, w1, fun _ => by rw [qa_up_eq]; exact (qa_i_toInt hv9).symm⟩, fun τ2 e2 f2 => hm9 τ2 (e2.trans e1) (fun q q0 q1 => (f2 q q0 q1).trans (f1 q q0))⟩)
  · rw [jo1]
    refine qa_nz ?_
    refine qa_Zh 0 rfl rfl rfl rfl rfl (fun q9 => ?_)
    show qa_W _ _ _ _ _ 12 _ _ _
    refine qa_astore_n (L' := [(0, _), (1, _), (2, _), (3, _)]) (pc' := 13) ⟨rfl, rfl⟩ rfl rfl ?_
    refine qa_iconst (pc' := 14) ⟨rfl, rfl⟩ ?_
    refine qa_ireturn rfl rfl rfl (hQ _ _ ⟨1, y9, rfl, ⟨by decide, by decide⟩, hs9, fun q hq => hf9 q (by omega), ⟨_, ho9, fun h => absurd h (by decide)⟩, hm9⟩)
theorem l_noteAt {E : qa_V} {σ : qa_S} {c : Nat} {Z : Nat → Nat} {B : Int} {N : qa_M} {as : List Value} {n : Nat → Int} {p : Int} {q : Int}  (hlo : E.1 ≤ c) (hsz : c + 290 ≤ σ.2) (hc : σ.1 c = some (qa_CoF c n)) {a0 : Int → Int} (ho : σ.1 (c + 288) = some (qa_la 1 a0)) (hT : qa_T E qm_C_noteAt 4 24 [.ref c, .int (qa_i p), .int (qa_i q)] σ (jC E c Z B N as [0, 1, 3] Value.int σ)) : qa_T E qm_L_noteAt 64 8000 [.ref c, .int (qa_i p), .int (qa_i q), .ref (c + 288)] σ (jL E c Z B N as Value.int Int32.toInt σ) := by
  refine qa_enterHQ (by decide) rfl qm_L_noteAt_ok rfl rfl (fun Q9 hQ => ?_)
  refine qa_aload_n (pc' := 1) ⟨rfl, rfl⟩ rfl ?_
  refine qa_iconst (pc' := 2) ⟨rfl, rfl⟩ ?_
  refine qa_aload_n (pc' := 3) ⟨rfl, rfl⟩ rfl ?_
  refine qa_iload_n (pc' := 4) ⟨rfl, rfl⟩ rfl ?_
  refine qa_iload_n (pc' := 5) ⟨rfl, rfl⟩ rfl ?_
  refine qa_callV rfl qf_C_noteAt ql_0_52 hT hc rfl rfl rfl (qa_lt9 rfl) (qa_le9 rfl) (qa_le9 rfl) (qa_le9 rfl) (fun o9 τ9 hq9 => ?_)
  obtain ⟨k9, y9, rfl, hk9, hs9, hf9, hm9⟩ := hq9
  have ho9 := (hf9 (c + 288) (by omega)).trans ho
  have e0 : τ9.2 = τ9.2 := rfl
  rcases jk3 hk9 with rfl | rfl | rfl | rfl
  · rw [jo0]
    refine qa_nx (pc' := 8) (kc' := 60) (ks' := 7976) (st' := [_, _, _]) rfl rfl rfl rfl ?_
    obtain ⟨v9, hv9, rfl⟩ : ∃ v9 : Int, qa_in v9 ∧ y9 = qa_i v9 := ⟨y9.toInt, qa_i_in y9, (qa_i_of y9).symm⟩
    refine qa_i2l (pc' := 9) ⟨rfl, rfl⟩ hv9 ?_
    refine qa_lastore (pc' := 10) ⟨rfl, rfl⟩ ho9 (by omega) (by omega) ?_
    refine qa_gz (fun τ1 e1 w1 f1 => ?_)
    replace e0 := e1.trans e0
    refine qa_goto (pc' := 13) (tgt := 25) ⟨rfl, rfl⟩ rfl ?_
    refine qa_iconst (pc' := 26) ⟨rfl, rfl⟩ ?_
    refine qa_ireturn rfl rfl rfl (hQ _ _ ⟨0, qa_i v9, rfl, ⟨by decide, by decide⟩, by omega, fun q hq => (f1 q (by omega)).trans (hf9 q (by omega)), ⟨_, w1, fun _ => by rw [qa_up_eq]; exact (qa_i_toInt hv9).symm⟩, fun τ2 e2 f2 => hm9 τ2 (e2.trans e1) (fun q q0 q1 => (f2 q q0 q1).trans (f1 q q0))⟩)
  · rw [jo1]
    refine qa_nz ?_
    refine qa_Zh 0 rfl rfl rfl rfl rfl (fun q9 => ?_)
    show qa_W _ _ _ _ _ 13 _ _ _
    refine qa_astore (L' := [(0, _), (1, _), (2, _), (3, _), (4, _)]) (pc' := 15) ⟨rfl, rfl⟩ rfl rfl ?_
    refine qa_iconst (pc' := 16) ⟨rfl, rfl⟩ ?_
    refine qa_ireturn rfl rfl rfl (hQ _ _ ⟨1, y9, rfl, ⟨by decide, by decide⟩, hs9, fun q hq => hf9 q (by omega), ⟨_, ho9, fun h => absurd h (by decide)⟩, hm9⟩)
  · rw [jo2]
    refine qa_nz ?_
    refine qa_Zh 1 rfl rfl rfl rfl rfl (fun q9 => ?_)
    show qa_W _ _ _ _ _ 17 _ _ _
    refine qa_astore (L' := [(0, _), (1, _), (2, _), (3, _), (4, _)]) (pc' := 19) ⟨rfl, rfl⟩ rfl rfl ?_
    refine qa_iconst (pc' := 20) ⟨rfl, rfl⟩ ?_
    refine qa_ireturn rfl rfl rfl (hQ _ _ ⟨2, y9, rfl, ⟨by decide, by decide⟩, hs9, fun q hq => hf9 q (by omega), ⟨_, ho9, fun h => absurd h (by decide)⟩, hm9⟩)
  · rw [jo3]
    refine qa_nz ?_
    refine qa_Zh 2 rfl rfl rfl rfl rfl (fun q9 => ?_)
    show qa_W _ _ _ _ _ 21 _ _ _
    refine qa_astore (L' := [(0, _), (1, _), (2, _), (3, _), (4, _)]) (pc' := 23) ⟨rfl, rfl⟩ rfl rfl ?_
    refine qa_iconst (pc' := 24) ⟨rfl, rfl⟩ ?_
    refine qa_ireturn rfl rfl rfl (hQ _ _ ⟨3, y9, rfl, ⟨by decide, by decide⟩, hs9, fun q hq => hf9 q (by omega), ⟨_, ho9, fun h => absurd h (by decide)⟩, hm9⟩)
theorem l_soundingAt {E : qa_V} {σ : qa_S} {c : Nat} {Z : Nat → Nat} {B : Int} {N : qa_M} {as : List Value} {n : Nat → Int} {p : Int}  (hlo : E.1 ≤ c) (hsz : c + 290 ≤ σ.2) (hc : σ.1 c = some (qa_CoF c n)) {a0 : Int → Int} (ho : σ.1 (c + 288) = some (qa_la 1 a0)) (hT : qa_T E qm_C_soundingAt 4 24 [.ref c, .int (qa_i p)] σ (jC E c Z B N as [1] Value.int σ)) : qa_T E qm_L_soundingAt 64 8000 [.ref c, .int (qa_i p), .ref (c + 288)] σ (jL E c Z B N as Value.int Int32.toInt σ) := by
  refine qa_enterHQ (by decide) rfl qm_L_soundingAt_ok rfl rfl (fun Q9 hQ => ?_)
  refine qa_aload_n (pc' := 1) ⟨rfl, rfl⟩ rfl ?_
  refine qa_iconst (pc' := 2) ⟨rfl, rfl⟩ ?_
  refine qa_aload_n (pc' := 3) ⟨rfl, rfl⟩ rfl ?_
  refine qa_iload_n (pc' := 4) ⟨rfl, rfl⟩ rfl ?_
  refine qa_callV rfl qf_C_soundingAt ql_0_55 hT hc rfl rfl rfl (qa_lt9 rfl) (qa_le9 rfl) (qa_le9 rfl) (qa_le9 rfl) (fun o9 τ9 hq9 => ?_)
  obtain ⟨k9, y9, rfl, hk9, hs9, hf9, hm9⟩ := hq9
  have ho9 := (hf9 (c + 288) (by omega)).trans ho
  have e0 : τ9.2 = τ9.2 := rfl
  rcases jk1 hk9 with rfl | rfl
  · rw [jo0]
    refine qa_nx (pc' := 7) (kc' := 60) (ks' := 7976) (st' := [_, _, _]) rfl rfl rfl rfl ?_
    obtain ⟨v9, hv9, rfl⟩ : ∃ v9 : Int, qa_in v9 ∧ y9 = qa_i v9 := ⟨y9.toInt, qa_i_in y9, (qa_i_of y9).symm⟩
    refine qa_i2l (pc' := 8) ⟨rfl, rfl⟩ hv9 ?_
    refine qa_lastore (pc' := 9) ⟨rfl, rfl⟩ ho9 (by omega) (by omega) ?_
    refine qa_gz (fun τ1 e1 w1 f1 => ?_)
    replace e0 := e1.trans e0
    refine qa_goto (pc' := 12) (tgt := 15) ⟨rfl, rfl⟩ rfl ?_
    refine qa_iconst (pc' := 16) ⟨rfl, rfl⟩ ?_
    refine qa_ireturn rfl rfl rfl (hQ _ _ ⟨0, qa_i v9, rfl, ⟨by decide, by decide⟩, by omega, fun q hq => (f1 q (by omega)).trans (hf9 q (by omega)), ⟨_, w1, fun _ => by rw [qa_up_eq]; exact (qa_i_toInt hv9).symm⟩, fun τ2 e2 f2 => hm9 τ2 (e2.trans e1) (fun q q0 q1 => (f2 q q0 q1).trans (f1 q q0))⟩)
  · rw [jo1]
    refine qa_nz ?_
    refine qa_Zh 0 rfl rfl rfl rfl rfl (fun q9 => ?_)
    show qa_W _ _ _ _ _ 12 _ _ _
    refine qa_astore_n (L' := [(0, _), (1, _), (2, _), (3, _)]) (pc' := 13) ⟨rfl, rfl⟩ rfl rfl ?_
    refine qa_iconst (pc' := 14) ⟨rfl, rfl⟩ ?_
    refine qa_ireturn rfl rfl rfl (hQ _ _ ⟨1, y9, rfl, ⟨by decide, by decide⟩, hs9, fun q hq => hf9 q (by omega), ⟨_, ho9, fun h => absurd h (by decide)⟩, hm9⟩)
theorem l_chordAt {E : qa_V} {σ : qa_S} {c : Nat} {Z : Nat → Nat} {B : Int} {N : qa_M} {as : List Value} {n : Nat → Int} {p : Int}  (hlo : E.1 ≤ c) (hsz : c + 290 ≤ σ.2) (hc : σ.1 c = some (qa_CoF c n)) {a0 : Int → Int} (ho : σ.1 (c + 288) = some (qa_la 1 a0)) (hT : qa_T E qm_C_chordAt 4 24 [.ref c, .int (qa_i p)] σ (jC E c Z B N as [1] Value.long σ)) : qa_T E qm_L_chordAt 64 8000 [.ref c, .int (qa_i p), .ref (c + 288)] σ (jL E c Z B N as Value.long Int64.toInt σ) := by
  refine qa_enterHQ (by decide) rfl qm_L_chordAt_ok rfl rfl (fun Q9 hQ => ?_)
  refine qa_aload_n (pc' := 1) ⟨rfl, rfl⟩ rfl ?_
  refine qa_iconst (pc' := 2) ⟨rfl, rfl⟩ ?_
  refine qa_aload_n (pc' := 3) ⟨rfl, rfl⟩ rfl ?_
  refine qa_iload_n (pc' := 4) ⟨rfl, rfl⟩ rfl ?_
  refine qa_callV rfl qf_C_chordAt ql_0_58 hT hc rfl rfl rfl (qa_lt9 rfl) (qa_le9 rfl) (qa_le9 rfl) (qa_le9 rfl) (fun o9 τ9 hq9 => ?_)
  obtain ⟨k9, y9, rfl, hk9, hs9, hf9, hm9⟩ := hq9
  have ho9 := (hf9 (c + 288) (by omega)).trans ho
  have e0 : τ9.2 = τ9.2 := rfl
  rcases jk1 hk9 with rfl | rfl
  · rw [jo0]
    refine qa_nx (pc' := 7) (kc' := 60) (ks' := 7976) (st' := [_, _, _]) rfl rfl rfl rfl ?_
    obtain ⟨v9, hv9, rfl⟩ : ∃ v9 : Int, qa_ln v9 ∧ y9 = qa_l v9 := ⟨y9.toInt, qa_l_in y9, (qa_l_of y9).symm⟩
    refine qa_lastore (pc' := 8) ⟨rfl, rfl⟩ ho9 (by omega) (by omega) ?_
    refine qa_gz (fun τ1 e1 w1 f1 => ?_)
    replace e0 := e1.trans e0
    refine qa_goto (pc' := 11) (tgt := 14) ⟨rfl, rfl⟩ rfl ?_
    refine qa_iconst (pc' := 15) ⟨rfl, rfl⟩ ?_
    refine qa_ireturn rfl rfl rfl (hQ _ _ ⟨0, qa_l v9, rfl, ⟨by decide, by decide⟩, by omega, fun q hq => (f1 q (by omega)).trans (hf9 q (by omega)), ⟨_, w1, fun _ => by rw [qa_up_eq]; exact (qa_l_toInt hv9).symm⟩, fun τ2 e2 f2 => hm9 τ2 (e2.trans e1) (fun q q0 q1 => (f2 q q0 q1).trans (f1 q q0))⟩)
  · rw [jo1]
    refine qa_nz ?_
    refine qa_Zh 0 rfl rfl rfl rfl rfl (fun q9 => ?_)
    show qa_W _ _ _ _ _ 11 _ _ _
    refine qa_astore_n (L' := [(0, _), (1, _), (2, _), (3, _)]) (pc' := 12) ⟨rfl, rfl⟩ rfl rfl ?_
    refine qa_iconst (pc' := 13) ⟨rfl, rfl⟩ ?_
    refine qa_ireturn rfl rfl rfl (hQ _ _ ⟨1, y9, rfl, ⟨by decide, by decide⟩, hs9, fun q hq => hf9 q (by omega), ⟨_, ho9, fun h => absurd h (by decide)⟩, hm9⟩)
theorem l_togetherAfter {E : qa_V} {σ : qa_S} {c : Nat} {Z : Nat → Nat} {B : Int} {N : qa_M} {as : List Value} {n : Nat → Int}  (hlo : E.1 ≤ c) (hsz : c + 290 ≤ σ.2) (hc : σ.1 c = some (qa_CoF c n)) {a0 : Int → Int} (ho : σ.1 (c + 288) = some (qa_la 1 a0)) (hT : qa_T E qm_C_togetherAfter 4 24 [.ref c] σ (jC E c Z B N as [3] Value.int σ)) : qa_T E qm_L_togetherAfter 64 8000 [.ref c, .ref (c + 288)] σ (jL E c Z B N as Value.int Int32.toInt σ) := by
  refine qa_enterHQ (by decide) rfl qm_L_togetherAfter_ok rfl rfl (fun Q9 hQ => ?_)
  refine qa_aload_n (pc' := 1) ⟨rfl, rfl⟩ rfl ?_
  refine qa_iconst (pc' := 2) ⟨rfl, rfl⟩ ?_
  refine qa_aload_n (pc' := 3) ⟨rfl, rfl⟩ rfl ?_
  refine qa_callV rfl qf_C_togetherAfter ql_0_62 hT hc rfl rfl rfl (qa_lt9 rfl) (qa_le9 rfl) (qa_le9 rfl) (qa_le9 rfl) (fun o9 τ9 hq9 => ?_)
  obtain ⟨k9, y9, rfl, hk9, hs9, hf9, hm9⟩ := hq9
  have ho9 := (hf9 (c + 288) (by omega)).trans ho
  have e0 : τ9.2 = τ9.2 := rfl
  rcases jk1 hk9 with rfl | rfl
  · rw [jo0]
    refine qa_nx (pc' := 6) (kc' := 60) (ks' := 7976) (st' := [_, _, _]) rfl rfl rfl rfl ?_
    obtain ⟨v9, hv9, rfl⟩ : ∃ v9 : Int, qa_in v9 ∧ y9 = qa_i v9 := ⟨y9.toInt, qa_i_in y9, (qa_i_of y9).symm⟩
    refine qa_i2l (pc' := 7) ⟨rfl, rfl⟩ hv9 ?_
    refine qa_lastore (pc' := 8) ⟨rfl, rfl⟩ ho9 (by omega) (by omega) ?_
    refine qa_gz (fun τ1 e1 w1 f1 => ?_)
    replace e0 := e1.trans e0
    refine qa_goto (pc' := 11) (tgt := 14) ⟨rfl, rfl⟩ rfl ?_
    refine qa_iconst (pc' := 15) ⟨rfl, rfl⟩ ?_
    refine qa_ireturn rfl rfl rfl (hQ _ _ ⟨0, qa_i v9, rfl, ⟨by decide, by decide⟩, by omega, fun q hq => (f1 q (by omega)).trans (hf9 q (by omega)), ⟨_, w1, fun _ => by rw [qa_up_eq]; exact (qa_i_toInt hv9).symm⟩, fun τ2 e2 f2 => hm9 τ2 (e2.trans e1) (fun q q0 q1 => (f2 q q0 q1).trans (f1 q q0))⟩)
  · rw [jo1]
    refine qa_nz ?_
    refine qa_Zh 0 rfl rfl rfl rfl rfl (fun q9 => ?_)
    show qa_W _ _ _ _ _ 11 _ _ _
    refine qa_astore_n (L' := [(0, _), (1, _), (2, _)]) (pc' := 12) ⟨rfl, rfl⟩ rfl rfl ?_
    refine qa_iconst (pc' := 13) ⟨rfl, rfl⟩ ?_
    refine qa_ireturn rfl rfl rfl (hQ _ _ ⟨1, y9, rfl, ⟨by decide, by decide⟩, hs9, fun q hq => hf9 q (by omega), ⟨_, ho9, fun h => absurd h (by decide)⟩, hm9⟩)
theorem l_togetherAfterBySteps {E : qa_V} {σ : qa_S} {c : Nat} {Z : Nat → Nat} {B : Int} {N : qa_M} {as : List Value} {n : Nat → Int}  (hlo : E.1 ≤ c) (hsz : c + 290 ≤ σ.2) (hc : σ.1 c = some (qa_CoF c n)) {a0 : Int → Int} (ho : σ.1 (c + 288) = some (qa_la 1 a0)) (hT : qa_T E qm_C_togetherAfterBySteps 4 24 [.ref c] σ (jC E c Z B N as [3] Value.int σ)) : qa_T E qm_L_togetherAfterBySteps 64 8000 [.ref c, .ref (c + 288)] σ (jL E c Z B N as Value.int Int32.toInt σ) := by
  refine qa_enterHQ (by decide) rfl qm_L_togetherAfterBySteps_ok rfl rfl (fun Q9 hQ => ?_)
  refine qa_aload_n (pc' := 1) ⟨rfl, rfl⟩ rfl ?_
  refine qa_iconst (pc' := 2) ⟨rfl, rfl⟩ ?_
  refine qa_aload_n (pc' := 3) ⟨rfl, rfl⟩ rfl ?_
  refine qa_callV rfl qf_C_togetherAfterBySteps ql_0_65 hT hc rfl rfl rfl (qa_lt9 rfl) (qa_le9 rfl) (qa_le9 rfl) (qa_le9 rfl) (fun o9 τ9 hq9 => ?_)
  obtain ⟨k9, y9, rfl, hk9, hs9, hf9, hm9⟩ := hq9
  have ho9 := (hf9 (c + 288) (by omega)).trans ho
  have e0 : τ9.2 = τ9.2 := rfl
  rcases jk1 hk9 with rfl | rfl
  · rw [jo0]
    refine qa_nx (pc' := 6) (kc' := 60) (ks' := 7976) (st' := [_, _, _]) rfl rfl rfl rfl ?_
    obtain ⟨v9, hv9, rfl⟩ : ∃ v9 : Int, qa_in v9 ∧ y9 = qa_i v9 := ⟨y9.toInt, qa_i_in y9, (qa_i_of y9).symm⟩
    refine qa_i2l (pc' := 7) ⟨rfl, rfl⟩ hv9 ?_
    refine qa_lastore (pc' := 8) ⟨rfl, rfl⟩ ho9 (by omega) (by omega) ?_
    refine qa_gz (fun τ1 e1 w1 f1 => ?_)
    replace e0 := e1.trans e0
    refine qa_goto (pc' := 11) (tgt := 14) ⟨rfl, rfl⟩ rfl ?_
    refine qa_iconst (pc' := 15) ⟨rfl, rfl⟩ ?_
    refine qa_ireturn rfl rfl rfl (hQ _ _ ⟨0, qa_i v9, rfl, ⟨by decide, by decide⟩, by omega, fun q hq => (f1 q (by omega)).trans (hf9 q (by omega)), ⟨_, w1, fun _ => by rw [qa_up_eq]; exact (qa_i_toInt hv9).symm⟩, fun τ2 e2 f2 => hm9 τ2 (e2.trans e1) (fun q q0 q1 => (f2 q q0 q1).trans (f1 q q0))⟩)
  · rw [jo1]
    refine qa_nz ?_
    refine qa_Zh 0 rfl rfl rfl rfl rfl (fun q9 => ?_)
    show qa_W _ _ _ _ _ 11 _ _ _
    refine qa_astore_n (L' := [(0, _), (1, _), (2, _)]) (pc' := 12) ⟨rfl, rfl⟩ rfl rfl ?_
    refine qa_iconst (pc' := 13) ⟨rfl, rfl⟩ ?_
    refine qa_ireturn rfl rfl rfl (hQ _ _ ⟨1, y9, rfl, ⟨by decide, by decide⟩, hs9, fun q hq => hf9 q (by omega), ⟨_, ho9, fun h => absurd h (by decide)⟩, hm9⟩)
theorem l_period {E : qa_V} {σ : qa_S} {c : Nat} {Z : Nat → Nat} {B : Int} {N : qa_M} {as : List Value} {n : Nat → Int} {p : Int}  (hlo : E.1 ≤ c) (hsz : c + 290 ≤ σ.2) (hc : σ.1 c = some (qa_CoF c n)) {a0 : Int → Int} (ho : σ.1 (c + 288) = some (qa_la 1 a0)) (hT : qa_T E qm_C_period 4 24 [.ref c, .int (qa_i p)] σ (jC E c Z B N as [0, 3] Value.int σ)) : qa_T E qm_L_period 64 8000 [.ref c, .int (qa_i p), .ref (c + 288)] σ (jL E c Z B N as Value.int Int32.toInt σ) := by
  refine qa_enterHQ (by decide) rfl qm_L_period_ok rfl rfl (fun Q9 hQ => ?_)
  refine qa_aload_n (pc' := 1) ⟨rfl, rfl⟩ rfl ?_
  refine qa_iconst (pc' := 2) ⟨rfl, rfl⟩ ?_
  refine qa_aload_n (pc' := 3) ⟨rfl, rfl⟩ rfl ?_
  refine qa_iload_n (pc' := 4) ⟨rfl, rfl⟩ rfl ?_
  refine qa_callV rfl qf_C_period ql_0_68 hT hc rfl rfl rfl (qa_lt9 rfl) (qa_le9 rfl) (qa_le9 rfl) (qa_le9 rfl) (fun o9 τ9 hq9 => ?_)
  obtain ⟨k9, y9, rfl, hk9, hs9, hf9, hm9⟩ := hq9
  have ho9 := (hf9 (c + 288) (by omega)).trans ho
  have e0 : τ9.2 = τ9.2 := rfl
  rcases jk2 hk9 with rfl | rfl | rfl
  · rw [jo0]
    refine qa_nx (pc' := 7) (kc' := 60) (ks' := 7976) (st' := [_, _, _]) rfl rfl rfl rfl ?_
    obtain ⟨v9, hv9, rfl⟩ : ∃ v9 : Int, qa_in v9 ∧ y9 = qa_i v9 := ⟨y9.toInt, qa_i_in y9, (qa_i_of y9).symm⟩
    refine qa_i2l (pc' := 8) ⟨rfl, rfl⟩ hv9 ?_
    refine qa_lastore (pc' := 9) ⟨rfl, rfl⟩ ho9 (by omega) (by omega) ?_
    refine qa_gz (fun τ1 e1 w1 f1 => ?_)
    replace e0 := e1.trans e0
    refine qa_goto (pc' := 12) (tgt := 18) ⟨rfl, rfl⟩ rfl ?_
    refine qa_iconst (pc' := 19) ⟨rfl, rfl⟩ ?_
    refine qa_ireturn rfl rfl rfl (hQ _ _ ⟨0, qa_i v9, rfl, ⟨by decide, by decide⟩, by omega, fun q hq => (f1 q (by omega)).trans (hf9 q (by omega)), ⟨_, w1, fun _ => by rw [qa_up_eq]; exact (qa_i_toInt hv9).symm⟩, fun τ2 e2 f2 => hm9 τ2 (e2.trans e1) (fun q q0 q1 => (f2 q q0 q1).trans (f1 q q0))⟩)
  · rw [jo1]
    refine qa_nz ?_
    refine qa_Zh 0 rfl rfl rfl rfl rfl (fun q9 => ?_)
    show qa_W _ _ _ _ _ 12 _ _ _
    refine qa_astore_n (L' := [(0, _), (1, _), (2, _), (3, _)]) (pc' := 13) ⟨rfl, rfl⟩ rfl rfl ?_
    refine qa_iconst (pc' := 14) ⟨rfl, rfl⟩ ?_
    refine qa_ireturn rfl rfl rfl (hQ _ _ ⟨1, y9, rfl, ⟨by decide, by decide⟩, hs9, fun q hq => hf9 q (by omega), ⟨_, ho9, fun h => absurd h (by decide)⟩, hm9⟩)
  · rw [jo2]
    refine qa_nz ?_
    refine qa_Zh 1 rfl rfl rfl rfl rfl (fun q9 => ?_)
    show qa_W _ _ _ _ _ 15 _ _ _
    refine qa_astore_n (L' := [(0, _), (1, _), (2, _), (3, _)]) (pc' := 16) ⟨rfl, rfl⟩ rfl rfl ?_
    refine qa_iconst (pc' := 17) ⟨rfl, rfl⟩ ?_
    refine qa_ireturn rfl rfl rfl (hQ _ _ ⟨2, y9, rfl, ⟨by decide, by decide⟩, hs9, fun q hq => hf9 q (by omega), ⟨_, ho9, fun h => absurd h (by decide)⟩, hm9⟩)
theorem l_periodByTrying {E : qa_V} {σ : qa_S} {c : Nat} {Z : Nat → Nat} {B : Int} {N : qa_M} {as : List Value} {n : Nat → Int} {p : Int}  (hlo : E.1 ≤ c) (hsz : c + 290 ≤ σ.2) (hc : σ.1 c = some (qa_CoF c n)) {a0 : Int → Int} (ho : σ.1 (c + 288) = some (qa_la 1 a0)) (hT : qa_T E qm_C_periodByTrying 4 24 [.ref c, .int (qa_i p)] σ (jC E c Z B N as [0, 3] Value.int σ)) : qa_T E qm_L_periodByTrying 64 8000 [.ref c, .int (qa_i p), .ref (c + 288)] σ (jL E c Z B N as Value.int Int32.toInt σ) := by
  refine qa_enterHQ (by decide) rfl qm_L_periodByTrying_ok rfl rfl (fun Q9 hQ => ?_)
  refine qa_aload_n (pc' := 1) ⟨rfl, rfl⟩ rfl ?_
  refine qa_iconst (pc' := 2) ⟨rfl, rfl⟩ ?_
  refine qa_aload_n (pc' := 3) ⟨rfl, rfl⟩ rfl ?_
  refine qa_iload_n (pc' := 4) ⟨rfl, rfl⟩ rfl ?_
  refine qa_callV rfl qf_C_periodByTrying ql_0_71 hT hc rfl rfl rfl (qa_lt9 rfl) (qa_le9 rfl) (qa_le9 rfl) (qa_le9 rfl) (fun o9 τ9 hq9 => ?_)
  obtain ⟨k9, y9, rfl, hk9, hs9, hf9, hm9⟩ := hq9
  have ho9 := (hf9 (c + 288) (by omega)).trans ho
  have e0 : τ9.2 = τ9.2 := rfl
  rcases jk2 hk9 with rfl | rfl | rfl
  · rw [jo0]
    refine qa_nx (pc' := 7) (kc' := 60) (ks' := 7976) (st' := [_, _, _]) rfl rfl rfl rfl ?_
    obtain ⟨v9, hv9, rfl⟩ : ∃ v9 : Int, qa_in v9 ∧ y9 = qa_i v9 := ⟨y9.toInt, qa_i_in y9, (qa_i_of y9).symm⟩
    refine qa_i2l (pc' := 8) ⟨rfl, rfl⟩ hv9 ?_
    refine qa_lastore (pc' := 9) ⟨rfl, rfl⟩ ho9 (by omega) (by omega) ?_
    refine qa_gz (fun τ1 e1 w1 f1 => ?_)
    replace e0 := e1.trans e0
    refine qa_goto (pc' := 12) (tgt := 18) ⟨rfl, rfl⟩ rfl ?_
    refine qa_iconst (pc' := 19) ⟨rfl, rfl⟩ ?_
    refine qa_ireturn rfl rfl rfl (hQ _ _ ⟨0, qa_i v9, rfl, ⟨by decide, by decide⟩, by omega, fun q hq => (f1 q (by omega)).trans (hf9 q (by omega)), ⟨_, w1, fun _ => by rw [qa_up_eq]; exact (qa_i_toInt hv9).symm⟩, fun τ2 e2 f2 => hm9 τ2 (e2.trans e1) (fun q q0 q1 => (f2 q q0 q1).trans (f1 q q0))⟩)
  · rw [jo1]
    refine qa_nz ?_
    refine qa_Zh 0 rfl rfl rfl rfl rfl (fun q9 => ?_)
    show qa_W _ _ _ _ _ 12 _ _ _
    refine qa_astore_n (L' := [(0, _), (1, _), (2, _), (3, _)]) (pc' := 13) ⟨rfl, rfl⟩ rfl rfl ?_
    refine qa_iconst (pc' := 14) ⟨rfl, rfl⟩ ?_
    refine qa_ireturn rfl rfl rfl (hQ _ _ ⟨1, y9, rfl, ⟨by decide, by decide⟩, hs9, fun q hq => hf9 q (by omega), ⟨_, ho9, fun h => absurd h (by decide)⟩, hm9⟩)
  · rw [jo2]
    refine qa_nz ?_
    refine qa_Zh 1 rfl rfl rfl rfl rfl (fun q9 => ?_)
    show qa_W _ _ _ _ _ 15 _ _ _
    refine qa_astore_n (L' := [(0, _), (1, _), (2, _), (3, _)]) (pc' := 16) ⟨rfl, rfl⟩ rfl rfl ?_
    refine qa_iconst (pc' := 17) ⟨rfl, rfl⟩ ?_
    refine qa_ireturn rfl rfl rfl (hQ _ _ ⟨2, y9, rfl, ⟨by decide, by decide⟩, hs9, fun q hq => hf9 q (by omega), ⟨_, ho9, fun h => absurd h (by decide)⟩, hm9⟩)
theorem l_commonTheme {E : qa_V} {σ : qa_S} {c : Nat} {Z : Nat → Nat} {B : Int} {N : qa_M} {as : List Value} {n : Nat → Int} {p : Int} {q : Int}  (hlo : E.1 ≤ c) (hsz : c + 290 ≤ σ.2) (hc : σ.1 c = some (qa_CoF c n)) {a0 : Int → Int} (ho : σ.1 (c + 288) = some (qa_la 1 a0)) (hT : qa_T E qm_C_commonTheme 4 24 [.ref c, .int (qa_i p), .int (qa_i q)] σ (jC E c Z B N as [0] Value.int σ)) : qa_T E qm_L_commonTheme 64 8000 [.ref c, .int (qa_i p), .int (qa_i q), .ref (c + 288)] σ (jL E c Z B N as Value.int Int32.toInt σ) := by
  refine qa_enterHQ (by decide) rfl qm_L_commonTheme_ok rfl rfl (fun Q9 hQ => ?_)
  refine qa_aload_n (pc' := 1) ⟨rfl, rfl⟩ rfl ?_
  refine qa_iconst (pc' := 2) ⟨rfl, rfl⟩ ?_
  refine qa_aload_n (pc' := 3) ⟨rfl, rfl⟩ rfl ?_
  refine qa_iload_n (pc' := 4) ⟨rfl, rfl⟩ rfl ?_
  refine qa_iload_n (pc' := 5) ⟨rfl, rfl⟩ rfl ?_
  refine qa_callV rfl qf_C_commonTheme ql_0_74 hT hc rfl rfl rfl (qa_lt9 rfl) (qa_le9 rfl) (qa_le9 rfl) (qa_le9 rfl) (fun o9 τ9 hq9 => ?_)
  obtain ⟨k9, y9, rfl, hk9, hs9, hf9, hm9⟩ := hq9
  have ho9 := (hf9 (c + 288) (by omega)).trans ho
  have e0 : τ9.2 = τ9.2 := rfl
  rcases jk1 hk9 with rfl | rfl
  · rw [jo0]
    refine qa_nx (pc' := 8) (kc' := 60) (ks' := 7976) (st' := [_, _, _]) rfl rfl rfl rfl ?_
    obtain ⟨v9, hv9, rfl⟩ : ∃ v9 : Int, qa_in v9 ∧ y9 = qa_i v9 := ⟨y9.toInt, qa_i_in y9, (qa_i_of y9).symm⟩
    refine qa_i2l (pc' := 9) ⟨rfl, rfl⟩ hv9 ?_
    refine qa_lastore (pc' := 10) ⟨rfl, rfl⟩ ho9 (by omega) (by omega) ?_
    refine qa_gz (fun τ1 e1 w1 f1 => ?_)
    replace e0 := e1.trans e0
    refine qa_goto (pc' := 13) (tgt := 17) ⟨rfl, rfl⟩ rfl ?_
    refine qa_iconst (pc' := 18) ⟨rfl, rfl⟩ ?_
    refine qa_ireturn rfl rfl rfl (hQ _ _ ⟨0, qa_i v9, rfl, ⟨by decide, by decide⟩, by omega, fun q hq => (f1 q (by omega)).trans (hf9 q (by omega)), ⟨_, w1, fun _ => by rw [qa_up_eq]; exact (qa_i_toInt hv9).symm⟩, fun τ2 e2 f2 => hm9 τ2 (e2.trans e1) (fun q q0 q1 => (f2 q q0 q1).trans (f1 q q0))⟩)
  · rw [jo1]
    refine qa_nz ?_
    refine qa_Zh 0 rfl rfl rfl rfl rfl (fun q9 => ?_)
    show qa_W _ _ _ _ _ 13 _ _ _
    refine qa_astore (L' := [(0, _), (1, _), (2, _), (3, _), (4, _)]) (pc' := 15) ⟨rfl, rfl⟩ rfl rfl ?_
    refine qa_iconst (pc' := 16) ⟨rfl, rfl⟩ ?_
    refine qa_ireturn rfl rfl rfl (hQ _ _ ⟨1, y9, rfl, ⟨by decide, by decide⟩, hs9, fun q hq => hf9 q (by omega), ⟨_, ho9, fun h => absurd h (by decide)⟩, hm9⟩)
theorem l_commonThemeByTrying {E : qa_V} {σ : qa_S} {c : Nat} {Z : Nat → Nat} {B : Int} {N : qa_M} {as : List Value} {n : Nat → Int} {p : Int} {q : Int}  (hlo : E.1 ≤ c) (hsz : c + 290 ≤ σ.2) (hc : σ.1 c = some (qa_CoF c n)) {a0 : Int → Int} (ho : σ.1 (c + 288) = some (qa_la 1 a0)) (hT : qa_T E qm_C_commonThemeByTrying 4 24 [.ref c, .int (qa_i p), .int (qa_i q)] σ (jC E c Z B N as [0] Value.int σ)) : qa_T E qm_L_commonThemeByTrying 64 8000 [.ref c, .int (qa_i p), .int (qa_i q), .ref (c + 288)] σ (jL E c Z B N as Value.int Int32.toInt σ) := by
  refine qa_enterHQ (by decide) rfl qm_L_commonThemeByTrying_ok rfl rfl (fun Q9 hQ => ?_)
  refine qa_aload_n (pc' := 1) ⟨rfl, rfl⟩ rfl ?_
  refine qa_iconst (pc' := 2) ⟨rfl, rfl⟩ ?_
  refine qa_aload_n (pc' := 3) ⟨rfl, rfl⟩ rfl ?_
  refine qa_iload_n (pc' := 4) ⟨rfl, rfl⟩ rfl ?_
  refine qa_iload_n (pc' := 5) ⟨rfl, rfl⟩ rfl ?_
  refine qa_callV rfl qf_C_commonThemeByTrying ql_0_77 hT hc rfl rfl rfl (qa_lt9 rfl) (qa_le9 rfl) (qa_le9 rfl) (qa_le9 rfl) (fun o9 τ9 hq9 => ?_)
  obtain ⟨k9, y9, rfl, hk9, hs9, hf9, hm9⟩ := hq9
  have ho9 := (hf9 (c + 288) (by omega)).trans ho
  have e0 : τ9.2 = τ9.2 := rfl
  rcases jk1 hk9 with rfl | rfl
  · rw [jo0]
    refine qa_nx (pc' := 8) (kc' := 60) (ks' := 7976) (st' := [_, _, _]) rfl rfl rfl rfl ?_
    obtain ⟨v9, hv9, rfl⟩ : ∃ v9 : Int, qa_in v9 ∧ y9 = qa_i v9 := ⟨y9.toInt, qa_i_in y9, (qa_i_of y9).symm⟩
    refine qa_i2l (pc' := 9) ⟨rfl, rfl⟩ hv9 ?_
    refine qa_lastore (pc' := 10) ⟨rfl, rfl⟩ ho9 (by omega) (by omega) ?_
    refine qa_gz (fun τ1 e1 w1 f1 => ?_)
    replace e0 := e1.trans e0
    refine qa_goto (pc' := 13) (tgt := 17) ⟨rfl, rfl⟩ rfl ?_
    refine qa_iconst (pc' := 18) ⟨rfl, rfl⟩ ?_
    refine qa_ireturn rfl rfl rfl (hQ _ _ ⟨0, qa_i v9, rfl, ⟨by decide, by decide⟩, by omega, fun q hq => (f1 q (by omega)).trans (hf9 q (by omega)), ⟨_, w1, fun _ => by rw [qa_up_eq]; exact (qa_i_toInt hv9).symm⟩, fun τ2 e2 f2 => hm9 τ2 (e2.trans e1) (fun q q0 q1 => (f2 q q0 q1).trans (f1 q q0))⟩)
  · rw [jo1]
    refine qa_nz ?_
    refine qa_Zh 0 rfl rfl rfl rfl rfl (fun q9 => ?_)
    show qa_W _ _ _ _ _ 13 _ _ _
    refine qa_astore (L' := [(0, _), (1, _), (2, _), (3, _), (4, _)]) (pc' := 15) ⟨rfl, rfl⟩ rfl rfl ?_
    refine qa_iconst (pc' := 16) ⟨rfl, rfl⟩ ?_
    refine qa_ireturn rfl rfl rfl (hQ _ _ ⟨1, y9, rfl, ⟨by decide, by decide⟩, hs9, fun q hq => hf9 q (by omega), ⟨_, ho9, fun h => absurd h (by decide)⟩, hm9⟩)
theorem l_setTuning {E : qa_V} {σ : qa_S} {c : Nat} {Z : Nat → Nat} {B : Int} {N : qa_M} {as : List Value} {n : Nat → Int} {p : Int} {q : Int} {r : Int}  (hlo : E.1 ≤ c) (hsz : c + 290 ≤ σ.2) (hc : σ.1 c = some (qa_CoF c n)) {a0 : Int → Int} (ho : σ.1 (c + 288) = some (qa_la 1 a0)) (hT : qa_T E qm_C_setTuning 1 6 [.ref c, .int (qa_i p), .int (qa_i q), .int (qa_i r)] σ (jC E c Z B N as [0, 1] Value.int σ)) : qa_T E qm_L_setTuning 64 8000 [.ref c, .int (qa_i p), .int (qa_i q), .int (qa_i r), .ref (c + 288)] σ (jL E c Z B N as Value.int Int32.toInt σ) := by
  refine qa_enterHQ (by decide) rfl qm_L_setTuning_ok rfl rfl (fun Q9 hQ => ?_)
  refine qa_aload (pc' := 2) ⟨rfl, rfl⟩ rfl ?_
  refine qa_iconst (pc' := 3) ⟨rfl, rfl⟩ ?_
  refine qa_aload_n (pc' := 4) ⟨rfl, rfl⟩ rfl ?_
  refine qa_iload_n (pc' := 5) ⟨rfl, rfl⟩ rfl ?_
  refine qa_iload_n (pc' := 6) ⟨rfl, rfl⟩ rfl ?_
  refine qa_iload_n (pc' := 7) ⟨rfl, rfl⟩ rfl ?_
  refine qa_callV rfl qf_C_setTuning ql_0_80 hT hc rfl rfl rfl (qa_lt9 rfl) (qa_le9 rfl) (qa_le9 rfl) (qa_le9 rfl) (fun o9 τ9 hq9 => ?_)
  obtain ⟨k9, y9, rfl, hk9, hs9, hf9, hm9⟩ := hq9
  have ho9 := (hf9 (c + 288) (by omega)).trans ho
  have e0 : τ9.2 = τ9.2 := rfl
  rcases jk2 hk9 with rfl | rfl | rfl
  · rw [jo0]
    refine qa_nx (pc' := 10) (kc' := 63) (ks' := 7994) (st' := [_, _, _]) rfl rfl rfl rfl ?_
    obtain ⟨v9, hv9, rfl⟩ : ∃ v9 : Int, qa_in v9 ∧ y9 = qa_i v9 := ⟨y9.toInt, qa_i_in y9, (qa_i_of y9).symm⟩
    refine qa_i2l (pc' := 11) ⟨rfl, rfl⟩ hv9 ?_
    refine qa_lastore (pc' := 12) ⟨rfl, rfl⟩ ho9 (by omega) (by omega) ?_
    refine qa_gz (fun τ1 e1 w1 f1 => ?_)
    replace e0 := e1.trans e0
    refine qa_goto (pc' := 15) (tgt := 23) ⟨rfl, rfl⟩ rfl ?_
    refine qa_iconst (pc' := 24) ⟨rfl, rfl⟩ ?_
    refine qa_ireturn rfl rfl rfl (hQ _ _ ⟨0, qa_i v9, rfl, ⟨by decide, by decide⟩, by omega, fun q hq => (f1 q (by omega)).trans (hf9 q (by omega)), ⟨_, w1, fun _ => by rw [qa_up_eq]; exact (qa_i_toInt hv9).symm⟩, fun τ2 e2 f2 => hm9 τ2 (e2.trans e1) (fun q q0 q1 => (f2 q q0 q1).trans (f1 q q0))⟩)
  · rw [jo1]
    refine qa_nz ?_
    refine qa_Zh 0 rfl rfl rfl rfl rfl (fun q9 => ?_)
    show qa_W _ _ _ _ _ 15 _ _ _
    refine qa_astore (L' := [(0, _), (1, _), (2, _), (3, _), (4, _), (5, _)]) (pc' := 17) ⟨rfl, rfl⟩ rfl rfl ?_
    refine qa_iconst (pc' := 18) ⟨rfl, rfl⟩ ?_
    refine qa_ireturn rfl rfl rfl (hQ _ _ ⟨1, y9, rfl, ⟨by decide, by decide⟩, hs9, fun q hq => hf9 q (by omega), ⟨_, ho9, fun h => absurd h (by decide)⟩, hm9⟩)
  · rw [jo2]
    refine qa_nz ?_
    refine qa_Zh 1 rfl rfl rfl rfl rfl (fun q9 => ?_)
    show qa_W _ _ _ _ _ 19 _ _ _
    refine qa_astore (L' := [(0, _), (1, _), (2, _), (3, _), (4, _), (5, _)]) (pc' := 21) ⟨rfl, rfl⟩ rfl rfl ?_
    refine qa_iconst (pc' := 22) ⟨rfl, rfl⟩ ?_
    refine qa_ireturn rfl rfl rfl (hQ _ _ ⟨2, y9, rfl, ⟨by decide, by decide⟩, hs9, fun q hq => hf9 q (by omega), ⟨_, ho9, fun h => absurd h (by decide)⟩, hm9⟩)
theorem l_tuningNumerator {E : qa_V} {σ : qa_S} {c : Nat} {Z : Nat → Nat} {B : Int} {N : qa_M} {as : List Value} {n : Nat → Int} {p : Int}  (hlo : E.1 ≤ c) (hsz : c + 290 ≤ σ.2) (hc : σ.1 c = some (qa_CoF c n)) {a0 : Int → Int} (ho : σ.1 (c + 288) = some (qa_la 1 a0)) (hT : qa_T E qm_C_tuningNumerator 4 24 [.ref c, .int (qa_i p)] σ (jC E c Z B N as [0] Value.int σ)) : qa_T E qm_L_tuningNumerator 64 8000 [.ref c, .int (qa_i p), .ref (c + 288)] σ (jL E c Z B N as Value.int Int32.toInt σ) := by
  refine qa_enterHQ (by decide) rfl qm_L_tuningNumerator_ok rfl rfl (fun Q9 hQ => ?_)
  refine qa_aload_n (pc' := 1) ⟨rfl, rfl⟩ rfl ?_
  refine qa_iconst (pc' := 2) ⟨rfl, rfl⟩ ?_
  refine qa_aload_n (pc' := 3) ⟨rfl, rfl⟩ rfl ?_
  refine qa_iload_n (pc' := 4) ⟨rfl, rfl⟩ rfl ?_
  refine qa_callV rfl qf_C_tuningNumerator ql_0_83 hT hc rfl rfl rfl (qa_lt9 rfl) (qa_le9 rfl) (qa_le9 rfl) (qa_le9 rfl) (fun o9 τ9 hq9 => ?_)
  obtain ⟨k9, y9, rfl, hk9, hs9, hf9, hm9⟩ := hq9
  have ho9 := (hf9 (c + 288) (by omega)).trans ho
  have e0 : τ9.2 = τ9.2 := rfl
  rcases jk1 hk9 with rfl | rfl
  · rw [jo0]
    refine qa_nx (pc' := 7) (kc' := 60) (ks' := 7976) (st' := [_, _, _]) rfl rfl rfl rfl ?_
    obtain ⟨v9, hv9, rfl⟩ : ∃ v9 : Int, qa_in v9 ∧ y9 = qa_i v9 := ⟨y9.toInt, qa_i_in y9, (qa_i_of y9).symm⟩
    refine qa_i2l (pc' := 8) ⟨rfl, rfl⟩ hv9 ?_
    refine qa_lastore (pc' := 9) ⟨rfl, rfl⟩ ho9 (by omega) (by omega) ?_
    refine qa_gz (fun τ1 e1 w1 f1 => ?_)
    replace e0 := e1.trans e0
    refine qa_goto (pc' := 12) (tgt := 15) ⟨rfl, rfl⟩ rfl ?_
    refine qa_iconst (pc' := 16) ⟨rfl, rfl⟩ ?_
    refine qa_ireturn rfl rfl rfl (hQ _ _ ⟨0, qa_i v9, rfl, ⟨by decide, by decide⟩, by omega, fun q hq => (f1 q (by omega)).trans (hf9 q (by omega)), ⟨_, w1, fun _ => by rw [qa_up_eq]; exact (qa_i_toInt hv9).symm⟩, fun τ2 e2 f2 => hm9 τ2 (e2.trans e1) (fun q q0 q1 => (f2 q q0 q1).trans (f1 q q0))⟩)
  · rw [jo1]
    refine qa_nz ?_
    refine qa_Zh 0 rfl rfl rfl rfl rfl (fun q9 => ?_)
    show qa_W _ _ _ _ _ 12 _ _ _
    refine qa_astore_n (L' := [(0, _), (1, _), (2, _), (3, _)]) (pc' := 13) ⟨rfl, rfl⟩ rfl rfl ?_
    refine qa_iconst (pc' := 14) ⟨rfl, rfl⟩ ?_
    refine qa_ireturn rfl rfl rfl (hQ _ _ ⟨1, y9, rfl, ⟨by decide, by decide⟩, hs9, fun q hq => hf9 q (by omega), ⟨_, ho9, fun h => absurd h (by decide)⟩, hm9⟩)
theorem l_tuningDenominator {E : qa_V} {σ : qa_S} {c : Nat} {Z : Nat → Nat} {B : Int} {N : qa_M} {as : List Value} {n : Nat → Int} {p : Int}  (hlo : E.1 ≤ c) (hsz : c + 290 ≤ σ.2) (hc : σ.1 c = some (qa_CoF c n)) {a0 : Int → Int} (ho : σ.1 (c + 288) = some (qa_la 1 a0)) (hT : qa_T E qm_C_tuningDenominator 4 24 [.ref c, .int (qa_i p)] σ (jC E c Z B N as [0] Value.int σ)) : qa_T E qm_L_tuningDenominator 64 8000 [.ref c, .int (qa_i p), .ref (c + 288)] σ (jL E c Z B N as Value.int Int32.toInt σ) := by
  refine qa_enterHQ (by decide) rfl qm_L_tuningDenominator_ok rfl rfl (fun Q9 hQ => ?_)
  refine qa_aload_n (pc' := 1) ⟨rfl, rfl⟩ rfl ?_
  refine qa_iconst (pc' := 2) ⟨rfl, rfl⟩ ?_
  refine qa_aload_n (pc' := 3) ⟨rfl, rfl⟩ rfl ?_
  refine qa_iload_n (pc' := 4) ⟨rfl, rfl⟩ rfl ?_
  refine qa_callV rfl qf_C_tuningDenominator ql_0_86 hT hc rfl rfl rfl (qa_lt9 rfl) (qa_le9 rfl) (qa_le9 rfl) (qa_le9 rfl) (fun o9 τ9 hq9 => ?_)
  obtain ⟨k9, y9, rfl, hk9, hs9, hf9, hm9⟩ := hq9
  have ho9 := (hf9 (c + 288) (by omega)).trans ho
  have e0 : τ9.2 = τ9.2 := rfl
  rcases jk1 hk9 with rfl | rfl
  · rw [jo0]
    refine qa_nx (pc' := 7) (kc' := 60) (ks' := 7976) (st' := [_, _, _]) rfl rfl rfl rfl ?_
    obtain ⟨v9, hv9, rfl⟩ : ∃ v9 : Int, qa_in v9 ∧ y9 = qa_i v9 := ⟨y9.toInt, qa_i_in y9, (qa_i_of y9).symm⟩
    refine qa_i2l (pc' := 8) ⟨rfl, rfl⟩ hv9 ?_
    refine qa_lastore (pc' := 9) ⟨rfl, rfl⟩ ho9 (by omega) (by omega) ?_
    refine qa_gz (fun τ1 e1 w1 f1 => ?_)
    replace e0 := e1.trans e0
    refine qa_goto (pc' := 12) (tgt := 15) ⟨rfl, rfl⟩ rfl ?_
    refine qa_iconst (pc' := 16) ⟨rfl, rfl⟩ ?_
    refine qa_ireturn rfl rfl rfl (hQ _ _ ⟨0, qa_i v9, rfl, ⟨by decide, by decide⟩, by omega, fun q hq => (f1 q (by omega)).trans (hf9 q (by omega)), ⟨_, w1, fun _ => by rw [qa_up_eq]; exact (qa_i_toInt hv9).symm⟩, fun τ2 e2 f2 => hm9 τ2 (e2.trans e1) (fun q q0 q1 => (f2 q q0 q1).trans (f1 q q0))⟩)
  · rw [jo1]
    refine qa_nz ?_
    refine qa_Zh 0 rfl rfl rfl rfl rfl (fun q9 => ?_)
    show qa_W _ _ _ _ _ 12 _ _ _
    refine qa_astore_n (L' := [(0, _), (1, _), (2, _), (3, _)]) (pc' := 13) ⟨rfl, rfl⟩ rfl rfl ?_
    refine qa_iconst (pc' := 14) ⟨rfl, rfl⟩ ?_
    refine qa_ireturn rfl rfl rfl (hQ _ _ ⟨1, y9, rfl, ⟨by decide, by decide⟩, hs9, fun q hq => hf9 q (by omega), ⟨_, ho9, fun h => absurd h (by decide)⟩, hm9⟩)
theorem l_nearestNumerator {E : qa_V} {σ : qa_S} {c : Nat} {Z : Nat → Nat} {B : Int} {N : qa_M} {as : List Value} {n : Nat → Int} {p : Int} {q : Int}  (hlo : E.1 ≤ c) (hsz : c + 290 ≤ σ.2) (hc : σ.1 c = some (qa_CoF c n)) {a0 : Int → Int} (ho : σ.1 (c + 288) = some (qa_la 1 a0)) (hT : qa_T E qm_C_nearestNumerator 4 24 [.ref c, .int (qa_i p), .int (qa_i q)] σ (jC E c Z B N as [0, 1] Value.int σ)) : qa_T E qm_L_nearestNumerator 64 8000 [.ref c, .int (qa_i p), .int (qa_i q), .ref (c + 288)] σ (jL E c Z B N as Value.int Int32.toInt σ) := by
  refine qa_enterHQ (by decide) rfl qm_L_nearestNumerator_ok rfl rfl (fun Q9 hQ => ?_)
  refine qa_aload_n (pc' := 1) ⟨rfl, rfl⟩ rfl ?_
  refine qa_iconst (pc' := 2) ⟨rfl, rfl⟩ ?_
  refine qa_aload_n (pc' := 3) ⟨rfl, rfl⟩ rfl ?_
  refine qa_iload_n (pc' := 4) ⟨rfl, rfl⟩ rfl ?_
  refine qa_iload_n (pc' := 5) ⟨rfl, rfl⟩ rfl ?_
  refine qa_callV rfl qf_C_nearestNumerator ql_0_89 hT hc rfl rfl rfl (qa_lt9 rfl) (qa_le9 rfl) (qa_le9 rfl) (qa_le9 rfl) (fun o9 τ9 hq9 => ?_)
  obtain ⟨k9, y9, rfl, hk9, hs9, hf9, hm9⟩ := hq9
  have ho9 := (hf9 (c + 288) (by omega)).trans ho
  have e0 : τ9.2 = τ9.2 := rfl
  rcases jk2 hk9 with rfl | rfl | rfl
  · rw [jo0]
    refine qa_nx (pc' := 8) (kc' := 60) (ks' := 7976) (st' := [_, _, _]) rfl rfl rfl rfl ?_
    obtain ⟨v9, hv9, rfl⟩ : ∃ v9 : Int, qa_in v9 ∧ y9 = qa_i v9 := ⟨y9.toInt, qa_i_in y9, (qa_i_of y9).symm⟩
    refine qa_i2l (pc' := 9) ⟨rfl, rfl⟩ hv9 ?_
    refine qa_lastore (pc' := 10) ⟨rfl, rfl⟩ ho9 (by omega) (by omega) ?_
    refine qa_gz (fun τ1 e1 w1 f1 => ?_)
    replace e0 := e1.trans e0
    refine qa_goto (pc' := 13) (tgt := 21) ⟨rfl, rfl⟩ rfl ?_
    refine qa_iconst (pc' := 22) ⟨rfl, rfl⟩ ?_
    refine qa_ireturn rfl rfl rfl (hQ _ _ ⟨0, qa_i v9, rfl, ⟨by decide, by decide⟩, by omega, fun q hq => (f1 q (by omega)).trans (hf9 q (by omega)), ⟨_, w1, fun _ => by rw [qa_up_eq]; exact (qa_i_toInt hv9).symm⟩, fun τ2 e2 f2 => hm9 τ2 (e2.trans e1) (fun q q0 q1 => (f2 q q0 q1).trans (f1 q q0))⟩)
  · rw [jo1]
    refine qa_nz ?_
    refine qa_Zh 0 rfl rfl rfl rfl rfl (fun q9 => ?_)
    show qa_W _ _ _ _ _ 13 _ _ _
    refine qa_astore (L' := [(0, _), (1, _), (2, _), (3, _), (4, _)]) (pc' := 15) ⟨rfl, rfl⟩ rfl rfl ?_
    refine qa_iconst (pc' := 16) ⟨rfl, rfl⟩ ?_
    refine qa_ireturn rfl rfl rfl (hQ _ _ ⟨1, y9, rfl, ⟨by decide, by decide⟩, hs9, fun q hq => hf9 q (by omega), ⟨_, ho9, fun h => absurd h (by decide)⟩, hm9⟩)
  · rw [jo2]
    refine qa_nz ?_
    refine qa_Zh 1 rfl rfl rfl rfl rfl (fun q9 => ?_)
    show qa_W _ _ _ _ _ 17 _ _ _
    refine qa_astore (L' := [(0, _), (1, _), (2, _), (3, _), (4, _)]) (pc' := 19) ⟨rfl, rfl⟩ rfl rfl ?_
    refine qa_iconst (pc' := 20) ⟨rfl, rfl⟩ ?_
    refine qa_ireturn rfl rfl rfl (hQ _ _ ⟨2, y9, rfl, ⟨by decide, by decide⟩, hs9, fun q hq => hf9 q (by omega), ⟨_, ho9, fun h => absurd h (by decide)⟩, hm9⟩)
theorem l_nearestDenominator {E : qa_V} {σ : qa_S} {c : Nat} {Z : Nat → Nat} {B : Int} {N : qa_M} {as : List Value} {n : Nat → Int} {p : Int} {q : Int}  (hlo : E.1 ≤ c) (hsz : c + 290 ≤ σ.2) (hc : σ.1 c = some (qa_CoF c n)) {a0 : Int → Int} (ho : σ.1 (c + 288) = some (qa_la 1 a0)) (hT : qa_T E qm_C_nearestDenominator 4 24 [.ref c, .int (qa_i p), .int (qa_i q)] σ (jC E c Z B N as [0, 1] Value.int σ)) : qa_T E qm_L_nearestDenominator 64 8000 [.ref c, .int (qa_i p), .int (qa_i q), .ref (c + 288)] σ (jL E c Z B N as Value.int Int32.toInt σ) := by
  refine qa_enterHQ (by decide) rfl qm_L_nearestDenominator_ok rfl rfl (fun Q9 hQ => ?_)
  refine qa_aload_n (pc' := 1) ⟨rfl, rfl⟩ rfl ?_
  refine qa_iconst (pc' := 2) ⟨rfl, rfl⟩ ?_
  refine qa_aload_n (pc' := 3) ⟨rfl, rfl⟩ rfl ?_
  refine qa_iload_n (pc' := 4) ⟨rfl, rfl⟩ rfl ?_
  refine qa_iload_n (pc' := 5) ⟨rfl, rfl⟩ rfl ?_
  refine qa_callV rfl qf_C_nearestDenominator ql_0_92 hT hc rfl rfl rfl (qa_lt9 rfl) (qa_le9 rfl) (qa_le9 rfl) (qa_le9 rfl) (fun o9 τ9 hq9 => ?_)
  obtain ⟨k9, y9, rfl, hk9, hs9, hf9, hm9⟩ := hq9
  have ho9 := (hf9 (c + 288) (by omega)).trans ho
  have e0 : τ9.2 = τ9.2 := rfl
  rcases jk2 hk9 with rfl | rfl | rfl
  · rw [jo0]
    refine qa_nx (pc' := 8) (kc' := 60) (ks' := 7976) (st' := [_, _, _]) rfl rfl rfl rfl ?_
    obtain ⟨v9, hv9, rfl⟩ : ∃ v9 : Int, qa_in v9 ∧ y9 = qa_i v9 := ⟨y9.toInt, qa_i_in y9, (qa_i_of y9).symm⟩
    refine qa_i2l (pc' := 9) ⟨rfl, rfl⟩ hv9 ?_
    refine qa_lastore (pc' := 10) ⟨rfl, rfl⟩ ho9 (by omega) (by omega) ?_
    refine qa_gz (fun τ1 e1 w1 f1 => ?_)
    replace e0 := e1.trans e0
    refine qa_goto (pc' := 13) (tgt := 21) ⟨rfl, rfl⟩ rfl ?_
    refine qa_iconst (pc' := 22) ⟨rfl, rfl⟩ ?_
    refine qa_ireturn rfl rfl rfl (hQ _ _ ⟨0, qa_i v9, rfl, ⟨by decide, by decide⟩, by omega, fun q hq => (f1 q (by omega)).trans (hf9 q (by omega)), ⟨_, w1, fun _ => by rw [qa_up_eq]; exact (qa_i_toInt hv9).symm⟩, fun τ2 e2 f2 => hm9 τ2 (e2.trans e1) (fun q q0 q1 => (f2 q q0 q1).trans (f1 q q0))⟩)
  · rw [jo1]
    refine qa_nz ?_
    refine qa_Zh 0 rfl rfl rfl rfl rfl (fun q9 => ?_)
    show qa_W _ _ _ _ _ 13 _ _ _
    refine qa_astore (L' := [(0, _), (1, _), (2, _), (3, _), (4, _)]) (pc' := 15) ⟨rfl, rfl⟩ rfl rfl ?_
    refine qa_iconst (pc' := 16) ⟨rfl, rfl⟩ ?_
    refine qa_ireturn rfl rfl rfl (hQ _ _ ⟨1, y9, rfl, ⟨by decide, by decide⟩, hs9, fun q hq => hf9 q (by omega), ⟨_, ho9, fun h => absurd h (by decide)⟩, hm9⟩)
  · rw [jo2]
    refine qa_nz ?_
    refine qa_Zh 1 rfl rfl rfl rfl rfl (fun q9 => ?_)
    show qa_W _ _ _ _ _ 17 _ _ _
    refine qa_astore (L' := [(0, _), (1, _), (2, _), (3, _), (4, _)]) (pc' := 19) ⟨rfl, rfl⟩ rfl rfl ?_
    refine qa_iconst (pc' := 20) ⟨rfl, rfl⟩ ?_
    refine qa_ireturn rfl rfl rfl (hQ _ _ ⟨2, y9, rfl, ⟨by decide, by decide⟩, hs9, fun q hq => hf9 q (by omega), ⟨_, ho9, fun h => absurd h (by decide)⟩, hm9⟩)
theorem l_nearestDenominatorByTrying {E : qa_V} {σ : qa_S} {c : Nat} {Z : Nat → Nat} {B : Int} {N : qa_M} {as : List Value} {n : Nat → Int} {p : Int} {q : Int}  (hlo : E.1 ≤ c) (hsz : c + 290 ≤ σ.2) (hc : σ.1 c = some (qa_CoF c n)) {a0 : Int → Int} (ho : σ.1 (c + 288) = some (qa_la 1 a0)) (hT : qa_T E qm_C_nearestDenominatorByTrying 4 24 [.ref c, .int (qa_i p), .int (qa_i q)] σ (jC E c Z B N as [0, 1] Value.int σ)) : qa_T E qm_L_nearestDenominatorByTrying 64 8000 [.ref c, .int (qa_i p), .int (qa_i q), .ref (c + 288)] σ (jL E c Z B N as Value.int Int32.toInt σ) := by
  refine qa_enterHQ (by decide) rfl qm_L_nearestDenominatorByTrying_ok rfl rfl (fun Q9 hQ => ?_)
  refine qa_aload_n (pc' := 1) ⟨rfl, rfl⟩ rfl ?_
  refine qa_iconst (pc' := 2) ⟨rfl, rfl⟩ ?_
  refine qa_aload_n (pc' := 3) ⟨rfl, rfl⟩ rfl ?_
  refine qa_iload_n (pc' := 4) ⟨rfl, rfl⟩ rfl ?_
  refine qa_iload_n (pc' := 5) ⟨rfl, rfl⟩ rfl ?_
  refine qa_callV rfl qf_C_nearestDenominatorByTrying ql_0_95 hT hc rfl rfl rfl (qa_lt9 rfl) (qa_le9 rfl) (qa_le9 rfl) (qa_le9 rfl) (fun o9 τ9 hq9 => ?_)
  obtain ⟨k9, y9, rfl, hk9, hs9, hf9, hm9⟩ := hq9
  have ho9 := (hf9 (c + 288) (by omega)).trans ho
  have e0 : τ9.2 = τ9.2 := rfl
  rcases jk2 hk9 with rfl | rfl | rfl
  · rw [jo0]
    refine qa_nx (pc' := 8) (kc' := 60) (ks' := 7976) (st' := [_, _, _]) rfl rfl rfl rfl ?_
    obtain ⟨v9, hv9, rfl⟩ : ∃ v9 : Int, qa_in v9 ∧ y9 = qa_i v9 := ⟨y9.toInt, qa_i_in y9, (qa_i_of y9).symm⟩
    refine qa_i2l (pc' := 9) ⟨rfl, rfl⟩ hv9 ?_
    refine qa_lastore (pc' := 10) ⟨rfl, rfl⟩ ho9 (by omega) (by omega) ?_
    refine qa_gz (fun τ1 e1 w1 f1 => ?_)
    replace e0 := e1.trans e0
    refine qa_goto (pc' := 13) (tgt := 21) ⟨rfl, rfl⟩ rfl ?_
    refine qa_iconst (pc' := 22) ⟨rfl, rfl⟩ ?_
    refine qa_ireturn rfl rfl rfl (hQ _ _ ⟨0, qa_i v9, rfl, ⟨by decide, by decide⟩, by omega, fun q hq => (f1 q (by omega)).trans (hf9 q (by omega)), ⟨_, w1, fun _ => by rw [qa_up_eq]; exact (qa_i_toInt hv9).symm⟩, fun τ2 e2 f2 => hm9 τ2 (e2.trans e1) (fun q q0 q1 => (f2 q q0 q1).trans (f1 q q0))⟩)
  · rw [jo1]
    refine qa_nz ?_
    refine qa_Zh 0 rfl rfl rfl rfl rfl (fun q9 => ?_)
    show qa_W _ _ _ _ _ 13 _ _ _
    refine qa_astore (L' := [(0, _), (1, _), (2, _), (3, _), (4, _)]) (pc' := 15) ⟨rfl, rfl⟩ rfl rfl ?_
    refine qa_iconst (pc' := 16) ⟨rfl, rfl⟩ ?_
    refine qa_ireturn rfl rfl rfl (hQ _ _ ⟨1, y9, rfl, ⟨by decide, by decide⟩, hs9, fun q hq => hf9 q (by omega), ⟨_, ho9, fun h => absurd h (by decide)⟩, hm9⟩)
  · rw [jo2]
    refine qa_nz ?_
    refine qa_Zh 1 rfl rfl rfl rfl rfl (fun q9 => ?_)
    show qa_W _ _ _ _ _ 17 _ _ _
    refine qa_astore (L' := [(0, _), (1, _), (2, _), (3, _), (4, _)]) (pc' := 19) ⟨rfl, rfl⟩ rfl rfl ?_
    refine qa_iconst (pc' := 20) ⟨rfl, rfl⟩ ?_
    refine qa_ireturn rfl rfl rfl (hQ _ _ ⟨2, y9, rfl, ⟨by decide, by decide⟩, hs9, fun q hq => hf9 q (by omega), ⟨_, ho9, fun h => absurd h (by decide)⟩, hm9⟩)
theorem l_intervalNumerator {E : qa_V} {σ : qa_S} {c : Nat} {Z : Nat → Nat} {B : Int} {N : qa_M} {as : List Value} {n : Nat → Int} {p : Int} {q : Int}  (hlo : E.1 ≤ c) (hsz : c + 290 ≤ σ.2) (hc : σ.1 c = some (qa_CoF c n)) {a0 : Int → Int} (ho : σ.1 (c + 288) = some (qa_la 1 a0)) (hT : qa_T E qm_C_intervalNumerator 4 24 [.ref c, .int (qa_i p), .int (qa_i q)] σ (jC E c Z B N as [0] Value.int σ)) : qa_T E qm_L_intervalNumerator 64 8000 [.ref c, .int (qa_i p), .int (qa_i q), .ref (c + 288)] σ (jL E c Z B N as Value.int Int32.toInt σ) := by
  refine qa_enterHQ (by decide) rfl qm_L_intervalNumerator_ok rfl rfl (fun Q9 hQ => ?_)
  refine qa_aload_n (pc' := 1) ⟨rfl, rfl⟩ rfl ?_
  refine qa_iconst (pc' := 2) ⟨rfl, rfl⟩ ?_
  refine qa_aload_n (pc' := 3) ⟨rfl, rfl⟩ rfl ?_
  refine qa_iload_n (pc' := 4) ⟨rfl, rfl⟩ rfl ?_
  refine qa_iload_n (pc' := 5) ⟨rfl, rfl⟩ rfl ?_
  refine qa_callV rfl qf_C_intervalNumerator ql_0_98 hT hc rfl rfl rfl (qa_lt9 rfl) (qa_le9 rfl) (qa_le9 rfl) (qa_le9 rfl) (fun o9 τ9 hq9 => ?_)
  obtain ⟨k9, y9, rfl, hk9, hs9, hf9, hm9⟩ := hq9
  have ho9 := (hf9 (c + 288) (by omega)).trans ho
  have e0 : τ9.2 = τ9.2 := rfl
  rcases jk1 hk9 with rfl | rfl
  · rw [jo0]
    refine qa_nx (pc' := 8) (kc' := 60) (ks' := 7976) (st' := [_, _, _]) rfl rfl rfl rfl ?_
    obtain ⟨v9, hv9, rfl⟩ : ∃ v9 : Int, qa_in v9 ∧ y9 = qa_i v9 := ⟨y9.toInt, qa_i_in y9, (qa_i_of y9).symm⟩
    refine qa_i2l (pc' := 9) ⟨rfl, rfl⟩ hv9 ?_
    refine qa_lastore (pc' := 10) ⟨rfl, rfl⟩ ho9 (by omega) (by omega) ?_
    refine qa_gz (fun τ1 e1 w1 f1 => ?_)
    replace e0 := e1.trans e0
    refine qa_goto (pc' := 13) (tgt := 17) ⟨rfl, rfl⟩ rfl ?_
    refine qa_iconst (pc' := 18) ⟨rfl, rfl⟩ ?_
    refine qa_ireturn rfl rfl rfl (hQ _ _ ⟨0, qa_i v9, rfl, ⟨by decide, by decide⟩, by omega, fun q hq => (f1 q (by omega)).trans (hf9 q (by omega)), ⟨_, w1, fun _ => by rw [qa_up_eq]; exact (qa_i_toInt hv9).symm⟩, fun τ2 e2 f2 => hm9 τ2 (e2.trans e1) (fun q q0 q1 => (f2 q q0 q1).trans (f1 q q0))⟩)
  · rw [jo1]
    refine qa_nz ?_
    refine qa_Zh 0 rfl rfl rfl rfl rfl (fun q9 => ?_)
    show qa_W _ _ _ _ _ 13 _ _ _
    refine qa_astore (L' := [(0, _), (1, _), (2, _), (3, _), (4, _)]) (pc' := 15) ⟨rfl, rfl⟩ rfl rfl ?_
    refine qa_iconst (pc' := 16) ⟨rfl, rfl⟩ ?_
    refine qa_ireturn rfl rfl rfl (hQ _ _ ⟨1, y9, rfl, ⟨by decide, by decide⟩, hs9, fun q hq => hf9 q (by omega), ⟨_, ho9, fun h => absurd h (by decide)⟩, hm9⟩)
theorem l_intervalDenominator {E : qa_V} {σ : qa_S} {c : Nat} {Z : Nat → Nat} {B : Int} {N : qa_M} {as : List Value} {n : Nat → Int} {p : Int} {q : Int}  (hlo : E.1 ≤ c) (hsz : c + 290 ≤ σ.2) (hc : σ.1 c = some (qa_CoF c n)) {a0 : Int → Int} (ho : σ.1 (c + 288) = some (qa_la 1 a0)) (hT : qa_T E qm_C_intervalDenominator 4 24 [.ref c, .int (qa_i p), .int (qa_i q)] σ (jC E c Z B N as [0] Value.int σ)) : qa_T E qm_L_intervalDenominator 64 8000 [.ref c, .int (qa_i p), .int (qa_i q), .ref (c + 288)] σ (jL E c Z B N as Value.int Int32.toInt σ) := by
  refine qa_enterHQ (by decide) rfl qm_L_intervalDenominator_ok rfl rfl (fun Q9 hQ => ?_)
  refine qa_aload_n (pc' := 1) ⟨rfl, rfl⟩ rfl ?_
  refine qa_iconst (pc' := 2) ⟨rfl, rfl⟩ ?_
  refine qa_aload_n (pc' := 3) ⟨rfl, rfl⟩ rfl ?_
  refine qa_iload_n (pc' := 4) ⟨rfl, rfl⟩ rfl ?_
  refine qa_iload_n (pc' := 5) ⟨rfl, rfl⟩ rfl ?_
  refine qa_callV rfl qf_C_intervalDenominator ql_0_101 hT hc rfl rfl rfl (qa_lt9 rfl) (qa_le9 rfl) (qa_le9 rfl) (qa_le9 rfl) (fun o9 τ9 hq9 => ?_)
  obtain ⟨k9, y9, rfl, hk9, hs9, hf9, hm9⟩ := hq9
  have ho9 := (hf9 (c + 288) (by omega)).trans ho
  have e0 : τ9.2 = τ9.2 := rfl
  rcases jk1 hk9 with rfl | rfl
  · rw [jo0]
    refine qa_nx (pc' := 8) (kc' := 60) (ks' := 7976) (st' := [_, _, _]) rfl rfl rfl rfl ?_
    obtain ⟨v9, hv9, rfl⟩ : ∃ v9 : Int, qa_in v9 ∧ y9 = qa_i v9 := ⟨y9.toInt, qa_i_in y9, (qa_i_of y9).symm⟩
    refine qa_i2l (pc' := 9) ⟨rfl, rfl⟩ hv9 ?_
    refine qa_lastore (pc' := 10) ⟨rfl, rfl⟩ ho9 (by omega) (by omega) ?_
    refine qa_gz (fun τ1 e1 w1 f1 => ?_)
    replace e0 := e1.trans e0
    refine qa_goto (pc' := 13) (tgt := 17) ⟨rfl, rfl⟩ rfl ?_
    refine qa_iconst (pc' := 18) ⟨rfl, rfl⟩ ?_
    refine qa_ireturn rfl rfl rfl (hQ _ _ ⟨0, qa_i v9, rfl, ⟨by decide, by decide⟩, by omega, fun q hq => (f1 q (by omega)).trans (hf9 q (by omega)), ⟨_, w1, fun _ => by rw [qa_up_eq]; exact (qa_i_toInt hv9).symm⟩, fun τ2 e2 f2 => hm9 τ2 (e2.trans e1) (fun q q0 q1 => (f2 q q0 q1).trans (f1 q q0))⟩)
  · rw [jo1]
    refine qa_nz ?_
    refine qa_Zh 0 rfl rfl rfl rfl rfl (fun q9 => ?_)
    show qa_W _ _ _ _ _ 13 _ _ _
    refine qa_astore (L' := [(0, _), (1, _), (2, _), (3, _), (4, _)]) (pc' := 15) ⟨rfl, rfl⟩ rfl rfl ?_
    refine qa_iconst (pc' := 16) ⟨rfl, rfl⟩ ?_
    refine qa_ireturn rfl rfl rfl (hQ _ _ ⟨1, y9, rfl, ⟨by decide, by decide⟩, hs9, fun q hq => hf9 q (by omega), ⟨_, ho9, fun h => absurd h (by decide)⟩, hm9⟩)
theorem l_partByTuning {E : qa_V} {σ : qa_S} {c : Nat} {Z : Nat → Nat} {B : Int} {N : qa_M} {as : List Value} {n : Nat → Int} {p : Int}  (hlo : E.1 ≤ c) (hsz : c + 290 ≤ σ.2) (hc : σ.1 c = some (qa_CoF c n)) {a0 : Int → Int} (ho : σ.1 (c + 288) = some (qa_la 1 a0)) (hT : qa_T E qm_C_partByTuning 4 24 [.ref c, .int (qa_i p)] σ (jC E c Z B N as [3] Value.int σ)) : qa_T E qm_L_partByTuning 64 8000 [.ref c, .int (qa_i p), .ref (c + 288)] σ (jL E c Z B N as Value.int Int32.toInt σ) := by
  refine qa_enterHQ (by decide) rfl qm_L_partByTuning_ok rfl rfl (fun Q9 hQ => ?_)
  refine qa_aload_n (pc' := 1) ⟨rfl, rfl⟩ rfl ?_
  refine qa_iconst (pc' := 2) ⟨rfl, rfl⟩ ?_
  refine qa_aload_n (pc' := 3) ⟨rfl, rfl⟩ rfl ?_
  refine qa_iload_n (pc' := 4) ⟨rfl, rfl⟩ rfl ?_
  refine qa_callV rfl qf_C_partByTuning ql_0_104 hT hc rfl rfl rfl (qa_lt9 rfl) (qa_le9 rfl) (qa_le9 rfl) (qa_le9 rfl) (fun o9 τ9 hq9 => ?_)
  obtain ⟨k9, y9, rfl, hk9, hs9, hf9, hm9⟩ := hq9
  have ho9 := (hf9 (c + 288) (by omega)).trans ho
  have e0 : τ9.2 = τ9.2 := rfl
  rcases jk1 hk9 with rfl | rfl
  · rw [jo0]
    refine qa_nx (pc' := 7) (kc' := 60) (ks' := 7976) (st' := [_, _, _]) rfl rfl rfl rfl ?_
    obtain ⟨v9, hv9, rfl⟩ : ∃ v9 : Int, qa_in v9 ∧ y9 = qa_i v9 := ⟨y9.toInt, qa_i_in y9, (qa_i_of y9).symm⟩
    refine qa_i2l (pc' := 8) ⟨rfl, rfl⟩ hv9 ?_
    refine qa_lastore (pc' := 9) ⟨rfl, rfl⟩ ho9 (by omega) (by omega) ?_
    refine qa_gz (fun τ1 e1 w1 f1 => ?_)
    replace e0 := e1.trans e0
    refine qa_goto (pc' := 12) (tgt := 15) ⟨rfl, rfl⟩ rfl ?_
    refine qa_iconst (pc' := 16) ⟨rfl, rfl⟩ ?_
    refine qa_ireturn rfl rfl rfl (hQ _ _ ⟨0, qa_i v9, rfl, ⟨by decide, by decide⟩, by omega, fun q hq => (f1 q (by omega)).trans (hf9 q (by omega)), ⟨_, w1, fun _ => by rw [qa_up_eq]; exact (qa_i_toInt hv9).symm⟩, fun τ2 e2 f2 => hm9 τ2 (e2.trans e1) (fun q q0 q1 => (f2 q q0 q1).trans (f1 q q0))⟩)
  · rw [jo1]
    refine qa_nz ?_
    refine qa_Zh 0 rfl rfl rfl rfl rfl (fun q9 => ?_)
    show qa_W _ _ _ _ _ 12 _ _ _
    refine qa_astore_n (L' := [(0, _), (1, _), (2, _), (3, _)]) (pc' := 13) ⟨rfl, rfl⟩ rfl rfl ?_
    refine qa_iconst (pc' := 14) ⟨rfl, rfl⟩ ?_
    refine qa_ireturn rfl rfl rfl (hQ _ _ ⟨1, y9, rfl, ⟨by decide, by decide⟩, hs9, fun q hq => hf9 q (by omega), ⟨_, ho9, fun h => absurd h (by decide)⟩, hm9⟩)
theorem l_setCue {E : qa_V} {σ : qa_S} {c : Nat} {Z : Nat → Nat} {B : Int} {N : qa_M} {as : List Value} {n : Nat → Int} {p : Int} {q : Int}  (hlo : E.1 ≤ c) (hsz : c + 290 ≤ σ.2) (hc : σ.1 c = some (qa_CoF c n)) {a0 : Int → Int} (ho : σ.1 (c + 288) = some (qa_la 1 a0)) (hT : qa_T E qm_C_setCue 1 6 [.ref c, .int (qa_i p), .int (qa_i q)] σ (jC E c Z B N as [0, 1, 2] Value.int σ)) : qa_T E qm_L_setCue 64 8000 [.ref c, .int (qa_i p), .int (qa_i q), .ref (c + 288)] σ (jL E c Z B N as Value.int Int32.toInt σ) := by
  refine qa_enterHQ (by decide) rfl qm_L_setCue_ok rfl rfl (fun Q9 hQ => ?_)
  refine qa_aload_n (pc' := 1) ⟨rfl, rfl⟩ rfl ?_
  refine qa_iconst (pc' := 2) ⟨rfl, rfl⟩ ?_
  refine qa_aload_n (pc' := 3) ⟨rfl, rfl⟩ rfl ?_
  refine qa_iload_n (pc' := 4) ⟨rfl, rfl⟩ rfl ?_
  refine qa_iload_n (pc' := 5) ⟨rfl, rfl⟩ rfl ?_
  refine qa_callV rfl qf_C_setCue ql_0_107 hT hc rfl rfl rfl (qa_lt9 rfl) (qa_le9 rfl) (qa_le9 rfl) (qa_le9 rfl) (fun o9 τ9 hq9 => ?_)
  obtain ⟨k9, y9, rfl, hk9, hs9, hf9, hm9⟩ := hq9
  have ho9 := (hf9 (c + 288) (by omega)).trans ho
  have e0 : τ9.2 = τ9.2 := rfl
  rcases jk3 hk9 with rfl | rfl | rfl | rfl
  · rw [jo0]
    refine qa_nx (pc' := 8) (kc' := 63) (ks' := 7994) (st' := [_, _, _]) rfl rfl rfl rfl ?_
    obtain ⟨v9, hv9, rfl⟩ : ∃ v9 : Int, qa_in v9 ∧ y9 = qa_i v9 := ⟨y9.toInt, qa_i_in y9, (qa_i_of y9).symm⟩
    refine qa_i2l (pc' := 9) ⟨rfl, rfl⟩ hv9 ?_
    refine qa_lastore (pc' := 10) ⟨rfl, rfl⟩ ho9 (by omega) (by omega) ?_
    refine qa_gz (fun τ1 e1 w1 f1 => ?_)
    replace e0 := e1.trans e0
    refine qa_goto (pc' := 13) (tgt := 25) ⟨rfl, rfl⟩ rfl ?_
    refine qa_iconst (pc' := 26) ⟨rfl, rfl⟩ ?_
    refine qa_ireturn rfl rfl rfl (hQ _ _ ⟨0, qa_i v9, rfl, ⟨by decide, by decide⟩, by omega, fun q hq => (f1 q (by omega)).trans (hf9 q (by omega)), ⟨_, w1, fun _ => by rw [qa_up_eq]; exact (qa_i_toInt hv9).symm⟩, fun τ2 e2 f2 => hm9 τ2 (e2.trans e1) (fun q q0 q1 => (f2 q q0 q1).trans (f1 q q0))⟩)
  · rw [jo1]
    refine qa_nz ?_
    refine qa_Zh 0 rfl rfl rfl rfl rfl (fun q9 => ?_)
    show qa_W _ _ _ _ _ 13 _ _ _
    refine qa_astore (L' := [(0, _), (1, _), (2, _), (3, _), (4, _)]) (pc' := 15) ⟨rfl, rfl⟩ rfl rfl ?_
    refine qa_iconst (pc' := 16) ⟨rfl, rfl⟩ ?_
    refine qa_ireturn rfl rfl rfl (hQ _ _ ⟨1, y9, rfl, ⟨by decide, by decide⟩, hs9, fun q hq => hf9 q (by omega), ⟨_, ho9, fun h => absurd h (by decide)⟩, hm9⟩)
  · rw [jo2]
    refine qa_nz ?_
    refine qa_Zh 1 rfl rfl rfl rfl rfl (fun q9 => ?_)
    show qa_W _ _ _ _ _ 17 _ _ _
    refine qa_astore (L' := [(0, _), (1, _), (2, _), (3, _), (4, _)]) (pc' := 19) ⟨rfl, rfl⟩ rfl rfl ?_
    refine qa_iconst (pc' := 20) ⟨rfl, rfl⟩ ?_
    refine qa_ireturn rfl rfl rfl (hQ _ _ ⟨2, y9, rfl, ⟨by decide, by decide⟩, hs9, fun q hq => hf9 q (by omega), ⟨_, ho9, fun h => absurd h (by decide)⟩, hm9⟩)
  · rw [jo3]
    refine qa_nz ?_
    refine qa_Zh 2 rfl rfl rfl rfl rfl (fun q9 => ?_)
    show qa_W _ _ _ _ _ 21 _ _ _
    refine qa_astore (L' := [(0, _), (1, _), (2, _), (3, _), (4, _)]) (pc' := 23) ⟨rfl, rfl⟩ rfl rfl ?_
    refine qa_iconst (pc' := 24) ⟨rfl, rfl⟩ ?_
    refine qa_ireturn rfl rfl rfl (hQ _ _ ⟨3, y9, rfl, ⟨by decide, by decide⟩, hs9, fun q hq => hf9 q (by omega), ⟨_, ho9, fun h => absurd h (by decide)⟩, hm9⟩)
theorem l_removeCue {E : qa_V} {σ : qa_S} {c : Nat} {Z : Nat → Nat} {B : Int} {N : qa_M} {as : List Value} {n : Nat → Int} {p : Int}  (hlo : E.1 ≤ c) (hsz : c + 290 ≤ σ.2) (hc : σ.1 c = some (qa_CoF c n)) {a0 : Int → Int} (ho : σ.1 (c + 288) = some (qa_la 1 a0)) (hT : qa_T E qm_C_removeCue 1 6 [.ref c, .int (qa_i p)] σ (jC E c Z B N as [0, 2] Value.int σ)) : qa_T E qm_L_removeCue 64 8000 [.ref c, .int (qa_i p), .ref (c + 288)] σ (jL E c Z B N as Value.int Int32.toInt σ) := by
  refine qa_enterHQ (by decide) rfl qm_L_removeCue_ok rfl rfl (fun Q9 hQ => ?_)
  refine qa_aload_n (pc' := 1) ⟨rfl, rfl⟩ rfl ?_
  refine qa_iconst (pc' := 2) ⟨rfl, rfl⟩ ?_
  refine qa_aload_n (pc' := 3) ⟨rfl, rfl⟩ rfl ?_
  refine qa_iload_n (pc' := 4) ⟨rfl, rfl⟩ rfl ?_
  refine qa_callV rfl qf_C_removeCue ql_0_110 hT hc rfl rfl rfl (qa_lt9 rfl) (qa_le9 rfl) (qa_le9 rfl) (qa_le9 rfl) (fun o9 τ9 hq9 => ?_)
  obtain ⟨k9, y9, rfl, hk9, hs9, hf9, hm9⟩ := hq9
  have ho9 := (hf9 (c + 288) (by omega)).trans ho
  have e0 : τ9.2 = τ9.2 := rfl
  rcases jk2 hk9 with rfl | rfl | rfl
  · rw [jo0]
    refine qa_nx (pc' := 7) (kc' := 63) (ks' := 7994) (st' := [_, _, _]) rfl rfl rfl rfl ?_
    obtain ⟨v9, hv9, rfl⟩ : ∃ v9 : Int, qa_in v9 ∧ y9 = qa_i v9 := ⟨y9.toInt, qa_i_in y9, (qa_i_of y9).symm⟩
    refine qa_i2l (pc' := 8) ⟨rfl, rfl⟩ hv9 ?_
    refine qa_lastore (pc' := 9) ⟨rfl, rfl⟩ ho9 (by omega) (by omega) ?_
    refine qa_gz (fun τ1 e1 w1 f1 => ?_)
    replace e0 := e1.trans e0
    refine qa_goto (pc' := 12) (tgt := 18) ⟨rfl, rfl⟩ rfl ?_
    refine qa_iconst (pc' := 19) ⟨rfl, rfl⟩ ?_
    refine qa_ireturn rfl rfl rfl (hQ _ _ ⟨0, qa_i v9, rfl, ⟨by decide, by decide⟩, by omega, fun q hq => (f1 q (by omega)).trans (hf9 q (by omega)), ⟨_, w1, fun _ => by rw [qa_up_eq]; exact (qa_i_toInt hv9).symm⟩, fun τ2 e2 f2 => hm9 τ2 (e2.trans e1) (fun q q0 q1 => (f2 q q0 q1).trans (f1 q q0))⟩)
  · rw [jo1]
    refine qa_nz ?_
    refine qa_Zh 0 rfl rfl rfl rfl rfl (fun q9 => ?_)
    show qa_W _ _ _ _ _ 12 _ _ _
    refine qa_astore_n (L' := [(0, _), (1, _), (2, _), (3, _)]) (pc' := 13) ⟨rfl, rfl⟩ rfl rfl ?_
    refine qa_iconst (pc' := 14) ⟨rfl, rfl⟩ ?_
    refine qa_ireturn rfl rfl rfl (hQ _ _ ⟨1, y9, rfl, ⟨by decide, by decide⟩, hs9, fun q hq => hf9 q (by omega), ⟨_, ho9, fun h => absurd h (by decide)⟩, hm9⟩)
  · rw [jo2]
    refine qa_nz ?_
    refine qa_Zh 1 rfl rfl rfl rfl rfl (fun q9 => ?_)
    show qa_W _ _ _ _ _ 15 _ _ _
    refine qa_astore_n (L' := [(0, _), (1, _), (2, _), (3, _)]) (pc' := 16) ⟨rfl, rfl⟩ rfl rfl ?_
    refine qa_iconst (pc' := 17) ⟨rfl, rfl⟩ ?_
    refine qa_ireturn rfl rfl rfl (hQ _ _ ⟨2, y9, rfl, ⟨by decide, by decide⟩, hs9, fun q hq => hf9 q (by omega), ⟨_, ho9, fun h => absurd h (by decide)⟩, hm9⟩)
theorem l_cueOf {E : qa_V} {σ : qa_S} {c : Nat} {Z : Nat → Nat} {B : Int} {N : qa_M} {as : List Value} {n : Nat → Int} {p : Int}  (hlo : E.1 ≤ c) (hsz : c + 290 ≤ σ.2) (hc : σ.1 c = some (qa_CoF c n)) {a0 : Int → Int} (ho : σ.1 (c + 288) = some (qa_la 1 a0)) (hT : qa_T E qm_C_cueOf 4 24 [.ref c, .int (qa_i p)] σ (jC E c Z B N as [0, 3] Value.int σ)) : qa_T E qm_L_cueOf 64 8000 [.ref c, .int (qa_i p), .ref (c + 288)] σ (jL E c Z B N as Value.int Int32.toInt σ) := by
  refine qa_enterHQ (by decide) rfl qm_L_cueOf_ok rfl rfl (fun Q9 hQ => ?_)
  refine qa_aload_n (pc' := 1) ⟨rfl, rfl⟩ rfl ?_
  refine qa_iconst (pc' := 2) ⟨rfl, rfl⟩ ?_
  refine qa_aload_n (pc' := 3) ⟨rfl, rfl⟩ rfl ?_
  refine qa_iload_n (pc' := 4) ⟨rfl, rfl⟩ rfl ?_
  refine qa_callV rfl qf_C_cueOf ql_0_113 hT hc rfl rfl rfl (qa_lt9 rfl) (qa_le9 rfl) (qa_le9 rfl) (qa_le9 rfl) (fun o9 τ9 hq9 => ?_)
  obtain ⟨k9, y9, rfl, hk9, hs9, hf9, hm9⟩ := hq9
  have ho9 := (hf9 (c + 288) (by omega)).trans ho
  have e0 : τ9.2 = τ9.2 := rfl
  rcases jk2 hk9 with rfl | rfl | rfl
  · rw [jo0]
    refine qa_nx (pc' := 7) (kc' := 60) (ks' := 7976) (st' := [_, _, _]) rfl rfl rfl rfl ?_
    obtain ⟨v9, hv9, rfl⟩ : ∃ v9 : Int, qa_in v9 ∧ y9 = qa_i v9 := ⟨y9.toInt, qa_i_in y9, (qa_i_of y9).symm⟩
    refine qa_i2l (pc' := 8) ⟨rfl, rfl⟩ hv9 ?_
    refine qa_lastore (pc' := 9) ⟨rfl, rfl⟩ ho9 (by omega) (by omega) ?_
    refine qa_gz (fun τ1 e1 w1 f1 => ?_)
    replace e0 := e1.trans e0
    refine qa_goto (pc' := 12) (tgt := 18) ⟨rfl, rfl⟩ rfl ?_
    refine qa_iconst (pc' := 19) ⟨rfl, rfl⟩ ?_
    refine qa_ireturn rfl rfl rfl (hQ _ _ ⟨0, qa_i v9, rfl, ⟨by decide, by decide⟩, by omega, fun q hq => (f1 q (by omega)).trans (hf9 q (by omega)), ⟨_, w1, fun _ => by rw [qa_up_eq]; exact (qa_i_toInt hv9).symm⟩, fun τ2 e2 f2 => hm9 τ2 (e2.trans e1) (fun q q0 q1 => (f2 q q0 q1).trans (f1 q q0))⟩)
  · rw [jo1]
    refine qa_nz ?_
    refine qa_Zh 0 rfl rfl rfl rfl rfl (fun q9 => ?_)
    show qa_W _ _ _ _ _ 12 _ _ _
    refine qa_astore_n (L' := [(0, _), (1, _), (2, _), (3, _)]) (pc' := 13) ⟨rfl, rfl⟩ rfl rfl ?_
    refine qa_iconst (pc' := 14) ⟨rfl, rfl⟩ ?_
    refine qa_ireturn rfl rfl rfl (hQ _ _ ⟨1, y9, rfl, ⟨by decide, by decide⟩, hs9, fun q hq => hf9 q (by omega), ⟨_, ho9, fun h => absurd h (by decide)⟩, hm9⟩)
  · rw [jo2]
    refine qa_nz ?_
    refine qa_Zh 1 rfl rfl rfl rfl rfl (fun q9 => ?_)
    show qa_W _ _ _ _ _ 15 _ _ _
    refine qa_astore_n (L' := [(0, _), (1, _), (2, _), (3, _)]) (pc' := 16) ⟨rfl, rfl⟩ rfl rfl ?_
    refine qa_iconst (pc' := 17) ⟨rfl, rfl⟩ ?_
    refine qa_ireturn rfl rfl rfl (hQ _ _ ⟨2, y9, rfl, ⟨by decide, by decide⟩, hs9, fun q hq => hf9 q (by omega), ⟨_, ho9, fun h => absurd h (by decide)⟩, hm9⟩)
theorem l_cueDepth {E : qa_V} {σ : qa_S} {c : Nat} {Z : Nat → Nat} {B : Int} {N : qa_M} {as : List Value} {n : Nat → Int} {p : Int}  (hlo : E.1 ≤ c) (hsz : c + 290 ≤ σ.2) (hc : σ.1 c = some (qa_CoF c n)) {a0 : Int → Int} (ho : σ.1 (c + 288) = some (qa_la 1 a0)) (hT : qa_T E qm_C_cueDepth 4 24 [.ref c, .int (qa_i p)] σ (jC E c Z B N as [0, 3] Value.int σ)) : qa_T E qm_L_cueDepth 64 8000 [.ref c, .int (qa_i p), .ref (c + 288)] σ (jL E c Z B N as Value.int Int32.toInt σ) := by
  refine qa_enterHQ (by decide) rfl qm_L_cueDepth_ok rfl rfl (fun Q9 hQ => ?_)
  refine qa_aload_n (pc' := 1) ⟨rfl, rfl⟩ rfl ?_
  refine qa_iconst (pc' := 2) ⟨rfl, rfl⟩ ?_
  refine qa_aload_n (pc' := 3) ⟨rfl, rfl⟩ rfl ?_
  refine qa_iload_n (pc' := 4) ⟨rfl, rfl⟩ rfl ?_
  refine qa_callV rfl qf_C_cueDepth ql_0_116 hT hc rfl rfl rfl (qa_lt9 rfl) (qa_le9 rfl) (qa_le9 rfl) (qa_le9 rfl) (fun o9 τ9 hq9 => ?_)
  obtain ⟨k9, y9, rfl, hk9, hs9, hf9, hm9⟩ := hq9
  have ho9 := (hf9 (c + 288) (by omega)).trans ho
  have e0 : τ9.2 = τ9.2 := rfl
  rcases jk2 hk9 with rfl | rfl | rfl
  · rw [jo0]
    refine qa_nx (pc' := 7) (kc' := 60) (ks' := 7976) (st' := [_, _, _]) rfl rfl rfl rfl ?_
    obtain ⟨v9, hv9, rfl⟩ : ∃ v9 : Int, qa_in v9 ∧ y9 = qa_i v9 := ⟨y9.toInt, qa_i_in y9, (qa_i_of y9).symm⟩
    refine qa_i2l (pc' := 8) ⟨rfl, rfl⟩ hv9 ?_
    refine qa_lastore (pc' := 9) ⟨rfl, rfl⟩ ho9 (by omega) (by omega) ?_
    refine qa_gz (fun τ1 e1 w1 f1 => ?_)
    replace e0 := e1.trans e0
    refine qa_goto (pc' := 12) (tgt := 18) ⟨rfl, rfl⟩ rfl ?_
    refine qa_iconst (pc' := 19) ⟨rfl, rfl⟩ ?_
    refine qa_ireturn rfl rfl rfl (hQ _ _ ⟨0, qa_i v9, rfl, ⟨by decide, by decide⟩, by omega, fun q hq => (f1 q (by omega)).trans (hf9 q (by omega)), ⟨_, w1, fun _ => by rw [qa_up_eq]; exact (qa_i_toInt hv9).symm⟩, fun τ2 e2 f2 => hm9 τ2 (e2.trans e1) (fun q q0 q1 => (f2 q q0 q1).trans (f1 q q0))⟩)
  · rw [jo1]
    refine qa_nz ?_
    refine qa_Zh 0 rfl rfl rfl rfl rfl (fun q9 => ?_)
    show qa_W _ _ _ _ _ 12 _ _ _
    refine qa_astore_n (L' := [(0, _), (1, _), (2, _), (3, _)]) (pc' := 13) ⟨rfl, rfl⟩ rfl rfl ?_
    refine qa_iconst (pc' := 14) ⟨rfl, rfl⟩ ?_
    refine qa_ireturn rfl rfl rfl (hQ _ _ ⟨1, y9, rfl, ⟨by decide, by decide⟩, hs9, fun q hq => hf9 q (by omega), ⟨_, ho9, fun h => absurd h (by decide)⟩, hm9⟩)
  · rw [jo2]
    refine qa_nz ?_
    refine qa_Zh 1 rfl rfl rfl rfl rfl (fun q9 => ?_)
    show qa_W _ _ _ _ _ 15 _ _ _
    refine qa_astore_n (L' := [(0, _), (1, _), (2, _), (3, _)]) (pc' := 16) ⟨rfl, rfl⟩ rfl rfl ?_
    refine qa_iconst (pc' := 17) ⟨rfl, rfl⟩ ?_
    refine qa_ireturn rfl rfl rfl (hQ _ _ ⟨2, y9, rfl, ⟨by decide, by decide⟩, hs9, fun q hq => hf9 q (by omega), ⟨_, ho9, fun h => absurd h (by decide)⟩, hm9⟩)
theorem l_circleLength {E : qa_V} {σ : qa_S} {c : Nat} {Z : Nat → Nat} {B : Int} {N : qa_M} {as : List Value} {n : Nat → Int} {p : Int}  (hlo : E.1 ≤ c) (hsz : c + 290 ≤ σ.2) (hc : σ.1 c = some (qa_CoF c n)) {a0 : Int → Int} (ho : σ.1 (c + 288) = some (qa_la 1 a0)) (hT : qa_T E qm_C_circleLength 4 24 [.ref c, .int (qa_i p)] σ (jC E c Z B N as [0] Value.int σ)) : qa_T E qm_L_circleLength 64 8000 [.ref c, .int (qa_i p), .ref (c + 288)] σ (jL E c Z B N as Value.int Int32.toInt σ) := by
  refine qa_enterHQ (by decide) rfl qm_L_circleLength_ok rfl rfl (fun Q9 hQ => ?_)
  refine qa_aload_n (pc' := 1) ⟨rfl, rfl⟩ rfl ?_
  refine qa_iconst (pc' := 2) ⟨rfl, rfl⟩ ?_
  refine qa_aload_n (pc' := 3) ⟨rfl, rfl⟩ rfl ?_
  refine qa_iload_n (pc' := 4) ⟨rfl, rfl⟩ rfl ?_
  refine qa_callV rfl qf_C_circleLength ql_0_119 hT hc rfl rfl rfl (qa_lt9 rfl) (qa_le9 rfl) (qa_le9 rfl) (qa_le9 rfl) (fun o9 τ9 hq9 => ?_)
  obtain ⟨k9, y9, rfl, hk9, hs9, hf9, hm9⟩ := hq9
  have ho9 := (hf9 (c + 288) (by omega)).trans ho
  have e0 : τ9.2 = τ9.2 := rfl
  rcases jk1 hk9 with rfl | rfl
  · rw [jo0]
    refine qa_nx (pc' := 7) (kc' := 60) (ks' := 7976) (st' := [_, _, _]) rfl rfl rfl rfl ?_
    obtain ⟨v9, hv9, rfl⟩ : ∃ v9 : Int, qa_in v9 ∧ y9 = qa_i v9 := ⟨y9.toInt, qa_i_in y9, (qa_i_of y9).symm⟩
    refine qa_i2l (pc' := 8) ⟨rfl, rfl⟩ hv9 ?_
    refine qa_lastore (pc' := 9) ⟨rfl, rfl⟩ ho9 (by omega) (by omega) ?_
    refine qa_gz (fun τ1 e1 w1 f1 => ?_)
    replace e0 := e1.trans e0
    refine qa_goto (pc' := 12) (tgt := 15) ⟨rfl, rfl⟩ rfl ?_
    refine qa_iconst (pc' := 16) ⟨rfl, rfl⟩ ?_
    refine qa_ireturn rfl rfl rfl (hQ _ _ ⟨0, qa_i v9, rfl, ⟨by decide, by decide⟩, by omega, fun q hq => (f1 q (by omega)).trans (hf9 q (by omega)), ⟨_, w1, fun _ => by rw [qa_up_eq]; exact (qa_i_toInt hv9).symm⟩, fun τ2 e2 f2 => hm9 τ2 (e2.trans e1) (fun q q0 q1 => (f2 q q0 q1).trans (f1 q q0))⟩)
  · rw [jo1]
    refine qa_nz ?_
    refine qa_Zh 0 rfl rfl rfl rfl rfl (fun q9 => ?_)
    show qa_W _ _ _ _ _ 12 _ _ _
    refine qa_astore_n (L' := [(0, _), (1, _), (2, _), (3, _)]) (pc' := 13) ⟨rfl, rfl⟩ rfl rfl ?_
    refine qa_iconst (pc' := 14) ⟨rfl, rfl⟩ ?_
    refine qa_ireturn rfl rfl rfl (hQ _ _ ⟨1, y9, rfl, ⟨by decide, by decide⟩, hs9, fun q hq => hf9 q (by omega), ⟨_, ho9, fun h => absurd h (by decide)⟩, hm9⟩)
theorem l_circleLengthByMarks {E : qa_V} {σ : qa_S} {c : Nat} {Z : Nat → Nat} {B : Int} {N : qa_M} {as : List Value} {n : Nat → Int} {p : Int}  (hlo : E.1 ≤ c) (hsz : c + 290 ≤ σ.2) (hc : σ.1 c = some (qa_CoF c n)) {a0 : Int → Int} (ho : σ.1 (c + 288) = some (qa_la 1 a0)) (hT : qa_T E qm_C_circleLengthByMarks 4 24 [.ref c, .int (qa_i p)] σ (jC E c Z B N as [0] Value.int σ)) : qa_T E qm_L_circleLengthByMarks 64 8000 [.ref c, .int (qa_i p), .ref (c + 288)] σ (jL E c Z B N as Value.int Int32.toInt σ) := by
  refine qa_enterHQ (by decide) rfl qm_L_circleLengthByMarks_ok rfl rfl (fun Q9 hQ => ?_)
  refine qa_aload_n (pc' := 1) ⟨rfl, rfl⟩ rfl ?_
  refine qa_iconst (pc' := 2) ⟨rfl, rfl⟩ ?_
  refine qa_aload_n (pc' := 3) ⟨rfl, rfl⟩ rfl ?_
  refine qa_iload_n (pc' := 4) ⟨rfl, rfl⟩ rfl ?_
  refine qa_callV rfl qf_C_circleLengthByMarks ql_0_122 hT hc rfl rfl rfl (qa_lt9 rfl) (qa_le9 rfl) (qa_le9 rfl) (qa_le9 rfl) (fun o9 τ9 hq9 => ?_)
  obtain ⟨k9, y9, rfl, hk9, hs9, hf9, hm9⟩ := hq9
  have ho9 := (hf9 (c + 288) (by omega)).trans ho
  have e0 : τ9.2 = τ9.2 := rfl
  rcases jk1 hk9 with rfl | rfl
  · rw [jo0]
    refine qa_nx (pc' := 7) (kc' := 60) (ks' := 7976) (st' := [_, _, _]) rfl rfl rfl rfl ?_
    obtain ⟨v9, hv9, rfl⟩ : ∃ v9 : Int, qa_in v9 ∧ y9 = qa_i v9 := ⟨y9.toInt, qa_i_in y9, (qa_i_of y9).symm⟩
    refine qa_i2l (pc' := 8) ⟨rfl, rfl⟩ hv9 ?_
    refine qa_lastore (pc' := 9) ⟨rfl, rfl⟩ ho9 (by omega) (by omega) ?_
    refine qa_gz (fun τ1 e1 w1 f1 => ?_)
    replace e0 := e1.trans e0
    refine qa_goto (pc' := 12) (tgt := 15) ⟨rfl, rfl⟩ rfl ?_
    refine qa_iconst (pc' := 16) ⟨rfl, rfl⟩ ?_
    refine qa_ireturn rfl rfl rfl (hQ _ _ ⟨0, qa_i v9, rfl, ⟨by decide, by decide⟩, by omega, fun q hq => (f1 q (by omega)).trans (hf9 q (by omega)), ⟨_, w1, fun _ => by rw [qa_up_eq]; exact (qa_i_toInt hv9).symm⟩, fun τ2 e2 f2 => hm9 τ2 (e2.trans e1) (fun q q0 q1 => (f2 q q0 q1).trans (f1 q q0))⟩)
  · rw [jo1]
    refine qa_nz ?_
    refine qa_Zh 0 rfl rfl rfl rfl rfl (fun q9 => ?_)
    show qa_W _ _ _ _ _ 12 _ _ _
    refine qa_astore_n (L' := [(0, _), (1, _), (2, _), (3, _)]) (pc' := 13) ⟨rfl, rfl⟩ rfl rfl ?_
    refine qa_iconst (pc' := 14) ⟨rfl, rfl⟩ ?_
    refine qa_ireturn rfl rfl rfl (hQ _ _ ⟨1, y9, rfl, ⟨by decide, by decide⟩, hs9, fun q hq => hf9 q (by omega), ⟨_, ho9, fun h => absurd h (by decide)⟩, hm9⟩)
theorem l_setBar {E : qa_V} {σ : qa_S} {c : Nat} {Z : Nat → Nat} {B : Int} {N : qa_M} {as : List Value} {n : Nat → Int} {p : Int}  (hlo : E.1 ≤ c) (hsz : c + 290 ≤ σ.2) (hc : σ.1 c = some (qa_CoF c n)) {a0 : Int → Int} (ho : σ.1 (c + 288) = some (qa_la 1 a0)) (hT : qa_T E qm_C_setBar 1 6 [.ref c, .int (qa_i p)] σ (jC E c Z B N as [1] Value.int σ)) : qa_T E qm_L_setBar 64 8000 [.ref c, .int (qa_i p), .ref (c + 288)] σ (jL E c Z B N as Value.int Int32.toInt σ) := by
  refine qa_enterHQ (by decide) rfl qm_L_setBar_ok rfl rfl (fun Q9 hQ => ?_)
  refine qa_aload_n (pc' := 1) ⟨rfl, rfl⟩ rfl ?_
  refine qa_iconst (pc' := 2) ⟨rfl, rfl⟩ ?_
  refine qa_aload_n (pc' := 3) ⟨rfl, rfl⟩ rfl ?_
  refine qa_iload_n (pc' := 4) ⟨rfl, rfl⟩ rfl ?_
  refine qa_callV rfl qf_C_setBar ql_0_125 hT hc rfl rfl rfl (qa_lt9 rfl) (qa_le9 rfl) (qa_le9 rfl) (qa_le9 rfl) (fun o9 τ9 hq9 => ?_)
  obtain ⟨k9, y9, rfl, hk9, hs9, hf9, hm9⟩ := hq9
  have ho9 := (hf9 (c + 288) (by omega)).trans ho
  have e0 : τ9.2 = τ9.2 := rfl
  rcases jk1 hk9 with rfl | rfl
  · rw [jo0]
    refine qa_nx (pc' := 7) (kc' := 63) (ks' := 7994) (st' := [_, _, _]) rfl rfl rfl rfl ?_
    obtain ⟨v9, hv9, rfl⟩ : ∃ v9 : Int, qa_in v9 ∧ y9 = qa_i v9 := ⟨y9.toInt, qa_i_in y9, (qa_i_of y9).symm⟩
    refine qa_i2l (pc' := 8) ⟨rfl, rfl⟩ hv9 ?_
    refine qa_lastore (pc' := 9) ⟨rfl, rfl⟩ ho9 (by omega) (by omega) ?_
    refine qa_gz (fun τ1 e1 w1 f1 => ?_)
    replace e0 := e1.trans e0
    refine qa_goto (pc' := 12) (tgt := 15) ⟨rfl, rfl⟩ rfl ?_
    refine qa_iconst (pc' := 16) ⟨rfl, rfl⟩ ?_
    refine qa_ireturn rfl rfl rfl (hQ _ _ ⟨0, qa_i v9, rfl, ⟨by decide, by decide⟩, by omega, fun q hq => (f1 q (by omega)).trans (hf9 q (by omega)), ⟨_, w1, fun _ => by rw [qa_up_eq]; exact (qa_i_toInt hv9).symm⟩, fun τ2 e2 f2 => hm9 τ2 (e2.trans e1) (fun q q0 q1 => (f2 q q0 q1).trans (f1 q q0))⟩)
  · rw [jo1]
    refine qa_nz ?_
    refine qa_Zh 0 rfl rfl rfl rfl rfl (fun q9 => ?_)
    show qa_W _ _ _ _ _ 12 _ _ _
    refine qa_astore_n (L' := [(0, _), (1, _), (2, _), (3, _)]) (pc' := 13) ⟨rfl, rfl⟩ rfl rfl ?_
    refine qa_iconst (pc' := 14) ⟨rfl, rfl⟩ ?_
    refine qa_ireturn rfl rfl rfl (hQ _ _ ⟨1, y9, rfl, ⟨by decide, by decide⟩, hs9, fun q hq => hf9 q (by omega), ⟨_, ho9, fun h => absurd h (by decide)⟩, hm9⟩)
theorem l_barsOf {E : qa_V} {σ : qa_S} {c : Nat} {Z : Nat → Nat} {B : Int} {N : qa_M} {as : List Value} {n : Nat → Int} {p : Int}  (hlo : E.1 ≤ c) (hsz : c + 290 ≤ σ.2) (hc : σ.1 c = some (qa_CoF c n)) {a0 : Int → Int} (ho : σ.1 (c + 288) = some (qa_la 1 a0)) (hT : qa_T E qm_C_barsOf 4 24 [.ref c, .int (qa_i p)] σ (jC E c Z B N as [0, 3] Value.int σ)) : qa_T E qm_L_barsOf 64 8000 [.ref c, .int (qa_i p), .ref (c + 288)] σ (jL E c Z B N as Value.int Int32.toInt σ) := by
  refine qa_enterHQ (by decide) rfl qm_L_barsOf_ok rfl rfl (fun Q9 hQ => ?_)
  refine qa_aload_n (pc' := 1) ⟨rfl, rfl⟩ rfl ?_
  refine qa_iconst (pc' := 2) ⟨rfl, rfl⟩ ?_
  refine qa_aload_n (pc' := 3) ⟨rfl, rfl⟩ rfl ?_
  refine qa_iload_n (pc' := 4) ⟨rfl, rfl⟩ rfl ?_
  refine qa_callV rfl qf_C_barsOf ql_0_128 hT hc rfl rfl rfl (qa_lt9 rfl) (qa_le9 rfl) (qa_le9 rfl) (qa_le9 rfl) (fun o9 τ9 hq9 => ?_)
  obtain ⟨k9, y9, rfl, hk9, hs9, hf9, hm9⟩ := hq9
  have ho9 := (hf9 (c + 288) (by omega)).trans ho
  have e0 : τ9.2 = τ9.2 := rfl
  rcases jk2 hk9 with rfl | rfl | rfl
  · rw [jo0]
    refine qa_nx (pc' := 7) (kc' := 60) (ks' := 7976) (st' := [_, _, _]) rfl rfl rfl rfl ?_
    obtain ⟨v9, hv9, rfl⟩ : ∃ v9 : Int, qa_in v9 ∧ y9 = qa_i v9 := ⟨y9.toInt, qa_i_in y9, (qa_i_of y9).symm⟩
    refine qa_i2l (pc' := 8) ⟨rfl, rfl⟩ hv9 ?_
    refine qa_lastore (pc' := 9) ⟨rfl, rfl⟩ ho9 (by omega) (by omega) ?_
    refine qa_gz (fun τ1 e1 w1 f1 => ?_)
    replace e0 := e1.trans e0
    refine qa_goto (pc' := 12) (tgt := 18) ⟨rfl, rfl⟩ rfl ?_
    refine qa_iconst (pc' := 19) ⟨rfl, rfl⟩ ?_
    refine qa_ireturn rfl rfl rfl (hQ _ _ ⟨0, qa_i v9, rfl, ⟨by decide, by decide⟩, by omega, fun q hq => (f1 q (by omega)).trans (hf9 q (by omega)), ⟨_, w1, fun _ => by rw [qa_up_eq]; exact (qa_i_toInt hv9).symm⟩, fun τ2 e2 f2 => hm9 τ2 (e2.trans e1) (fun q q0 q1 => (f2 q q0 q1).trans (f1 q q0))⟩)
  · rw [jo1]
    refine qa_nz ?_
    refine qa_Zh 0 rfl rfl rfl rfl rfl (fun q9 => ?_)
    show qa_W _ _ _ _ _ 12 _ _ _
    refine qa_astore_n (L' := [(0, _), (1, _), (2, _), (3, _)]) (pc' := 13) ⟨rfl, rfl⟩ rfl rfl ?_
    refine qa_iconst (pc' := 14) ⟨rfl, rfl⟩ ?_
    refine qa_ireturn rfl rfl rfl (hQ _ _ ⟨1, y9, rfl, ⟨by decide, by decide⟩, hs9, fun q hq => hf9 q (by omega), ⟨_, ho9, fun h => absurd h (by decide)⟩, hm9⟩)
  · rw [jo2]
    refine qa_nz ?_
    refine qa_Zh 1 rfl rfl rfl rfl rfl (fun q9 => ?_)
    show qa_W _ _ _ _ _ 15 _ _ _
    refine qa_astore_n (L' := [(0, _), (1, _), (2, _), (3, _)]) (pc' := 16) ⟨rfl, rfl⟩ rfl rfl ?_
    refine qa_iconst (pc' := 17) ⟨rfl, rfl⟩ ?_
    refine qa_ireturn rfl rfl rfl (hQ _ _ ⟨2, y9, rfl, ⟨by decide, by decide⟩, hs9, fun q hq => hf9 q (by omega), ⟨_, ho9, fun h => absurd h (by decide)⟩, hm9⟩)
theorem l_setTempo {E : qa_V} {σ : qa_S} {c : Nat} {Z : Nat → Nat} {B : Int} {N : qa_M} {as : List Value} {n : Nat → Int} {p : Int} {q : Int}  (hlo : E.1 ≤ c) (hsz : c + 290 ≤ σ.2) (hc : σ.1 c = some (qa_CoF c n)) {a0 : Int → Int} (ho : σ.1 (c + 288) = some (qa_la 1 a0)) (hT : qa_T E qm_C_setTempo 1 6 [.ref c, .int (qa_i p), .int (qa_i q)] σ (jC E c Z B N as [1, 2] Value.int σ)) : qa_T E qm_L_setTempo 64 8000 [.ref c, .int (qa_i p), .int (qa_i q), .ref (c + 288)] σ (jL E c Z B N as Value.int Int32.toInt σ) := by
  refine qa_enterHQ (by decide) rfl qm_L_setTempo_ok rfl rfl (fun Q9 hQ => ?_)
  refine qa_aload_n (pc' := 1) ⟨rfl, rfl⟩ rfl ?_
  refine qa_iconst (pc' := 2) ⟨rfl, rfl⟩ ?_
  refine qa_aload_n (pc' := 3) ⟨rfl, rfl⟩ rfl ?_
  refine qa_iload_n (pc' := 4) ⟨rfl, rfl⟩ rfl ?_
  refine qa_iload_n (pc' := 5) ⟨rfl, rfl⟩ rfl ?_
  refine qa_callV rfl qf_C_setTempo ql_0_131 hT hc rfl rfl rfl (qa_lt9 rfl) (qa_le9 rfl) (qa_le9 rfl) (qa_le9 rfl) (fun o9 τ9 hq9 => ?_)
  obtain ⟨k9, y9, rfl, hk9, hs9, hf9, hm9⟩ := hq9
  have ho9 := (hf9 (c + 288) (by omega)).trans ho
  have e0 : τ9.2 = τ9.2 := rfl
  rcases jk2 hk9 with rfl | rfl | rfl
  · rw [jo0]
    refine qa_nx (pc' := 8) (kc' := 63) (ks' := 7994) (st' := [_, _, _]) rfl rfl rfl rfl ?_
    obtain ⟨v9, hv9, rfl⟩ : ∃ v9 : Int, qa_in v9 ∧ y9 = qa_i v9 := ⟨y9.toInt, qa_i_in y9, (qa_i_of y9).symm⟩
    refine qa_i2l (pc' := 9) ⟨rfl, rfl⟩ hv9 ?_
    refine qa_lastore (pc' := 10) ⟨rfl, rfl⟩ ho9 (by omega) (by omega) ?_
    refine qa_gz (fun τ1 e1 w1 f1 => ?_)
    replace e0 := e1.trans e0
    refine qa_goto (pc' := 13) (tgt := 21) ⟨rfl, rfl⟩ rfl ?_
    refine qa_iconst (pc' := 22) ⟨rfl, rfl⟩ ?_
    refine qa_ireturn rfl rfl rfl (hQ _ _ ⟨0, qa_i v9, rfl, ⟨by decide, by decide⟩, by omega, fun q hq => (f1 q (by omega)).trans (hf9 q (by omega)), ⟨_, w1, fun _ => by rw [qa_up_eq]; exact (qa_i_toInt hv9).symm⟩, fun τ2 e2 f2 => hm9 τ2 (e2.trans e1) (fun q q0 q1 => (f2 q q0 q1).trans (f1 q q0))⟩)
  · rw [jo1]
    refine qa_nz ?_
    refine qa_Zh 0 rfl rfl rfl rfl rfl (fun q9 => ?_)
    show qa_W _ _ _ _ _ 13 _ _ _
    refine qa_astore (L' := [(0, _), (1, _), (2, _), (3, _), (4, _)]) (pc' := 15) ⟨rfl, rfl⟩ rfl rfl ?_
    refine qa_iconst (pc' := 16) ⟨rfl, rfl⟩ ?_
    refine qa_ireturn rfl rfl rfl (hQ _ _ ⟨1, y9, rfl, ⟨by decide, by decide⟩, hs9, fun q hq => hf9 q (by omega), ⟨_, ho9, fun h => absurd h (by decide)⟩, hm9⟩)
  · rw [jo2]
    refine qa_nz ?_
    refine qa_Zh 1 rfl rfl rfl rfl rfl (fun q9 => ?_)
    show qa_W _ _ _ _ _ 17 _ _ _
    refine qa_astore (L' := [(0, _), (1, _), (2, _), (3, _), (4, _)]) (pc' := 19) ⟨rfl, rfl⟩ rfl rfl ?_
    refine qa_iconst (pc' := 20) ⟨rfl, rfl⟩ ?_
    refine qa_ireturn rfl rfl rfl (hQ _ _ ⟨2, y9, rfl, ⟨by decide, by decide⟩, hs9, fun q hq => hf9 q (by omega), ⟨_, ho9, fun h => absurd h (by decide)⟩, hm9⟩)
theorem l_tempoAt {E : qa_V} {σ : qa_S} {c : Nat} {Z : Nat → Nat} {B : Int} {N : qa_M} {as : List Value} {n : Nat → Int} {p : Int}  (hlo : E.1 ≤ c) (hsz : c + 290 ≤ σ.2) (hc : σ.1 c = some (qa_CoF c n)) {a0 : Int → Int} (ho : σ.1 (c + 288) = some (qa_la 1 a0)) (hT : qa_T E qm_C_tempoAt 4 24 [.ref c, .int (qa_i p)] σ (jC E c Z B N as [1] Value.int σ)) : qa_T E qm_L_tempoAt 64 8000 [.ref c, .int (qa_i p), .ref (c + 288)] σ (jL E c Z B N as Value.int Int32.toInt σ) := by
  refine qa_enterHQ (by decide) rfl qm_L_tempoAt_ok rfl rfl (fun Q9 hQ => ?_)
  refine qa_aload_n (pc' := 1) ⟨rfl, rfl⟩ rfl ?_
  refine qa_iconst (pc' := 2) ⟨rfl, rfl⟩ ?_
  refine qa_aload_n (pc' := 3) ⟨rfl, rfl⟩ rfl ?_
  refine qa_iload_n (pc' := 4) ⟨rfl, rfl⟩ rfl ?_
  refine qa_callV rfl qf_C_tempoAt ql_0_134 hT hc rfl rfl rfl (qa_lt9 rfl) (qa_le9 rfl) (qa_le9 rfl) (qa_le9 rfl) (fun o9 τ9 hq9 => ?_)
  obtain ⟨k9, y9, rfl, hk9, hs9, hf9, hm9⟩ := hq9
  have ho9 := (hf9 (c + 288) (by omega)).trans ho
  have e0 : τ9.2 = τ9.2 := rfl
  rcases jk1 hk9 with rfl | rfl
  · rw [jo0]
    refine qa_nx (pc' := 7) (kc' := 60) (ks' := 7976) (st' := [_, _, _]) rfl rfl rfl rfl ?_
    obtain ⟨v9, hv9, rfl⟩ : ∃ v9 : Int, qa_in v9 ∧ y9 = qa_i v9 := ⟨y9.toInt, qa_i_in y9, (qa_i_of y9).symm⟩
    refine qa_i2l (pc' := 8) ⟨rfl, rfl⟩ hv9 ?_
    refine qa_lastore (pc' := 9) ⟨rfl, rfl⟩ ho9 (by omega) (by omega) ?_
    refine qa_gz (fun τ1 e1 w1 f1 => ?_)
    replace e0 := e1.trans e0
    refine qa_goto (pc' := 12) (tgt := 15) ⟨rfl, rfl⟩ rfl ?_
    refine qa_iconst (pc' := 16) ⟨rfl, rfl⟩ ?_
    refine qa_ireturn rfl rfl rfl (hQ _ _ ⟨0, qa_i v9, rfl, ⟨by decide, by decide⟩, by omega, fun q hq => (f1 q (by omega)).trans (hf9 q (by omega)), ⟨_, w1, fun _ => by rw [qa_up_eq]; exact (qa_i_toInt hv9).symm⟩, fun τ2 e2 f2 => hm9 τ2 (e2.trans e1) (fun q q0 q1 => (f2 q q0 q1).trans (f1 q q0))⟩)
  · rw [jo1]
    refine qa_nz ?_
    refine qa_Zh 0 rfl rfl rfl rfl rfl (fun q9 => ?_)
    show qa_W _ _ _ _ _ 12 _ _ _
    refine qa_astore_n (L' := [(0, _), (1, _), (2, _), (3, _)]) (pc' := 13) ⟨rfl, rfl⟩ rfl rfl ?_
    refine qa_iconst (pc' := 14) ⟨rfl, rfl⟩ ?_
    refine qa_ireturn rfl rfl rfl (hQ _ _ ⟨1, y9, rfl, ⟨by decide, by decide⟩, hs9, fun q hq => hf9 q (by omega), ⟨_, ho9, fun h => absurd h (by decide)⟩, hm9⟩)
theorem l_startOfBar {E : qa_V} {σ : qa_S} {c : Nat} {Z : Nat → Nat} {B : Int} {N : qa_M} {as : List Value} {n : Nat → Int} {p : Int}  (hlo : E.1 ≤ c) (hsz : c + 290 ≤ σ.2) (hc : σ.1 c = some (qa_CoF c n)) {a0 : Int → Int} (ho : σ.1 (c + 288) = some (qa_la 1 a0)) (hT : qa_T E qm_C_startOfBar 4 24 [.ref c, .int (qa_i p)] σ (jC E c Z B N as [1] (fun v : Int => Value.long (qa_l v)) σ)) : qa_T E qm_L_startOfBar 64 8000 [.ref c, .int (qa_i p), .ref (c + 288)] σ (jL E c Z B N as (fun v : Int => Value.long (qa_l v)) (fun v : Int => (qa_l v).toInt) σ) := by
  refine qa_enterHQ (by decide) rfl qm_L_startOfBar_ok rfl rfl (fun Q9 hQ => ?_)
  refine qa_aload_n (pc' := 1) ⟨rfl, rfl⟩ rfl ?_
  refine qa_iconst (pc' := 2) ⟨rfl, rfl⟩ ?_
  refine qa_aload_n (pc' := 3) ⟨rfl, rfl⟩ rfl ?_
  refine qa_iload_n (pc' := 4) ⟨rfl, rfl⟩ rfl ?_
  refine qa_callV rfl qf_C_startOfBar ql_0_137 hT hc rfl rfl rfl (qa_lt9 rfl) (qa_le9 rfl) (qa_le9 rfl) (qa_le9 rfl) (fun o9 τ9 hq9 => ?_)
  obtain ⟨k9, y9, rfl, hk9, hs9, hf9, hm9⟩ := hq9
  have ho9 := (hf9 (c + 288) (by omega)).trans ho
  have e0 : τ9.2 = τ9.2 := rfl
  rcases jk1 hk9 with rfl | rfl
  · rw [jo0]
    show qa_N _ _ _ _ _ _ _ _ (.inl (some (Value.long (qa_l y9)))) _
    rw [show qa_l y9 = qa_l ((qa_l y9).toInt) from (qa_l_of _).symm]
    refine qa_nx (pc' := 7) (kc' := 60) (ks' := 7976) (st' := [_, _, _]) rfl rfl rfl rfl ?_
    refine qa_lastore (pc' := 8) ⟨rfl, rfl⟩ ho9 (by omega) (by omega) ?_
    refine qa_gz (fun τ1 e1 w1 f1 => ?_)
    replace e0 := e1.trans e0
    refine qa_goto (pc' := 11) (tgt := 14) ⟨rfl, rfl⟩ rfl ?_
    refine qa_iconst (pc' := 15) ⟨rfl, rfl⟩ ?_
    refine qa_ireturn rfl rfl rfl (hQ _ _ ⟨0, y9, rfl, ⟨by decide, by decide⟩, by omega, fun q hq => (f1 q (by omega)).trans (hf9 q (by omega)), ⟨_, w1, fun _ => by rw [qa_up_eq]⟩, fun τ2 e2 f2 => hm9 τ2 (e2.trans e1) (fun q q0 q1 => (f2 q q0 q1).trans (f1 q q0))⟩)
  · rw [jo1]
    refine qa_nz ?_
    refine qa_Zh 0 rfl rfl rfl rfl rfl (fun q9 => ?_)
    show qa_W _ _ _ _ _ 11 _ _ _
    refine qa_astore_n (L' := [(0, _), (1, _), (2, _), (3, _)]) (pc' := 12) ⟨rfl, rfl⟩ rfl rfl ?_
    refine qa_iconst (pc' := 13) ⟨rfl, rfl⟩ ?_
    refine qa_ireturn rfl rfl rfl (hQ _ _ ⟨1, y9, rfl, ⟨by decide, by decide⟩, hs9, fun q hq => hf9 q (by omega), ⟨_, ho9, fun h => absurd h (by decide)⟩, hm9⟩)
theorem l_startOfBarByTempos {E : qa_V} {σ : qa_S} {c : Nat} {Z : Nat → Nat} {B : Int} {N : qa_M} {as : List Value} {n : Nat → Int} {p : Int}  (hlo : E.1 ≤ c) (hsz : c + 290 ≤ σ.2) (hc : σ.1 c = some (qa_CoF c n)) {a0 : Int → Int} (ho : σ.1 (c + 288) = some (qa_la 1 a0)) (hT : qa_T E qm_C_startOfBarByTempos 4 24 [.ref c, .int (qa_i p)] σ (jC E c Z B N as [1] (fun v : Int => Value.long (qa_l v)) σ)) : qa_T E qm_L_startOfBarByTempos 64 8000 [.ref c, .int (qa_i p), .ref (c + 288)] σ (jL E c Z B N as (fun v : Int => Value.long (qa_l v)) (fun v : Int => (qa_l v).toInt) σ) := by
  refine qa_enterHQ (by decide) rfl qm_L_startOfBarByTempos_ok rfl rfl (fun Q9 hQ => ?_)
  refine qa_aload_n (pc' := 1) ⟨rfl, rfl⟩ rfl ?_
  refine qa_iconst (pc' := 2) ⟨rfl, rfl⟩ ?_
  refine qa_aload_n (pc' := 3) ⟨rfl, rfl⟩ rfl ?_
  refine qa_iload_n (pc' := 4) ⟨rfl, rfl⟩ rfl ?_
  refine qa_callV rfl qf_C_startOfBarByTempos ql_0_140 hT hc rfl rfl rfl (qa_lt9 rfl) (qa_le9 rfl) (qa_le9 rfl) (qa_le9 rfl) (fun o9 τ9 hq9 => ?_)
  obtain ⟨k9, y9, rfl, hk9, hs9, hf9, hm9⟩ := hq9
  have ho9 := (hf9 (c + 288) (by omega)).trans ho
  have e0 : τ9.2 = τ9.2 := rfl
  rcases jk1 hk9 with rfl | rfl
  · rw [jo0]
    show qa_N _ _ _ _ _ _ _ _ (.inl (some (Value.long (qa_l y9)))) _
    rw [show qa_l y9 = qa_l ((qa_l y9).toInt) from (qa_l_of _).symm]
    refine qa_nx (pc' := 7) (kc' := 60) (ks' := 7976) (st' := [_, _, _]) rfl rfl rfl rfl ?_
    refine qa_lastore (pc' := 8) ⟨rfl, rfl⟩ ho9 (by omega) (by omega) ?_
    refine qa_gz (fun τ1 e1 w1 f1 => ?_)
    replace e0 := e1.trans e0
    refine qa_goto (pc' := 11) (tgt := 14) ⟨rfl, rfl⟩ rfl ?_
    refine qa_iconst (pc' := 15) ⟨rfl, rfl⟩ ?_
    refine qa_ireturn rfl rfl rfl (hQ _ _ ⟨0, y9, rfl, ⟨by decide, by decide⟩, by omega, fun q hq => (f1 q (by omega)).trans (hf9 q (by omega)), ⟨_, w1, fun _ => by rw [qa_up_eq]⟩, fun τ2 e2 f2 => hm9 τ2 (e2.trans e1) (fun q q0 q1 => (f2 q q0 q1).trans (f1 q q0))⟩)
  · rw [jo1]
    refine qa_nz ?_
    refine qa_Zh 0 rfl rfl rfl rfl rfl (fun q9 => ?_)
    show qa_W _ _ _ _ _ 11 _ _ _
    refine qa_astore_n (L' := [(0, _), (1, _), (2, _), (3, _)]) (pc' := 12) ⟨rfl, rfl⟩ rfl rfl ?_
    refine qa_iconst (pc' := 13) ⟨rfl, rfl⟩ ?_
    refine qa_ireturn rfl rfl rfl (hQ _ _ ⟨1, y9, rfl, ⟨by decide, by decide⟩, hs9, fun q hq => hf9 q (by omega), ⟨_, ho9, fun h => absurd h (by decide)⟩, hm9⟩)
theorem l_play {E : qa_V} {σ : qa_S} {c : Nat} {Z : Nat → Nat} {B : Int} {N : qa_M} {as : List Value} {n : Nat → Int} {p : Int}  (hlo : E.1 ≤ c) (hsz : c + 290 ≤ σ.2) (hc : σ.1 c = some (qa_CoF c n)) {a0 : Int → Int} (ho : σ.1 (c + 288) = some (qa_la 1 a0)) (hT : qa_T E qm_C_play 1 6 [.ref c, .int (qa_i p)] σ (jC E c Z B N as [1, 2] Value.int σ)) : qa_T E qm_L_play 64 8000 [.ref c, .int (qa_i p), .ref (c + 288)] σ (jL E c Z B N as Value.int Int32.toInt σ) := by
  refine qa_enterHQ (by decide) rfl qm_L_play_ok rfl rfl (fun Q9 hQ => ?_)
  refine qa_aload_n (pc' := 1) ⟨rfl, rfl⟩ rfl ?_
  refine qa_iconst (pc' := 2) ⟨rfl, rfl⟩ ?_
  refine qa_aload_n (pc' := 3) ⟨rfl, rfl⟩ rfl ?_
  refine qa_iload_n (pc' := 4) ⟨rfl, rfl⟩ rfl ?_
  refine qa_callV rfl qf_C_play ql_0_143 hT hc rfl rfl rfl (qa_lt9 rfl) (qa_le9 rfl) (qa_le9 rfl) (qa_le9 rfl) (fun o9 τ9 hq9 => ?_)
  obtain ⟨k9, y9, rfl, hk9, hs9, hf9, hm9⟩ := hq9
  have ho9 := (hf9 (c + 288) (by omega)).trans ho
  have e0 : τ9.2 = τ9.2 := rfl
  rcases jk2 hk9 with rfl | rfl | rfl
  · rw [jo0]
    refine qa_nx (pc' := 7) (kc' := 63) (ks' := 7994) (st' := [_, _, _]) rfl rfl rfl rfl ?_
    obtain ⟨v9, hv9, rfl⟩ : ∃ v9 : Int, qa_in v9 ∧ y9 = qa_i v9 := ⟨y9.toInt, qa_i_in y9, (qa_i_of y9).symm⟩
    refine qa_i2l (pc' := 8) ⟨rfl, rfl⟩ hv9 ?_
    refine qa_lastore (pc' := 9) ⟨rfl, rfl⟩ ho9 (by omega) (by omega) ?_
    refine qa_gz (fun τ1 e1 w1 f1 => ?_)
    replace e0 := e1.trans e0
    refine qa_goto (pc' := 12) (tgt := 18) ⟨rfl, rfl⟩ rfl ?_
    refine qa_iconst (pc' := 19) ⟨rfl, rfl⟩ ?_
    refine qa_ireturn rfl rfl rfl (hQ _ _ ⟨0, qa_i v9, rfl, ⟨by decide, by decide⟩, by omega, fun q hq => (f1 q (by omega)).trans (hf9 q (by omega)), ⟨_, w1, fun _ => by rw [qa_up_eq]; exact (qa_i_toInt hv9).symm⟩, fun τ2 e2 f2 => hm9 τ2 (e2.trans e1) (fun q q0 q1 => (f2 q q0 q1).trans (f1 q q0))⟩)
  · rw [jo1]
    refine qa_nz ?_
    refine qa_Zh 0 rfl rfl rfl rfl rfl (fun q9 => ?_)
    show qa_W _ _ _ _ _ 12 _ _ _
    refine qa_astore_n (L' := [(0, _), (1, _), (2, _), (3, _)]) (pc' := 13) ⟨rfl, rfl⟩ rfl rfl ?_
    refine qa_iconst (pc' := 14) ⟨rfl, rfl⟩ ?_
    refine qa_ireturn rfl rfl rfl (hQ _ _ ⟨1, y9, rfl, ⟨by decide, by decide⟩, hs9, fun q hq => hf9 q (by omega), ⟨_, ho9, fun h => absurd h (by decide)⟩, hm9⟩)
  · rw [jo2]
    refine qa_nz ?_
    refine qa_Zh 1 rfl rfl rfl rfl rfl (fun q9 => ?_)
    show qa_W _ _ _ _ _ 15 _ _ _
    refine qa_astore_n (L' := [(0, _), (1, _), (2, _), (3, _)]) (pc' := 16) ⟨rfl, rfl⟩ rfl rfl ?_
    refine qa_iconst (pc' := 17) ⟨rfl, rfl⟩ ?_
    refine qa_ireturn rfl rfl rfl (hQ _ _ ⟨2, y9, rfl, ⟨by decide, by decide⟩, hs9, fun q hq => hf9 q (by omega), ⟨_, ho9, fun h => absurd h (by decide)⟩, hm9⟩)
theorem l_soundedTicks {E : qa_V} {σ : qa_S} {c : Nat} {Z : Nat → Nat} {B : Int} {N : qa_M} {as : List Value} {n : Nat → Int} {p : Int}  (hlo : E.1 ≤ c) (hsz : c + 290 ≤ σ.2) (hc : σ.1 c = some (qa_CoF c n)) {a0 : Int → Int} (ho : σ.1 (c + 288) = some (qa_la 1 a0)) (hT : qa_T E qm_C_soundedTicks 4 24 [.ref c, .int (qa_i p)] σ (jC E c Z B N as [0] Value.int σ)) : qa_T E qm_L_soundedTicks 64 8000 [.ref c, .int (qa_i p), .ref (c + 288)] σ (jL E c Z B N as Value.int Int32.toInt σ) := by
  refine qa_enterHQ (by decide) rfl qm_L_soundedTicks_ok rfl rfl (fun Q9 hQ => ?_)
  refine qa_aload_n (pc' := 1) ⟨rfl, rfl⟩ rfl ?_
  refine qa_iconst (pc' := 2) ⟨rfl, rfl⟩ ?_
  refine qa_aload_n (pc' := 3) ⟨rfl, rfl⟩ rfl ?_
  refine qa_iload_n (pc' := 4) ⟨rfl, rfl⟩ rfl ?_
  refine qa_callV rfl qf_C_soundedTicks ql_0_146 hT hc rfl rfl rfl (qa_lt9 rfl) (qa_le9 rfl) (qa_le9 rfl) (qa_le9 rfl) (fun o9 τ9 hq9 => ?_)
  obtain ⟨k9, y9, rfl, hk9, hs9, hf9, hm9⟩ := hq9
  have ho9 := (hf9 (c + 288) (by omega)).trans ho
  have e0 : τ9.2 = τ9.2 := rfl
  rcases jk1 hk9 with rfl | rfl
  · rw [jo0]
    refine qa_nx (pc' := 7) (kc' := 60) (ks' := 7976) (st' := [_, _, _]) rfl rfl rfl rfl ?_
    obtain ⟨v9, hv9, rfl⟩ : ∃ v9 : Int, qa_in v9 ∧ y9 = qa_i v9 := ⟨y9.toInt, qa_i_in y9, (qa_i_of y9).symm⟩
    refine qa_i2l (pc' := 8) ⟨rfl, rfl⟩ hv9 ?_
    refine qa_lastore (pc' := 9) ⟨rfl, rfl⟩ ho9 (by omega) (by omega) ?_
    refine qa_gz (fun τ1 e1 w1 f1 => ?_)
    replace e0 := e1.trans e0
    refine qa_goto (pc' := 12) (tgt := 15) ⟨rfl, rfl⟩ rfl ?_
    refine qa_iconst (pc' := 16) ⟨rfl, rfl⟩ ?_
    refine qa_ireturn rfl rfl rfl (hQ _ _ ⟨0, qa_i v9, rfl, ⟨by decide, by decide⟩, by omega, fun q hq => (f1 q (by omega)).trans (hf9 q (by omega)), ⟨_, w1, fun _ => by rw [qa_up_eq]; exact (qa_i_toInt hv9).symm⟩, fun τ2 e2 f2 => hm9 τ2 (e2.trans e1) (fun q q0 q1 => (f2 q q0 q1).trans (f1 q q0))⟩)
  · rw [jo1]
    refine qa_nz ?_
    refine qa_Zh 0 rfl rfl rfl rfl rfl (fun q9 => ?_)
    show qa_W _ _ _ _ _ 12 _ _ _
    refine qa_astore_n (L' := [(0, _), (1, _), (2, _), (3, _)]) (pc' := 13) ⟨rfl, rfl⟩ rfl rfl ?_
    refine qa_iconst (pc' := 14) ⟨rfl, rfl⟩ ?_
    refine qa_ireturn rfl rfl rfl (hQ _ _ ⟨1, y9, rfl, ⟨by decide, by decide⟩, hs9, fun q hq => hf9 q (by omega), ⟨_, ho9, fun h => absurd h (by decide)⟩, hm9⟩)
theorem l_soloTicks {E : qa_V} {σ : qa_S} {c : Nat} {Z : Nat → Nat} {B : Int} {N : qa_M} {as : List Value} {n : Nat → Int} {p : Int}  (hlo : E.1 ≤ c) (hsz : c + 290 ≤ σ.2) (hc : σ.1 c = some (qa_CoF c n)) {a0 : Int → Int} (ho : σ.1 (c + 288) = some (qa_la 1 a0)) (hT : qa_T E qm_C_soloTicks 4 24 [.ref c, .int (qa_i p)] σ (jC E c Z B N as [0] Value.int σ)) : qa_T E qm_L_soloTicks 64 8000 [.ref c, .int (qa_i p), .ref (c + 288)] σ (jL E c Z B N as Value.int Int32.toInt σ) := by
  refine qa_enterHQ (by decide) rfl qm_L_soloTicks_ok rfl rfl (fun Q9 hQ => ?_)
  refine qa_aload_n (pc' := 1) ⟨rfl, rfl⟩ rfl ?_
  refine qa_iconst (pc' := 2) ⟨rfl, rfl⟩ ?_
  refine qa_aload_n (pc' := 3) ⟨rfl, rfl⟩ rfl ?_
  refine qa_iload_n (pc' := 4) ⟨rfl, rfl⟩ rfl ?_
  refine qa_callV rfl qf_C_soloTicks ql_0_149 hT hc rfl rfl rfl (qa_lt9 rfl) (qa_le9 rfl) (qa_le9 rfl) (qa_le9 rfl) (fun o9 τ9 hq9 => ?_)
  obtain ⟨k9, y9, rfl, hk9, hs9, hf9, hm9⟩ := hq9
  have ho9 := (hf9 (c + 288) (by omega)).trans ho
  have e0 : τ9.2 = τ9.2 := rfl
  rcases jk1 hk9 with rfl | rfl
  · rw [jo0]
    refine qa_nx (pc' := 7) (kc' := 60) (ks' := 7976) (st' := [_, _, _]) rfl rfl rfl rfl ?_
    obtain ⟨v9, hv9, rfl⟩ : ∃ v9 : Int, qa_in v9 ∧ y9 = qa_i v9 := ⟨y9.toInt, qa_i_in y9, (qa_i_of y9).symm⟩
    refine qa_i2l (pc' := 8) ⟨rfl, rfl⟩ hv9 ?_
    refine qa_lastore (pc' := 9) ⟨rfl, rfl⟩ ho9 (by omega) (by omega) ?_
    refine qa_gz (fun τ1 e1 w1 f1 => ?_)
    replace e0 := e1.trans e0
    refine qa_goto (pc' := 12) (tgt := 15) ⟨rfl, rfl⟩ rfl ?_
    refine qa_iconst (pc' := 16) ⟨rfl, rfl⟩ ?_
    refine qa_ireturn rfl rfl rfl (hQ _ _ ⟨0, qa_i v9, rfl, ⟨by decide, by decide⟩, by omega, fun q hq => (f1 q (by omega)).trans (hf9 q (by omega)), ⟨_, w1, fun _ => by rw [qa_up_eq]; exact (qa_i_toInt hv9).symm⟩, fun τ2 e2 f2 => hm9 τ2 (e2.trans e1) (fun q q0 q1 => (f2 q q0 q1).trans (f1 q q0))⟩)
  · rw [jo1]
    refine qa_nz ?_
    refine qa_Zh 0 rfl rfl rfl rfl rfl (fun q9 => ?_)
    show qa_W _ _ _ _ _ 12 _ _ _
    refine qa_astore_n (L' := [(0, _), (1, _), (2, _), (3, _)]) (pc' := 13) ⟨rfl, rfl⟩ rfl rfl ?_
    refine qa_iconst (pc' := 14) ⟨rfl, rfl⟩ ?_
    refine qa_ireturn rfl rfl rfl (hQ _ _ ⟨1, y9, rfl, ⟨by decide, by decide⟩, hs9, fun q hq => hf9 q (by omega), ⟨_, ho9, fun h => absurd h (by decide)⟩, hm9⟩)
theorem l_solosAhead {E : qa_V} {σ : qa_S} {c : Nat} {Z : Nat → Nat} {B : Int} {N : qa_M} {as : List Value} {n : Nat → Int} {p : Int}  (hlo : E.1 ≤ c) (hsz : c + 290 ≤ σ.2) (hc : σ.1 c = some (qa_CoF c n)) {a0 : Int → Int} (ho : σ.1 (c + 288) = some (qa_la 1 a0)) (hT : qa_T E qm_C_solosAhead 4 24 [.ref c, .int (qa_i p)] σ (jC E c Z B N as [1] Value.int σ)) : qa_T E qm_L_solosAhead 64 8000 [.ref c, .int (qa_i p), .ref (c + 288)] σ (jL E c Z B N as Value.int Int32.toInt σ) := by
  refine qa_enterHQ (by decide) rfl qm_L_solosAhead_ok rfl rfl (fun Q9 hQ => ?_)
  refine qa_aload_n (pc' := 1) ⟨rfl, rfl⟩ rfl ?_
  refine qa_iconst (pc' := 2) ⟨rfl, rfl⟩ ?_
  refine qa_aload_n (pc' := 3) ⟨rfl, rfl⟩ rfl ?_
  refine qa_iload_n (pc' := 4) ⟨rfl, rfl⟩ rfl ?_
  refine qa_callV rfl qf_C_solosAhead ql_0_152 hT hc rfl rfl rfl (qa_lt9 rfl) (qa_le9 rfl) (qa_le9 rfl) (qa_le9 rfl) (fun o9 τ9 hq9 => ?_)
  obtain ⟨k9, y9, rfl, hk9, hs9, hf9, hm9⟩ := hq9
  have ho9 := (hf9 (c + 288) (by omega)).trans ho
  have e0 : τ9.2 = τ9.2 := rfl
  rcases jk1 hk9 with rfl | rfl
  · rw [jo0]
    refine qa_nx (pc' := 7) (kc' := 60) (ks' := 7976) (st' := [_, _, _]) rfl rfl rfl rfl ?_
    obtain ⟨v9, hv9, rfl⟩ : ∃ v9 : Int, qa_in v9 ∧ y9 = qa_i v9 := ⟨y9.toInt, qa_i_in y9, (qa_i_of y9).symm⟩
    refine qa_i2l (pc' := 8) ⟨rfl, rfl⟩ hv9 ?_
    refine qa_lastore (pc' := 9) ⟨rfl, rfl⟩ ho9 (by omega) (by omega) ?_
    refine qa_gz (fun τ1 e1 w1 f1 => ?_)
    replace e0 := e1.trans e0
    refine qa_goto (pc' := 12) (tgt := 15) ⟨rfl, rfl⟩ rfl ?_
    refine qa_iconst (pc' := 16) ⟨rfl, rfl⟩ ?_
    refine qa_ireturn rfl rfl rfl (hQ _ _ ⟨0, qa_i v9, rfl, ⟨by decide, by decide⟩, by omega, fun q hq => (f1 q (by omega)).trans (hf9 q (by omega)), ⟨_, w1, fun _ => by rw [qa_up_eq]; exact (qa_i_toInt hv9).symm⟩, fun τ2 e2 f2 => hm9 τ2 (e2.trans e1) (fun q q0 q1 => (f2 q q0 q1).trans (f1 q q0))⟩)
  · rw [jo1]
    refine qa_nz ?_
    refine qa_Zh 0 rfl rfl rfl rfl rfl (fun q9 => ?_)
    show qa_W _ _ _ _ _ 12 _ _ _
    refine qa_astore_n (L' := [(0, _), (1, _), (2, _), (3, _)]) (pc' := 13) ⟨rfl, rfl⟩ rfl rfl ?_
    refine qa_iconst (pc' := 14) ⟨rfl, rfl⟩ ?_
    refine qa_ireturn rfl rfl rfl (hQ _ _ ⟨1, y9, rfl, ⟨by decide, by decide⟩, hs9, fun q hq => hf9 q (by omega), ⟨_, ho9, fun h => absurd h (by decide)⟩, hm9⟩)
theorem l_meanPitch {E : qa_V} {σ : qa_S} {c : Nat} {Z : Nat → Nat} {B : Int} {N : qa_M} {as : List Value} {n : Nat → Int} {p : Int} {p9 : UInt64 → Prop} (hlo : E.1 ≤ c) (hsz : c + 290 ≤ σ.2) (hc : σ.1 c = some (qa_CoF c n)) {a0 : Int → UInt64} (ho : σ.1 (c + 289) = some (qa_da 1 a0)) (hT : qa_T E qm_C_meanPitch 4 24 [.ref c, .int (qa_i p)] σ (jCp E c Z B N as [0, 4] Value.double p9 σ)) : qa_T E qm_L_meanPitch 64 8000 [.ref c, .int (qa_i p), .ref (c + 289)] σ (jLd E c Z B N as Value.double (fun x => x) p9 σ) := by
  refine qa_enterHQ (by decide) rfl qm_L_meanPitch_ok rfl rfl (fun Q9 hQ => ?_)
  refine qa_aload_n (pc' := 1) ⟨rfl, rfl⟩ rfl ?_
  refine qa_iconst (pc' := 2) ⟨rfl, rfl⟩ ?_
  refine qa_aload_n (pc' := 3) ⟨rfl, rfl⟩ rfl ?_
  refine qa_iload_n (pc' := 4) ⟨rfl, rfl⟩ rfl ?_
  refine qa_callV rfl qf_C_meanPitch ql_0_155 hT hc rfl rfl rfl (qa_lt9 rfl) (qa_le9 rfl) (qa_le9 rfl) (qa_le9 rfl) (fun o9 τ9 hq9 => ?_)
  obtain ⟨k9, y9, rfl, hk9, hs9, hf9, hp8, hm9⟩ := hq9
  have ho9 := (hf9 (c + 289) (by omega)).trans ho
  have e0 : τ9.2 = τ9.2 := rfl
  rcases jk2 hk9 with rfl | rfl | rfl
  · rw [jo0]
    refine qa_nx (pc' := 7) (kc' := 60) (ks' := 7976) (st' := [_, _, _]) rfl rfl rfl rfl ?_
    refine qa_dastore (pc' := 8) ⟨rfl, rfl⟩ ho9 (by omega) (by omega) ?_
    refine qa_gz (fun τ1 e1 w1 f1 => ?_)
    replace e0 := e1.trans e0
    refine qa_goto (pc' := 11) (tgt := 17) ⟨rfl, rfl⟩ rfl ?_
    refine qa_iconst (pc' := 18) ⟨rfl, rfl⟩ ?_
    refine qa_ireturn rfl rfl rfl (hQ _ _ ⟨0, y9, rfl, ⟨by decide, by decide⟩, by omega, fun q hq => (f1 q (by omega)).trans (hf9 q (by omega)), ⟨_, w1, fun _ => by unfold qa_upd; exact if_pos rfl⟩, fun _ => hp8 rfl, fun τ2 e2 f2 => hm9 τ2 (e2.trans e1) (fun q q0 q1 => (f2 q q0 q1).trans (f1 q q1))⟩)
  · rw [jo1]
    refine qa_nz ?_
    refine qa_Zh 0 rfl rfl rfl rfl rfl (fun q9 => ?_)
    show qa_W _ _ _ _ _ 11 _ _ _
    refine qa_astore_n (L' := [(0, _), (1, _), (2, _), (3, _)]) (pc' := 12) ⟨rfl, rfl⟩ rfl rfl ?_
    refine qa_iconst (pc' := 13) ⟨rfl, rfl⟩ ?_
    refine qa_ireturn rfl rfl rfl (hQ _ _ ⟨1, y9, rfl, ⟨by decide, by decide⟩, hs9, fun q hq => hf9 q (by omega), ⟨_, ho9, fun h => absurd h (by decide)⟩, fun h => absurd h (by decide), hm9⟩)
  · rw [jo2]
    refine qa_nz ?_
    refine qa_Zh 1 rfl rfl rfl rfl rfl (fun q9 => ?_)
    show qa_W _ _ _ _ _ 14 _ _ _
    refine qa_astore_n (L' := [(0, _), (1, _), (2, _), (3, _)]) (pc' := 15) ⟨rfl, rfl⟩ rfl rfl ?_
    refine qa_iconst (pc' := 16) ⟨rfl, rfl⟩ ?_
    refine qa_ireturn rfl rfl rfl (hQ _ _ ⟨2, y9, rfl, ⟨by decide, by decide⟩, hs9, fun q hq => hf9 q (by omega), ⟨_, ho9, fun h => absurd h (by decide)⟩, fun h => absurd h (by decide), hm9⟩)
theorem l_restShare {E : qa_V} {σ : qa_S} {c : Nat} {Z : Nat → Nat} {B : Int} {N : qa_M} {as : List Value} {n : Nat → Int} {p : Int} {p9 : UInt32 → Prop} (hp9 : ∀ x, p9 x → vf_n64 (FP.f2d x)) (hlo : E.1 ≤ c) (hsz : c + 290 ≤ σ.2) (hc : σ.1 c = some (qa_CoF c n)) {a0 : Int → UInt64} (ho : σ.1 (c + 289) = some (qa_da 1 a0)) (hT : qa_T E qm_C_restShare 4 24 [.ref c, .int (qa_i p)] σ (jCp E c Z B N as [0, 4] Value.float p9 σ)) : qa_T E qm_L_restShare 64 8000 [.ref c, .int (qa_i p), .ref (c + 289)] σ (jLd E c Z B N as Value.float FP.f2d p9 σ) := by
  refine qa_enterHQ (by decide) rfl qm_L_restShare_ok rfl rfl (fun Q9 hQ => ?_)
  refine qa_aload_n (pc' := 1) ⟨rfl, rfl⟩ rfl ?_
  refine qa_iconst (pc' := 2) ⟨rfl, rfl⟩ ?_
  refine qa_aload_n (pc' := 3) ⟨rfl, rfl⟩ rfl ?_
  refine qa_iload_n (pc' := 4) ⟨rfl, rfl⟩ rfl ?_
  refine qa_callV rfl qf_C_restShare ql_0_161 hT hc rfl rfl rfl (qa_lt9 rfl) (qa_le9 rfl) (qa_le9 rfl) (qa_le9 rfl) (fun o9 τ9 hq9 => ?_)
  obtain ⟨k9, y9, rfl, hk9, hs9, hf9, hp8, hm9⟩ := hq9
  have ho9 := (hf9 (c + 289) (by omega)).trans ho
  have e0 : τ9.2 = τ9.2 := rfl
  rcases jk2 hk9 with rfl | rfl | rfl
  · rw [jo0]
    refine qa_nx (pc' := 7) (kc' := 60) (ks' := 7976) (st' := [_, _, _]) rfl rfl rfl rfl ?_
    refine qa_f2d (pc' := 8) ⟨rfl, rfl⟩ (hp9 _ (hp8 rfl)) ?_
    refine qa_dastore (pc' := 9) ⟨rfl, rfl⟩ ho9 (by omega) (by omega) ?_
    refine qa_gz (fun τ1 e1 w1 f1 => ?_)
    replace e0 := e1.trans e0
    refine qa_goto (pc' := 12) (tgt := 18) ⟨rfl, rfl⟩ rfl ?_
    refine qa_iconst (pc' := 19) ⟨rfl, rfl⟩ ?_
    refine qa_ireturn rfl rfl rfl (hQ _ _ ⟨0, y9, rfl, ⟨by decide, by decide⟩, by omega, fun q hq => (f1 q (by omega)).trans (hf9 q (by omega)), ⟨_, w1, fun _ => by unfold qa_upd; exact if_pos rfl⟩, fun _ => hp8 rfl, fun τ2 e2 f2 => hm9 τ2 (e2.trans e1) (fun q q0 q1 => (f2 q q0 q1).trans (f1 q q1))⟩)
  · rw [jo1]
    refine qa_nz ?_
    refine qa_Zh 0 rfl rfl rfl rfl rfl (fun q9 => ?_)
    show qa_W _ _ _ _ _ 12 _ _ _
    refine qa_astore_n (L' := [(0, _), (1, _), (2, _), (3, _)]) (pc' := 13) ⟨rfl, rfl⟩ rfl rfl ?_
    refine qa_iconst (pc' := 14) ⟨rfl, rfl⟩ ?_
    refine qa_ireturn rfl rfl rfl (hQ _ _ ⟨1, y9, rfl, ⟨by decide, by decide⟩, hs9, fun q hq => hf9 q (by omega), ⟨_, ho9, fun h => absurd h (by decide)⟩, fun h => absurd h (by decide), hm9⟩)
  · rw [jo2]
    refine qa_nz ?_
    refine qa_Zh 1 rfl rfl rfl rfl rfl (fun q9 => ?_)
    show qa_W _ _ _ _ _ 15 _ _ _
    refine qa_astore_n (L' := [(0, _), (1, _), (2, _), (3, _)]) (pc' := 16) ⟨rfl, rfl⟩ rfl rfl ?_
    refine qa_iconst (pc' := 17) ⟨rfl, rfl⟩ ?_
    refine qa_ireturn rfl rfl rfl (hQ _ _ ⟨2, y9, rfl, ⟨by decide, by decide⟩, hs9, fun q hq => hf9 q (by omega), ⟨_, ho9, fun h => absurd h (by decide)⟩, fun h => absurd h (by decide), hm9⟩)
theorem l_restShareBits {E : qa_V} {σ : qa_S} {c : Nat} {Z : Nat → Nat} {B : Int} {N : qa_M} {as : List Value} {n : Nat → Int} {p : Int}  (hlo : E.1 ≤ c) (hsz : c + 290 ≤ σ.2) (hc : σ.1 c = some (qa_CoF c n)) {a0 : Int → Int} (ho : σ.1 (c + 288) = some (qa_la 1 a0)) (hT : qa_T E qm_C_restShareBits 4 24 [.ref c, .int (qa_i p)] σ (jC E c Z B N as [0, 4] Value.int σ)) : qa_T E qm_L_restShareBits 64 8000 [.ref c, .int (qa_i p), .ref (c + 288)] σ (jL E c Z B N as Value.int Int32.toInt σ) := by
  refine qa_enterHQ (by decide) rfl qm_L_restShareBits_ok rfl rfl (fun Q9 hQ => ?_)
  refine qa_aload_n (pc' := 1) ⟨rfl, rfl⟩ rfl ?_
  refine qa_iconst (pc' := 2) ⟨rfl, rfl⟩ ?_
  refine qa_aload_n (pc' := 3) ⟨rfl, rfl⟩ rfl ?_
  refine qa_iload_n (pc' := 4) ⟨rfl, rfl⟩ rfl ?_
  refine qa_callV rfl qf_C_restShareBits ql_0_165 hT hc rfl rfl rfl (qa_lt9 rfl) (qa_le9 rfl) (qa_le9 rfl) (qa_le9 rfl) (fun o9 τ9 hq9 => ?_)
  obtain ⟨k9, y9, rfl, hk9, hs9, hf9, hm9⟩ := hq9
  have ho9 := (hf9 (c + 288) (by omega)).trans ho
  have e0 : τ9.2 = τ9.2 := rfl
  rcases jk2 hk9 with rfl | rfl | rfl
  · rw [jo0]
    refine qa_nx (pc' := 7) (kc' := 60) (ks' := 7976) (st' := [_, _, _]) rfl rfl rfl rfl ?_
    obtain ⟨v9, hv9, rfl⟩ : ∃ v9 : Int, qa_in v9 ∧ y9 = qa_i v9 := ⟨y9.toInt, qa_i_in y9, (qa_i_of y9).symm⟩
    refine qa_i2l (pc' := 8) ⟨rfl, rfl⟩ hv9 ?_
    refine qa_lastore (pc' := 9) ⟨rfl, rfl⟩ ho9 (by omega) (by omega) ?_
    refine qa_gz (fun τ1 e1 w1 f1 => ?_)
    replace e0 := e1.trans e0
    refine qa_goto (pc' := 12) (tgt := 18) ⟨rfl, rfl⟩ rfl ?_
    refine qa_iconst (pc' := 19) ⟨rfl, rfl⟩ ?_
    refine qa_ireturn rfl rfl rfl (hQ _ _ ⟨0, qa_i v9, rfl, ⟨by decide, by decide⟩, by omega, fun q hq => (f1 q (by omega)).trans (hf9 q (by omega)), ⟨_, w1, fun _ => by rw [qa_up_eq]; exact (qa_i_toInt hv9).symm⟩, fun τ2 e2 f2 => hm9 τ2 (e2.trans e1) (fun q q0 q1 => (f2 q q0 q1).trans (f1 q q0))⟩)
  · rw [jo1]
    refine qa_nz ?_
    refine qa_Zh 0 rfl rfl rfl rfl rfl (fun q9 => ?_)
    show qa_W _ _ _ _ _ 12 _ _ _
    refine qa_astore_n (L' := [(0, _), (1, _), (2, _), (3, _)]) (pc' := 13) ⟨rfl, rfl⟩ rfl rfl ?_
    refine qa_iconst (pc' := 14) ⟨rfl, rfl⟩ ?_
    refine qa_ireturn rfl rfl rfl (hQ _ _ ⟨1, y9, rfl, ⟨by decide, by decide⟩, hs9, fun q hq => hf9 q (by omega), ⟨_, ho9, fun h => absurd h (by decide)⟩, hm9⟩)
  · rw [jo2]
    refine qa_nz ?_
    refine qa_Zh 1 rfl rfl rfl rfl rfl (fun q9 => ?_)
    show qa_W _ _ _ _ _ 15 _ _ _
    refine qa_astore_n (L' := [(0, _), (1, _), (2, _), (3, _)]) (pc' := 16) ⟨rfl, rfl⟩ rfl rfl ?_
    refine qa_iconst (pc' := 17) ⟨rfl, rfl⟩ ?_
    refine qa_ireturn rfl rfl rfl (hQ _ _ ⟨2, y9, rfl, ⟨by decide, by decide⟩, hs9, fun q hq => hf9 q (by omega), ⟨_, ho9, fun h => absurd h (by decide)⟩, hm9⟩)
theorem l_writePart {E : qa_V} {σ : qa_S} {c : Nat} {Z : Nat → Nat} {B : Int} {N : qa_M} {as : List Value} {n : Nat → Int} {p : Int}  (hlo : E.1 ≤ c) (hsz : c + 290 ≤ σ.2) (hc : σ.1 c = some (qa_CoF c n)) {a0 : Int → Int} (ho : σ.1 (c + 288) = some (qa_la 1 a0)) (hT : qa_T E qm_C_writePart 64 8000 [.ref c, .int (qa_i p)] σ (jC E c Z B N as [0] Value.int σ)) : qa_T E qm_L_writePart 64 8000 [.ref c, .int (qa_i p), .ref (c + 288)] σ (jL E c Z B N as Value.int Int32.toInt σ) := by
  refine qa_enterHQ (by decide) rfl qm_L_writePart_ok rfl rfl (fun Q9 hQ => ?_)
  refine qa_aload_n (pc' := 1) ⟨rfl, rfl⟩ rfl ?_
  refine qa_iconst (pc' := 2) ⟨rfl, rfl⟩ ?_
  refine qa_aload_n (pc' := 3) ⟨rfl, rfl⟩ rfl ?_
  refine qa_iload_n (pc' := 4) ⟨rfl, rfl⟩ rfl ?_
  refine qa_callV rfl qf_C_writePart ql_0_168 hT hc rfl rfl rfl (qa_lt9 rfl) (qa_le9 rfl) (qa_le9 rfl) (qa_le9 rfl) (fun o9 τ9 hq9 => ?_)
  obtain ⟨k9, y9, rfl, hk9, hs9, hf9, hm9⟩ := hq9
  have ho9 := (hf9 (c + 288) (by omega)).trans ho
  have e0 : τ9.2 = τ9.2 := rfl
  rcases jk1 hk9 with rfl | rfl
  · rw [jo0]
    refine qa_nx (pc' := 7) (kc' := 0) (ks' := 0) (st' := [_, _, _]) rfl rfl rfl rfl ?_
    obtain ⟨v9, hv9, rfl⟩ : ∃ v9 : Int, qa_in v9 ∧ y9 = qa_i v9 := ⟨y9.toInt, qa_i_in y9, (qa_i_of y9).symm⟩
    refine qa_i2l (pc' := 8) ⟨rfl, rfl⟩ hv9 ?_
    refine qa_lastore (pc' := 9) ⟨rfl, rfl⟩ ho9 (by omega) (by omega) ?_
    refine qa_gz (fun τ1 e1 w1 f1 => ?_)
    replace e0 := e1.trans e0
    refine qa_goto (pc' := 12) (tgt := 15) ⟨rfl, rfl⟩ rfl ?_
    refine qa_iconst (pc' := 16) ⟨rfl, rfl⟩ ?_
    refine qa_ireturn rfl rfl rfl (hQ _ _ ⟨0, qa_i v9, rfl, ⟨by decide, by decide⟩, by omega, fun q hq => (f1 q (by omega)).trans (hf9 q (by omega)), ⟨_, w1, fun _ => by rw [qa_up_eq]; exact (qa_i_toInt hv9).symm⟩, fun τ2 e2 f2 => hm9 τ2 (e2.trans e1) (fun q q0 q1 => (f2 q q0 q1).trans (f1 q q0))⟩)
  · rw [jo1]
    refine qa_nz ?_
    refine qa_Zh 0 rfl rfl rfl rfl rfl (fun q9 => ?_)
    show qa_W _ _ _ _ _ 12 _ _ _
    refine qa_astore_n (L' := [(0, _), (1, _), (2, _), (3, _)]) (pc' := 13) ⟨rfl, rfl⟩ rfl rfl ?_
    refine qa_iconst (pc' := 14) ⟨rfl, rfl⟩ ?_
    refine qa_ireturn rfl rfl rfl (hQ _ _ ⟨1, y9, rfl, ⟨by decide, by decide⟩, hs9, fun q hq => hf9 q (by omega), ⟨_, ho9, fun h => absurd h (by decide)⟩, hm9⟩)
theorem l_outputAt {E : qa_V} {σ : qa_S} {c : Nat} {Z : Nat → Nat} {B : Int} {N : qa_M} {as : List Value} {n : Nat → Int} {p : Int}  (hlo : E.1 ≤ c) (hsz : c + 290 ≤ σ.2) (hc : σ.1 c = some (qa_CoF c n)) {a0 : Int → Int} (ho : σ.1 (c + 288) = some (qa_la 1 a0)) (hT : qa_T E qm_C_outputAt 1 6 [.ref c, .int (qa_i p)] σ (jC E c Z B N as [0] Value.int σ)) : qa_T E qm_L_outputAt 64 8000 [.ref c, .int (qa_i p), .ref (c + 288)] σ (jL E c Z B N as Value.int Int32.toInt σ) := by
  refine qa_enterHQ (by decide) rfl qm_L_outputAt_ok rfl rfl (fun Q9 hQ => ?_)
  refine qa_aload_n (pc' := 1) ⟨rfl, rfl⟩ rfl ?_
  refine qa_iconst (pc' := 2) ⟨rfl, rfl⟩ ?_
  refine qa_aload_n (pc' := 3) ⟨rfl, rfl⟩ rfl ?_
  refine qa_iload_n (pc' := 4) ⟨rfl, rfl⟩ rfl ?_
  refine qa_callV rfl qf_C_outputAt ql_0_171 hT hc rfl rfl rfl (qa_lt9 rfl) (qa_le9 rfl) (qa_le9 rfl) (qa_le9 rfl) (fun o9 τ9 hq9 => ?_)
  obtain ⟨k9, y9, rfl, hk9, hs9, hf9, hm9⟩ := hq9
  have ho9 := (hf9 (c + 288) (by omega)).trans ho
  have e0 : τ9.2 = τ9.2 := rfl
  rcases jk1 hk9 with rfl | rfl
  · rw [jo0]
    refine qa_nx (pc' := 7) (kc' := 63) (ks' := 7994) (st' := [_, _, _]) rfl rfl rfl rfl ?_
    obtain ⟨v9, hv9, rfl⟩ : ∃ v9 : Int, qa_in v9 ∧ y9 = qa_i v9 := ⟨y9.toInt, qa_i_in y9, (qa_i_of y9).symm⟩
    refine qa_i2l (pc' := 8) ⟨rfl, rfl⟩ hv9 ?_
    refine qa_lastore (pc' := 9) ⟨rfl, rfl⟩ ho9 (by omega) (by omega) ?_
    refine qa_gz (fun τ1 e1 w1 f1 => ?_)
    replace e0 := e1.trans e0
    refine qa_goto (pc' := 12) (tgt := 15) ⟨rfl, rfl⟩ rfl ?_
    refine qa_iconst (pc' := 16) ⟨rfl, rfl⟩ ?_
    refine qa_ireturn rfl rfl rfl (hQ _ _ ⟨0, qa_i v9, rfl, ⟨by decide, by decide⟩, by omega, fun q hq => (f1 q (by omega)).trans (hf9 q (by omega)), ⟨_, w1, fun _ => by rw [qa_up_eq]; exact (qa_i_toInt hv9).symm⟩, fun τ2 e2 f2 => hm9 τ2 (e2.trans e1) (fun q q0 q1 => (f2 q q0 q1).trans (f1 q q0))⟩)
  · rw [jo1]
    refine qa_nz ?_
    refine qa_Zh 0 rfl rfl rfl rfl rfl (fun q9 => ?_)
    show qa_W _ _ _ _ _ 12 _ _ _
    refine qa_astore_n (L' := [(0, _), (1, _), (2, _), (3, _)]) (pc' := 13) ⟨rfl, rfl⟩ rfl rfl ?_
    refine qa_iconst (pc' := 14) ⟨rfl, rfl⟩ ?_
    refine qa_ireturn rfl rfl rfl (hQ _ _ ⟨1, y9, rfl, ⟨by decide, by decide⟩, hs9, fun q hq => hf9 q (by omega), ⟨_, ho9, fun h => absurd h (by decide)⟩, hm9⟩)
theorem l_appendInput {E : qa_V} {σ : qa_S} {c : Nat} {Z : Nat → Nat} {B : Int} {N : qa_M} {as : List Value} {n : Nat → Int} {p : Int}  (hlo : E.1 ≤ c) (hsz : c + 290 ≤ σ.2) (hc : σ.1 c = some (qa_CoF c n)) {a0 : Int → Int} (ho : σ.1 (c + 288) = some (qa_la 1 a0)) (hT : qa_T E qm_C_appendInput 2 160 [.ref c, .int (qa_i p)] σ (jC E c Z B N as [1, 5] Value.int σ)) : qa_T E qm_L_appendInput 64 8000 [.ref c, .int (qa_i p), .ref (c + 288)] σ (jL E c Z B N as Value.int Int32.toInt σ) := by
  refine qa_enterHQ (by decide) rfl qm_L_appendInput_ok rfl rfl (fun Q9 hQ => ?_)
  refine qa_aload_n (pc' := 1) ⟨rfl, rfl⟩ rfl ?_
  refine qa_iconst (pc' := 2) ⟨rfl, rfl⟩ ?_
  refine qa_aload_n (pc' := 3) ⟨rfl, rfl⟩ rfl ?_
  refine qa_iload_n (pc' := 4) ⟨rfl, rfl⟩ rfl ?_
  refine qa_callV rfl qf_C_appendInput ql_0_175 hT hc rfl rfl rfl (qa_lt9 rfl) (qa_le9 rfl) (qa_le9 rfl) (qa_le9 rfl) (fun o9 τ9 hq9 => ?_)
  obtain ⟨k9, y9, rfl, hk9, hs9, hf9, hm9⟩ := hq9
  have ho9 := (hf9 (c + 288) (by omega)).trans ho
  have e0 : τ9.2 = τ9.2 := rfl
  rcases jk2 hk9 with rfl | rfl | rfl
  · rw [jo0]
    refine qa_nx (pc' := 7) (kc' := 62) (ks' := 7840) (st' := [_, _, _]) rfl rfl rfl rfl ?_
    obtain ⟨v9, hv9, rfl⟩ : ∃ v9 : Int, qa_in v9 ∧ y9 = qa_i v9 := ⟨y9.toInt, qa_i_in y9, (qa_i_of y9).symm⟩
    refine qa_i2l (pc' := 8) ⟨rfl, rfl⟩ hv9 ?_
    refine qa_lastore (pc' := 9) ⟨rfl, rfl⟩ ho9 (by omega) (by omega) ?_
    refine qa_gz (fun τ1 e1 w1 f1 => ?_)
    replace e0 := e1.trans e0
    refine qa_goto (pc' := 12) (tgt := 18) ⟨rfl, rfl⟩ rfl ?_
    refine qa_iconst (pc' := 19) ⟨rfl, rfl⟩ ?_
    refine qa_ireturn rfl rfl rfl (hQ _ _ ⟨0, qa_i v9, rfl, ⟨by decide, by decide⟩, by omega, fun q hq => (f1 q (by omega)).trans (hf9 q (by omega)), ⟨_, w1, fun _ => by rw [qa_up_eq]; exact (qa_i_toInt hv9).symm⟩, fun τ2 e2 f2 => hm9 τ2 (e2.trans e1) (fun q q0 q1 => (f2 q q0 q1).trans (f1 q q0))⟩)
  · rw [jo1]
    refine qa_nz ?_
    refine qa_Zh 0 rfl rfl rfl rfl rfl (fun q9 => ?_)
    show qa_W _ _ _ _ _ 12 _ _ _
    refine qa_astore_n (L' := [(0, _), (1, _), (2, _), (3, _)]) (pc' := 13) ⟨rfl, rfl⟩ rfl rfl ?_
    refine qa_iconst (pc' := 14) ⟨rfl, rfl⟩ ?_
    refine qa_ireturn rfl rfl rfl (hQ _ _ ⟨1, y9, rfl, ⟨by decide, by decide⟩, hs9, fun q hq => hf9 q (by omega), ⟨_, ho9, fun h => absurd h (by decide)⟩, hm9⟩)
  · rw [jo2]
    refine qa_nz ?_
    refine qa_Zh 1 rfl rfl rfl rfl rfl (fun q9 => ?_)
    show qa_W _ _ _ _ _ 15 _ _ _
    refine qa_astore_n (L' := [(0, _), (1, _), (2, _), (3, _)]) (pc' := 16) ⟨rfl, rfl⟩ rfl rfl ?_
    refine qa_iconst (pc' := 17) ⟨rfl, rfl⟩ ?_
    refine qa_ireturn rfl rfl rfl (hQ _ _ ⟨2, y9, rfl, ⟨by decide, by decide⟩, hs9, fun q hq => hf9 q (by omega), ⟨_, ho9, fun h => absurd h (by decide)⟩, hm9⟩)
theorem l_execute {E : qa_V} {σ : qa_S} {c : Nat} {Z : Nat → Nat} {B : Int} {N : qa_M} {as : List Value} {n : Nat → Int}  (hlo : E.1 ≤ c) (hsz : c + 290 ≤ σ.2) (hc : σ.1 c = some (qa_CoF c n)) {a0 : Int → Int} (ho : σ.1 (c + 288) = some (qa_la 1 a0)) (hT : qa_T E qm_C_execute 2 156 [.ref c] σ (jC E c Z B N as [1, 5, 2] Value.int σ)) : qa_T E qm_L_execute 64 8000 [.ref c, .ref (c + 288)] σ (jL E c Z B N as Value.int Int32.toInt σ) := by
  refine qa_enterHQ (by decide) rfl qm_L_execute_ok rfl rfl (fun Q9 hQ => ?_)
  refine qa_aload_n (pc' := 1) ⟨rfl, rfl⟩ rfl ?_
  refine qa_iconst (pc' := 2) ⟨rfl, rfl⟩ ?_
  refine qa_aload_n (pc' := 3) ⟨rfl, rfl⟩ rfl ?_
  refine qa_callV rfl qf_C_execute ql_0_181 hT hc rfl rfl rfl (qa_lt9 rfl) (qa_le9 rfl) (qa_le9 rfl) (qa_le9 rfl) (fun o9 τ9 hq9 => ?_)
  obtain ⟨k9, y9, rfl, hk9, hs9, hf9, hm9⟩ := hq9
  have ho9 := (hf9 (c + 288) (by omega)).trans ho
  have e0 : τ9.2 = τ9.2 := rfl
  rcases jk3 hk9 with rfl | rfl | rfl | rfl
  · rw [jo0]
    refine qa_nx (pc' := 6) (kc' := 62) (ks' := 7844) (st' := [_, _, _]) rfl rfl rfl rfl ?_
    obtain ⟨v9, hv9, rfl⟩ : ∃ v9 : Int, qa_in v9 ∧ y9 = qa_i v9 := ⟨y9.toInt, qa_i_in y9, (qa_i_of y9).symm⟩
    refine qa_i2l (pc' := 7) ⟨rfl, rfl⟩ hv9 ?_
    refine qa_lastore (pc' := 8) ⟨rfl, rfl⟩ ho9 (by omega) (by omega) ?_
    refine qa_gz (fun τ1 e1 w1 f1 => ?_)
    replace e0 := e1.trans e0
    refine qa_goto (pc' := 11) (tgt := 20) ⟨rfl, rfl⟩ rfl ?_
    refine qa_iconst (pc' := 21) ⟨rfl, rfl⟩ ?_
    refine qa_ireturn rfl rfl rfl (hQ _ _ ⟨0, qa_i v9, rfl, ⟨by decide, by decide⟩, by omega, fun q hq => (f1 q (by omega)).trans (hf9 q (by omega)), ⟨_, w1, fun _ => by rw [qa_up_eq]; exact (qa_i_toInt hv9).symm⟩, fun τ2 e2 f2 => hm9 τ2 (e2.trans e1) (fun q q0 q1 => (f2 q q0 q1).trans (f1 q q0))⟩)
  · rw [jo1]
    refine qa_nz ?_
    refine qa_Zh 0 rfl rfl rfl rfl rfl (fun q9 => ?_)
    show qa_W _ _ _ _ _ 11 _ _ _
    refine qa_astore_n (L' := [(0, _), (1, _), (2, _)]) (pc' := 12) ⟨rfl, rfl⟩ rfl rfl ?_
    refine qa_iconst (pc' := 13) ⟨rfl, rfl⟩ ?_
    refine qa_ireturn rfl rfl rfl (hQ _ _ ⟨1, y9, rfl, ⟨by decide, by decide⟩, hs9, fun q hq => hf9 q (by omega), ⟨_, ho9, fun h => absurd h (by decide)⟩, hm9⟩)
  · rw [jo2]
    refine qa_nz ?_
    refine qa_Zh 1 rfl rfl rfl rfl rfl (fun q9 => ?_)
    show qa_W _ _ _ _ _ 14 _ _ _
    refine qa_astore_n (L' := [(0, _), (1, _), (2, _)]) (pc' := 15) ⟨rfl, rfl⟩ rfl rfl ?_
    refine qa_iconst (pc' := 16) ⟨rfl, rfl⟩ ?_
    refine qa_ireturn rfl rfl rfl (hQ _ _ ⟨2, y9, rfl, ⟨by decide, by decide⟩, hs9, fun q hq => hf9 q (by omega), ⟨_, ho9, fun h => absurd h (by decide)⟩, hm9⟩)
  · rw [jo3]
    refine qa_nz ?_
    refine qa_Zh 2 rfl rfl rfl rfl rfl (fun q9 => ?_)
    show qa_W _ _ _ _ _ 17 _ _ _
    refine qa_astore_n (L' := [(0, _), (1, _), (2, _)]) (pc' := 18) ⟨rfl, rfl⟩ rfl rfl ?_
    refine qa_iconst (pc' := 19) ⟨rfl, rfl⟩ ?_
    refine qa_ireturn rfl rfl rfl (hQ _ _ ⟨3, y9, rfl, ⟨by decide, by decide⟩, hs9, fun q hq => hf9 q (by omega), ⟨_, ho9, fun h => absurd h (by decide)⟩, hm9⟩)
theorem l_syntaxErrorOffset {E : qa_V} {σ : qa_S} {c : Nat} {Z : Nat → Nat} {B : Int} {N : qa_M} {as : List Value} {n : Nat → Int}  (hlo : E.1 ≤ c) (hsz : c + 290 ≤ σ.2) (hc : σ.1 c = some (qa_CoF c n)) {a0 : Int → Int} (ho : σ.1 (c + 288) = some (qa_la 1 a0)) (hT : qa_T E qm_C_syntaxErrorOffset 4 24 [.ref c] σ (jC E c Z B N as [3] Value.int σ)) : qa_T E qm_L_syntaxErrorOffset 64 8000 [.ref c, .ref (c + 288)] σ (jL E c Z B N as Value.int Int32.toInt σ) := by
  refine qa_enterHQ (by decide) rfl qm_L_syntaxErrorOffset_ok rfl rfl (fun Q9 hQ => ?_)
  refine qa_aload_n (pc' := 1) ⟨rfl, rfl⟩ rfl ?_
  refine qa_iconst (pc' := 2) ⟨rfl, rfl⟩ ?_
  refine qa_aload_n (pc' := 3) ⟨rfl, rfl⟩ rfl ?_
  refine qa_callV rfl qf_C_syntaxErrorOffset ql_0_184 hT hc rfl rfl rfl (qa_lt9 rfl) (qa_le9 rfl) (qa_le9 rfl) (qa_le9 rfl) (fun o9 τ9 hq9 => ?_)
  obtain ⟨k9, y9, rfl, hk9, hs9, hf9, hm9⟩ := hq9
  have ho9 := (hf9 (c + 288) (by omega)).trans ho
  have e0 : τ9.2 = τ9.2 := rfl
  rcases jk1 hk9 with rfl | rfl
  · rw [jo0]
    refine qa_nx (pc' := 6) (kc' := 60) (ks' := 7976) (st' := [_, _, _]) rfl rfl rfl rfl ?_
    obtain ⟨v9, hv9, rfl⟩ : ∃ v9 : Int, qa_in v9 ∧ y9 = qa_i v9 := ⟨y9.toInt, qa_i_in y9, (qa_i_of y9).symm⟩
    refine qa_i2l (pc' := 7) ⟨rfl, rfl⟩ hv9 ?_
    refine qa_lastore (pc' := 8) ⟨rfl, rfl⟩ ho9 (by omega) (by omega) ?_
    refine qa_gz (fun τ1 e1 w1 f1 => ?_)
    replace e0 := e1.trans e0
    refine qa_goto (pc' := 11) (tgt := 14) ⟨rfl, rfl⟩ rfl ?_
    refine qa_iconst (pc' := 15) ⟨rfl, rfl⟩ ?_
    refine qa_ireturn rfl rfl rfl (hQ _ _ ⟨0, qa_i v9, rfl, ⟨by decide, by decide⟩, by omega, fun q hq => (f1 q (by omega)).trans (hf9 q (by omega)), ⟨_, w1, fun _ => by rw [qa_up_eq]; exact (qa_i_toInt hv9).symm⟩, fun τ2 e2 f2 => hm9 τ2 (e2.trans e1) (fun q q0 q1 => (f2 q q0 q1).trans (f1 q q0))⟩)
  · rw [jo1]
    refine qa_nz ?_
    refine qa_Zh 0 rfl rfl rfl rfl rfl (fun q9 => ?_)
    show qa_W _ _ _ _ _ 11 _ _ _
    refine qa_astore_n (L' := [(0, _), (1, _), (2, _)]) (pc' := 12) ⟨rfl, rfl⟩ rfl rfl ?_
    refine qa_iconst (pc' := 13) ⟨rfl, rfl⟩ ?_
    refine qa_ireturn rfl rfl rfl (hQ _ _ ⟨1, y9, rfl, ⟨by decide, by decide⟩, hs9, fun q hq => hf9 q (by omega), ⟨_, ho9, fun h => absurd h (by decide)⟩, hm9⟩)
theorem l_rejectionReason {E : qa_V} {σ : qa_S} {c : Nat} {Z : Nat → Nat} {B : Int} {N : qa_M} {as : List Value} {n : Nat → Int}  (hlo : E.1 ≤ c) (hsz : c + 290 ≤ σ.2) (hc : σ.1 c = some (qa_CoF c n)) {a0 : Int → Int} (ho : σ.1 (c + 288) = some (qa_la 1 a0)) (hT : qa_T E qm_C_rejectionReason 4 24 [.ref c] σ (jC E c Z B N as [3] Value.int σ)) : qa_T E qm_L_rejectionReason 64 8000 [.ref c, .ref (c + 288)] σ (jL E c Z B N as Value.int Int32.toInt σ) := by
  refine qa_enterHQ (by decide) rfl qm_L_rejectionReason_ok rfl rfl (fun Q9 hQ => ?_)
  refine qa_aload_n (pc' := 1) ⟨rfl, rfl⟩ rfl ?_
  refine qa_iconst (pc' := 2) ⟨rfl, rfl⟩ ?_
  refine qa_aload_n (pc' := 3) ⟨rfl, rfl⟩ rfl ?_
  refine qa_callV rfl qf_C_rejectionReason ql_0_187 hT hc rfl rfl rfl (qa_lt9 rfl) (qa_le9 rfl) (qa_le9 rfl) (qa_le9 rfl) (fun o9 τ9 hq9 => ?_)
  obtain ⟨k9, y9, rfl, hk9, hs9, hf9, hm9⟩ := hq9
  have ho9 := (hf9 (c + 288) (by omega)).trans ho
  have e0 : τ9.2 = τ9.2 := rfl
  rcases jk1 hk9 with rfl | rfl
  · rw [jo0]
    refine qa_nx (pc' := 6) (kc' := 60) (ks' := 7976) (st' := [_, _, _]) rfl rfl rfl rfl ?_
    obtain ⟨v9, hv9, rfl⟩ : ∃ v9 : Int, qa_in v9 ∧ y9 = qa_i v9 := ⟨y9.toInt, qa_i_in y9, (qa_i_of y9).symm⟩
    refine qa_i2l (pc' := 7) ⟨rfl, rfl⟩ hv9 ?_
    refine qa_lastore (pc' := 8) ⟨rfl, rfl⟩ ho9 (by omega) (by omega) ?_
    refine qa_gz (fun τ1 e1 w1 f1 => ?_)
    replace e0 := e1.trans e0
    refine qa_goto (pc' := 11) (tgt := 14) ⟨rfl, rfl⟩ rfl ?_
    refine qa_iconst (pc' := 15) ⟨rfl, rfl⟩ ?_
    refine qa_ireturn rfl rfl rfl (hQ _ _ ⟨0, qa_i v9, rfl, ⟨by decide, by decide⟩, by omega, fun q hq => (f1 q (by omega)).trans (hf9 q (by omega)), ⟨_, w1, fun _ => by rw [qa_up_eq]; exact (qa_i_toInt hv9).symm⟩, fun τ2 e2 f2 => hm9 τ2 (e2.trans e1) (fun q q0 q1 => (f2 q q0 q1).trans (f1 q q0))⟩)
  · rw [jo1]
    refine qa_nz ?_
    refine qa_Zh 0 rfl rfl rfl rfl rfl (fun q9 => ?_)
    show qa_W _ _ _ _ _ 11 _ _ _
    refine qa_astore_n (L' := [(0, _), (1, _), (2, _)]) (pc' := 12) ⟨rfl, rfl⟩ rfl rfl ?_
    refine qa_iconst (pc' := 13) ⟨rfl, rfl⟩ ?_
    refine qa_ireturn rfl rfl rfl (hQ _ _ ⟨1, y9, rfl, ⟨by decide, by decide⟩, hs9, fun q hq => hf9 q (by omega), ⟨_, ho9, fun h => absurd h (by decide)⟩, hm9⟩)
theorem l_rejectionDetail {E : qa_V} {σ : qa_S} {c : Nat} {Z : Nat → Nat} {B : Int} {N : qa_M} {as : List Value} {n : Nat → Int}  (hlo : E.1 ≤ c) (hsz : c + 290 ≤ σ.2) (hc : σ.1 c = some (qa_CoF c n)) {a0 : Int → Int} (ho : σ.1 (c + 288) = some (qa_la 1 a0)) (hT : qa_T E qm_C_rejectionDetail 4 24 [.ref c] σ (jC E c Z B N as [3] Value.int σ)) : qa_T E qm_L_rejectionDetail 64 8000 [.ref c, .ref (c + 288)] σ (jL E c Z B N as Value.int Int32.toInt σ) := by
  refine qa_enterHQ (by decide) rfl qm_L_rejectionDetail_ok rfl rfl (fun Q9 hQ => ?_)
  refine qa_aload_n (pc' := 1) ⟨rfl, rfl⟩ rfl ?_
  refine qa_iconst (pc' := 2) ⟨rfl, rfl⟩ ?_
  refine qa_aload_n (pc' := 3) ⟨rfl, rfl⟩ rfl ?_
  refine qa_callV rfl qf_C_rejectionDetail ql_0_190 hT hc rfl rfl rfl (qa_lt9 rfl) (qa_le9 rfl) (qa_le9 rfl) (qa_le9 rfl) (fun o9 τ9 hq9 => ?_)
  obtain ⟨k9, y9, rfl, hk9, hs9, hf9, hm9⟩ := hq9
  have ho9 := (hf9 (c + 288) (by omega)).trans ho
  have e0 : τ9.2 = τ9.2 := rfl
  rcases jk1 hk9 with rfl | rfl
  · rw [jo0]
    refine qa_nx (pc' := 6) (kc' := 60) (ks' := 7976) (st' := [_, _, _]) rfl rfl rfl rfl ?_
    obtain ⟨v9, hv9, rfl⟩ : ∃ v9 : Int, qa_in v9 ∧ y9 = qa_i v9 := ⟨y9.toInt, qa_i_in y9, (qa_i_of y9).symm⟩
    refine qa_i2l (pc' := 7) ⟨rfl, rfl⟩ hv9 ?_
    refine qa_lastore (pc' := 8) ⟨rfl, rfl⟩ ho9 (by omega) (by omega) ?_
    refine qa_gz (fun τ1 e1 w1 f1 => ?_)
    replace e0 := e1.trans e0
    refine qa_goto (pc' := 11) (tgt := 14) ⟨rfl, rfl⟩ rfl ?_
    refine qa_iconst (pc' := 15) ⟨rfl, rfl⟩ ?_
    refine qa_ireturn rfl rfl rfl (hQ _ _ ⟨0, qa_i v9, rfl, ⟨by decide, by decide⟩, by omega, fun q hq => (f1 q (by omega)).trans (hf9 q (by omega)), ⟨_, w1, fun _ => by rw [qa_up_eq]; exact (qa_i_toInt hv9).symm⟩, fun τ2 e2 f2 => hm9 τ2 (e2.trans e1) (fun q q0 q1 => (f2 q q0 q1).trans (f1 q q0))⟩)
  · rw [jo1]
    refine qa_nz ?_
    refine qa_Zh 0 rfl rfl rfl rfl rfl (fun q9 => ?_)
    show qa_W _ _ _ _ _ 11 _ _ _
    refine qa_astore_n (L' := [(0, _), (1, _), (2, _)]) (pc' := 12) ⟨rfl, rfl⟩ rfl rfl ?_
    refine qa_iconst (pc' := 13) ⟨rfl, rfl⟩ ?_
    refine qa_ireturn rfl rfl rfl (hQ _ _ ⟨1, y9, rfl, ⟨by decide, by decide⟩, hs9, fun q hq => hf9 q (by omega), ⟨_, ho9, fun h => absurd h (by decide)⟩, hm9⟩)
theorem l_causeReason {E : qa_V} {σ : qa_S} {c : Nat} {Z : Nat → Nat} {B : Int} {N : qa_M} {as : List Value} {n : Nat → Int}  (hlo : E.1 ≤ c) (hsz : c + 290 ≤ σ.2) (hc : σ.1 c = some (qa_CoF c n)) {a0 : Int → Int} (ho : σ.1 (c + 288) = some (qa_la 1 a0)) (hT : qa_T E qm_C_causeReason 4 24 [.ref c] σ (jC E c Z B N as [3] Value.int σ)) : qa_T E qm_L_causeReason 64 8000 [.ref c, .ref (c + 288)] σ (jL E c Z B N as Value.int Int32.toInt σ) := by
  refine qa_enterHQ (by decide) rfl qm_L_causeReason_ok rfl rfl (fun Q9 hQ => ?_)
  refine qa_aload_n (pc' := 1) ⟨rfl, rfl⟩ rfl ?_
  refine qa_iconst (pc' := 2) ⟨rfl, rfl⟩ ?_
  refine qa_aload_n (pc' := 3) ⟨rfl, rfl⟩ rfl ?_
  refine qa_callV rfl qf_C_causeReason ql_0_193 hT hc rfl rfl rfl (qa_lt9 rfl) (qa_le9 rfl) (qa_le9 rfl) (qa_le9 rfl) (fun o9 τ9 hq9 => ?_)
  obtain ⟨k9, y9, rfl, hk9, hs9, hf9, hm9⟩ := hq9
  have ho9 := (hf9 (c + 288) (by omega)).trans ho
  have e0 : τ9.2 = τ9.2 := rfl
  rcases jk1 hk9 with rfl | rfl
  · rw [jo0]
    refine qa_nx (pc' := 6) (kc' := 60) (ks' := 7976) (st' := [_, _, _]) rfl rfl rfl rfl ?_
    obtain ⟨v9, hv9, rfl⟩ : ∃ v9 : Int, qa_in v9 ∧ y9 = qa_i v9 := ⟨y9.toInt, qa_i_in y9, (qa_i_of y9).symm⟩
    refine qa_i2l (pc' := 7) ⟨rfl, rfl⟩ hv9 ?_
    refine qa_lastore (pc' := 8) ⟨rfl, rfl⟩ ho9 (by omega) (by omega) ?_
    refine qa_gz (fun τ1 e1 w1 f1 => ?_)
    replace e0 := e1.trans e0
    refine qa_goto (pc' := 11) (tgt := 14) ⟨rfl, rfl⟩ rfl ?_
    refine qa_iconst (pc' := 15) ⟨rfl, rfl⟩ ?_
    refine qa_ireturn rfl rfl rfl (hQ _ _ ⟨0, qa_i v9, rfl, ⟨by decide, by decide⟩, by omega, fun q hq => (f1 q (by omega)).trans (hf9 q (by omega)), ⟨_, w1, fun _ => by rw [qa_up_eq]; exact (qa_i_toInt hv9).symm⟩, fun τ2 e2 f2 => hm9 τ2 (e2.trans e1) (fun q q0 q1 => (f2 q q0 q1).trans (f1 q q0))⟩)
  · rw [jo1]
    refine qa_nz ?_
    refine qa_Zh 0 rfl rfl rfl rfl rfl (fun q9 => ?_)
    show qa_W _ _ _ _ _ 11 _ _ _
    refine qa_astore_n (L' := [(0, _), (1, _), (2, _)]) (pc' := 12) ⟨rfl, rfl⟩ rfl rfl ?_
    refine qa_iconst (pc' := 13) ⟨rfl, rfl⟩ ?_
    refine qa_ireturn rfl rfl rfl (hQ _ _ ⟨1, y9, rfl, ⟨by decide, by decide⟩, hs9, fun q hq => hf9 q (by omega), ⟨_, ho9, fun h => absurd h (by decide)⟩, hm9⟩)
theorem l_undo {E : qa_V} {σ : qa_S} {c : Nat} {Z : Nat → Nat} {B : Int} {N : qa_M} {as : List Value} {n : Nat → Int}  (hlo : E.1 ≤ c) (hsz : c + 290 ≤ σ.2) (hc : σ.1 c = some (qa_CoF c n)) {a0 : Int → Int} (ho : σ.1 (c + 288) = some (qa_la 1 a0)) (hT : qa_T E qm_C_undo 1 6 [.ref c] σ (jC E c Z B N as [5] Value.int σ)) : qa_T E qm_L_undo 64 8000 [.ref c, .ref (c + 288)] σ (jL E c Z B N as Value.int Int32.toInt σ) := by
  refine qa_enterHQ (by decide) rfl qm_L_undo_ok rfl rfl (fun Q9 hQ => ?_)
  refine qa_aload_n (pc' := 1) ⟨rfl, rfl⟩ rfl ?_
  refine qa_iconst (pc' := 2) ⟨rfl, rfl⟩ ?_
  refine qa_aload_n (pc' := 3) ⟨rfl, rfl⟩ rfl ?_
  refine qa_callV rfl qf_C_undo ql_0_196 hT hc rfl rfl rfl (qa_lt9 rfl) (qa_le9 rfl) (qa_le9 rfl) (qa_le9 rfl) (fun o9 τ9 hq9 => ?_)
  obtain ⟨k9, y9, rfl, hk9, hs9, hf9, hm9⟩ := hq9
  have ho9 := (hf9 (c + 288) (by omega)).trans ho
  have e0 : τ9.2 = τ9.2 := rfl
  rcases jk1 hk9 with rfl | rfl
  · rw [jo0]
    refine qa_nx (pc' := 6) (kc' := 63) (ks' := 7994) (st' := [_, _, _]) rfl rfl rfl rfl ?_
    obtain ⟨v9, hv9, rfl⟩ : ∃ v9 : Int, qa_in v9 ∧ y9 = qa_i v9 := ⟨y9.toInt, qa_i_in y9, (qa_i_of y9).symm⟩
    refine qa_i2l (pc' := 7) ⟨rfl, rfl⟩ hv9 ?_
    refine qa_lastore (pc' := 8) ⟨rfl, rfl⟩ ho9 (by omega) (by omega) ?_
    refine qa_gz (fun τ1 e1 w1 f1 => ?_)
    replace e0 := e1.trans e0
    refine qa_goto (pc' := 11) (tgt := 14) ⟨rfl, rfl⟩ rfl ?_
    refine qa_iconst (pc' := 15) ⟨rfl, rfl⟩ ?_
    refine qa_ireturn rfl rfl rfl (hQ _ _ ⟨0, qa_i v9, rfl, ⟨by decide, by decide⟩, by omega, fun q hq => (f1 q (by omega)).trans (hf9 q (by omega)), ⟨_, w1, fun _ => by rw [qa_up_eq]; exact (qa_i_toInt hv9).symm⟩, fun τ2 e2 f2 => hm9 τ2 (e2.trans e1) (fun q q0 q1 => (f2 q q0 q1).trans (f1 q q0))⟩)
  · rw [jo1]
    refine qa_nz ?_
    refine qa_Zh 0 rfl rfl rfl rfl rfl (fun q9 => ?_)
    show qa_W _ _ _ _ _ 11 _ _ _
    refine qa_astore_n (L' := [(0, _), (1, _), (2, _)]) (pc' := 12) ⟨rfl, rfl⟩ rfl rfl ?_
    refine qa_iconst (pc' := 13) ⟨rfl, rfl⟩ ?_
    refine qa_ireturn rfl rfl rfl (hQ _ _ ⟨1, y9, rfl, ⟨by decide, by decide⟩, hs9, fun q hq => hf9 q (by omega), ⟨_, ho9, fun h => absurd h (by decide)⟩, hm9⟩)
theorem l_restoreSnapshot {E : qa_V} {σ : qa_S} {c : Nat} {Z : Nat → Nat} {B : Int} {N : qa_M} {as : List Value} {n : Nat → Int}  (hlo : E.1 ≤ c) (hsz : c + 290 ≤ σ.2) (hc : σ.1 c = some (qa_CoF c n)) {a0 : Int → Int} (ho : σ.1 (c + 288) = some (qa_la 1 a0)) (hT : qa_T E qm_C_restoreSnapshot 1 6 [.ref c] σ (jC E c Z B N as [5] Value.int σ)) : qa_T E qm_L_restoreSnapshot 64 8000 [.ref c, .ref (c + 288)] σ (jL E c Z B N as Value.int Int32.toInt σ) := by
  refine qa_enterHQ (by decide) rfl qm_L_restoreSnapshot_ok rfl rfl (fun Q9 hQ => ?_)
  refine qa_aload_n (pc' := 1) ⟨rfl, rfl⟩ rfl ?_
  refine qa_iconst (pc' := 2) ⟨rfl, rfl⟩ ?_
  refine qa_aload_n (pc' := 3) ⟨rfl, rfl⟩ rfl ?_
  refine qa_callV rfl qf_C_restoreSnapshot ql_0_199 hT hc rfl rfl rfl (qa_lt9 rfl) (qa_le9 rfl) (qa_le9 rfl) (qa_le9 rfl) (fun o9 τ9 hq9 => ?_)
  obtain ⟨k9, y9, rfl, hk9, hs9, hf9, hm9⟩ := hq9
  have ho9 := (hf9 (c + 288) (by omega)).trans ho
  have e0 : τ9.2 = τ9.2 := rfl
  rcases jk1 hk9 with rfl | rfl
  · rw [jo0]
    refine qa_nx (pc' := 6) (kc' := 63) (ks' := 7994) (st' := [_, _, _]) rfl rfl rfl rfl ?_
    obtain ⟨v9, hv9, rfl⟩ : ∃ v9 : Int, qa_in v9 ∧ y9 = qa_i v9 := ⟨y9.toInt, qa_i_in y9, (qa_i_of y9).symm⟩
    refine qa_i2l (pc' := 7) ⟨rfl, rfl⟩ hv9 ?_
    refine qa_lastore (pc' := 8) ⟨rfl, rfl⟩ ho9 (by omega) (by omega) ?_
    refine qa_gz (fun τ1 e1 w1 f1 => ?_)
    replace e0 := e1.trans e0
    refine qa_goto (pc' := 11) (tgt := 14) ⟨rfl, rfl⟩ rfl ?_
    refine qa_iconst (pc' := 15) ⟨rfl, rfl⟩ ?_
    refine qa_ireturn rfl rfl rfl (hQ _ _ ⟨0, qa_i v9, rfl, ⟨by decide, by decide⟩, by omega, fun q hq => (f1 q (by omega)).trans (hf9 q (by omega)), ⟨_, w1, fun _ => by rw [qa_up_eq]; exact (qa_i_toInt hv9).symm⟩, fun τ2 e2 f2 => hm9 τ2 (e2.trans e1) (fun q q0 q1 => (f2 q q0 q1).trans (f1 q q0))⟩)
  · rw [jo1]
    refine qa_nz ?_
    refine qa_Zh 0 rfl rfl rfl rfl rfl (fun q9 => ?_)
    show qa_W _ _ _ _ _ 11 _ _ _
    refine qa_astore_n (L' := [(0, _), (1, _), (2, _)]) (pc' := 12) ⟨rfl, rfl⟩ rfl rfl ?_
    refine qa_iconst (pc' := 13) ⟨rfl, rfl⟩ ?_
    refine qa_ireturn rfl rfl rfl (hQ _ _ ⟨1, y9, rfl, ⟨by decide, by decide⟩, hs9, fun q hq => hf9 q (by omega), ⟨_, ho9, fun h => absurd h (by decide)⟩, hm9⟩)
