section QZ
variable {E : qa_V} {M : qa_M} {Q : qa_O → qa_S → Prop} {kc ks pc : Nat} {L : qa_L} {st : List Value} {σ : qa_S}
/-- a written heap under a name of its own -/
theorem qa_gz {a : Nat} {x : qa_E} (k : ∀ τ : qa_S, τ.2 = σ.2 → τ.1 a = some x → (∀ q, q ≠ a → τ.1 q = σ.1 q) → qa_W E M Q kc ks pc L st τ) : qa_W E M Q kc ks pc L st (qa_set σ.1 a x, σ.2) :=
  k _ rfl (qa_set_eq _ _ _) (fun _ hq => qa_set_ne hq)
/-- .. and one with a new cell -/
theorem qa_gn {x : qa_E} (k : ∀ τ : qa_S, τ.2 = σ.2 + 1 → τ.1 σ.2 = some x → (∀ q, q ≠ σ.2 → τ.1 q = σ.1 q) → qa_W E M Q kc ks pc L st τ) : qa_W E M Q kc ks pc L st (qa_set σ.1 σ.2 x, σ.2 + 1) :=
  k _ rfl (qa_set_eq _ _ _) (fun _ hq => qa_set_ne hq)
end QZ
/-- a part's fields -/
def qa_PtF (b : Nat) (n t u d s o : Int) : qa_E := .inl (2, [.ref (b + 1), .ref (b + 2), .int (qa_i n), .int (qa_i t), .int (qa_i u), .int (qa_i d), .int (qa_i s), .int (qa_i o)])
section QZ2
variable {E : qa_V} {M : qa_M} {Q : qa_O → qa_S → Prop} {kc ks pc : Nat} {L : qa_L} {st : List Value} {σ : qa_S}
theorem qa_nx {kc' ks' pc' : Nat} {st' rest : List Value} {v : Option Value} (hpc : pc + 3 = pc') (h1 : kc' = kc) (h2 : ks' = ks) (hst : v.toList ++ rest = st') (k : qa_W E M Q kc' ks' pc' L st' σ) : qa_N E M Q kc ks pc L rest (.inl v) σ := by
  subst hpc; subst hst; subst h1; subst h2; exact k
theorem qa_lt9 {a b : Nat} (h : Nat.ble (a + 1) b = true) : a < b := Nat.le_of_ble_eq_true h
theorem qa_le9 {a b : Nat} (h : Nat.ble a b = true) : a ≤ b := Nat.le_of_ble_eq_true h
end QZ2
