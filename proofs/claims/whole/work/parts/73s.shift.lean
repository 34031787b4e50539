/-! a piece of the code decoded by itself -/
def qd_S (lo : Nat) (b b' : ByteArray) {α : Type} (r : ClassFile.Decoder α) : Prop := ∀ (p q : Nat) (a : α), r.runAt b' p = .ok (a, q) → r.runAt b (lo + p) = .ok (a, lo + q)
def qd_H (lo : Nat) (b b' : ByteArray) : Prop := ∀ (k : Nat) (h : k < b'.size), ∃ h2 : lo + k < b.size, b[lo + k] = b'[k]
theorem qd_Hof {lo : Nat} {b b' : ByteArray} (h : (b.data.toList.drop lo).take b'.data.toList.length = b'.data.toList) : qd_H lo b b' := by
  intro k hk
  have hk2 : k < b'.data.toList.length := hk
  have h1 : b'.data.toList[k]? = b.data.toList[lo + k]? := by
    rw [← h, List.getElem?_take, if_pos hk2, List.getElem?_drop]
  rw [List.getElem?_eq_getElem hk2] at h1
  obtain ⟨h3, h4⟩ := List.getElem?_eq_some_iff.mp h1.symm
  exact ⟨h3, h4⟩
theorem qd_pure {lo : Nat} {b b' : ByteArray} {α : Type} (x : α) : qd_S lo b b' (pure x : ClassFile.Decoder α) := by
  intro p q a h
  have h2 : (Except.ok (x, p) : Except ClassFile.DecodeError (α × Nat)) = .ok (a, q) := h
  injection h2 with h3
  cases h3
  rfl
theorem qd_be {b : ByteArray} {p : Nat} {α β : Type} (r : ClassFile.Decoder α) (f : α → ClassFile.Decoder β) : (r >>= f).runAt b p = Except.bind (r.runAt b p) (fun y => (f y.1).runAt b y.2) := rfl
theorem qd_bind {lo : Nat} {b b' : ByteArray} {α β : Type} {r : ClassFile.Decoder α} {f : α → ClassFile.Decoder β} (hr : qd_S lo b b' r) (hf : ∀ x, qd_S lo b b' (f x)) : qd_S lo b b' (r >>= f) := by
  intro p q a h
  rw [qd_be] at h ⊢
  cases hr' : r.runAt b' p with
  | error e => rw [hr'] at h; cases h
  | ok y =>
    rw [hr'] at h
    rw [hr p y.2 y.1 hr']
    exact hf y.1 y.2 q a h
theorem qd_me {b : ByteArray} {p : Nat} {α β : Type} (r : ClassFile.Decoder α) (f : α → β) : (f <$> r).runAt b p = Except.bind (r.runAt b p) (fun y => .ok (f y.1, y.2)) := rfl
theorem qd_map {lo : Nat} {b b' : ByteArray} {α β : Type} {r : ClassFile.Decoder α} {f : α → β} (hr : qd_S lo b b' r) : qd_S lo b b' (f <$> r) := by
  intro p q a h
  rw [qd_me] at h ⊢
  cases hr' : r.runAt b' p with
  | error e => rw [hr'] at h; cases h
  | ok y =>
    rw [hr'] at h
    rw [hr p y.2 y.1 hr']
    have h2 : (Except.ok (f y.1, y.2) : Except ClassFile.DecodeError (β × Nat)) = .ok (a, q) := h
    injection h2 with h3
    cases h3
    rfl
theorem qd_u1d (b : ByteArray) (p : Nat) : (ClassFile.Reader.u1 : ClassFile.Decoder Nat).runAt b p = (dite (p < b.size) (fun h => (do set (p + 1); pure b[p].toNat)) (fun _ => throw (ClassFile.DecodeError.truncated p)) : ClassFile.Decoder Nat) b p := rfl
theorem qd_u1r (b : ByteArray) (p : Nat) (hp : p < b.size) : (ClassFile.Reader.u1 : ClassFile.Decoder Nat).runAt b p = .ok (b[p].toNat, p + 1) := by
  rw [qd_u1d, dif_pos hp]
  rfl
theorem qd_u1n (b : ByteArray) (p : Nat) (hp : ¬ p < b.size) : (ClassFile.Reader.u1 : ClassFile.Decoder Nat).runAt b p = .error (.truncated p) := by
  rw [qd_u1d, dif_neg hp]
  rfl
theorem qd_u1 {lo : Nat} {b b' : ByteArray} (hb : qd_H lo b b') : qd_S lo b b' (ClassFile.Reader.u1 : ClassFile.Decoder Nat) := by
  intro p q a h
  by_cases hp : p < b'.size
  · obtain ⟨h2, e⟩ := hb p hp
    rw [qd_u1r b' p hp] at h
    injection h with h3
    cases h3
    rw [qd_u1r b (lo + p) h2, e]
    rfl
  · rw [qd_u1n b' p hp] at h
    cases h
theorem qd_u2 {lo : Nat} {b b' : ByteArray} (hb : qd_H lo b b') : qd_S lo b b' (ClassFile.Reader.u2 : ClassFile.Decoder Nat) := by
  unfold ClassFile.Reader.u2
  exact qd_bind (qd_u1 hb) fun _ => qd_bind (qd_u1 hb) fun _ => qd_pure _
theorem qd_s1 {lo : Nat} {b b' : ByteArray} (hb : qd_H lo b b') : qd_S lo b b' (ClassFile.Reader.s1 : ClassFile.Decoder Int) := by
  unfold ClassFile.Reader.s1
  exact qd_map (qd_u1 hb)
theorem qd_s2 {lo : Nat} {b b' : ByteArray} (hb : qd_H lo b b') : qd_S lo b b' (ClassFile.Reader.s2 : ClassFile.Decoder Int) := by
  unfold ClassFile.Reader.s2
  exact qd_map (qd_u2 hb)
def qd_ops : List Nat := [3, 4, 5, 6, 9, 10, 21, 22, 23, 24, 25, 42, 43, 44, 45, 46, 47, 49, 54, 55, 56, 57, 96, 132, 133, 141, 146, 148, 149, 151, 153, 154, 159, 167, 172, 182, 184]
def qd_op (b' : ByteArray) (p : Nat) : Bool := match (ClassFile.Reader.u1 : ClassFile.Decoder Nat).runAt b' p with
  | .ok y => qd_ops.contains y.1
  | .error _ => false
theorem qd_top {lo : Nat} {b b' : ByteArray} {α : Type} {f : Nat → ClassFile.Decoder α} (hb : qd_H lo b b') {p q : Nat} {a : α} (hop : qd_op b' p = true) (hf : ∀ op, op ∈ qd_ops → qd_S lo b b' (f op)) (h : ((ClassFile.Reader.u1 : ClassFile.Decoder Nat) >>= f).runAt b' p = .ok (a, q)) : ((ClassFile.Reader.u1 : ClassFile.Decoder Nat) >>= f).runAt b (lo + p) = .ok (a, lo + q) := by
  rw [qd_be] at h ⊢
  unfold qd_op at hop
  cases hr' : (ClassFile.Reader.u1 : ClassFile.Decoder Nat).runAt b' p with
  | error e => rw [hr'] at h; cases h
  | ok y =>
    rw [hr'] at h hop
    rw [qd_u1 hb p y.2 y.1 hr']
    exact hf y.1 (List.contains_iff_mem.mp hop) y.2 q a h
theorem qd_instr {lo : Nat} {b b' : ByteArray} (hb : qd_H lo b b') {pc p q : Nat} {a : Instr} (hop : qd_op b' p = true) (h : (ClassFile.Decoder.instr pc).runAt b' p = .ok (a, q)) : (ClassFile.Decoder.instr pc).runAt b (lo + p) = .ok (a, lo + q) := by
  unfold ClassFile.Decoder.instr at h ⊢
  refine qd_top hb hop (fun op hX => ?_) h
  simp only [qd_ops, List.mem_cons, List.not_mem_nil, or_false] at hX
  rcases hX with rfl | rfl | rfl | rfl | rfl | rfl | rfl | rfl | rfl | rfl | rfl | rfl | rfl | rfl | rfl | rfl | rfl | rfl | rfl | rfl | rfl | rfl | rfl | rfl | rfl | rfl | rfl | rfl | rfl | rfl | rfl | rfl | rfl | rfl | rfl | rfl | rfl
  · exact qd_pure _
  · exact qd_pure _
  · exact qd_pure _
  · exact qd_pure _
  · exact qd_pure _
  · exact qd_pure _
  · exact qd_bind (qd_u1 hb) fun _ => qd_pure _
  · exact qd_bind (qd_u1 hb) fun _ => qd_pure _
  · exact qd_bind (qd_u1 hb) fun _ => qd_pure _
  · exact qd_bind (qd_u1 hb) fun _ => qd_pure _
  · exact qd_bind (qd_u1 hb) fun _ => qd_pure _
  · exact qd_pure _
  · exact qd_pure _
  · exact qd_pure _
  · exact qd_pure _
  · exact qd_pure _
  · exact qd_pure _
  · exact qd_pure _
  · exact qd_bind (qd_u1 hb) fun _ => qd_pure _
  · exact qd_bind (qd_u1 hb) fun _ => qd_pure _
  · exact qd_bind (qd_u1 hb) fun _ => qd_pure _
  · exact qd_bind (qd_u1 hb) fun _ => qd_pure _
  · exact qd_pure _
  · exact qd_bind (qd_u1 hb) fun _ => qd_bind (qd_s1 hb) fun _ => qd_pure _
  · exact qd_pure _
  · exact qd_pure _
  · exact qd_pure _
  · exact qd_pure _
  · exact qd_pure _
  · exact qd_pure _
  · exact qd_bind (qd_s2 hb) fun _ => qd_pure _
  · exact qd_bind (qd_s2 hb) fun _ => qd_pure _
  · exact qd_bind (qd_s2 hb) fun _ => qd_pure _
  · exact qd_bind (qd_s2 hb) fun _ => qd_pure _
  · exact qd_pure _
  · exact qd_bind (qd_u2 hb) fun _ => qd_pure _
  · exact qd_bind (qd_u2 hb) fun _ => qd_pure _
def qd_chk (lo : Nat) (b' : ByteArray) (f : Nat → Option (Instr × Nat)) (j : Nat) : Bool := match f (lo + j) with
  | none => true
  | some (i, n) => qd_op b' j && match (ClassFile.Decoder.instr (lo + j)).runAt b' j with
    | .ok y => decide (y.1 = i) && Nat.beq y.2 (j + n)
    | .error _ => false
theorem qd_of {lo : Nat} {b b' : ByteArray} (hb : qd_H lo b b') {f : Nat → Option (Instr × Nat)} {j : Nat} (h : qd_chk lo b' f j = true) : qa_chk b f (lo + j) = true := by
  unfold qd_chk at h
  unfold qa_chk
  cases hf : f (lo + j) with
  | none => rfl
  | some y =>
    obtain ⟨i, n⟩ := y
    rw [hf] at h
    obtain ⟨h1, h2⟩ := Bool.and_eq_true_iff.mp h
    cases hr : (ClassFile.Decoder.instr (lo + j)).runAt b' j with
    | error e => rw [hr] at h2; cases h2
    | ok y =>
      rw [hr] at h2
      obtain ⟨h3, h4⟩ := Bool.and_eq_true_iff.mp h2
      have h3 := of_decide_eq_true h3
      have h4 := Nat.eq_of_beq_eq_true h4
      have h5 := qd_instr hb h1 hr
      have h6 : decode b (lo + j) = .ok (y.1, lo + y.2 - (lo + j)) := by
        show Except.bind ((ClassFile.Decoder.instr (lo + j)).runAt b (lo + j)) (fun z => Except.ok (z.1, z.2 - (lo + j))) = _
        rw [h5]
        rfl
      rw [h4, show lo + (j + n) - (lo + j) = n by omega, h3] at h6
      show (match decode b (lo + j) with | .ok (i9, n9) => decide (i9 = i) && Nat.beq n9 n | .error _ => false) = true
      rw [h6]
      show (decide (i = i) && Nat.beq n n) = true
      rw [decide_eq_true rfl, Nat.beq_refl]
      rfl
theorem qd_rng {lo n : Nat} {b b' : ByteArray} {f : Nat → Option (Instr × Nat)} (h0 : (b.data.toList.drop lo).take b'.data.toList.length = b'.data.toList) (h : qa_rng 0 n (qd_chk lo b' f) = true) {p : Nat} (h1 : lo ≤ p) (h2 : p < lo + n) : qa_chk b f p = true := by
  have h3 : qd_chk lo b' f (p - lo) = true := qa_rng_of h (Nat.zero_le _) (by omega)
  have h4 := qd_of (qd_Hof h0) h3
  rwa [show lo + (p - lo) = p by omega] at h4
