section QM
variable {E : qa_V} {M : qa_M} {Q : qa_O → qa_S → Prop} {kc ks pc pc' : Nat} {L L' : qa_L} {st : List Value} {σ : qa_S}
def qa_cp (f g : Int → Int) (sp dp n : Int) : Int → Int := fun q => if dp ≤ q ∧ q < dp + n then f (sp + (q - dp)) else g q
theorem qa_enterQ {mc ms : Nat} {as : List Value} (hy : plainName (qa_y M).cls = true) (hh0 : qa_hh M = []) (hok : qa_OK M) (hown : (qa_y M).cls = qa_R (qa_ow M)) (hsl : Nat.ble (lg_sl as).length (qa_ml M) = true)
    (body : ∀ Q9 : qa_O → qa_S → Prop, (∀ o t, Q o t → Q9 o t) → qa_W E M Q9 mc ms 0 (lv_args 0 as) [] σ) : qa_T E M mc ms as σ Q := qa_enter hy hh0 hok hown hsl (body Q fun _ _ h => h)
theorem qa_copy {idx a0 a n0 n1 t : Nat} {ty : FieldType} {f g : Int → Int} {sp dp n : Int} (hd : qa_op M pc (.invokestatic idx) 3 pc') (hl9 : Cond.methodLink (qa_R (qa_ow M)) idx arraycopyName ∈ qa_tb) (hnat : Cond.native arraycopyName ∈ qa_tb) (hstat : Cond.static arraycopyName ∈ qa_tb) (hini : Cond.initialized "java/lang/System" ∈ qa_tb)
    (hty : qa_ty[t]? = some ty) (hprim : refKind ty = false) (hx0 : σ.1 a0 = some (.inr (t, n0, .inl (fun q => qa_i (f q))))) (hx : σ.1 a = some (.inr (t, n1, .inl (fun q => qa_i (g q))))) (hlo0 : E.1 ≤ a0) (hlo : E.1 ≤ a) (hb : 0 ≤ sp ∧ 0 ≤ dp ∧ 0 ≤ n ∧ sp + n ≤ n0 ∧ dp + n ≤ n1 ∧ sp < 2147483648 ∧ dp < 2147483648 ∧ n < 2147483648) (hfit : ∀ i, fits ty (.int (qa_i (f i))) = true) (hsum : (st.map fun v => v.category).sum ≤ 8)
    (k : qa_W E M Q kc ks pc' L st (qa_set σ.1 a (.inr (t, n1, .inl (fun q => qa_i (qa_cp f g sp dp n q)))), σ.2)) : qa_W E M Q kc ks pc L (.int (qa_i n) :: .int (qa_i dp) :: .ref a :: .int (qa_i sp) :: .ref a0 :: st) σ := by
  obtain ⟨hd, rfl⟩ := hd
  intro G p l e R s m args below meth c H locs cells slots ls ok C hR hS hL hc hs
  have hts := C.2.2.2.2.2.2.2.2.2.2.2.2.2
  have hK := C.2.2.2.2.2.2.2.2.2.2.2.2.1
  have r1 := C.2.2.2.2.2.2.2.2.2.1
  have r2 := C.2.2.2.2.2.2.2.2.2.2.1
  have hc0 : H[a0]? = some (vp_cell (G.2.2 t) (n0, .inl (fun q => qa_i (f q)))) := (hR.2 a0 _ hx0).2 hlo0
  have hc1 : H[a]? = some (vp_cell (G.2.2 t) (n1, .inl (fun q => qa_i (g q)))) := (hR.2 a _ hx).2 hlo
  obtain ⟨-, k0, hk0, cm0, hkk0⟩ := (hK.2.1 t ty hty).1 n0 (fun j => .int (qa_i (f j)))
  obtain ⟨b1, b2, b3, b4, b5, b6, b7, b8⟩ := hb
  have i1 := qa_i_ix b1 b6
  have i2 := qa_i_ix b2 b7
  have i3 := qa_i_ix b3 b8
  have q1 : (qa_i sp).toInt = sp := qa_i_toInt (by omega)
  have q2 : (qa_i dp).toInt = dp := qa_i_toInt (by omega)
  have q3 : (qa_i n).toInt = n := qa_i_toInt (by omega)
  have nn : ∀ z : Int, 0 ≤ z → z < 2147483648 → ¬ qa_i z < 0 := fun z h1 h2 h3 => by rw [← qa_i0, qa_i_lt (by omega) (by omega)] at h3; omega
  have h9 : nativeFrameWords "java/lang/System" "arraycopy" 5 ≤ 100 := by decide +kernel
  intro T hT X
  obtain ⟨vm', X', step⟩ := X.arraycopy C.1 C.2.2.2.2.2.1 (hts _ hl9) (hts _ hnat) (hts _ hstat) (hts _ hini) (src := a0) (dst := a) (cs := vp_cell (G.2.2 t) (n0, .inl (fun q => qa_i (f q)))) (cd := vp_cell (G.2.2 t) (n1, .inl (fun q => qa_i (g q)))) (srcPos := qa_i sp) (destPos := qa_i dp) (n := qa_i n) (by rw [hT]; exact hc0) (by rw [hT]; exact hc1)
    (fun _ h => by cases h) (fun _ h => by cases h) (fun h => by cases h) (fun h => by cases h) hk0 hk0 hkk0 hkk0 (by simp [hprim]) (nn _ b1 b6) (nn _ b2 b7) (nn _ b3 b8)
    (by rw [q1, q3]; show ¬ _ > ((arrV (G.2.2 t) n0 (fun j => .int (qa_i (f j)))).slots.size : Int); rw [arrV_size]; omega)
    (by rw [q2, q3]; show ¬ _ > ((arrV (G.2.2 t) n1 (fun j => .int (qa_i (g j)))).slots.size : Int); rw [arrV_size]; omega)
    (fun vm₁ _ i hi => by
      rw [i3] at hi
      have e : (vp_cell (G.2.2 t) (n0, .inl (fun q => qa_i (f q)))).slots.getD ((qa_i sp).toNatClampNeg + i) .null = .int (qa_i (f (((qa_i sp).toNatClampNeg + i : Nat) : Int))) := by
        show (arrV (G.2.2 t) n0 (fun j => .int (qa_i (f j)))).slots.getD _ _ = _
        rw [Array.getD_eq_getD_getElem?, arrV_read _ _ (by rw [i1]; omega)]
        rfl
      refine ⟨?_, ?_⟩
      · rw [e]
        exact hfit _
      · rw [e]
        exact trivial)
    (g := F0 m pc ls (.int (qa_i n) :: .int (qa_i dp) :: .ref a :: .int (qa_i sp) :: .ref a0 :: st)) rfl (hL.1.trans C.2.2.1.symm) (rest := st) rfl (by rw [C.2.1]; exact ok _ _ _ hd) (by omega) (by show 2 * 0 + _ + (nativeFrameWords "java/lang/System" "arraycopy" 5 + 11) ≤ _; omega)
  have e1 : copied (vp_cell (G.2.2 t) (n0, .inl (fun q => qa_i (f q)))) (vp_cell (G.2.2 t) (n1, .inl (fun q => qa_i (g q)))) (qa_i sp) (qa_i dp) (qa_i n) = vp_cell (G.2.2 t) (n1, .inl (va_cpy (fun q : Nat => qa_i (f q)) (fun q : Nat => qa_i (g q)) (qa_i sp).toNatClampNeg (qa_i dp).toNatClampNeg (qa_i n).toNatClampNeg)) := va_copied (fun z : Int32 => Value.int z) (G.2.2 t) (G.2.2 t) (n0 := n0) (n1 := n1) (sp := (qa_i sp).toNatClampNeg) (dp := (qa_i dp).toNatClampNeg) (n := (qa_i n).toNatClampNeg) (fun q : Nat => qa_i (f q)) (fun q : Nat => qa_i (g q)) (by rw [i1, i3]; omega)
  have e2 : (va_cpy (fun q : Nat => qa_i (f q)) (fun q : Nat => qa_i (g q)) (qa_i sp).toNatClampNeg (qa_i dp).toNatClampNeg (qa_i n).toNatClampNeg) = (fun q : Nat => qa_i (qa_cp f g sp dp n q)) := by
    funext q
    simp only [va_cpy, qa_cp, i1, i2, i3]
    by_cases hq : dp ≤ (q : Int) ∧ (q : Int) < dp + n
    · rw [if_pos (by omega), if_pos hq]
      congr 2
      omega
    · rw [if_neg (by omega), if_neg hq]
  rw [e1, e2] at X' step
  have hl : a < H.size := (Array.getElem?_eq_some_iff.mp hc1).1
  obtain ⟨X8, hX8⟩ : ∃ X8, X8 = vp_cell (G.2.2 t) (n1, .inl (fun q : Nat => qa_i (qa_cp f g sp dp n q))) := ⟨_, rfl⟩
  rw [← hX8] at X' step
  have hheap : ((T.setVm vm').setCell a X8).heap = H.setIfInBounds a X8 := by rw [← hT]; rfl
  have oq : ∀ q : Nat, q ≠ a → (H.setIfInBounds a X8)[q]? = H[q]? := fun q hq => by simp [Array.getElem?_setIfInBounds, Ne.symm hq]
  have hz : (H.setIfInBounds a X8).size = H.size := by simp
  obtain ⟨t9, a1, b1⟩ := k G p l e R s m args below meth c (H.setIfInBounds a X8) _ cells slots ls ok C (qa_put9 hK hR hty hz oq (by rw [← hX8]; simp [Array.getElem?_setIfInBounds, hl])) ⟨by rw [hz]; exact hS.1, fun q g1 g2 => by
      rw [oq q (fun e => g2 (by rw [e]; exact hlo))]
      exact hS.2.1 q g1 g2, fun q hq => by
      rcases List.mem_append.mp hq with h | h
      · exact hS.2.2 q h
      · obtain ⟨z, -, hz⟩ := List.mem_map.mp h
        rw [← hz]
        exact hlo⟩ hL hc hs _ hheap X'
  exact ⟨t9, step t9 a1, b1⟩
theorem qa_aastore {a n t v ci nw : Nat} {f : Int → Option Nat} {fs : List Value} {j : Int} {nm : String} (hd : qa_op M pc (.aastore) 1 pc') (hx : σ.1 a = some (qa_ra t n f)) (hlo : E.1 ≤ a) (hj : 0 ≤ j ∧ j < n ∧ j < 2147483648) (hv : σ.1 v = some (.inl (ci, fs))) (hty : qa_ty[t]? = some (.object nm)) (hnm : (qa_cl[ci]?).map (fun r => r.1) = some nm) (hin : Cond.instantiable nm nw ∈ qa_tb)
    (k : qa_W E M Q kc ks pc' L st (qa_set σ.1 a (qa_ra t n (qa_upq f j (some v))), σ.2)) : qa_W E M Q kc ks pc L (.ref v :: .int (qa_i j) :: .ref a :: st) σ := by
  obtain ⟨hd, rfl⟩ := hd
  intro G p l e R s m args below meth c H locs cells slots ls ok C hR hS hL hc hs
  have hts := C.2.2.2.2.2.2.2.2.2.2.2.2.2
  have hK := C.2.2.2.2.2.2.2.2.2.2.2.2.1
  obtain ⟨g1, g2, g3, g4⟩ := qa_at.arrS hK hR hx hlo hty hj
  obtain ⟨cC, kC, i1, i2, i3, -⟩ := Cond.instantiable_spec (hts _ hin)
  have hcls : ClassAt s nm cC := ⟨i1, kC, i2, i3⟩
  obtain ⟨cellV, c1, c2, c3, c4, -⟩ := (hR.2 v _ hv).1
  obtain ⟨kA, comp, k1, k2, k3, -⟩ := (hK.2.1 t _ hty).2
  have hcomp : comp = cC := Option.some.inj (k3.symm.trans i1)
  subst hcomp
  have hcv : cellV.cls = comp := by
    cases hci : qa_cl[ci]? with
    | none => rw [hci] at hnm; cases hnm
    | some r =>
      rw [hci] at hnm
      cases hnm
      rw [c2]
      exact Option.some.inj ((hK.1 ci r hci).2.symm.trans i1)
  have g4' : ¬ qa_i j < 0 ∧ (qa_i j).toNatClampNeg < (vp_cell (G.2.2 t) (n, .inr (.inr (.inr (.inr (fun q : Nat => f q)))))).slots.size := ⟨fun h => g4 (Or.inl h), Nat.not_le.mp fun h => g4 (Or.inr h)⟩
  refine W.aast C.1 C.2.1 g1 (fun q h => by cases h) (fun h => by cases h) k1 k2 rfl i2 g4' c1 (fun q h => by rw [h] at c4; cases c4) (by rw [hcv]; exact i2) (by rw [hcv]; exact va_assign hcls) rfl rfl (ok _ _ _ hd) fun H1 e8 z oq => ?_
  refine k G p l e R s m args below meth c H1 _ cells slots ls ok C (qa_put9 hK hR hty z oq ?_) (hS.put z oq hlo) hL hc hs
  rw [e8, vp_cell_q, vp_cell_q, arrV_store]
  congr 2
  funext q
  simp only [updV, qa_upq, qa_i_ix hj.1 hj.2.2]
  by_cases hq : q = j.toNat
  · rw [if_pos hq, if_pos (by omega)]; rfl
  · rw [if_neg hq, if_neg (by omega)]
theorem qa_anewr {idx t N : Nat} {j : Int} {nm : String} (hd : qa_op M pc (.anewarray idx) 3 pc') (hty : qa_ty[t]? = some (.object nm)) (hl9 : Cond.classLink (qa_R (qa_ow M)) idx nm ∈ qa_tb) (hov : Cond.arrayOver (.object nm) ∈ lw_tbl) (hj : 0 ≤ j ∧ j = N ∧ j < 1000000)
    (k : qa_W E M Q kc ks pc' L (.ref σ.2 :: st) (qa_set σ.1 σ.2 (qa_ra t N (fun _ => none)), σ.2 + 1)) : qa_W E M Q (kc + 1) (ks + N) pc L (.int (qa_i j) :: st) σ := by
  obtain ⟨hd, rfl⟩ := hd
  intro G p l e R s m args below meth c H locs cells slots ls ok C hR hS hL hc hs
  have hts := C.2.2.2.2.2.2.2.2.2.2.2.2.2
  have hK := C.2.2.2.2.2.2.2.2.2.2.2.2.1
  have hix := qa_i_ix hj.1 (by omega : j < 2147483648)
  refine W.anew C.1 C.2.1 C.2.2.2.2.2.1 (hts _ hl9) (va_AO.use (hK.2.2.2.1 nm hov)) rfl (ok _ _ _ hd) rfl (by rw [← qa_i0, qa_i_lt (by omega) (by omega)]; omega) (by rw [hix]; omega) (by omega) (by rw [hix]; omega) fun cA kA comp f1 f2 f3 f4 => ?_
  obtain ⟨hA, hRA⟩ := hK.2.1 t _ hty
  have hcA : cA = G.2.2 t := by
    obtain ⟨_, _, _, _, _, h9⟩ := hRA
    exact Option.some.inj (f1.symm.trans h9)
  subst hcA
  have hN : (qa_i j).toNatClampNeg = N := by rw [hix]; omega
  rw [hN, hR.1]
  generalize hH1 : H.push ({ cls := G.2.2 t, slots := Array.replicate N .null, vm := .none } : Cell) = H1
  have z1 : H1.size = H.size + 1 := by rw [← hH1, Array.size_push]
  have e1 : H1[σ.2]? = some (arrV (G.2.2 t) N (fun _ => .null)) := by rw [← hH1, ← hR.1, Array.getElem?_push_size, ← arrV_new]
  have o1 : ∀ q : Nat, q < H.size → H1[q]? = H[q]? := fun q hq => by rw [← hH1, Array.getElem?_push, if_neg (Nat.ne_of_lt hq)]
  have hs1 : qa_atS G σ.2 (qa_ra t N (fun _ => none)) H1 := e1
  exact k G p l e R s m args below meth c H1 locs (cells + 1) (slots + N) ls ok C (hR.push z1 o1 ⟨qa_atS.W2 (E := E) hty hA hs1, fun _ => hs1⟩) (qa_S_push hS z1 o1) hL (by omega) (by omega)
end QM
theorem qa_acN : Cond.native arraycopyName ∈ qa_tb := (qa_wj 2 217 (by decide +kernel) (by decide +kernel))
theorem qa_acS : Cond.static arraycopyName ∈ qa_tb := (qa_wj 2 216 (by decide +kernel) (by decide +kernel))
theorem qa_acI : Cond.initialized "java/lang/System" ∈ qa_tb := (qa_wj 1 16 (by decide +kernel) (by decide +kernel))
theorem qac_4_18 : Cond.methodLink (qa_R 4) 18 arraycopyName ∈ qa_tb := (qa_wj 2 222 (by decide +kernel) (by decide +kernel))
theorem qac_3_25 : Cond.methodLink (qa_R 3) 25 arraycopyName ∈ qa_tb := (qa_wj 2 215 (by decide +kernel) (by decide +kernel))
theorem qac_5_22 : Cond.methodLink (qa_R 5) 22 arraycopyName ∈ qa_tb := (qa_wj 2 227 (by decide +kernel) (by decide +kernel))
theorem qac_13_212 : Cond.methodLink (qa_R 13) 212 arraycopyName ∈ qa_tb := (qa_wj 6 133 (by decide +kernel) (by decide +kernel))
theorem qac_19_150 : Cond.methodLink (qa_R 19) 150 arraycopyName ∈ qa_tb := (qa_wj 6 60 (by decide +kernel) (by decide +kernel))
