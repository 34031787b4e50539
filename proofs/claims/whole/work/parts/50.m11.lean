/-- the fields that a query leaves alone -/
def sM_same (f f' : Nat → Int) : Prop := f' 3 = f 3 ∧ f' 5 = f 5 ∧ f' 6 = f 6 ∧ f' 7 = f 7 ∧ f' 8 = f 8 ∧ f' 9 = f 9 ∧ f' 14 = f 14 ∧ f' 19 = f 19
/-- a query of the model that may use its scratch rows -/
def qa_Ms (σ : qa_S) (μ : Nat) (f : Nat → Int) (m sv ps ip li : Int → Int) (r : Int × Int) : qa_O → qa_S → Prop := fun o9 τ => (∃ v : Int, o9 = .inl (some (.int (qa_i v))) ∧ (r.1 = 0 → v = r.2)) ∧ τ.2 = σ.2 ∧ (∀ q, (q < μ ∨ μ + 11 ≤ q) → τ.1 q = σ.1 q) ∧ ∃ f' : Nat → Int, sR_M τ.1 μ f' m sv ps ip li ∧ f' 12 = r.1 ∧ sM_same f f'
theorem sM_same.put {f : Nat → Int} {v : Int} : sM_same f (sN_put f 12 v) := ⟨rfl, rfl, rfl, rfl, rfl, rfl, rfl, rfl⟩
theorem qa_Mi.Ms {σ τ : qa_S} {μ : Nat} {f : Nat → Int} {m sv ps ip li : Int → Int} {r : Int × Int} {o : qa_O} (hR : sR_M σ.1 μ f m sv ps ip li) (h : qa_Mi σ μ f r o τ) : qa_Ms σ μ f m sv ps ip li r o τ := ⟨h.1, h.2.1, fun q hq => h.2.2.2 q (by omega), _, hR.setF h.2.2.2 h.2.2.1, rfl, sM_same.put⟩
theorem qa_Ms.mk {σ τ : qa_S} {μ : Nat} {f f' : Nat → Int} {m sv ps ip li : Int → Int} {r : Int × Int} {k v w : Int} (hr : r = (k, w)) (hv : k = 0 → v = w) (he : τ.2 = σ.2) (hf : ∀ q, (q < μ ∨ μ + 11 ≤ q) → τ.1 q = σ.1 q) (hR : sR_M τ.1 μ f' m sv ps ip li) (h12 : f' 12 = k) (hs : sM_same f f') : qa_Ms σ μ f m sv ps ip li r (.inl (some (.int (qa_i v)))) τ := by
  subst hr
  exact ⟨⟨v, rfl, hv⟩, he, hf, f', hR, h12, hs⟩
theorem sp_lc_m1 (s t : Int → Int) (i j : Nat) : sp_lc s t i (j + 1) ≤ sp_lc s t i j + 1 ∧ sp_lc s t (i + 1) j ≤ sp_lc s t i j + 1 := by
  constructor
  · obtain ⟨X, h1, h2, h3⟩ := sl_ex s t i (j + 1)
    rw [sl_S_succ] at h2
    have h4 := sl_up s t i j X.dropLast ((List.dropLast_sublist X).trans h1) (sl_drop h2)
    rw [List.length_dropLast] at h4
    omega
  · obtain ⟨X, h1, h2, h3⟩ := sl_ex s t (i + 1) j
    rw [sl_S_succ] at h1
    have h4 := sl_up s t i j X.dropLast (sl_drop h1) ((List.dropLast_sublist X).trans h2)
    rw [List.length_dropLast] at h4
    omega
theorem c_M_commonTheme {E : qa_V} {σ : qa_S} {μ : Nat} {f : Nat → Int} {m sv ps ip li : Int → Int} {B : Int} {p q : Int} (hlo : E.1 ≤ μ) (hR : sR_M σ.1 μ f m sv ps ip li) (hk : sm_ok m B) (hp : qa_in p) (hq : qa_in q) : qa_T E qm_M_commonTheme 0 0 [.ref μ, .int (qa_i p), .int (qa_i q)] σ (qa_Ms σ μ f m sv ps ip li (fo_of2 m p q (sp_lc (sm_c m p) (sm_c m q) (sm_n m p).toNat (sm_n m q).toNat))) := by
  refine qa_enterQ (by decide) rfl qm_M_commonTheme_ok rfl rfl (fun Q9 hQ => ?_)
  obtain ⟨k0, k1, k2, k3, k4, k5, k6, k7, k8⟩ := id hk
  have hR9 := hR
  obtain ⟨⟨hM, hm⟩, ⟨as, ha⟩, hsv, hps, hip, ⟨tb, htb⟩, hli, hlt, hbg, cm, hcm⟩ := hR
  have e0 : σ.2 = σ.2 := rfl
  have fr : ∀ q, (q ≠ μ ∧ q ≠ μ + 6) → σ.1 q = σ.1 q := fun _ _ => rfl
  refine qa_aload_n (pc' := 1) ⟨rfl, rfl⟩ rfl ?_
  refine qa_iconst (pc' := 2) ⟨rfl, rfl⟩ ?_
  refine qa_putf (fs' := [_, _, _, _, _, _, _, _, _, _, _, _, _, _, _, _, _, _, _, _, _, _, _, _, _, _, _]) (pc' := 5) ⟨rfl, rfl⟩ qg_10_51 qw_9 hM (by omega) rfl (fun r hr => by cases hr; exact ⟨rfl, Or.inl rfl⟩) rfl rfl ?_
  refine qa_gz (fun τ1 e1 w1 f1 => ?_)
  replace hm := (f1 _ (by omega)).trans hm
  replace htb := (f1 _ (by omega)).trans htb
  replace fr := fun q hq => (f1 q (by have := hq; omega)).trans (fr q hq)
  replace e0 := e1.trans e0
  have hM : τ1.1 μ = some (qa_MoF μ (sN_put f 12 0)) := w1
  refine qa_aload_n (pc' := 6) ⟨rfl, rfl⟩ rfl ?_
  refine qa_iload_n (pc' := 7) ⟨rfl, rfl⟩ rfl ?_
  refine qa_callV rfl qf_M_isPart ql_10_111 (c_M_isPart (E := E) hM hm hk (by omega)) hM rfl rfl rfl (qa_lt9 rfl) (qa_le9 rfl) (qa_le9 rfl) (qa_le9 rfl) (fun o9 τ9 hq9 => ?_)
  obtain ⟨rfl, hq9⟩ := hq9
  replace hq9 := hq9.symm; subst hq9
  refine qa_nx (pc' := 10) (st' := [_]) rfl rfl rfl rfl ?_
  by_cases hp9 : 0 ≤ p ∧ p < m 0
  · rw [if_pos hp9]
    refine qa_if_eq (pc' := 13) (tgt := 21) ⟨rfl, rfl⟩ rfl (by omega) (fun hp99 => ?_) (fun hp99 => ?_)
    · exact absurd hp99 (by omega)
    · refine qa_aload_n (pc' := 14) ⟨rfl, rfl⟩ rfl ?_
      refine qa_iload_n (pc' := 15) ⟨rfl, rfl⟩ rfl ?_
      refine qa_callV rfl qf_M_isPart ql_10_111 (c_M_isPart (E := E) hM hm hk (by omega)) hM rfl rfl rfl (qa_lt9 rfl) (qa_le9 rfl) (qa_le9 rfl) (qa_le9 rfl) (fun o9 τ9 hq9 => ?_)
      obtain ⟨rfl, hq9⟩ := hq9
      replace hq9 := hq9.symm; subst hq9
      refine qa_nx (pc' := 18) (st' := [_]) rfl rfl rfl rfl ?_
      by_cases hq9 : 0 ≤ q ∧ q < m 0
      · rw [if_pos hq9]
        refine qa_if_ne (pc' := 21) (tgt := 27) ⟨rfl, rfl⟩ rfl (by omega) (fun hq99 => ?_) (fun hq99 => ?_)
        · have kp := k4 p (by omega) (by omega)
          have kq := k4 q (by omega) (by omega)
          have np := kp.1
          have nq := kq.1
          obtain ⟨N1, hN1⟩ : ∃ N1 : Nat, N1 = (sm_n m p).toNat := ⟨_, rfl⟩
          obtain ⟨N2, hN2⟩ : ∃ N2 : Nat, N2 = (sm_n m q).toNat := ⟨_, rfl⟩
          have lb := sp_lc_b (sm_c m p) (sm_c m q)
          replace hR9 := 0
          refine qa_bipush (z := 11) (pc' := 29) ⟨rfl, rfl⟩ rfl ?_
          refine qa_istore_n (L' := [(0, _), (1, _), (2, _), (3, _)]) (pc' := 30) ⟨rfl, rfl⟩ rfl rfl ?_
          refine qa_iconst (pc' := 31) ⟨rfl, rfl⟩ ?_
          refine qa_istore (L' := [(0, _), (1, _), (2, _), (3, _), (4, _)]) (pc' := 33) ⟨rfl, rfl⟩ rfl rfl ?_
          have T1 : ∀ (f9 : Nat) (τ : qa_S) (k : Nat) (T : Int → Int), ((k : Int) + f9 = N1 + 1 ∧ (∀ a b : Nat, a < k → b ≤ N2 → T (11 * a + b) = sp_lc (sm_c m p) (sm_c m q) a b) ∧ τ.2 = σ.2 ∧ τ.1 μ = some (qa_MoF μ (sN_put f 12 0)) ∧ τ.1 (μ + 1) = some (qa_ia 146 m) ∧ τ.1 (μ + 6) = some (qa_ia 121 T) ∧ (∀ q, (q ≠ μ ∧ q ≠ μ + 6) → τ.1 q = σ.1 q)) → qa_W E qm_M_commonTheme Q9 0 0 33 [(0, .ref μ), (1, .int (qa_i p)), (2, .int (qa_i q)), (3, .int (qa_i 11)), (4, .int (qa_i k))] [] τ := by
            clear hM hm e0
            intro f9
            induction f9 with
            | zero =>
              intro τ k T ⟨hkf, hd, e0, hM, hm, htb, fr⟩
              refine qa_iload (pc' := 35) ⟨rfl, rfl⟩ rfl ?_
              refine qa_aload_n (pc' := 36) ⟨rfl, rfl⟩ rfl ?_
              refine qa_iload_n (pc' := 37) ⟨rfl, rfl⟩ rfl ?_
              refine qa_callV rfl qf_M_notes ql_10_77 (c_M_notes (E := E) hM hm ⟨by omega, by omega⟩) hM rfl rfl rfl (qa_lt9 rfl) (qa_le9 rfl) (qa_le9 rfl) (qa_le9 rfl) (fun o9 τ9 hq9 => ?_)
              obtain ⟨rfl, hq9⟩ := hq9
              replace hq9 := hq9.symm; subst hq9
              refine qa_nx (pc' := 40) (st' := [_, _]) rfl rfl rfl rfl ?_
              refine qa_icmp_gt (pc' := 43) (tgt := 194) ⟨rfl, rfl⟩ rfl (by omega) (by omega) (fun hc1 => ?_) (fun hc1 => ?_)
              · refine qa_aload_n (pc' := 195) ⟨rfl, rfl⟩ rfl ?_
                refine qa_getf (pc' := 198) ⟨rfl, rfl⟩ qg_10_35 (by assumption) rfl ?_
                refine qa_iload_n (pc' := 199) ⟨rfl, rfl⟩ rfl ?_
                refine qa_aload_n (pc' := 200) ⟨rfl, rfl⟩ rfl ?_
                refine qa_iload_n (pc' := 201) ⟨rfl, rfl⟩ rfl ?_
                refine qa_callV rfl qf_M_notes ql_10_77 (c_M_notes (E := E) hM hm ⟨by omega, by omega⟩) hM rfl rfl rfl (qa_lt9 rfl) (qa_le9 rfl) (qa_le9 rfl) (qa_le9 rfl) (fun o9 τ9 hq9 => ?_)
                obtain ⟨rfl, hq9⟩ := hq9
                replace hq9 := hq9.symm; subst hq9
                refine qa_nx (pc' := 204) (st' := [_, _, _]) rfl rfl rfl rfl ?_
                refine qa_imul (pc' := 205) ⟨rfl, rfl⟩ rfl ?_
                refine qa_aload_n (pc' := 206) ⟨rfl, rfl⟩ rfl ?_
                refine qa_iload_n (pc' := 207) ⟨rfl, rfl⟩ rfl ?_
                refine qa_callV rfl qf_M_notes ql_10_77 (c_M_notes (E := E) hM hm ⟨by omega, by omega⟩) hM rfl rfl rfl (qa_lt9 rfl) (qa_le9 rfl) (qa_le9 rfl) (qa_le9 rfl) (fun o9 τ9 hq9 => ?_)
                obtain ⟨rfl, hq9⟩ := hq9
                replace hq9 := hq9.symm; subst hq9
                refine qa_nx (pc' := 210) (st' := [_, _, _]) rfl rfl rfl rfl ?_
                have hfin := hd N1 N2 (by omega) (by omega)
                refine qa_iadd (z := 11 * (N1 : Int) + N2) (pc' := 211) ⟨rfl, rfl⟩ (by omega) ?_
                refine qa_iaload (pc' := 212) ⟨rfl, rfl⟩ htb (by omega) ?_
                rw [hfin]
                refine qa_ireturn rfl rfl rfl (hQ _ _ (qa_Ms.mk (k := 0) (by unfold fo_of2; rw [if_pos (by omega), ← hN1, ← hN2]) (fun _ => rfl) e0 (fun q hq => fr q (by omega)) ⟨⟨hM, hm⟩, ⟨as, (fr _ (by omega)).trans ha⟩, (fr _ (by omega)).trans hsv, (fr _ (by omega)).trans hps, (fr _ (by omega)).trans hip, ⟨_, htb⟩, (fr _ (by omega)).trans hli, (fr _ (by omega)).trans hlt, (fr _ (by omega)).trans hbg, cm, (fr _ (by omega)).trans hcm⟩ rfl sM_same.put))
              · exact absurd hc1 (by omega)
            | succ f9 iT1 =>
              intro τ k T ⟨hkf, hd, e0, hM, hm, htb, fr⟩
              refine qa_iload (pc' := 35) ⟨rfl, rfl⟩ rfl ?_
              refine qa_aload_n (pc' := 36) ⟨rfl, rfl⟩ rfl ?_
              refine qa_iload_n (pc' := 37) ⟨rfl, rfl⟩ rfl ?_
              refine qa_callV rfl qf_M_notes ql_10_77 (c_M_notes (E := E) hM hm ⟨by omega, by omega⟩) hM rfl rfl rfl (qa_lt9 rfl) (qa_le9 rfl) (qa_le9 rfl) (qa_le9 rfl) (fun o9 τ9 hq9 => ?_)
              obtain ⟨rfl, hq9⟩ := hq9
              replace hq9 := hq9.symm; subst hq9
              refine qa_nx (pc' := 40) (st' := [_, _]) rfl rfl rfl rfl ?_
              refine qa_icmp_gt (pc' := 43) (tgt := 194) ⟨rfl, rfl⟩ rfl (by omega) (by omega) (fun hc1 => ?_) (fun hc1 => ?_)
              · exact absurd hc1 (by omega)
              · refine qa_iconst (pc' := 44) ⟨rfl, rfl⟩ ?_
                refine qa_istore (L' := [(0, _), (1, _), (2, _), (3, _), (4, _), (5, _)]) (pc' := 46) ⟨rfl, rfl⟩ rfl rfl ?_
                have T2 : ∀ (f2 : Nat) (τ : qa_S) (i : Nat) (T : Int → Int), ((i : Int) + f2 = N2 + 1 ∧ (∀ a b : Nat, a < k → b ≤ N2 → T (11 * a + b) = sp_lc (sm_c m p) (sm_c m q) a b) ∧ (∀ b : Nat, b < i → T (11 * k + b) = sp_lc (sm_c m p) (sm_c m q) k b) ∧ τ.2 = σ.2 ∧ τ.1 μ = some (qa_MoF μ (sN_put f 12 0)) ∧ τ.1 (μ + 1) = some (qa_ia 146 m) ∧ τ.1 (μ + 6) = some (qa_ia 121 T) ∧ (∀ q, (q ≠ μ ∧ q ≠ μ + 6) → τ.1 q = σ.1 q)) → qa_W E qm_M_commonTheme Q9 0 0 46 [(0, .ref μ), (1, .int (qa_i p)), (2, .int (qa_i q)), (3, .int (qa_i 11)), (4, .int (qa_i k)), (5, .int (qa_i i))] [] τ := by
                  clear hM hm htb e0 fr hd
                  intro f2
                  induction f2 with
                  | zero =>
                    intro τ i T ⟨hif, hd, hr, e0, hM, hm, htb, fr⟩
                    refine qa_iload (pc' := 48) ⟨rfl, rfl⟩ rfl ?_
                    refine qa_aload_n (pc' := 49) ⟨rfl, rfl⟩ rfl ?_
                    refine qa_iload_n (pc' := 50) ⟨rfl, rfl⟩ rfl ?_
                    refine qa_callV rfl qf_M_notes ql_10_77 (c_M_notes (E := E) hM hm ⟨by omega, by omega⟩) hM rfl rfl rfl (qa_lt9 rfl) (qa_le9 rfl) (qa_le9 rfl) (qa_le9 rfl) (fun o9 τ9 hq9 => ?_)
                    obtain ⟨rfl, hq9⟩ := hq9
                    replace hq9 := hq9.symm; subst hq9
                    refine qa_nx (pc' := 53) (st' := [_, _]) rfl rfl rfl rfl ?_
                    refine qa_icmp_gt (pc' := 56) (tgt := 188) ⟨rfl, rfl⟩ rfl (by omega) (by omega) (fun hc2 => ?_) (fun hc2 => ?_)
                    · refine qa_iinc (L' := [(0, _), (1, _), (2, _), (3, _), (4, _), (5, _)]) (z := ((k + 1 : Nat) : Int)) (pc' := 191) ⟨rfl, rfl⟩ rfl (by omega) rfl rfl ?_
                      refine qa_goto (pc' := 194) (tgt := 33) ⟨rfl, rfl⟩ rfl ?_
                      refine qa_sub (ks' := [0, 1, 2, 3, 4]) (L' := [(0, _), (1, _), (2, _), (3, _), (4, _)]) rfl ?_
                      refine iT1 _ (k + 1) T ⟨by omega, fun a b ha9 hb9 => ?_, e0, hM, hm, htb, fr⟩
                      rcases Nat.lt_or_ge a k with h | h
                      · exact hd a b h hb9
                      · obtain rfl : k = a := by omega
                        exact hr b (by omega)
                    · exact absurd hc2 (by omega)
                  | succ f2 iT2 =>
                    intro τ i T ⟨hif, hd, hr, e0, hM, hm, htb, fr⟩
                    refine qa_iload (pc' := 48) ⟨rfl, rfl⟩ rfl ?_
                    refine qa_aload_n (pc' := 49) ⟨rfl, rfl⟩ rfl ?_
                    refine qa_iload_n (pc' := 50) ⟨rfl, rfl⟩ rfl ?_
                    refine qa_callV rfl qf_M_notes ql_10_77 (c_M_notes (E := E) hM hm ⟨by omega, by omega⟩) hM rfl rfl rfl (qa_lt9 rfl) (qa_le9 rfl) (qa_le9 rfl) (qa_le9 rfl) (fun o9 τ9 hq9 => ?_)
                    obtain ⟨rfl, hq9⟩ := hq9
                    replace hq9 := hq9.symm; subst hq9
                    refine qa_nx (pc' := 53) (st' := [_, _]) rfl rfl rfl rfl ?_
                    refine qa_icmp_gt (pc' := 56) (tgt := 188) ⟨rfl, rfl⟩ rfl (by omega) (by omega) (fun hc2 => ?_) (fun hc2 => ?_)
                    · exact absurd hc2 (by omega)
                    · refine qa_iload (pc' := 58) ⟨rfl, rfl⟩ rfl ?_
                      refine qa_if_eq (pc' := 61) (tgt := 66) ⟨rfl, rfl⟩ rfl (by omega) (fun hc3 => ?_) (fun hc3 => ?_)
                      · refine qa_iconst (pc' := 67) ⟨rfl, rfl⟩ ?_
                        refine qa_goto (pc' := 70) (tgt := 101) ⟨rfl, rfl⟩ rfl ?_
                        refine qa_istore (L' := [(0, _), (1, _), (2, _), (3, _), (4, _), (5, _), (6, _)]) (pc' := 103) ⟨rfl, rfl⟩ rfl rfl ?_
                        refine qa_iload (pc' := 105) ⟨rfl, rfl⟩ rfl ?_
                        refine qa_if_le (pc' := 108) (tgt := 134) ⟨rfl, rfl⟩ rfl (by omega) (fun hc5 => ?_) (fun hc5 => ?_)
                        · refine qa_iconst (pc' := 135) ⟨rfl, rfl⟩ ?_
                          refine qa_istore (L' := [(0, _), (1, _), (2, _), (3, _), (4, _), (5, _), (6, _), (7, _)]) (pc' := 137) ⟨rfl, rfl⟩ rfl rfl ?_
                          refine qa_aload_n (pc' := 138) ⟨rfl, rfl⟩ rfl ?_
                          refine qa_getf (pc' := 141) ⟨rfl, rfl⟩ qg_10_35 (by assumption) rfl ?_
                          refine qa_iload_n (pc' := 142) ⟨rfl, rfl⟩ rfl ?_
                          refine qa_iload (pc' := 144) ⟨rfl, rfl⟩ rfl ?_
                          refine qa_imul (z := 11 * (k : Int)) (pc' := 145) ⟨rfl, rfl⟩ (by omega) ?_
                          refine qa_iload (pc' := 147) ⟨rfl, rfl⟩ rfl ?_
                          refine qa_iadd (z := 11 * (k : Int) + i) (pc' := 148) ⟨rfl, rfl⟩ (by omega) ?_
                          refine qa_iload (pc' := 150) ⟨rfl, rfl⟩ rfl ?_
                          refine qa_if_eq (pc' := 153) (tgt := 179) ⟨rfl, rfl⟩ rfl (by omega) (fun hz1 => ?_) (fun hz1 => ?_)
                          · refine qa_iload (pc' := 181) ⟨rfl, rfl⟩ rfl ?_
                            refine qa_iastore (pc' := 182) ⟨rfl, rfl⟩ htb (by omega) (by omega) ?_
                            refine qa_gz (fun τ61 e61 w61 f61 => ?_)
                            replace hM := (f61 _ (by omega)).trans hM
                            replace hm := (f61 _ (by omega)).trans hm
                            replace fr := fun q hq => (f61 q (by have := hq; omega)).trans (fr q hq)
                            replace e0 := e61.trans e0
                            have htb := w61
                            refine qa_iinc (L' := [(0, _), (1, _), (2, _), (3, _), (4, _), (5, _), (6, _), (7, _)]) (z := ((i + 1 : Nat) : Int)) (pc' := 185) ⟨rfl, rfl⟩ rfl (by omega) rfl rfl ?_
                            refine qa_goto (pc' := 188) (tgt := 46) ⟨rfl, rfl⟩ rfl ?_
                            refine qa_sub (ks' := [0, 1, 2, 3, 4, 5]) (L' := [(0, _), (1, _), (2, _), (3, _), (4, _), (5, _)]) rfl ?_
                            refine iT2 _ (i + 1) _ ⟨by omega, fun a b ha9 hb9 => by rw [qa_up_ne (by omega)]; exact hd a b ha9 hb9, fun b hb9 => ?_, e0, hM, hm, htb, fr⟩
                            rcases Nat.lt_or_ge b (i) with h | h
                            · rw [qa_up_ne (by omega)]; exact hr b h
                            · obtain rfl : i = b := by omega
                              rw [qa_up_eq]
                              rw [show k = 0 by omega]; rfl
                          · exact absurd hz1 (by decide)
                        · refine qa_iload (pc' := 110) ⟨rfl, rfl⟩ rfl ?_
                          refine qa_if_le (pc' := 113) (tgt := 134) ⟨rfl, rfl⟩ rfl (by omega) (fun hc6 => ?_) (fun hc6 => ?_)
                          · refine qa_iconst (pc' := 135) ⟨rfl, rfl⟩ ?_
                            refine qa_istore (L' := [(0, _), (1, _), (2, _), (3, _), (4, _), (5, _), (6, _), (7, _)]) (pc' := 137) ⟨rfl, rfl⟩ rfl rfl ?_
                            refine qa_aload_n (pc' := 138) ⟨rfl, rfl⟩ rfl ?_
                            refine qa_getf (pc' := 141) ⟨rfl, rfl⟩ qg_10_35 (by assumption) rfl ?_
                            refine qa_iload_n (pc' := 142) ⟨rfl, rfl⟩ rfl ?_
                            refine qa_iload (pc' := 144) ⟨rfl, rfl⟩ rfl ?_
                            refine qa_imul (z := 11 * (k : Int)) (pc' := 145) ⟨rfl, rfl⟩ (by omega) ?_
                            refine qa_iload (pc' := 147) ⟨rfl, rfl⟩ rfl ?_
                            refine qa_iadd (z := 11 * (k : Int) + i) (pc' := 148) ⟨rfl, rfl⟩ (by omega) ?_
                            refine qa_iload (pc' := 150) ⟨rfl, rfl⟩ rfl ?_
                            refine qa_if_eq (pc' := 153) (tgt := 179) ⟨rfl, rfl⟩ rfl (by omega) (fun hz1 => ?_) (fun hz1 => ?_)
                            · refine qa_iload (pc' := 181) ⟨rfl, rfl⟩ rfl ?_
                              refine qa_iastore (pc' := 182) ⟨rfl, rfl⟩ htb (by omega) (by omega) ?_
                              refine qa_gz (fun τ61 e61 w61 f61 => ?_)
                              replace hM := (f61 _ (by omega)).trans hM
                              replace hm := (f61 _ (by omega)).trans hm
                              replace fr := fun q hq => (f61 q (by have := hq; omega)).trans (fr q hq)
                              replace e0 := e61.trans e0
                              have htb := w61
                              refine qa_iinc (L' := [(0, _), (1, _), (2, _), (3, _), (4, _), (5, _), (6, _), (7, _)]) (z := ((i + 1 : Nat) : Int)) (pc' := 185) ⟨rfl, rfl⟩ rfl (by omega) rfl rfl ?_
                              refine qa_goto (pc' := 188) (tgt := 46) ⟨rfl, rfl⟩ rfl ?_
                              refine qa_sub (ks' := [0, 1, 2, 3, 4, 5]) (L' := [(0, _), (1, _), (2, _), (3, _), (4, _), (5, _)]) rfl ?_
                              refine iT2 _ (i + 1) _ ⟨by omega, fun a b ha9 hb9 => by rw [qa_up_ne (by omega)]; exact hd a b ha9 hb9, fun b hb9 => ?_, e0, hM, hm, htb, fr⟩
                              rcases Nat.lt_or_ge b (i) with h | h
                              · rw [qa_up_ne (by omega)]; exact hr b h
                              · obtain rfl : i = b := by omega
                                rw [qa_up_eq]
                                rw [show k = 0 by omega]; rfl
                            · exact absurd hz1 (by decide)
                          · exfalso; omega
                      · refine qa_iload (pc' := 63) ⟨rfl, rfl⟩ rfl ?_
                        refine qa_if_ne (pc' := 66) (tgt := 70) ⟨rfl, rfl⟩ rfl (by omega) (fun hc4 => ?_) (fun hc4 => ?_)
                        · obtain ⟨k1, rfl⟩ : ∃ k1, k = k1 + 1 := ⟨k - 1, by omega⟩
                          obtain ⟨i1, rfl⟩ : ∃ i1, i = i1 + 1 := ⟨i - 1, by omega⟩
                          have d1 := hd k1 (i1 + 1) (by omega) (by omega)
                          have d2 := hr i1 (by omega)
                          have d3 := hd k1 i1 (by omega) (by omega)
                          have ls := sp_lc_s (sm_c m p) (sm_c m q) k1 i1
                          have lm := sp_lc_m1 (sm_c m p) (sm_c m q) k1 i1
                          have b1 := lb k1 (i1 + 1)
                          have b2 := lb (k1 + 1) i1
                          have b3 := lb k1 i1
                          refine qa_aload_n (pc' := 71) ⟨rfl, rfl⟩ rfl ?_
                          refine qa_getf (pc' := 74) ⟨rfl, rfl⟩ qg_10_35 (by assumption) rfl ?_
                          refine qa_iload_n (pc' := 75) ⟨rfl, rfl⟩ rfl ?_
                          refine qa_iload (pc' := 77) ⟨rfl, rfl⟩ rfl ?_
                          refine qa_iconst (pc' := 78) ⟨rfl, rfl⟩ ?_
                          refine qa_isub (z := (k1 : Int)) (pc' := 79) ⟨rfl, rfl⟩ (by omega) ?_
                          refine qa_imul (z := 11 * (k1 : Int)) (pc' := 80) ⟨rfl, rfl⟩ (by omega) ?_
                          refine qa_iload (pc' := 82) ⟨rfl, rfl⟩ rfl ?_
                          refine qa_iadd (z := 11 * (k1 : Int) + ((i1 + 1 : Nat) : Int)) (pc' := 83) ⟨rfl, rfl⟩ (by omega) ?_
                          refine qa_iaload (pc' := 84) ⟨rfl, rfl⟩ htb (by omega) ?_
                          rw [d1]
                          refine qa_aload_n (pc' := 85) ⟨rfl, rfl⟩ rfl ?_
                          refine qa_getf (pc' := 88) ⟨rfl, rfl⟩ qg_10_35 (by assumption) rfl ?_
                          refine qa_iload_n (pc' := 89) ⟨rfl, rfl⟩ rfl ?_
                          refine qa_iload (pc' := 91) ⟨rfl, rfl⟩ rfl ?_
                          refine qa_imul (z := 11 * ((k1 + 1 : Nat) : Int)) (pc' := 92) ⟨rfl, rfl⟩ (by omega) ?_
                          refine qa_iload (pc' := 94) ⟨rfl, rfl⟩ rfl ?_
                          refine qa_iadd (z := 11 * ((k1 + 1 : Nat) : Int) + ((i1 + 1 : Nat) : Int)) (pc' := 95) ⟨rfl, rfl⟩ (by omega) ?_
                          refine qa_iconst (pc' := 96) ⟨rfl, rfl⟩ ?_
                          refine qa_isub (z := 11 * ((k1 + 1 : Nat) : Int) + (i1 : Int)) (pc' := 97) ⟨rfl, rfl⟩ (by omega) ?_
                          refine qa_iaload (pc' := 98) ⟨rfl, rfl⟩ htb (by omega) ?_
                          rw [d2]
                          refine qa_callS rfl qf_MA_max rfl ql_10_195 (c_MA_max (E := E) (by omega) (by omega)) rfl rfl (qa_lt9 rfl) (qa_le9 rfl) (qa_le9 rfl) (qa_le9 rfl) (fun o9 τ9 hq9 => ?_)
                          obtain ⟨rfl, hq9⟩ := hq9
                          replace hq9 := hq9.symm; subst hq9
                          refine qa_nx (pc' := 101) (st' := [_]) rfl rfl rfl rfl ?_
                          refine qa_istore (L' := [(0, _), (1, _), (2, _), (3, _), (4, _), (5, _), (6, _)]) (pc' := 103) ⟨rfl, rfl⟩ rfl rfl ?_
                          refine qa_iload (pc' := 105) ⟨rfl, rfl⟩ rfl ?_
                          refine qa_if_le (pc' := 108) (tgt := 134) ⟨rfl, rfl⟩ rfl (by omega) (fun hc5 => ?_) (fun hc5 => ?_)
                          · exfalso; omega
                          · refine qa_iload (pc' := 110) ⟨rfl, rfl⟩ rfl ?_
                            refine qa_if_le (pc' := 113) (tgt := 134) ⟨rfl, rfl⟩ rfl (by omega) (fun hc6 => ?_) (fun hc6 => ?_)
                            · exfalso; omega
                            · refine qa_aload_n (pc' := 114) ⟨rfl, rfl⟩ rfl ?_
                              refine qa_iload_n (pc' := 115) ⟨rfl, rfl⟩ rfl ?_
                              refine qa_iload (pc' := 117) ⟨rfl, rfl⟩ rfl ?_
                              refine qa_iconst (pc' := 118) ⟨rfl, rfl⟩ ?_
                              refine qa_isub (z := (k1 : Int)) (pc' := 119) ⟨rfl, rfl⟩ (by omega) ?_
                              refine qa_iload_n (pc' := 120) ⟨rfl, rfl⟩ rfl ?_
                              refine qa_iload (pc' := 122) ⟨rfl, rfl⟩ rfl ?_
                              refine qa_iconst (pc' := 123) ⟨rfl, rfl⟩ ?_
                              refine qa_isub (z := (i1 : Int)) (pc' := 124) ⟨rfl, rfl⟩ (by omega) ?_
                              refine qa_callV rfl qf_M_areAlike ql_10_188 (c_M_areAlike (E := E) hM hm hk ⟨by omega, by omega⟩ ⟨by omega, by omega⟩ ⟨by omega, by omega⟩ ⟨by omega, by omega⟩) hM rfl rfl rfl (qa_lt9 rfl) (qa_le9 rfl) (qa_le9 rfl) (qa_le9 rfl) (fun o9 τ9 hq9 => ?_)
                              obtain ⟨rfl, hq9⟩ := hq9
                              replace hq9 := hq9.symm; subst hq9
                              refine qa_nx (pc' := 127) (st' := [_]) rfl rfl rfl rfl ?_
                              by_cases hw : sm_c m p k1 = sm_c m q i1
                              · rw [if_pos hw]
                                refine qa_if_eq (pc' := 130) (tgt := 134) ⟨rfl, rfl⟩ rfl (by omega) (fun hw9 => ?_) (fun hw9 => ?_)
                                · exact absurd hw9 (by omega)
                                · refine qa_iconst (pc' := 131) ⟨rfl, rfl⟩ ?_
                                  refine qa_goto (pc' := 134) (tgt := 135) ⟨rfl, rfl⟩ rfl ?_
                                  refine qa_istore (L' := [(0, _), (1, _), (2, _), (3, _), (4, _), (5, _), (6, _), (7, _)]) (pc' := 137) ⟨rfl, rfl⟩ rfl rfl ?_
                                  refine qa_aload_n (pc' := 138) ⟨rfl, rfl⟩ rfl ?_
                                  refine qa_getf (pc' := 141) ⟨rfl, rfl⟩ qg_10_35 (by assumption) rfl ?_
                                  refine qa_iload_n (pc' := 142) ⟨rfl, rfl⟩ rfl ?_
                                  refine qa_iload (pc' := 144) ⟨rfl, rfl⟩ rfl ?_
                                  refine qa_imul (z := 11 * ((k1 + 1 : Nat) : Int)) (pc' := 145) ⟨rfl, rfl⟩ (by omega) ?_
                                  refine qa_iload (pc' := 147) ⟨rfl, rfl⟩ rfl ?_
                                  refine qa_iadd (z := 11 * ((k1 + 1 : Nat) : Int) + ((i1 + 1 : Nat) : Int)) (pc' := 148) ⟨rfl, rfl⟩ (by omega) ?_
                                  refine qa_iload (pc' := 150) ⟨rfl, rfl⟩ rfl ?_
                                  refine qa_if_eq (pc' := 153) (tgt := 179) ⟨rfl, rfl⟩ rfl (by omega) (fun hz1 => ?_) (fun hz1 => ?_)
                                  · exact absurd hz1 (by decide)
                                  · refine qa_iload (pc' := 155) ⟨rfl, rfl⟩ rfl ?_
                                    refine qa_aload_n (pc' := 156) ⟨rfl, rfl⟩ rfl ?_
                                    refine qa_getf (pc' := 159) ⟨rfl, rfl⟩ qg_10_35 (by assumption) rfl ?_
                                    refine qa_iload_n (pc' := 160) ⟨rfl, rfl⟩ rfl ?_
                                    refine qa_iload (pc' := 162) ⟨rfl, rfl⟩ rfl ?_
                                    refine qa_iconst (pc' := 163) ⟨rfl, rfl⟩ ?_
                                    refine qa_isub (z := (k1 : Int)) (pc' := 164) ⟨rfl, rfl⟩ (by omega) ?_
                                    refine qa_imul (z := 11 * (k1 : Int)) (pc' := 165) ⟨rfl, rfl⟩ (by omega) ?_
                                    refine qa_iload (pc' := 167) ⟨rfl, rfl⟩ rfl ?_
                                    refine qa_iadd (z := 11 * (k1 : Int) + ((i1 + 1 : Nat) : Int)) (pc' := 168) ⟨rfl, rfl⟩ (by omega) ?_
                                    refine qa_iconst (pc' := 169) ⟨rfl, rfl⟩ ?_
                                    refine qa_isub (z := 11 * (k1 : Int) + (i1 : Int)) (pc' := 170) ⟨rfl, rfl⟩ (by omega) ?_
                                    refine qa_iaload (pc' := 171) ⟨rfl, rfl⟩ htb (by omega) ?_
                                    rw [d3]
                                    refine qa_iconst (pc' := 172) ⟨rfl, rfl⟩ ?_
                                    refine qa_iadd (pc' := 173) ⟨rfl, rfl⟩ rfl ?_
                                    refine qa_callS rfl qf_MA_max rfl ql_10_195 (c_MA_max (E := E) (by split <;> omega) (by omega)) rfl rfl (qa_lt9 rfl) (qa_le9 rfl) (qa_le9 rfl) (qa_le9 rfl) (fun o9 τ9 hq9 => ?_)
                                    obtain ⟨rfl, hq9⟩ := hq9
                                    replace hq9 := hq9.symm; subst hq9
                                    refine qa_nx (pc' := 176) (st' := [_, _, _]) rfl rfl rfl rfl ?_
                                    refine qa_goto (pc' := 179) (tgt := 181) ⟨rfl, rfl⟩ rfl ?_
                                    refine qa_iastore (pc' := 182) ⟨rfl, rfl⟩ htb (by omega) (by omega) ?_
                                    refine qa_gz (fun τ61 e61 w61 f61 => ?_)
                                    replace hM := (f61 _ (by omega)).trans hM
                                    replace hm := (f61 _ (by omega)).trans hm
                                    replace fr := fun q hq => (f61 q (by have := hq; omega)).trans (fr q hq)
                                    replace e0 := e61.trans e0
                                    have htb := w61
                                    refine qa_iinc (L' := [(0, _), (1, _), (2, _), (3, _), (4, _), (5, _), (6, _), (7, _)]) (z := ((i1 + 1 + 1 : Nat) : Int)) (pc' := 185) ⟨rfl, rfl⟩ rfl (by omega) rfl rfl ?_
                                    refine qa_goto (pc' := 188) (tgt := 46) ⟨rfl, rfl⟩ rfl ?_
                                    refine qa_sub (ks' := [0, 1, 2, 3, 4, 5]) (L' := [(0, _), (1, _), (2, _), (3, _), (4, _), (5, _)]) rfl ?_
                                    refine iT2 _ (i1 + 1 + 1) _ ⟨by omega, fun a b ha9 hb9 => by rw [qa_up_ne (by omega)]; exact hd a b ha9 hb9, fun b hb9 => ?_, e0, hM, hm, htb, fr⟩
                                    rcases Nat.lt_or_ge b (i1 + 1) with h | h
                                    · rw [qa_up_ne (by omega)]; exact hr b h
                                    · obtain rfl : i1 + 1 = b := by omega
                                      rw [qa_up_eq]
                                      rw [ls, if_pos hw]; split <;> omega
                              · rw [if_neg hw]
                                refine qa_if_eq (pc' := 130) (tgt := 134) ⟨rfl, rfl⟩ rfl (by omega) (fun hw9 => ?_) (fun hw9 => ?_)
                                · refine qa_iconst (pc' := 135) ⟨rfl, rfl⟩ ?_
                                  refine qa_istore (L' := [(0, _), (1, _), (2, _), (3, _), (4, _), (5, _), (6, _), (7, _)]) (pc' := 137) ⟨rfl, rfl⟩ rfl rfl ?_
                                  refine qa_aload_n (pc' := 138) ⟨rfl, rfl⟩ rfl ?_
                                  refine qa_getf (pc' := 141) ⟨rfl, rfl⟩ qg_10_35 (by assumption) rfl ?_
                                  refine qa_iload_n (pc' := 142) ⟨rfl, rfl⟩ rfl ?_
                                  refine qa_iload (pc' := 144) ⟨rfl, rfl⟩ rfl ?_
                                  refine qa_imul (z := 11 * ((k1 + 1 : Nat) : Int)) (pc' := 145) ⟨rfl, rfl⟩ (by omega) ?_
                                  refine qa_iload (pc' := 147) ⟨rfl, rfl⟩ rfl ?_
                                  refine qa_iadd (z := 11 * ((k1 + 1 : Nat) : Int) + ((i1 + 1 : Nat) : Int)) (pc' := 148) ⟨rfl, rfl⟩ (by omega) ?_
                                  refine qa_iload (pc' := 150) ⟨rfl, rfl⟩ rfl ?_
                                  refine qa_if_eq (pc' := 153) (tgt := 179) ⟨rfl, rfl⟩ rfl (by omega) (fun hz1 => ?_) (fun hz1 => ?_)
                                  · refine qa_iload (pc' := 181) ⟨rfl, rfl⟩ rfl ?_
                                    refine qa_iastore (pc' := 182) ⟨rfl, rfl⟩ htb (by omega) (by omega) ?_
                                    refine qa_gz (fun τ61 e61 w61 f61 => ?_)
                                    replace hM := (f61 _ (by omega)).trans hM
                                    replace hm := (f61 _ (by omega)).trans hm
                                    replace fr := fun q hq => (f61 q (by have := hq; omega)).trans (fr q hq)
                                    replace e0 := e61.trans e0
                                    have htb := w61
                                    refine qa_iinc (L' := [(0, _), (1, _), (2, _), (3, _), (4, _), (5, _), (6, _), (7, _)]) (z := ((i1 + 1 + 1 : Nat) : Int)) (pc' := 185) ⟨rfl, rfl⟩ rfl (by omega) rfl rfl ?_
                                    refine qa_goto (pc' := 188) (tgt := 46) ⟨rfl, rfl⟩ rfl ?_
                                    refine qa_sub (ks' := [0, 1, 2, 3, 4, 5]) (L' := [(0, _), (1, _), (2, _), (3, _), (4, _), (5, _)]) rfl ?_
                                    refine iT2 _ (i1 + 1 + 1) _ ⟨by omega, fun a b ha9 hb9 => by rw [qa_up_ne (by omega)]; exact hd a b ha9 hb9, fun b hb9 => ?_, e0, hM, hm, htb, fr⟩
                                    rcases Nat.lt_or_ge b (i1 + 1) with h | h
                                    · rw [qa_up_ne (by omega)]; exact hr b h
                                    · obtain rfl : i1 + 1 = b := by omega
                                      rw [qa_up_eq]
                                      rw [ls, if_neg hw]; repeat (first | omega | split)
                                  · exact absurd hz1 (by decide)
                                · exact absurd hw9 (by omega)
                        · refine qa_iconst (pc' := 67) ⟨rfl, rfl⟩ ?_
                          refine qa_goto (pc' := 70) (tgt := 101) ⟨rfl, rfl⟩ rfl ?_
                          refine qa_istore (L' := [(0, _), (1, _), (2, _), (3, _), (4, _), (5, _), (6, _)]) (pc' := 103) ⟨rfl, rfl⟩ rfl rfl ?_
                          refine qa_iload (pc' := 105) ⟨rfl, rfl⟩ rfl ?_
                          refine qa_if_le (pc' := 108) (tgt := 134) ⟨rfl, rfl⟩ rfl (by omega) (fun hc5 => ?_) (fun hc5 => ?_)
                          · refine qa_iconst (pc' := 135) ⟨rfl, rfl⟩ ?_
                            refine qa_istore (L' := [(0, _), (1, _), (2, _), (3, _), (4, _), (5, _), (6, _), (7, _)]) (pc' := 137) ⟨rfl, rfl⟩ rfl rfl ?_
                            refine qa_aload_n (pc' := 138) ⟨rfl, rfl⟩ rfl ?_
                            refine qa_getf (pc' := 141) ⟨rfl, rfl⟩ qg_10_35 (by assumption) rfl ?_
                            refine qa_iload_n (pc' := 142) ⟨rfl, rfl⟩ rfl ?_
                            refine qa_iload (pc' := 144) ⟨rfl, rfl⟩ rfl ?_
                            refine qa_imul (z := 11 * (k : Int)) (pc' := 145) ⟨rfl, rfl⟩ (by omega) ?_
                            refine qa_iload (pc' := 147) ⟨rfl, rfl⟩ rfl ?_
                            refine qa_iadd (z := 11 * (k : Int) + i) (pc' := 148) ⟨rfl, rfl⟩ (by omega) ?_
                            refine qa_iload (pc' := 150) ⟨rfl, rfl⟩ rfl ?_
                            refine qa_if_eq (pc' := 153) (tgt := 179) ⟨rfl, rfl⟩ rfl (by omega) (fun hz1 => ?_) (fun hz1 => ?_)
                            · refine qa_iload (pc' := 181) ⟨rfl, rfl⟩ rfl ?_
                              refine qa_iastore (pc' := 182) ⟨rfl, rfl⟩ htb (by omega) (by omega) ?_
                              refine qa_gz (fun τ61 e61 w61 f61 => ?_)
                              replace hM := (f61 _ (by omega)).trans hM
                              replace hm := (f61 _ (by omega)).trans hm
                              replace fr := fun q hq => (f61 q (by have := hq; omega)).trans (fr q hq)
                              replace e0 := e61.trans e0
                              have htb := w61
                              refine qa_iinc (L' := [(0, _), (1, _), (2, _), (3, _), (4, _), (5, _), (6, _), (7, _)]) (z := ((i + 1 : Nat) : Int)) (pc' := 185) ⟨rfl, rfl⟩ rfl (by omega) rfl rfl ?_
                              refine qa_goto (pc' := 188) (tgt := 46) ⟨rfl, rfl⟩ rfl ?_
                              refine qa_sub (ks' := [0, 1, 2, 3, 4, 5]) (L' := [(0, _), (1, _), (2, _), (3, _), (4, _), (5, _)]) rfl ?_
                              refine iT2 _ (i + 1) _ ⟨by omega, fun a b ha9 hb9 => by rw [qa_up_ne (by omega)]; exact hd a b ha9 hb9, fun b hb9 => ?_, e0, hM, hm, htb, fr⟩
                              rcases Nat.lt_or_ge b (i) with h | h
                              · rw [qa_up_ne (by omega)]; exact hr b h
                              · obtain rfl : i = b := by omega
                                rw [qa_up_eq]
                                rw [show i = 0 by omega, sp_lc_0]
                            · exact absurd hz1 (by decide)
                          · refine qa_iload (pc' := 110) ⟨rfl, rfl⟩ rfl ?_
                            refine qa_if_le (pc' := 113) (tgt := 134) ⟨rfl, rfl⟩ rfl (by omega) (fun hc6 => ?_) (fun hc6 => ?_)
                            · refine qa_iconst (pc' := 135) ⟨rfl, rfl⟩ ?_
                              refine qa_istore (L' := [(0, _), (1, _), (2, _), (3, _), (4, _), (5, _), (6, _), (7, _)]) (pc' := 137) ⟨rfl, rfl⟩ rfl rfl ?_
                              refine qa_aload_n (pc' := 138) ⟨rfl, rfl⟩ rfl ?_
                              refine qa_getf (pc' := 141) ⟨rfl, rfl⟩ qg_10_35 (by assumption) rfl ?_
                              refine qa_iload_n (pc' := 142) ⟨rfl, rfl⟩ rfl ?_
                              refine qa_iload (pc' := 144) ⟨rfl, rfl⟩ rfl ?_
                              refine qa_imul (z := 11 * (k : Int)) (pc' := 145) ⟨rfl, rfl⟩ (by omega) ?_
                              refine qa_iload (pc' := 147) ⟨rfl, rfl⟩ rfl ?_
                              refine qa_iadd (z := 11 * (k : Int) + i) (pc' := 148) ⟨rfl, rfl⟩ (by omega) ?_
                              refine qa_iload (pc' := 150) ⟨rfl, rfl⟩ rfl ?_
                              refine qa_if_eq (pc' := 153) (tgt := 179) ⟨rfl, rfl⟩ rfl (by omega) (fun hz1 => ?_) (fun hz1 => ?_)
                              · refine qa_iload (pc' := 181) ⟨rfl, rfl⟩ rfl ?_
                                refine qa_iastore (pc' := 182) ⟨rfl, rfl⟩ htb (by omega) (by omega) ?_
                                refine qa_gz (fun τ61 e61 w61 f61 => ?_)
                                replace hM := (f61 _ (by omega)).trans hM
                                replace hm := (f61 _ (by omega)).trans hm
                                replace fr := fun q hq => (f61 q (by have := hq; omega)).trans (fr q hq)
                                replace e0 := e61.trans e0
                                have htb := w61
                                refine qa_iinc (L' := [(0, _), (1, _), (2, _), (3, _), (4, _), (5, _), (6, _), (7, _)]) (z := ((i + 1 : Nat) : Int)) (pc' := 185) ⟨rfl, rfl⟩ rfl (by omega) rfl rfl ?_
                                refine qa_goto (pc' := 188) (tgt := 46) ⟨rfl, rfl⟩ rfl ?_
                                refine qa_sub (ks' := [0, 1, 2, 3, 4, 5]) (L' := [(0, _), (1, _), (2, _), (3, _), (4, _), (5, _)]) rfl ?_
                                refine iT2 _ (i + 1) _ ⟨by omega, fun a b ha9 hb9 => by rw [qa_up_ne (by omega)]; exact hd a b ha9 hb9, fun b hb9 => ?_, e0, hM, hm, htb, fr⟩
                                rcases Nat.lt_or_ge b (i) with h | h
                                · rw [qa_up_ne (by omega)]; exact hr b h
                                · obtain rfl : i = b := by omega
                                  rw [qa_up_eq]
                                  rw [show i = 0 by omega, sp_lc_0]
                              · exact absurd hz1 (by decide)
                            · exfalso; omega
                exact T2 (N2 + 1) _ 0 T ⟨by omega, hd, fun b hb => absurd hb (by omega), e0, hM, hm, htb, fr⟩
          exact T1 (N1 + 1) _ 0 tb ⟨by omega, fun a b ha9 hb9 => absurd ha9 (by omega), e0, hM, hm, htb, fr⟩
        · exact absurd hq99 (by omega)
      · rw [if_neg hq9]
        refine qa_if_ne (pc' := 21) (tgt := 27) ⟨rfl, rfl⟩ rfl (by omega) (fun hq99 => ?_) (fun hq99 => ?_)
        · exact absurd hq99 (by omega)
        · refine qa_aload_n (pc' := 22) ⟨rfl, rfl⟩ rfl ?_
          refine qa_iconst (pc' := 23) ⟨rfl, rfl⟩ ?_
          refine qa_callV rfl qf_M_throwing ql_10_60 (c_M_throwing (E := E) (f := sN_put f 12 0) (v := 1) hlo hM) hM rfl rfl rfl (qa_lt9 rfl) (qa_le9 rfl) (qa_le9 rfl) (qa_le9 rfl) (fun o9 τ9 hq9 => ?_)
          obtain ⟨rfl, e9, hM, f9⟩ := hq9
          refine qa_nx (pc' := 26) (st' := [_]) rfl rfl rfl rfl ?_
          rw [sN_pp] at hM
          refine qa_ireturn rfl rfl rfl (hQ _ _ (qa_Ms.mk (k := 1) (w := 0) (by unfold fo_of2; repeat (first | rw [if_pos (by omega)] | rw [if_neg (by omega)])) (fun h => absurd h (by decide)) (e9.trans e0) (fun q hq => (f9 q (by omega)).trans (fr q (by omega))) (hR9.setF (fun q hq => (f9 q hq).trans (f1 q hq)) hM) rfl sM_same.put))
  · rw [if_neg hp9]
    refine qa_if_eq (pc' := 13) (tgt := 21) ⟨rfl, rfl⟩ rfl (by omega) (fun hp99 => ?_) (fun hp99 => ?_)
    · refine qa_aload_n (pc' := 22) ⟨rfl, rfl⟩ rfl ?_
      refine qa_iconst (pc' := 23) ⟨rfl, rfl⟩ ?_
      refine qa_callV rfl qf_M_throwing ql_10_60 (c_M_throwing (E := E) (f := sN_put f 12 0) (v := 1) hlo hM) hM rfl rfl rfl (qa_lt9 rfl) (qa_le9 rfl) (qa_le9 rfl) (qa_le9 rfl) (fun o9 τ9 hq9 => ?_)
      obtain ⟨rfl, e9, hM, f9⟩ := hq9
      refine qa_nx (pc' := 26) (st' := [_]) rfl rfl rfl rfl ?_
      rw [sN_pp] at hM
      refine qa_ireturn rfl rfl rfl (hQ _ _ (qa_Ms.mk (k := 1) (w := 0) (by unfold fo_of2; repeat (first | rw [if_pos (by omega)] | rw [if_neg (by omega)])) (fun h => absurd h (by decide)) (e9.trans e0) (fun q hq => (f9 q (by omega)).trans (fr q (by omega))) (hR9.setF (fun q hq => (f9 q hq).trans (f1 q hq)) hM) rfl sM_same.put))
    · exact absurd hp99 (by omega)
theorem c_M_commonThemeByTrying {E : qa_V} {σ : qa_S} {μ : Nat} {f : Nat → Int} {m sv ps ip li : Int → Int} {B : Int} {p q : Int} (hlo : E.1 ≤ μ) (hR : sR_M σ.1 μ f m sv ps ip li) (hk : sm_ok m B) (hp : qa_in p) (hq : qa_in q) : qa_T E qm_M_commonThemeByTrying 0 0 [.ref μ, .int (qa_i p), .int (qa_i q)] σ (qa_Ms σ μ f m sv ps ip li (fo_of2 m p q (sp_lc (sm_c m p) (sm_c m q) (sm_n m p).toNat (sm_n m q).toNat))) := by
  refine qa_enterQ (by decide) rfl qm_M_commonThemeByTrying_ok rfl rfl (fun Q9 hQ => ?_)
  obtain ⟨k0, k1, k2, k3, k4, k5, k6, k7, k8⟩ := id hk
  have hR9 := hR
  obtain ⟨⟨hM, hm⟩, ⟨as, ha⟩, hsv, hps, hip, ⟨tb, htb⟩, hli, hlt, hbg, cm, hcm⟩ := hR
  refine qa_aload_n (pc' := 1) ⟨rfl, rfl⟩ rfl ?_
  refine qa_iload_n (pc' := 2) ⟨rfl, rfl⟩ rfl ?_
  refine qa_iload_n (pc' := 3) ⟨rfl, rfl⟩ rfl ?_
  refine qa_callV rfl qf_M_commonTheme ql_10_200 (c_M_commonTheme (E := E) hlo hR9 hk hp hq) hM rfl rfl rfl (qa_lt9 rfl) (qa_le9 rfl) (qa_le9 rfl) (qa_le9 rfl) (fun o9 τ9 hq9 => ?_)
  obtain ⟨⟨v9, rfl, hv9⟩, hq9⟩ := hq9
  refine qa_nx (pc' := 6) (st' := [_]) rfl rfl rfl rfl ?_
  refine qa_ireturn rfl rfl rfl (hQ _ _ ⟨⟨v9, rfl, hv9⟩, hq9⟩)
