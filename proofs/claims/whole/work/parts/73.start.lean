/-! the start: what the claim gives; a premise by its way through the conjunction -/
def qs_go : Nat → Nat → Cond → Option Cond
  | 0, _, _ => none
  | f + 1, n, c => bif Nat.beq n 1 then some c else match c with
    | .and a b => qs_go f (n / 2) (bif Nat.beq (n % 2) 1 then b else a)
    | _ => none
theorem qs_go_of {args : Array Value} {s : State} : ∀ (f n : Nat) (c w : Cond), c.before args s = true → qs_go f n c = some w → w.before args s = true
  | 0, _, _, _, _, h => by cases h
  | f + 1, n, c, w, hc, h => by
    unfold qs_go at h
    cases hb : Nat.beq n 1 with
    | true =>
      rw [hb] at h
      have h2 : some c = some w := h
      cases h2
      exact hc
    | false =>
      rw [hb] at h
      cases c with
      | and a b =>
        have h2 : qs_go f (n / 2) (bif Nat.beq (n % 2) 1 then b else a) = some w := h
        rw [Cond.before_and, Bool.and_eq_true] at hc
        cases hd : Nat.beq (n % 2) 1 with
        | true => rw [hd] at h2; exact qs_go_of f _ _ _ hc.2 h2
        | false => rw [hd] at h2; exact qs_go_of f _ _ _ hc.1 h2
      | _ => cases h
def qs_at (ps : List Nat) (f : Nat → Cond) : Bool := (List.range ps.length).all fun k => decide (qs_go 40 (ps.getD k 0) (Jvm.Cond.and given_1 narrow_1) = some (f k))
theorem qs_of {ps : List Nat} {f : Nat → Cond} {args : Array Value} {s : State} (hgv : (Jvm.Cond.and given_1 narrow_1).before args s = true) (h : qs_at ps f = true) (k : Nat) (hk : k < ps.length) : (f k).before args s = true :=
  qs_go_of _ _ _ _ hgv (of_decide_eq_true (List.all_eq_true.mp h k (List.mem_range.mpr hk)))
theorem qs_w {args : Array Value} {s : State} (hgv : (Jvm.Cond.and given_1 narrow_1).before args s = true) (i : Nat) {w : Cond} (h : qs_go 40 i (Jvm.Cond.and given_1 narrow_1) = some w) : w.before args s = true := qs_go_of _ _ _ _ hgv h
def qs_nm (k : Nat) : String := match k with | 0 => "PART" | 1 => "NOTE" | 2 => "REST" | 3 => "LAST" | 4 => "MOVE" | 5 => "TUNE" | 6 => "CUE" | 7 => "ALONE" | 8 => "BAR" | 9 => "TEMPO" | _ => "PLAY"
def qs_st (k : Nat) : Term := .static "CutleryOrchestra$Action" (qs_nm k) "LCutleryOrchestra$Action;"
def qs_sx (k : Nat) : Nat := match k with | 0 => 61 | 1 => 67 | 2 => 70 | 3 => 73 | 4 => 76 | 5 => 79 | 6 => 82 | 7 => 85 | 8 => 88 | 9 => 91 | _ => 94
def qs_tm (k : Nat) : Term := .string "CutleryOrchestra$Action" (qs_sx k)
def qs_vl (k : Nat) : Term := .field (qs_tm k) "java/lang/String" "value" "[B"
def qs_f4 (q : Nat) : Cond := if q % 11 < q / 11 then .not (.eq (qs_st (q % 11)) (qs_st (q / 11))) else .count 1
def qs_f5 (q : Nat) : Cond := if q % 16 < qz_len (q / 16) then .eq (.elem (qs_vl (q / 16)) (.int (Int32.ofNat (q % 16)))) (.int (qa_i (qz_frm (q / 16) ((q % 16 : Nat) : Int)))) else .count 1
def qs_lF1 : List Nat := [1281, 3521, 2593, 1185, 1121, 2785, 3601, 3985, 2513, 2737, 2801]
theorem qs_F1 : qs_at qs_lF1 (fun k => .exactly (qs_st k) "CutleryOrchestra$Action") = true := by decide +kernel
def qs_lF2 : List Nat := [2817, 3009, 3617, 2721, 2657, 3809, 1297, 1105, 3537, 3761, 3825]
theorem qs_F2 : qs_at qs_lF2 (fun k => .eq (.field (qs_st k) "java/lang/Enum" "ordinal" "I") (.int (Int32.ofNat k))) = true := by decide +kernel
def qs_lF3 : List Nat := [3841, 4033, 1313, 3745, 3681, 2529, 2833, 2641, 3025, 1457, 2545]
theorem qs_F3 : qs_at qs_lF3 (fun k => .eq (.field (qs_st k) "CutleryOrchestra$Action" "form" "Ljava/lang/String;") (qs_tm k)) = true := by decide +kernel
def qs_lF4 : List Nat := [4, 4, 4, 4, 4, 4, 4, 4, 4, 4, 4, 1057, 4, 4, 4, 4, 4, 4, 4, 4, 4, 4, 2849, 3873, 4, 4, 4, 4, 4, 4, 4, 4, 4, 1441, 2977, 4001, 4, 4, 4, 4, 4, 4, 4, 4, 1377, 2913, 3937, 1249, 4, 4, 4, 4, 4, 4, 4, 3553, 3041, 4065, 1041, 2577, 4, 4, 4, 4, 4, 4, 3857, 1169, 2705, 3729, 1425, 2961, 4, 4, 4, 4, 4, 3665, 1361, 2897, 3921, 1233, 2769, 3793, 4, 4, 4, 4, 4049, 1073, 2609, 3633, 1329, 2865, 3889, 1201, 4, 4, 4, 2993, 4017, 1137, 2673, 3697, 1393, 2929, 3953, 1265, 4, 4, 3569, 3057, 4081, 1033, 2569, 3593, 1289, 2825, 3849, 1161, 4]
theorem qs_F4 : qs_at qs_lF4 (fun k => qs_f4 k) = true := by decide +kernel
def qs_lS1 : List Nat := [7823, 3151, 7887, 2351, 7855, 2415, 3055, 2847, 2975, 5471, 3039]
theorem qs_S1 : qs_at qs_lS1 (fun k => .exactly (qs_tm k) "java/lang/String") = true := by decide +kernel
def qs_lS2 : List Nat := [2447, 2639, 2511, 5423, 2479, 5487, 6127, 5919, 6047, 7519, 6111]
theorem qs_S2 : qs_at qs_lS2 (fun k => .eq (.field (qs_tm k) "java/lang/String" "coder" "B") (.int 0)) = true := by decide +kernel
def qs_lS3 : List Nat := [5519, 5711, 5583, 7471, 5551, 7535, 8175, 7967, 8095, 2911, 8159]
theorem qs_S3 : qs_at qs_lS3 (fun k => .arrayOf (qs_vl k) .byte) = true := by decide +kernel
def qs_lS4 : List Nat := [7567, 7759, 7631, 2863, 7599, 2927, 2079, 2207, 2143, 5983, 2111]
theorem qs_S4 : qs_at qs_lS4 (fun k => .eq (.length (qs_vl k)) (.int (Int32.ofNat (qz_len k)))) = true := by decide +kernel
def qs_lS5 : List Nat := [2959, 6031, 8079, 2127, 4, 4, 4, 4, 4, 4, 4, 4, 4, 4, 4, 4, 2383, 5455, 7503, 2895, 5967, 8015, 2255, 3279, 2767, 5839, 4, 4, 4, 4, 4, 4, 3023, 6095, 8143, 2095, 3119, 2607, 5679, 7727, 4, 4, 4, 4, 4, 4, 4, 4, 5935, 7983, 2223, 3247, 2735, 5807, 4, 4, 4, 4, 4, 4, 4, 4, 4, 4, 2991, 6063, 8111, 2159, 3183, 2671, 5743, 7791, 4, 4, 4, 4, 4, 4, 4, 4, 5999, 8047, 2287, 3311, 2799, 5871, 7919, 2543, 5615, 7663, 4, 4, 4, 4, 4, 4, 3103, 2591, 5663, 7711, 2335, 5407, 7455, 4, 4, 4, 4, 4, 4, 4, 4, 4, 3231, 2719, 5791, 7839, 2463, 5535, 7583, 4, 4, 4, 4, 4, 4, 4, 4, 4, 3167, 2655, 5727, 7775, 2399, 4, 4, 4, 4, 4, 4, 4, 4, 4, 4, 4, 8031, 2271, 3295, 2783, 5855, 7903, 2527, 5599, 7647, 4, 4, 4, 4, 4, 4, 4, 3135, 2623, 5695, 7743, 2367, 5439, 4, 4, 4, 4, 4, 4, 4, 4, 4, 4]
theorem qs_S5 : qs_at qs_lS5 (fun k => qs_f5 k) = true := by decide +kernel
def qs_lM : List Nat := [1409, 2945, 3969, 1089, 2625, 3649, 1345, 2881, 3905, 1217, 2753]
theorem qs_M : qs_at qs_lM (fun k => .eq (.elem (Term.static "CutleryOrchestra$1" "$SwitchMap$CutleryOrchestra$Action" "[I") (.int (Int32.ofNat k))) (.int (qa_i ((k : Int) + 1)))) = true := by decide +kernel
def qs_lD1 : List Nat := [3657, 1353, 2889, 3913, 1225, 2761, 3785, 2505, 3529, 3017, 4041, 1065, 2601, 3625, 1321, 2857, 3881, 1193, 2729, 3753, 1449, 2985, 4009, 1129, 2665, 3689, 1385, 2921, 3945, 1257, 2793, 3817, 2537, 3561, 3049, 4073, 1049, 2585, 3609, 1305, 2841, 3865, 1177, 2713, 3737, 1433, 2969, 3993, 1113, 2649, 3673, 1369, 2905, 3929, 1241, 2777, 3801, 2521, 3545, 3033, 4057, 1081, 2617, 3641, 1337, 2873, 3897, 1209, 2745, 3769, 1465, 3001, 4025, 1145, 2681, 3705, 1401, 2937, 3961, 1273, 2809, 3833, 2553, 3577, 3065, 4089, 1029, 2565, 3589, 1285, 2821, 3845, 1157, 2693, 3717, 1413, 2949, 3973, 1093, 2629]
theorem qs_D1 : qs_at qs_lD1 (fun k => .eq (.elem (Term.static "java/lang/Integer" "DigitOnes" "[B") (.int (Int32.ofNat k))) (.int (qa_i (qz_on (k : Int))))) = true := by decide +kernel
def qs_lD2 : List Nat := [3909, 1221, 2757, 3781, 2501, 3525, 3013, 4037, 1061, 2597, 3621, 1317, 2853, 3877, 1189, 2725, 3749, 1445, 2981, 4005, 1125, 2661, 3685, 1381, 2917, 3941, 1253, 2789, 3813, 2533, 3557, 3045, 4069, 1045, 2581, 3605, 1301, 2837, 3861, 1173, 2709, 3733, 1429, 2965, 3989, 1109, 2645, 3669, 1365, 2901, 3925, 1237, 2773, 3797, 2517, 3541, 3029, 4053, 1077, 2613, 3637, 1333, 2869, 3893, 1205, 2741, 3765, 1461, 2997, 4021, 1141, 2677, 3701, 1397, 2933, 3957, 1269, 2805, 3829, 2549, 3573, 3061, 4085, 1037, 2573, 3597, 1293, 2829, 3853, 1165, 2701, 3725, 1421, 2957, 3981, 1101, 2637, 3661, 1357, 2893]
theorem qs_D2 : qs_at qs_lD2 (fun k => .eq (.elem (Term.static "java/lang/Integer" "DigitTens" "[B") (.int (Int32.ofNat k))) (.int (qa_i (qz_tn (k : Int))))) = true := by decide +kernel
def qs_lAL : List Nat := [3533, 3021, 4045, 1069, 2605, 3629, 1325, 2861, 3885, 1197, 2733]
theorem qs_AL : qs_at qs_lAL (fun k => .eq (.elem (Term.static "CutleryOrchestra$Action" "ALL" "[LCutleryOrchestra$Action;") (.int (Int32.ofNat k))) (qs_st k)) = true := by decide +kernel
def qs_xf (q : Nat) : Cond := if q / 6 = q % 6 then .count 1 else .not (.castable (qa_X (q / 6)) (qa_X (q % 6)))
def qs_lX : List Nat := [4, 3901, 2797, 4093, 2435, 2243, 2653, 4, 3821, 2051, 5507, 5315, 3677, 1213, 4, 5123, 7555, 7363, 1373, 3773, 3565, 4, 7043, 5827, 2909, 1469, 3053, 2563, 4, 7875, 1245, 1149, 2589, 2307, 2115, 4]
theorem qs_X : qs_at qs_lX (fun k => qs_xf k) = true := by decide +kernel
theorem qs_f4' {args : Array Value} {s : State} (hgv : (Jvm.Cond.and given_1 narrow_1).before args s = true) {i j : Nat} (hij : i < j) (hj : j < 11) : (Cond.not (.eq (qs_st i) (qs_st j))).before args s = true := by
  have h := qs_of hgv qs_F4 (11 * j + i) (Nat.lt_of_lt_of_le (show 11 * j + i < 121 by omega) (by decide +kernel))
  unfold qs_f4 at h
  rw [show (11 * j + i) % 11 = i by omega, show (11 * j + i) / 11 = j by omega, if_pos hij] at h
  exact h
theorem qz_len_b : ∀ k : Fin 11, qz_len k.val < 16 := by decide +kernel
theorem qs_f5' {args : Array Value} {s : State} (hgv : (Jvm.Cond.and given_1 narrow_1).before args s = true) {k j : Nat} (hk : k < 11) (hj : j < qz_len k) : (Cond.eq (.elem (qs_vl k) (.int (Int32.ofNat j))) (.int (qa_i (qz_frm k (j : Int))))).before args s = true := by
  have hb := qz_len_b ⟨k, hk⟩
  have hb : qz_len k < 16 := hb
  have h := qs_of hgv qs_S5 (16 * k + j) (Nat.lt_of_lt_of_le (show 16 * k + j < 176 by omega) (by decide +kernel))
  unfold qs_f5 at h
  rw [show (16 * k + j) % 16 = j by omega, show (16 * k + j) / 16 = k by omega, if_pos hj] at h
  exact h
theorem qs_xf' {args : Array Value} {s : State} (hgv : (Jvm.Cond.and given_1 narrow_1).before args s = true) {k j : Nat} (hk : k < 6) (hj : j < 6) (hkj : k ≠ j) : (Cond.not (.castable (qa_X k) (qa_X j))).before args s = true := by
  have h := qs_of hgv qs_X (6 * k + j) (Nat.lt_of_lt_of_le (show 6 * k + j < 36 by omega) (by decide +kernel))
  unfold qs_xf at h
  rw [show (6 * k + j) % 6 = j by omega, show (6 * k + j) / 6 = k by omega, if_neg hkj] at h
  exact h
/-- the actions, their forms, the forms' bytes -/
def qs_ac (s : State) (args : Array Value) (A : Nat → Prop) (ad sk sv : Nat → Nat) : Prop := ∀ k, k < 11 → (qs_st k).eval args s none [] s = some (.ref (ad k)) ∧ va_O "CutleryOrchestra$Action" (ad k) A s s.heap ∧ va_OF "java/lang/Enum" "ordinal" "I" (.int (Int32.ofNat k)) (ad k) A s s.heap ∧ va_OF "CutleryOrchestra$Action" "form" "Ljava/lang/String;" (.ref (sk k)) (ad k) A s s.heap ∧
  va_O "java/lang/String" (sk k) A s s.heap ∧ va_OF "java/lang/String" "coder" "B" (.int 0) (sk k) A s s.heap ∧ va_OF "java/lang/String" "value" "[B" (.ref (sv k)) (sk k) A s s.heap ∧ va_T .byte (sv k) (qz_len k) (fun j => .int (qa_i (qz_frm k (j : Int)))) A s s.heap
theorem qs_acts {args : Array Value} {s : State} {A : Nat → Prop} (hgv : (Jvm.Cond.and given_1 narrow_1).before args s = true) (hA : ∀ a : Nat, a < s.heap.size → ¬ A a) : ∃ ad sk sv : Nat → Nat, qs_ac s args A ad sk sv := by
  have h0 : ∀ k : Nat, ∃ q : Nat × Nat × Nat, k < 11 → (qs_st k).eval args s none [] s = some (.ref q.1) ∧ va_O "CutleryOrchestra$Action" q.1 A s s.heap ∧ va_OF "java/lang/Enum" "ordinal" "I" (.int (Int32.ofNat k)) q.1 A s s.heap ∧ va_OF "CutleryOrchestra$Action" "form" "Ljava/lang/String;" (.ref q.2.1) q.1 A s s.heap ∧
      va_O "java/lang/String" q.2.1 A s s.heap ∧ va_OF "java/lang/String" "coder" "B" (.int 0) q.2.1 A s s.heap ∧ va_OF "java/lang/String" "value" "[B" (.ref q.2.2) q.2.1 A s s.heap ∧ va_T .byte q.2.2 (qz_len k) (fun j => .int (qa_i (qz_frm k (j : Int)))) A s s.heap := by
    intro k
    by_cases hk : k < 11
    · obtain ⟨a, c, cA, kA, q1, q2, q3, q4, q5, q6, -⟩ := Cond.exactly_spec (qs_of hgv qs_F1 k (Nat.lt_of_lt_of_le hk (by decide)))
      obtain ⟨a2, c2, cA2, kA2, r1, r2, r3, r4, r5, r6, -⟩ := Cond.exactly_spec (qs_of hgv qs_S1 k (Nat.lt_of_lt_of_le hk (by decide)))
      have hb : qz_len k < 16 := qz_len_b ⟨k, hk⟩
      obtain ⟨t, ht, hT⟩ := va_Tof (f := fun j => .int (qa_i (qz_frm k (j : Int)))) (A := A) (show qz_len k < 2 ^ 31 by omega) (qs_of hgv qs_S3 k (Nat.lt_of_lt_of_le hk (by decide))) (va_eqt (qs_of hgv qs_S4 k (Nat.lt_of_lt_of_le hk (by decide)))) (fun j hj => va_eqt (qs_f5' hgv hk hj)) hA
      exact ⟨(a, a2, t), fun _ => ⟨q1, ⟨cA, q3, q5, by rw [q6]; exact q2, hA a (Array.getElem?_eq_some_iff.mp q3).1⟩, vk_OFof q1 (va_eqt (qs_of hgv qs_F2 k (Nat.lt_of_lt_of_le hk (by decide)))) hA, vk_OFof q1 (va_eqv (qs_of hgv qs_F3 k (Nat.lt_of_lt_of_le hk (by decide))) r1) hA, ⟨cA2, r3, r5, by rw [r6]; exact r2, hA a2 (Array.getElem?_eq_some_iff.mp r3).1⟩, vk_OFof r1 (va_eqt (qs_of hgv qs_S2 k (Nat.lt_of_lt_of_le hk (by decide)))) hA, vk_OFof r1 ht hA, hT⟩⟩
    · exact ⟨(0, 0, 0), fun h => absurd h hk⟩
  obtain ⟨q, hq⟩ := Classical.axiomOfChoice h0
  exact ⟨fun k => (q k).1, fun k => (q k).2.1, fun k => (q k).2.2, fun k hk => hq k hk⟩
/-- the rows -/
def qs_rw (s : State) (args : Array Value) (A : Nat → Prop) (ad : Nat → Nat) (z : Nat → Nat) : Prop :=
  ((Term.static "CutleryOrchestra$1" "$SwitchMap$CutleryOrchestra$Action" "[I").eval args s none [] s = some (.ref (z 0)) ∧ va_T .int (z 0) 11 (fun j => .int (qa_i ((j : Int) + 1))) A s s.heap) ∧ ((Term.static "CutleryOrchestra$Action" "ALL" "[LCutleryOrchestra$Action;").eval args s none [] s = some (.ref (z 1)) ∧ va_T (.object "CutleryOrchestra$Action") (z 1) 11 (fun j => .ref (ad j)) A s s.heap) ∧
  ((Term.static "java/lang/Integer" "DigitOnes" "[B").eval args s none [] s = some (.ref (z 2)) ∧ va_T .byte (z 2) 100 (fun j => .int (qa_i (qz_on (j : Int)))) A s s.heap) ∧ ((Term.static "java/lang/Integer" "DigitTens" "[B").eval args s none [] s = some (.ref (z 3)) ∧ va_T .byte (z 3) 100 (fun j => .int (qa_i (qz_tn (j : Int)))) A s s.heap)
theorem qs_rows {args : Array Value} {s : State} {A : Nat → Prop} {ad sk sv : Nat → Nat} (hgv : (Jvm.Cond.and given_1 narrow_1).before args s = true) (hA : ∀ a : Nat, a < s.heap.size → ¬ A a) (hac : qs_ac s args A ad sk sv) : ∃ z : Nat → Nat, qs_rw s args A ad z := by
  obtain ⟨t0, h0, k0⟩ := va_Tof (ty := .int) (f := fun j => .int (qa_i ((j : Int) + 1))) (N := 11) (A := A) (by decide) (qs_w hgv 2689 (by decide +kernel)) (va_eqt (qs_w hgv 3713 (by decide +kernel))) (fun j hj => va_eqt (qs_of hgv qs_M j (Nat.lt_of_lt_of_le hj (by decide)))) hA
  obtain ⟨t1, h1, k1⟩ := va_Tof (ty := (.object "CutleryOrchestra$Action")) (f := fun j => .ref (ad j)) (N := 11) (A := A) (by decide) (qs_w hgv 2765 (by decide +kernel)) (va_eqt (qs_w hgv 3789 (by decide +kernel))) (fun j hj => va_eqv (qs_of hgv qs_AL j (Nat.lt_of_lt_of_le hj (by decide))) (hac j hj).1) hA
  obtain ⟨t2, h2, k2⟩ := va_Tof (ty := .byte) (f := fun j => .int (qa_i (qz_on (j : Int)))) (N := 100) (A := A) (by decide) (qs_w hgv 1097 (by decide +kernel)) (va_eqt (qs_w hgv 2633 (by decide +kernel))) (fun j hj => va_eqt (qs_of hgv qs_D1 j (Nat.lt_of_lt_of_le hj (by decide)))) hA
  obtain ⟨t3, h3, k3⟩ := va_Tof (ty := .byte) (f := fun j => .int (qa_i (qz_tn (j : Int)))) (N := 100) (A := A) (by decide) (qs_w hgv 1349 (by decide +kernel)) (va_eqt (qs_w hgv 2885 (by decide +kernel))) (fun j hj => va_eqt (qs_of hgv qs_D2 j (Nat.lt_of_lt_of_le hj (by decide)))) hA
  exact ⟨fun k => match k with | 0 => t0 | 1 => t1 | 2 => t2 | _ => t3, ⟨h0, k0⟩, ⟨h1, k1⟩, ⟨h2, k2⟩, ⟨h3, k3⟩⟩
/-- classes and arrays -/
theorem qs_c1 {ci n : Nat} {s : State} {args : Array Value} (hw : qa_Wr ci n) (hts : ∀ w ∈ lw_tbl, w.before args s = true) : ∃ q : ClassId × (Nat → Nat), ∀ r : vw_C, qa_cl[ci]? = some r → (∀ k, k < r.2.2 → qa_Sl s (r.2.1 k).1 (r.2.1 k).2.1 (r.2.1 k).2.2.1 (q.2 k)) ∧ s.vm.findClass r.1 = some q.1 := by
  obtain ⟨r, ty, h1, h2, h3, -⟩ := hw
  have ht : ∀ w ∈ qa_tb, w.before args s = true := fun w h => hts w (List.mem_filter.mp h).1
  obtain ⟨cC, kC, hfc, -⟩ := Cond.instantiable_spec (ht _ h3)
  have h : ∀ k : Nat, ∃ i : Nat, k < r.2.2 → qa_Sl s (r.2.1 k).1 (r.2.1 k).2.1 (r.2.1 k).2.2.1 i := by
    intro k
    by_cases hk : k < r.2.2
    · rcases u_lays (ws := qa_tb) ht h2 hk with h | h
      · obtain ⟨c, k9, cf', kf', fi', fd', r1, r2, hi', r3, -⟩ := Cond.lays_spec h
        exact ⟨fd'.slot, fun _ => ⟨cf', kf', fi', fd', hi', rfl, r3⟩⟩
      · obtain ⟨c, k9, cf', kf', fi', fd', r1, r2, hi', r3, -⟩ := Cond.laysFinal_spec h
        exact ⟨fd'.slot, fun _ => ⟨cf', kf', fi', fd', hi', rfl, r3⟩⟩
    · exact ⟨0, fun h => absurd h hk⟩
  obtain ⟨iS, hi⟩ := Classical.axiomOfChoice h
  refine ⟨(cC, iS), fun r9 h9 => ?_⟩
  cases h1.symm.trans h9
  exact ⟨fun k hk => hi k hk, hfc⟩
theorem qs_sl {o9 n d : String} {v : Value} {a : Nat} {A : Nat → Prop} {s : State} (h : va_OF o9 n d v a A s s.heap) : ∃ i : Nat, qa_Sl s o9 n d i := by
  obtain ⟨cf, k, i, f, cell, h1, h2, -⟩ := h
  exact ⟨f.slot, cf, k, i, f, h1, rfl, h2⟩
theorem qs_c11 {s : State} {args : Array Value} {A : Nat → Prop} {ad sk sv : Nat → Nat} (hac : qs_ac s args A ad sk sv) : ∃ q : ClassId × (Nat → Nat), ∀ r : vw_C, qa_cl[11]? = some r → (∀ k, k < r.2.2 → qa_Sl s (r.2.1 k).1 (r.2.1 k).2.1 (r.2.1 k).2.2.1 (q.2 k)) ∧ s.vm.findClass r.1 = some q.1 := by
  obtain ⟨h1, ⟨cell, g1, g2, g3, g4⟩, h3, h4, -⟩ := hac 0 (by decide)
  obtain ⟨i0, e0⟩ := qs_sl h3
  obtain ⟨i1, e1⟩ := qs_sl h4
  refine ⟨(cell.cls, fun k => match k with | 0 => i0 | _ => i1), fun r hr => ?_⟩
  cases hr
  refine ⟨fun k hk => ?_, g3⟩
  match k, hk with
  | 0, _ => exact e0
  | 1, _ => exact e1
  | k + 2, hk => exact absurd (show k + 2 < 2 from hk) (by omega)
theorem qs_cl {s : State} {args : Array Value} {A : Nat → Prop} {ad sk sv : Nat → Nat} (hts : ∀ w ∈ lw_tbl, w.before args s = true) (hac : qs_ac s args A ad sk sv) : ∀ ci : Nat, ∃ q : ClassId × (Nat → Nat), ∀ r : vw_C, qa_cl[ci]? = some r → (∀ k, k < r.2.2 → qa_Sl s (r.2.1 k).1 (r.2.1 k).2.1 (r.2.1 k).2.2.1 (q.2 k)) ∧ s.vm.findClass r.1 = some q.1 := by
  intro ci
  match ci with
  | 0 => exact qs_c1 qw_0 hts
  | 1 => exact qs_c1 qw_1 hts
  | 2 => exact qs_c1 qw_2 hts
  | 3 => exact qs_c1 qw_3 hts
  | 4 => exact qs_c1 qw_4 hts
  | 5 => exact qs_c1 qw_5 hts
  | 6 => exact qs_c1 qw_6 hts
  | 7 => exact qs_c1 qw_7 hts
  | 8 => exact qs_c1 qw_8 hts
  | 9 => exact qs_c1 qw_9 hts
  | 10 => exact qs_c1 qw_10 hts
  | 11 => exact qs_c11 hac
  | ci + 12 => exact ⟨(0, fun _ => 0), fun r hr => by cases hr⟩
theorem qs_a1 {s : State} {args : Array Value} {ty : FieldType} (h : (Cond.arrayClass ty).before args s = true) : ∃ cA : ClassId, ArrOfT s cA ty ∧ s.vm.findClass ("[" ++ ty.toString) = some cA := by
  obtain ⟨c, k, comp, h1, h2, h3⟩ := Cond.arrayClass_spec h
  exact ⟨c, fun n z => ⟨(fun q h => by cases h), k, h2, comp, h3⟩, h1⟩
theorem qs_a2 {s : State} {args : Array Value} {n : String} (h : (Cond.arrayOver (.object n)).before args s = true) : ∃ cA : ClassId, ArrOfT s cA (.object n) ∧ va_RA s cA (.object n) := by
  obtain ⟨comp, c, k, h1, -, h3, h4, h5⟩ := Cond.arrayOver_spec h
  exact ⟨c, fun n z => ⟨(fun q h => by cases h), k, h3, comp, h4⟩, k, comp, h3, h4, h1, h5⟩
theorem qs_a3 {s : State} (h : qa_AI s) : ∃ cA : ClassId, ArrOfT s cA (.array .int) ∧ va_RA s cA (.array .int) := by
  obtain ⟨d, c, k, h1, h2, h3, h4⟩ := h
  exact ⟨c, fun n z => ⟨(fun q h => by cases h), k, h2, d, h3⟩, h4⟩
theorem qs_AI {s : State} {args : Array Value} (hts : ∀ w ∈ lw_tbl, w.before args s = true) : qa_AI s := sx_over (hts _ (qa_wm 1 190 (by decide +kernel)))
theorem qs_ty {s : State} {args : Array Value} (hts : ∀ w ∈ lw_tbl, w.before args s = true) : ∀ t : Nat, ∃ cA : ClassId, ∀ ty : FieldType, qa_ty[t]? = some ty → ArrOfT s cA ty ∧ va_RA s cA ty := by
  intro t
  have mk : ∀ {ty0 : FieldType}, qa_ty[t]? = some ty0 → (∃ cA : ClassId, ArrOfT s cA ty0 ∧ va_RA s cA ty0) → ∃ cA : ClassId, ∀ ty : FieldType, qa_ty[t]? = some ty → ArrOfT s cA ty ∧ va_RA s cA ty := by
    intro ty0 h0 ⟨cA, h1⟩
    exact ⟨cA, fun ty h => by cases h0.symm.trans h; exact h1⟩
  match t with
  | 0 => exact mk rfl (qs_a1 (hts _ (qa_wm 1 71 (by decide +kernel))))
  | 1 => exact mk rfl (qs_a1 (hts _ (qa_wm 10 71 (by decide +kernel))))
  | 2 => exact mk rfl (qs_a1 (hts _ (qa_wm 1 236 (by decide +kernel))))
  | 3 => exact mk rfl (qs_a1 (hts _ (qa_wm 8 79 (by decide +kernel))))
  | 4 => exact mk rfl (qs_a1 (hts _ (qa_wm 10 72 (by decide +kernel))))
  | 5 => exact mk rfl (qs_a2 (hts _ (qa_wm 1 53 (by decide +kernel))))
  | 6 => exact mk rfl (qs_a2 (hts _ (qa_wm 1 170 (by decide +kernel))))
  | 7 => exact mk rfl (qs_a2 (hts _ (qa_wm 1 238 (by decide +kernel))))
  | 8 => exact mk rfl (qs_a3 (qs_AI hts))
  | t + 9 => exact ⟨0, fun ty h => by cases h⟩
theorem qs_K {s : State} {args : Array Value} {ad sk sv : Nat → Nat} {E : qa_V} (hE : E.1 = s.heap.size) (hgv : (Jvm.Cond.and given_1 narrow_1).before args s = true) (hts : ∀ w ∈ lw_tbl, w.before args s = true) (hac : qs_ac s args (fun q => E.1 ≤ q) ad sk sv) (he : ∀ (k : Nat) (z : String × String × String), qa_st[k]? = some z → (Term.static z.1 z.2.1 z.2.2).eval args s none [] s = some (E.2 k)) : ∃ G : qa_G, qa_K E G s := by
  have hA : ∀ a : Nat, a < s.heap.size → ¬ (fun q => E.1 ≤ q) a := fun a ha => by show ¬ E.1 ≤ a; omega
  obtain ⟨g, hg⟩ := Classical.axiomOfChoice (qs_cl hts hac)
  obtain ⟨ga, hga⟩ := Classical.axiomOfChoice (qs_ty hts)
  have h5 : ∀ (k : Nat) (z : String × String × String), qa_st[k]? = some z → va_Z z.1 z.2.1 z.2.2 (E.2 k) (fun q => E.1 ≤ q) s s.heap := fun k z hz => match k, hz with
  | 0, hz => by cases hz; exact va_Zof (hts _ (qa_wm 1 214 (by decide +kernel))) (hts _ (qa_wm 1 11 (by decide +kernel))) (he 0 _ rfl) hA
  | 1, hz => by cases hz; exact va_Zof (hts _ (qa_wm 2 237 (by decide +kernel))) (hts _ (qa_wm 1 15 (by decide +kernel))) (he 1 _ rfl) hA
  | 2, hz => by cases hz; exact va_Zof (hts _ (qa_wm 3 12 (by decide +kernel))) (hts _ (qa_wm 1 17 (by decide +kernel))) (he 2 _ rfl) hA
  | 3, hz => by cases hz; exact va_Zof (hts _ (qa_wm 4 26 (by decide +kernel))) (hts _ (qa_wm 1 15 (by decide +kernel))) (he 3 _ rfl) hA
  | 4, hz => by cases hz; exact va_Zof (hts _ (qa_wm 4 35 (by decide +kernel))) (hts _ (qa_wm 1 15 (by decide +kernel))) (he 4 _ rfl) hA
  | 5, hz => by cases hz; exact va_Zof (hts _ (qa_wm 4 44 (by decide +kernel))) (hts _ (qa_wm 1 15 (by decide +kernel))) (he 5 _ rfl) hA
  | 6, hz => by cases hz; exact va_Zof (hts _ (qa_wm 4 53 (by decide +kernel))) (hts _ (qa_wm 1 15 (by decide +kernel))) (he 6 _ rfl) hA
  | 7, hz => by cases hz; exact va_Zof (hts _ (qa_wm 4 214 (by decide +kernel))) (hts _ (qa_wm 1 15 (by decide +kernel))) (he 7 _ rfl) hA
  | 8, hz => by cases hz; exact va_Zof (hts _ (qa_wm 5 53 (by decide +kernel))) (hts _ (qa_wm 1 15 (by decide +kernel))) (he 8 _ rfl) hA
  | 9, hz => by cases hz; exact va_Zof (hts _ (qa_wm 5 62 (by decide +kernel))) (hts _ (qa_wm 1 15 (by decide +kernel))) (he 9 _ rfl) hA
  | 10, hz => by cases hz; exact va_Zof (hts _ (qa_wm 5 104 (by decide +kernel))) (hts _ (qa_wm 1 15 (by decide +kernel))) (he 10 _ rfl) hA
  | 11, hz => by cases hz; exact va_Zof (hts _ (qa_wm 5 124 (by decide +kernel))) (hts _ (qa_wm 1 15 (by decide +kernel))) (he 11 _ rfl) hA
  | 12, hz => by cases hz; exact va_Zof (hts _ (qa_wm 5 158 (by decide +kernel))) (hts _ (qa_wm 1 15 (by decide +kernel))) (he 12 _ rfl) hA
  | 13, hz => by cases hz; exact va_Zof (hts _ (qa_wm 6 149 (by decide +kernel))) (hts _ (qa_wm 1 29 (by decide +kernel))) (he 13 _ rfl) hA
  | 14, hz => by cases hz; exact va_Zof (hts _ (qa_wm 6 151 (by decide +kernel))) (hts _ (qa_wm 1 29 (by decide +kernel))) (he 14 _ rfl) hA
  | 15, hz => by cases hz; exact va_Zof (hts _ (qa_wm 7 115 (by decide +kernel))) (hts _ (qa_wm 1 15 (by decide +kernel))) (he 15 _ rfl) hA
  | 16, hz => by cases hz; exact va_Zof (hts _ (qa_wm 6 79 (by decide +kernel))) (hts _ (qa_wm 1 35 (by decide +kernel))) (he 16 _ rfl) hA
  | k + 17, hz => by cases hz
  refine ⟨(fun ci => (g ci).1, fun ci => (g ci).2, ga), fun ci r hr => hg ci r hr, fun t ty ht => hga t ty ht, fun w hw hn => va_Nw.of ?_ (hts w hw), fun C hC => va_AO.of (hts _ hC), h5, vx_Zqof (hts _ (qa_wm 3 154 (by decide +kernel))) (hts _ (qa_wm 1 20 (by decide +kernel))) (qs_w hgv 3777 (by decide +kernel)) hA, vx_Zqof (hts _ (qa_wm 3 156 (by decide +kernel))) (hts _ (qa_wm 1 20 (by decide +kernel))) (qs_w hgv 2497 (by decide +kernel)) hA, fun own k tx hw => ?_, fun k j hk hj hkj => va_Nc.of (qs_xf' hgv hk hj hkj), qs_AI hts⟩
  · cases w <;> first | rfl | (exact absurd hn (by decide)) | (simp [qa_nw] at hn)
  · have h := hts _ hw
    cases hc : s.vm.findClass own with
    | none => simp [Cond.before, Cond.holds, Cond.value, hc] at h
    | some c =>
      obtain ⟨k9, cf, i, a, -, -, -, -, -, h6⟩ := Cond.stringRef_spec hc h
      exact ⟨a, vk_R.of h h6⟩
