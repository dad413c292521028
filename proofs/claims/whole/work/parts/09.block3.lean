section P09
variable {l : Launch} {D : va_G} {ac : Nat → ClassId} {b : Nat}
theorem t_C_isFact {X : RAM} {w : Int32} : CG l D ac b y_C_isFact c_C_isFact 2 (some .boolean) 0 0 [.int w] X (some (.int (bI (decide ((0 ≤ w ∧ w ≤ 7) ∨ (10 ≤ w ∧ w < 14)))))) (X) := by
  refine Ct_of false (by decide) (fun h => by cases h) (Nat.le_of_ble_eq_true rfl) ?_
  show V l D ac b "SpanStore" c_C_isFact 2 (some .boolean) false 0 0 0 0 ((some (.int (bI (decide ((0 ≤ w ∧ w ≤ 7) ∨ (10 ≤ w ∧ w < 14)))))), 144, mk (X)) 0 0 0 [(0, .int w)] [] 144 (mk X)
  refine s_iload_n (q := 1) d_C_isFact_0 rfl rfl ?_
  refine s_bipush (v := 10) (q := 3) d_C_isFact_1 rfl kb_10 ?_
  refine s_icmp_lt (tgt := 16) (q := 6) d_C_isFact_3 (by decide) rfl (fun h_3 => ?_) (fun h_3 => ?_)
  · -- T 3
    refine s_iconst (v := 0) (q := 17) d_C_isFact_16 rfl ki_0 ?_
    refine s_istore_n (q := 18) d_C_isFact_17 rfl (by decide) ?_
    refine s_iload_n (q := 19) d_C_isFact_18 rfl rfl ?_
    refine s_if_lt (tgt := 28) (q := 22) d_C_isFact_19 (by decide) rfl (fun h_19 => ?_) (fun h_19 => ?_)
    · -- T 19
      refine s_iload_n (q := 29) d_C_isFact_28 rfl rfl ?_
      refine s_if_eq (tgt := 36) (q := 32) d_C_isFact_29 (by decide) rfl (fun _ => ?_) (fun z9 => absurd (by decide) z9)
      refine s_iconst (v := 0) (q := 37) d_C_isFact_36 rfl ki_0 ?_
      exact g_iret d_C_isFact_37 rfl rfl (by first | exact bI_is1 (by (try simp only [bI_d, bI_dn, strV, remI] at *); simp only [i_le, i_lt, i_eq, tI_0, tI_1, tI_2, tI_3, tI_4, tI_7, tI_8, tI_10, tI_12, tI_13, tI_14, tI_40, tI_99, tI_100, tI_1000, tI_m1000, tI_m1, tI_mil] at *; omega) | exact bI_is0 (by (try simp only [bI_d, bI_dn, strV, remI] at *); simp only [i_le, i_lt, i_eq, tI_0, tI_1, tI_2, tI_3, tI_4, tI_7, tI_8, tI_10, tI_12, tI_13, tI_14, tI_40, tI_99, tI_100, tI_1000, tI_m1000, tI_m1, tI_mil] at *; omega)) rfl
    · -- F 19
      refine s_iload_n (q := 23) d_C_isFact_22 rfl rfl ?_
      refine s_bipush (v := 7) (q := 25) d_C_isFact_23 rfl kb_7 ?_
      refine s_icmp_le (tgt := 32) (q := 28) d_C_isFact_25 (by decide) rfl (fun h_25 => ?_) (fun h_25 => ?_)
      · -- T 25
        refine s_iconst (v := 1) (q := 33) d_C_isFact_32 rfl ki_1 ?_
        refine s_goto (tgt := 37) d_C_isFact_33 (by decide) ?_
        exact g_iret d_C_isFact_37 rfl rfl (by first | exact bI_is1 (by (try simp only [bI_d, bI_dn, strV, remI] at *); simp only [i_le, i_lt, i_eq, tI_0, tI_1, tI_2, tI_3, tI_4, tI_7, tI_8, tI_10, tI_12, tI_13, tI_14, tI_40, tI_99, tI_100, tI_1000, tI_m1000, tI_m1, tI_mil] at *; omega) | exact bI_is0 (by (try simp only [bI_d, bI_dn, strV, remI] at *); simp only [i_le, i_lt, i_eq, tI_0, tI_1, tI_2, tI_3, tI_4, tI_7, tI_8, tI_10, tI_12, tI_13, tI_14, tI_40, tI_99, tI_100, tI_1000, tI_m1000, tI_m1, tI_mil] at *; omega)) rfl
      · -- F 25
        refine s_iload_n (q := 29) d_C_isFact_28 rfl rfl ?_
        refine s_if_eq (tgt := 36) (q := 32) d_C_isFact_29 (by decide) rfl (fun _ => ?_) (fun z9 => absurd (by decide) z9)
        refine s_iconst (v := 0) (q := 37) d_C_isFact_36 rfl ki_0 ?_
        exact g_iret d_C_isFact_37 rfl rfl (by first | exact bI_is1 (by (try simp only [bI_d, bI_dn, strV, remI] at *); simp only [i_le, i_lt, i_eq, tI_0, tI_1, tI_2, tI_3, tI_4, tI_7, tI_8, tI_10, tI_12, tI_13, tI_14, tI_40, tI_99, tI_100, tI_1000, tI_m1000, tI_m1, tI_mil] at *; omega) | exact bI_is0 (by (try simp only [bI_d, bI_dn, strV, remI] at *); simp only [i_le, i_lt, i_eq, tI_0, tI_1, tI_2, tI_3, tI_4, tI_7, tI_8, tI_10, tI_12, tI_13, tI_14, tI_40, tI_99, tI_100, tI_1000, tI_m1000, tI_m1, tI_mil] at *; omega)) rfl
  · -- F 3
    refine s_iload_n (q := 7) d_C_isFact_6 rfl rfl ?_
    refine s_bipush (v := 14) (q := 9) d_C_isFact_7 rfl kb_14 ?_
    refine s_icmp_ge (tgt := 16) (q := 12) d_C_isFact_9 (by decide) rfl (fun h_9 => ?_) (fun h_9 => ?_)
    · -- T 9
      refine s_iconst (v := 0) (q := 17) d_C_isFact_16 rfl ki_0 ?_
      refine s_istore_n (q := 18) d_C_isFact_17 rfl (by decide) ?_
      refine s_iload_n (q := 19) d_C_isFact_18 rfl rfl ?_
      refine s_if_lt (tgt := 28) (q := 22) d_C_isFact_19 (by decide) rfl (fun h_19 => ?_) (fun h_19 => ?_)
      · -- T 19
        refine s_iload_n (q := 29) d_C_isFact_28 rfl rfl ?_
        refine s_if_eq (tgt := 36) (q := 32) d_C_isFact_29 (by decide) rfl (fun _ => ?_) (fun z9 => absurd (by decide) z9)
        refine s_iconst (v := 0) (q := 37) d_C_isFact_36 rfl ki_0 ?_
        exact g_iret d_C_isFact_37 rfl rfl (by first | exact bI_is1 (by (try simp only [bI_d, bI_dn, strV, remI] at *); simp only [i_le, i_lt, i_eq, tI_0, tI_1, tI_2, tI_3, tI_4, tI_7, tI_8, tI_10, tI_12, tI_13, tI_14, tI_40, tI_99, tI_100, tI_1000, tI_m1000, tI_m1, tI_mil] at *; omega) | exact bI_is0 (by (try simp only [bI_d, bI_dn, strV, remI] at *); simp only [i_le, i_lt, i_eq, tI_0, tI_1, tI_2, tI_3, tI_4, tI_7, tI_8, tI_10, tI_12, tI_13, tI_14, tI_40, tI_99, tI_100, tI_1000, tI_m1000, tI_m1, tI_mil] at *; omega)) rfl
      · -- F 19
        refine s_iload_n (q := 23) d_C_isFact_22 rfl rfl ?_
        refine s_bipush (v := 7) (q := 25) d_C_isFact_23 rfl kb_7 ?_
        refine s_icmp_le (tgt := 32) (q := 28) d_C_isFact_25 (by decide) rfl (fun h_25 => ?_) (fun h_25 => ?_)
        · -- T 25
          refine s_iconst (v := 1) (q := 33) d_C_isFact_32 rfl ki_1 ?_
          refine s_goto (tgt := 37) d_C_isFact_33 (by decide) ?_
          exact g_iret d_C_isFact_37 rfl rfl (by first | exact bI_is1 (by (try simp only [bI_d, bI_dn, strV, remI] at *); simp only [i_le, i_lt, i_eq, tI_0, tI_1, tI_2, tI_3, tI_4, tI_7, tI_8, tI_10, tI_12, tI_13, tI_14, tI_40, tI_99, tI_100, tI_1000, tI_m1000, tI_m1, tI_mil] at *; omega) | exact bI_is0 (by (try simp only [bI_d, bI_dn, strV, remI] at *); simp only [i_le, i_lt, i_eq, tI_0, tI_1, tI_2, tI_3, tI_4, tI_7, tI_8, tI_10, tI_12, tI_13, tI_14, tI_40, tI_99, tI_100, tI_1000, tI_m1000, tI_m1, tI_mil] at *; omega)) rfl
        · -- F 25
          refine s_iload_n (q := 29) d_C_isFact_28 rfl rfl ?_
          refine s_if_eq (tgt := 36) (q := 32) d_C_isFact_29 (by decide) rfl (fun _ => ?_) (fun z9 => absurd (by decide) z9)
          refine s_iconst (v := 0) (q := 37) d_C_isFact_36 rfl ki_0 ?_
          exact g_iret d_C_isFact_37 rfl rfl (by first | exact bI_is1 (by (try simp only [bI_d, bI_dn, strV, remI] at *); simp only [i_le, i_lt, i_eq, tI_0, tI_1, tI_2, tI_3, tI_4, tI_7, tI_8, tI_10, tI_12, tI_13, tI_14, tI_40, tI_99, tI_100, tI_1000, tI_m1000, tI_m1, tI_mil] at *; omega) | exact bI_is0 (by (try simp only [bI_d, bI_dn, strV, remI] at *); simp only [i_le, i_lt, i_eq, tI_0, tI_1, tI_2, tI_3, tI_4, tI_7, tI_8, tI_10, tI_12, tI_13, tI_14, tI_40, tI_99, tI_100, tI_1000, tI_m1000, tI_m1, tI_mil] at *; omega)) rfl
    · -- F 9
      refine s_iconst (v := 1) (q := 13) d_C_isFact_12 rfl ki_1 ?_
      refine s_goto (tgt := 17) d_C_isFact_13 (by decide) ?_
      refine s_istore_n (q := 18) d_C_isFact_17 rfl (by decide) ?_
      refine s_iload_n (q := 19) d_C_isFact_18 rfl rfl ?_
      refine s_if_lt (tgt := 28) (q := 22) d_C_isFact_19 (by decide) rfl (fun h_19 => ?_) (fun h_19 => ?_)
      · -- T 19
        refine s_iload_n (q := 29) d_C_isFact_28 rfl rfl ?_
        refine s_if_eq (tgt := 36) (q := 32) d_C_isFact_29 (by decide) rfl (fun z9 => absurd z9 (by decide)) (fun _ => ?_)
        refine s_iconst (v := 1) (q := 33) d_C_isFact_32 rfl ki_1 ?_
        refine s_goto (tgt := 37) d_C_isFact_33 (by decide) ?_
        exact g_iret d_C_isFact_37 rfl rfl (by first | exact bI_is1 (by (try simp only [bI_d, bI_dn, strV, remI] at *); simp only [i_le, i_lt, i_eq, tI_0, tI_1, tI_2, tI_3, tI_4, tI_7, tI_8, tI_10, tI_12, tI_13, tI_14, tI_40, tI_99, tI_100, tI_1000, tI_m1000, tI_m1, tI_mil] at *; omega) | exact bI_is0 (by (try simp only [bI_d, bI_dn, strV, remI] at *); simp only [i_le, i_lt, i_eq, tI_0, tI_1, tI_2, tI_3, tI_4, tI_7, tI_8, tI_10, tI_12, tI_13, tI_14, tI_40, tI_99, tI_100, tI_1000, tI_m1000, tI_m1, tI_mil] at *; omega)) rfl
      · -- F 19
        refine s_iload_n (q := 23) d_C_isFact_22 rfl rfl ?_
        refine s_bipush (v := 7) (q := 25) d_C_isFact_23 rfl kb_7 ?_
        refine s_icmp_le (tgt := 32) (q := 28) d_C_isFact_25 (by decide) rfl (fun h_25 => ?_) (fun h_25 => ?_)
        · -- T 25
          refine s_iconst (v := 1) (q := 33) d_C_isFact_32 rfl ki_1 ?_
          refine s_goto (tgt := 37) d_C_isFact_33 (by decide) ?_
          exact g_iret d_C_isFact_37 rfl rfl (by first | exact bI_is1 (by (try simp only [bI_d, bI_dn, strV, remI] at *); simp only [i_le, i_lt, i_eq, tI_0, tI_1, tI_2, tI_3, tI_4, tI_7, tI_8, tI_10, tI_12, tI_13, tI_14, tI_40, tI_99, tI_100, tI_1000, tI_m1000, tI_m1, tI_mil] at *; omega) | exact bI_is0 (by (try simp only [bI_d, bI_dn, strV, remI] at *); simp only [i_le, i_lt, i_eq, tI_0, tI_1, tI_2, tI_3, tI_4, tI_7, tI_8, tI_10, tI_12, tI_13, tI_14, tI_40, tI_99, tI_100, tI_1000, tI_m1000, tI_m1, tI_mil] at *; omega)) rfl
        · -- F 25
          refine s_iload_n (q := 29) d_C_isFact_28 rfl rfl ?_
          refine s_if_eq (tgt := 36) (q := 32) d_C_isFact_29 (by decide) rfl (fun z9 => absurd z9 (by decide)) (fun _ => ?_)
          refine s_iconst (v := 1) (q := 33) d_C_isFact_32 rfl ki_1 ?_
          refine s_goto (tgt := 37) d_C_isFact_33 (by decide) ?_
          exact g_iret d_C_isFact_37 rfl rfl (by first | exact bI_is1 (by (try simp only [bI_d, bI_dn, strV, remI] at *); simp only [i_le, i_lt, i_eq, tI_0, tI_1, tI_2, tI_3, tI_4, tI_7, tI_8, tI_10, tI_12, tI_13, tI_14, tI_40, tI_99, tI_100, tI_1000, tI_m1000, tI_m1, tI_mil] at *; omega) | exact bI_is0 (by (try simp only [bI_d, bI_dn, strV, remI] at *); simp only [i_le, i_lt, i_eq, tI_0, tI_1, tI_2, tI_3, tI_4, tI_7, tI_8, tI_10, tI_12, tI_13, tI_14, tI_40, tI_99, tI_100, tI_1000, tI_m1000, tI_m1, tI_mil] at *; omega)) rfl
theorem t_C_mixed {X : RAM} {h x : Int64} : CG l D ac b y_C_mixed c_C_mixed 4 (some .long) 0 0 [.long h, .long x] X (some (.long (31 * h + x))) (X) := by
  refine Ct_of false (by decide) (fun h => by cases h) (Nat.le_of_ble_eq_true rfl) ?_
  show V l D ac b "SpanStore" c_C_mixed 4 (some .long) false 0 0 0 0 ((some (.long (31 * h + x))), 144, mk (X)) 0 0 0 [(0, .long h), (2, .long x)] [] 144 (mk X)
  refine s_ldc2 (q := 3) d_C_mixed_0 rfl kc_C_229 ?_
  refine s_lload_n (q := 4) d_C_mixed_3 rfl rfl ?_
  refine s_lmul (q := 5) d_C_mixed_4 rfl ?_
  refine s_lload_n (q := 6) d_C_mixed_5 rfl rfl ?_
  refine s_ladd (q := 7) d_C_mixed_6 rfl ?_
  exact g_lret d_C_mixed_7 rfl rfl rfl
def faV (X : RAM) (o w : Nat) : Int32 := match w with
  | 0 => X o 5
  | 1 => X o 7
  | 2 => X o 8
  | 3 => X o 5 - X o 6
  | 4 => if X o 6 < X o 5 then X o 9 else 0
  | 5 => if X o 6 < X o 5 then X o 10 else 0
  | 6 => bI (olP X o)
  | 7 => bI (ogP X o)
  | w => X (o + 5) (w - 10)
theorem t_B_fact {X : RAM} {o w : Nat} (hB : isB o) (hw : w ≤ 7 ∨ 10 ≤ w ∧ w < 14) : CG l D ac b y_B_fact c_B_fact 2 (some .int) 2 40 [.ref o, .int (nI w)] X (some (.int (faV X o w))) X := by
  rcases (show w = 0 ∨ w = 1 ∨ w = 2 ∨ w = 3 ∨ w = 4 ∨ w = 5 ∨ w = 6 ∨ w = 7 ∨ w = 10 ∨ w = 11 ∨ w = 12 ∨ w = 13 by omega) with rfl | rfl | rfl | rfl | rfl | rfl | rfl | rfl | rfl | rfl | rfl | rfl
  · skip
    refine Ct_of false (by decide) (fun h => by cases h) (Nat.le_of_ble_eq_true rfl) ?_
    show V l D ac b "SpanStore$Block" c_B_fact 2 (some .int) false 2 40 0 0 ((some (.int (faV X o 0))), 144, mk X) 0 0 0 [(0, .ref o), (1, .int (nI 0))] [] 144 (mk X)
    refine s_iload_n (q := 1) d_B_fact_0 rfl rfl ?_
    refine s_tsIn (tgt := 48) d_B_fact_1 (by decide) (by decide) rfl (by decide) ?_
    refine s_aload_n (q := 49) d_B_fact_48 rfl rfl (Or.inr ⟨_, rfl⟩) ?_
    refine g_geti (q := 52) d_B_fact_49 rfl fl_B_28 hB.1 rfl ?_
    exact g_iret d_B_fact_52 rfl rfl rfl rfl
  · skip
    refine Ct_of false (by decide) (fun h => by cases h) (Nat.le_of_ble_eq_true rfl) ?_
    show V l D ac b "SpanStore$Block" c_B_fact 2 (some .int) false 2 40 0 0 ((some (.int (faV X o 1))), 144, mk X) 0 0 0 [(0, .ref o), (1, .int (nI 1))] [] 144 (mk X)
    refine s_iload_n (q := 1) d_B_fact_0 rfl rfl ?_
    refine s_tsIn (tgt := 53) d_B_fact_1 (by decide) (by decide) rfl (by decide) ?_
    refine s_aload_n (q := 54) d_B_fact_53 rfl rfl (Or.inr ⟨_, rfl⟩) ?_
    refine g_geti (q := 57) d_B_fact_54 rfl fl_B_53 hB.1 rfl ?_
    exact g_iret d_B_fact_57 rfl rfl rfl rfl
  · skip
    refine Ct_of false (by decide) (fun h => by cases h) (Nat.le_of_ble_eq_true rfl) ?_
    show V l D ac b "SpanStore$Block" c_B_fact 2 (some .int) false 2 40 0 0 ((some (.int (faV X o 2))), 144, mk X) 0 0 0 [(0, .ref o), (1, .int (nI 2))] [] 144 (mk X)
    refine s_iload_n (q := 1) d_B_fact_0 rfl rfl ?_
    refine s_tsIn (tgt := 58) d_B_fact_1 (by decide) (by decide) rfl (by decide) ?_
    refine s_aload_n (q := 59) d_B_fact_58 rfl rfl (Or.inr ⟨_, rfl⟩) ?_
    refine g_geti (q := 62) d_B_fact_59 rfl fl_B_56 hB.1 rfl ?_
    exact g_iret d_B_fact_62 rfl rfl rfl rfl
  · skip
    refine Ct_of false (by decide) (fun h => by cases h) (Nat.le_of_ble_eq_true rfl) ?_
    show V l D ac b "SpanStore$Block" c_B_fact 2 (some .int) false 2 40 0 0 ((some (.int (faV X o 3))), 144, mk X) 0 0 0 [(0, .ref o), (1, .int (nI 3))] [] 144 (mk X)
    refine s_iload_n (q := 1) d_B_fact_0 rfl rfl ?_
    refine s_tsIn (tgt := 63) d_B_fact_1 (by decide) (by decide) rfl (by decide) ?_
    refine s_aload_n (q := 64) d_B_fact_63 rfl rfl (Or.inr ⟨_, rfl⟩) ?_
    refine g_geti (q := 67) d_B_fact_64 rfl fl_B_28 hB.1 rfl ?_
    refine s_aload_n (q := 68) d_B_fact_67 rfl rfl (Or.inr ⟨_, rfl⟩) ?_
    refine g_geti (q := 71) d_B_fact_68 rfl fl_B_32 hB.1 rfl ?_
    refine s_isub (q := 72) d_B_fact_71 rfl ?_
    exact g_iret d_B_fact_72 rfl rfl rfl rfl
  · skip
    refine Ct_of false (by decide) (fun h => by cases h) (Nat.le_of_ble_eq_true rfl) ?_
    show V l D ac b "SpanStore$Block" c_B_fact 2 (some .int) false 2 40 0 0 ((some (.int (faV X o 4))), 144, mk X) 0 0 0 [(0, .ref o), (1, .int (nI 4))] [] 144 (mk X)
    refine s_iload_n (q := 1) d_B_fact_0 rfl rfl ?_
    refine s_tsIn (tgt := 73) d_B_fact_1 (by decide) (by decide) rfl (by decide) ?_
    refine s_aload_n (q := 74) d_B_fact_73 rfl rfl (Or.inr ⟨_, rfl⟩) ?_
    refine g_callV (q := 77) d_B_fact_74 rfl ml_B_83 mx_B_isHalf mv_B_isHalf (t_B_isHalf hB) hB.1 rfl rfl (Nat.le_of_ble_eq_true rfl) (by decide) ?_
    refine s_if_eq (tgt := 87) (q := 80) d_B_fact_77 (by decide) rfl (fun h_77 => ?_) (fun h_77 => ?_)
    · -- T 77
      rw [bI_d] at h_77
      refine s_iconst (v := 0) (q := 88) d_B_fact_87 rfl ki_0 ?_
      exact g_iret d_B_fact_88 rfl rfl (by simp [faV, h_77]) rfl
    · -- F 77
      rw [bI_dn] at h_77
      refine s_aload_n (q := 81) d_B_fact_80 rfl rfl (Or.inr ⟨_, rfl⟩) ?_
      refine g_geti (q := 84) d_B_fact_81 rfl fl_B_68 hB.1 rfl ?_
      refine s_goto (tgt := 88) d_B_fact_84 (by decide) ?_
      exact g_iret d_B_fact_88 rfl rfl (by simp [faV, h_77]) rfl
  · skip
    refine Ct_of false (by decide) (fun h => by cases h) (Nat.le_of_ble_eq_true rfl) ?_
    show V l D ac b "SpanStore$Block" c_B_fact 2 (some .int) false 2 40 0 0 ((some (.int (faV X o 5))), 144, mk X) 0 0 0 [(0, .ref o), (1, .int (nI 5))] [] 144 (mk X)
    refine s_iload_n (q := 1) d_B_fact_0 rfl rfl ?_
    refine s_tsIn (tgt := 89) d_B_fact_1 (by decide) (by decide) rfl (by decide) ?_
    refine s_aload_n (q := 90) d_B_fact_89 rfl rfl (Or.inr ⟨_, rfl⟩) ?_
    refine g_callV (q := 93) d_B_fact_90 rfl ml_B_83 mx_B_isHalf mv_B_isHalf (t_B_isHalf hB) hB.1 rfl rfl (Nat.le_of_ble_eq_true rfl) (by decide) ?_
    refine s_if_eq (tgt := 103) (q := 96) d_B_fact_93 (by decide) rfl (fun h_93 => ?_) (fun h_93 => ?_)
    · -- T 93
      rw [bI_d] at h_93
      refine s_iconst (v := 0) (q := 104) d_B_fact_103 rfl ki_0 ?_
      exact g_iret d_B_fact_104 rfl rfl (by simp [faV, h_93]) rfl
    · -- F 93
      rw [bI_dn] at h_93
      refine s_aload_n (q := 97) d_B_fact_96 rfl rfl (Or.inr ⟨_, rfl⟩) ?_
      refine g_geti (q := 100) d_B_fact_97 rfl fl_B_71 hB.1 rfl ?_
      refine s_goto (tgt := 104) d_B_fact_100 (by decide) ?_
      exact g_iret d_B_fact_104 rfl rfl (by simp [faV, h_93]) rfl
  · skip
    refine Ct_of false (by decide) (fun h => by cases h) (Nat.le_of_ble_eq_true rfl) ?_
    show V l D ac b "SpanStore$Block" c_B_fact 2 (some .int) false 2 40 0 0 ((some (.int (faV X o 6))), 144, mk X) 0 0 0 [(0, .ref o), (1, .int (nI 6))] [] 144 (mk X)
    refine s_iload_n (q := 1) d_B_fact_0 rfl rfl ?_
    refine s_tsIn (tgt := 105) d_B_fact_1 (by decide) (by decide) rfl (by decide) ?_
    refine s_aload_n (q := 106) d_B_fact_105 rfl rfl (Or.inr ⟨_, rfl⟩) ?_
    refine g_callV (q := 109) d_B_fact_106 rfl ml_B_87 mx_B_owesLeast mv_B_owesLeast (t_B_owesLeast hB) hB.1 rfl rfl (Nat.le_of_ble_eq_true rfl) (by decide) ?_
    refine s_if_eq (tgt := 116) (q := 112) d_B_fact_109 (by decide) rfl (fun h_109 => ?_) (fun h_109 => ?_)
    · -- T 109
      refine s_iconst (v := 0) (q := 117) d_B_fact_116 rfl ki_0 ?_
      exact g_iret d_B_fact_117 rfl rfl (by simp only [faV]; first | (rw [bI_0] at h_109; rw [h_109]; rfl) | (rw [bI_n0] at h_109; rw [h_109]; rfl)) rfl
    · -- F 109
      refine s_iconst (v := 1) (q := 113) d_B_fact_112 rfl ki_1 ?_
      refine s_goto (tgt := 117) d_B_fact_113 (by decide) ?_
      exact g_iret d_B_fact_117 rfl rfl (by simp only [faV]; first | (rw [bI_0] at h_109; rw [h_109]; rfl) | (rw [bI_n0] at h_109; rw [h_109]; rfl)) rfl
  · skip
    refine Ct_of false (by decide) (fun h => by cases h) (Nat.le_of_ble_eq_true rfl) ?_
    show V l D ac b "SpanStore$Block" c_B_fact 2 (some .int) false 2 40 0 0 ((some (.int (faV X o 7))), 144, mk X) 0 0 0 [(0, .ref o), (1, .int (nI 7))] [] 144 (mk X)
    refine s_iload_n (q := 1) d_B_fact_0 rfl rfl ?_
    refine s_tsIn (tgt := 118) d_B_fact_1 (by decide) (by decide) rfl (by decide) ?_
    refine s_aload_n (q := 119) d_B_fact_118 rfl rfl (Or.inr ⟨_, rfl⟩) ?_
    refine g_callV (q := 122) d_B_fact_119 rfl ml_B_90 mx_B_owesGreatest mv_B_owesGreatest (t_B_owesGreatest hB) hB.1 rfl rfl (Nat.le_of_ble_eq_true rfl) (by decide) ?_
    refine s_if_eq (tgt := 129) (q := 125) d_B_fact_122 (by decide) rfl (fun h_122 => ?_) (fun h_122 => ?_)
    · -- T 122
      refine s_iconst (v := 0) (q := 130) d_B_fact_129 rfl ki_0 ?_
      exact g_iret d_B_fact_130 rfl rfl (by simp only [faV]; first | (rw [bI_0] at h_122; rw [h_122]; rfl) | (rw [bI_n0] at h_122; rw [h_122]; rfl)) rfl
    · -- F 122
      refine s_iconst (v := 1) (q := 126) d_B_fact_125 rfl ki_1 ?_
      refine s_goto (tgt := 130) d_B_fact_126 (by decide) ?_
      exact g_iret d_B_fact_130 rfl rfl (by simp only [faV]; first | (rw [bI_0] at h_122; rw [h_122]; rfl) | (rw [bI_n0] at h_122; rw [h_122]; rfl)) rfl
  · skip
    refine Ct_of false (by decide) (fun h => by cases h) (Nat.le_of_ble_eq_true rfl) ?_
    show V l D ac b "SpanStore$Block" c_B_fact 2 (some .int) false 2 40 0 0 ((some (.int (faV X o 10))), 144, mk X) 0 0 0 [(0, .ref o), (1, .int (nI 10))] [] 144 (mk X)
    refine s_iload_n (q := 1) d_B_fact_0 rfl rfl ?_
    refine s_tsOut (tgt := 131) d_B_fact_1 (by decide) (by decide) ?_
    refine s_aload_n (q := 132) d_B_fact_131 rfl rfl (Or.inr ⟨_, rfl⟩) ?_
    refine s_iload_n (q := 133) d_B_fact_132 rfl rfl ?_
    refine s_bipush (v := 10) (q := 135) d_B_fact_133 rfl kb_10 ?_
    refine s_isub (q := 136) d_B_fact_135 rfl ?_
    refine g_callV (q := 139) d_B_fact_136 rfl ml_B_93 mx_B_groupSize mv_B_groupSize (t_B_groupSize (gg := 0) hB (by decide)) hB.1 rfl rfl (Nat.le_of_ble_eq_true rfl) (by decide) ?_
    exact g_iret d_B_fact_139 rfl rfl rfl rfl
  · skip
    refine Ct_of false (by decide) (fun h => by cases h) (Nat.le_of_ble_eq_true rfl) ?_
    show V l D ac b "SpanStore$Block" c_B_fact 2 (some .int) false 2 40 0 0 ((some (.int (faV X o 11))), 144, mk X) 0 0 0 [(0, .ref o), (1, .int (nI 11))] [] 144 (mk X)
    refine s_iload_n (q := 1) d_B_fact_0 rfl rfl ?_
    refine s_tsOut (tgt := 131) d_B_fact_1 (by decide) (by decide) ?_
    refine s_aload_n (q := 132) d_B_fact_131 rfl rfl (Or.inr ⟨_, rfl⟩) ?_
    refine s_iload_n (q := 133) d_B_fact_132 rfl rfl ?_
    refine s_bipush (v := 10) (q := 135) d_B_fact_133 rfl kb_10 ?_
    refine s_isub (q := 136) d_B_fact_135 rfl ?_
    refine g_callV (q := 139) d_B_fact_136 rfl ml_B_93 mx_B_groupSize mv_B_groupSize (t_B_groupSize (gg := 1) hB (by decide)) hB.1 rfl rfl (Nat.le_of_ble_eq_true rfl) (by decide) ?_
    exact g_iret d_B_fact_139 rfl rfl rfl rfl
  · skip
    refine Ct_of false (by decide) (fun h => by cases h) (Nat.le_of_ble_eq_true rfl) ?_
    show V l D ac b "SpanStore$Block" c_B_fact 2 (some .int) false 2 40 0 0 ((some (.int (faV X o 12))), 144, mk X) 0 0 0 [(0, .ref o), (1, .int (nI 12))] [] 144 (mk X)
    refine s_iload_n (q := 1) d_B_fact_0 rfl rfl ?_
    refine s_tsOut (tgt := 131) d_B_fact_1 (by decide) (by decide) ?_
    refine s_aload_n (q := 132) d_B_fact_131 rfl rfl (Or.inr ⟨_, rfl⟩) ?_
    refine s_iload_n (q := 133) d_B_fact_132 rfl rfl ?_
    refine s_bipush (v := 10) (q := 135) d_B_fact_133 rfl kb_10 ?_
    refine s_isub (q := 136) d_B_fact_135 rfl ?_
    refine g_callV (q := 139) d_B_fact_136 rfl ml_B_93 mx_B_groupSize mv_B_groupSize (t_B_groupSize (gg := 2) hB (by decide)) hB.1 rfl rfl (Nat.le_of_ble_eq_true rfl) (by decide) ?_
    exact g_iret d_B_fact_139 rfl rfl rfl rfl
  · skip
    refine Ct_of false (by decide) (fun h => by cases h) (Nat.le_of_ble_eq_true rfl) ?_
    show V l D ac b "SpanStore$Block" c_B_fact 2 (some .int) false 2 40 0 0 ((some (.int (faV X o 13))), 144, mk X) 0 0 0 [(0, .ref o), (1, .int (nI 13))] [] 144 (mk X)
    refine s_iload_n (q := 1) d_B_fact_0 rfl rfl ?_
    refine s_tsOut (tgt := 131) d_B_fact_1 (by decide) (by decide) ?_
    refine s_aload_n (q := 132) d_B_fact_131 rfl rfl (Or.inr ⟨_, rfl⟩) ?_
    refine s_iload_n (q := 133) d_B_fact_132 rfl rfl ?_
    refine s_bipush (v := 10) (q := 135) d_B_fact_133 rfl kb_10 ?_
    refine s_isub (q := 136) d_B_fact_135 rfl ?_
    refine g_callV (q := 139) d_B_fact_136 rfl ml_B_93 mx_B_groupSize mv_B_groupSize (t_B_groupSize (gg := 3) hB (by decide)) hB.1 rfl rfl (Nat.le_of_ble_eq_true rfl) (by decide) ?_
    exact g_iret d_B_fact_139 rfl rfl rfl rfl
def isF (w : Nat) : Bool := decide (w ≤ 7 ∨ 10 ≤ w ∧ w < 14)
def mfV (X : RAM) (o : Nat) (h : Int64) : Nat → Int64
  | 0 => h
  | w + 1 => if isF w = true then 31 * mfV X o h w + (faV X o w).toInt64 else mfV X o h w
def mrV (X : RAM) (o : Nat) (h : Int64) : Nat → Int64
  | 0 => h
  | i + 1 => if knP X o i = true then 31 * (31 * mrV X o h i + (nI i).toInt64) + (X (o + 3) i).toInt64 else mrV X o h i
def mxV (X : RAM) (o n : Nat) (h : Int64) : Int64 := mrV X o (mfV X o h 14) n
theorem isF_I {w : Nat} (hw : w < 14) : decide ((0 ≤ nI w ∧ nI w ≤ 7) ∨ (10 ≤ nI w ∧ nI w < 14)) = isF w := by
  unfold isF
  congr 1
  simp only [i_le, i_lt, tI_0, tI_7, tI_10, tI_14, nI_toInt (show w < 2 ^ 31 by omega), eq_iff_iff]
  omega
theorem lp_mixR {X : RAM} {o n : Nat} {h : Int64} (hB : isB o) (hsz : X o 5 = nI n) (hn : n ≤ 12) : ∀ i, i ≤ n → V l D ac b "SpanStore$Block" c_B_mixedInto 6 (some .long) false 3 61 0 0 ((some (.long (mxV X o n h))), 144, mk X) 0 0 41 [(0, .ref o), (1, .long h), (3, .long (mrV X o (mfV X o h 14) i)), (5, .int (nI i))] [] 144 (mk X) := by
  refine nat_down ?_ (fun i hi ih => ?_)
  · skip
    refine s_iload (q := 43) d_B_mixedInto_41 rfl rfl ?_
    refine s_aload_n (q := 44) d_B_mixedInto_43 rfl rfl (Or.inr ⟨_, rfl⟩) ?_
    refine g_getv (v := nI n) (q := 47) d_B_mixedInto_44 rfl fl_B_28 hB.1 rfl hsz ?_
    refine s_icmp_ge (tgt := 85) (q := 50) d_B_mixedInto_47 (by decide) rfl (fun _ => ?_) (fun z9 => absurd (nI_le (Nat.le_refl n) (by omega)) z9)
    refine s_lload_n (q := 86) d_B_mixedInto_85 rfl rfl ?_
    exact g_lret d_B_mixedInto_86 rfl rfl rfl
  · skip
    refine s_iload (q := 43) d_B_mixedInto_41 rfl rfl ?_
    refine s_aload_n (q := 44) d_B_mixedInto_43 rfl rfl (Or.inr ⟨_, rfl⟩) ?_
    refine g_getv (v := nI n) (q := 47) d_B_mixedInto_44 rfl fl_B_28 hB.1 rfl hsz ?_
    refine s_icmp_ge (tgt := 85) (q := 50) d_B_mixedInto_47 (by decide) rfl (fun z9 => absurd z9 (nI_ge hi (by omega))) (fun _ => ?_)
    refine s_aload_n (q := 51) d_B_mixedInto_50 rfl rfl (Or.inr ⟨_, rfl⟩) ?_
    refine g_getr (q := 54) d_B_mixedInto_51 rfl fl_B_21 hB.1 rfl ?_
    refine s_iload (q := 56) d_B_mixedInto_54 rfl rfl ?_
    refine g_zald (q := 57) d_B_mixedInto_56 rfl hB.2.2.2.2.1 (by omega) rfl (by omega) ?_
    refine s_if_eq (tgt := 79) (q := 60) d_B_mixedInto_57 (by decide) rfl (fun h_57 => ?_) (fun h_57 => ?_)
    · -- T 57
      rw [show mrV X o (mfV X o h 14) (i + 1) = mrV X o (mfV X o h 14) i from by simp [mrV, knP, *]] at ih
      refine s_iinc (q := 82) d_B_mixedInto_79 rfl rfl (by first | exact inc1 _ | rfl) (by decide) ?_
      refine s_goto (tgt := 41) d_B_mixedInto_82 (by decide) ?_
      exact s_lv (lv' := [(0, .ref o), (1, .long h), (3, .long _), (5, .int (nI (i + 1)))]) ⟨rfl, rfl, rfl, rfl, trivial⟩ ih
    · -- F 57
      rw [show mrV X o (mfV X o h 14) (i + 1) = 31 * (31 * mrV X o (mfV X o h 14) i + (nI i).toInt64) + (X (o + 3) i).toInt64 from by simp [mrV, knP, *]] at ih
      refine s_lload_n (q := 61) d_B_mixedInto_60 rfl rfl ?_
      refine s_iload (q := 63) d_B_mixedInto_61 rfl rfl ?_
      refine s_i2l (q := 64) d_B_mixedInto_63 rfl ?_
      refine g_callN (q := 67) d_B_mixedInto_64 rfl (by decide) mx_C_mixed ms_C_mixed t_C_mixed rfl rfl (Nat.le_of_ble_eq_true rfl) (by decide) ?_
      refine s_aload_n (q := 68) d_B_mixedInto_67 rfl rfl (Or.inr ⟨_, rfl⟩) ?_
      refine g_getr (q := 71) d_B_mixedInto_68 rfl fl_B_18 hB.1 rfl ?_
      refine s_iload (q := 73) d_B_mixedInto_71 rfl rfl ?_
      refine g_iald (q := 74) d_B_mixedInto_73 rfl hB.2.2.2.1 (by omega) rfl (by omega) ?_
      refine s_i2l (q := 75) d_B_mixedInto_74 rfl ?_
      refine g_callN (q := 78) d_B_mixedInto_75 rfl (by decide) mx_C_mixed ms_C_mixed t_C_mixed rfl rfl (Nat.le_of_ble_eq_true rfl) (by decide) ?_
      refine s_lstore_n (q := 79) d_B_mixedInto_78 rfl (by decide) ?_
      refine s_iinc (q := 82) d_B_mixedInto_79 rfl rfl (by first | exact inc1 _ | rfl) (by decide) ?_
      refine s_goto (tgt := 41) d_B_mixedInto_82 (by decide) ?_
      exact s_lv (lv' := [(0, .ref o), (1, .long h), (3, .long _), (5, .int (nI (i + 1)))]) ⟨rfl, rfl, rfl, rfl, trivial⟩ ih
theorem lp_mixF {X : RAM} {o n : Nat} {h : Int64} (hB : isB o) (hsz : X o 5 = nI n) (hn : n ≤ 12) : ∀ i, i ≤ 14 → V l D ac b "SpanStore$Block" c_B_mixedInto 6 (some .long) false 3 61 0 0 ((some (.long (mxV X o n h))), 144, mk X) 0 0 5 [(0, .ref o), (1, .long h), (3, .long (mfV X o h i)), (5, .int (nI i))] [] 144 (mk X) := by
  refine nat_down ?_ (fun i hi ih => ?_)
  · skip
    refine s_iload (q := 7) d_B_mixedInto_5 rfl rfl ?_
    refine s_bipush (v := 14) (q := 9) d_B_mixedInto_7 rfl kb_14 ?_
    refine s_icmp_ge (tgt := 38) (q := 12) d_B_mixedInto_9 (by decide) rfl (fun _ => ?_) (fun z9 => absurd (by decide) z9)
    refine s_iconst (v := 0) (q := 39) d_B_mixedInto_38 rfl ki_0 ?_
    refine s_istore (q := 41) d_B_mixedInto_39 rfl (by decide) ?_
    exact s_lv (lv' := [(0, .ref o), (1, .long h), (3, .long (mrV X o (mfV X o h 14) 0)), (5, .int (nI 0))]) ⟨rfl, rfl, rfl, rfl, trivial⟩ (lp_mixR hB hsz hn 0 (Nat.zero_le n))
  · skip
    refine s_iload (q := 7) d_B_mixedInto_5 rfl rfl ?_
    refine s_bipush (v := 14) (q := 9) d_B_mixedInto_7 rfl kb_14 ?_
    refine s_icmp_ge (tgt := 38) (q := 12) d_B_mixedInto_9 (by decide) rfl (fun z9 => absurd z9 (nI_ge (a := i) (b := 14) hi (by decide))) (fun _ => ?_)
    refine s_iload (q := 14) d_B_mixedInto_12 rfl rfl ?_
    refine g_callN (q := 17) d_B_mixedInto_14 rfl (by decide) mx_C_isFact ms_C_isFact t_C_isFact rfl rfl (Nat.le_of_ble_eq_true rfl) (by decide) ?_
    refine s_if_eq (tgt := 32) (q := 20) d_B_mixedInto_17 (by decide) rfl (fun h_17 => ?_) (fun h_17 => ?_)
    · -- T 17
      rw [isF_I hi, bI_0] at h_17
      rw [show mfV X o h (i + 1) = mfV X o h i from by simp [mfV, *]] at ih
      refine s_iinc (q := 35) d_B_mixedInto_32 rfl rfl (by first | exact inc1 _ | rfl) (by decide) ?_
      refine s_goto (tgt := 5) d_B_mixedInto_35 (by decide) ?_
      exact s_lv (lv' := [(0, .ref o), (1, .long h), (3, .long _), (5, .int (nI (i + 1)))]) ⟨rfl, rfl, rfl, rfl, trivial⟩ ih
    · -- F 17
      rw [isF_I hi, bI_n0] at h_17
      rw [show mfV X o h (i + 1) = 31 * mfV X o h i + (faV X o i).toInt64 from by simp [mfV, *]] at ih
      refine s_lload_n (q := 21) d_B_mixedInto_20 rfl rfl ?_
      refine s_aload_n (q := 22) d_B_mixedInto_21 rfl rfl (Or.inr ⟨_, rfl⟩) ?_
      refine s_iload (q := 24) d_B_mixedInto_22 rfl rfl ?_
      refine g_callV (q := 27) d_B_mixedInto_24 rfl ml_B_121 mx_B_fact mv_B_fact (t_B_fact (w := i) hB (by simpa [isF] using h_17)) hB.1 rfl rfl (Nat.le_of_ble_eq_true rfl) (by decide) ?_
      refine s_i2l (q := 28) d_B_mixedInto_27 rfl ?_
      refine g_callN (q := 31) d_B_mixedInto_28 rfl (by decide) mx_C_mixed ms_C_mixed t_C_mixed rfl rfl (Nat.le_of_ble_eq_true rfl) (by decide) ?_
      refine s_lstore_n (q := 32) d_B_mixedInto_31 rfl (by decide) ?_
      refine s_iinc (q := 35) d_B_mixedInto_32 rfl rfl (by first | exact inc1 _ | rfl) (by decide) ?_
      refine s_goto (tgt := 5) d_B_mixedInto_35 (by decide) ?_
      exact s_lv (lv' := [(0, .ref o), (1, .long h), (3, .long _), (5, .int (nI (i + 1)))]) ⟨rfl, rfl, rfl, rfl, trivial⟩ ih
theorem t_B_mixedInto {X : RAM} {o n : Nat} {h : Int64} (hB : isB o) (hsz : X o 5 = nI n) (hn : n ≤ 12) : CG l D ac b y_B_mixedInto c_B_mixedInto 6 (some .long) 3 61 [.ref o, .long h] X (some (.long (mxV X o n h))) (X) := by
  refine Ct_of false (by decide) (fun h => by cases h) (Nat.le_of_ble_eq_true rfl) ?_
  show V l D ac b "SpanStore$Block" c_B_mixedInto 6 (some .long) false 3 61 0 0 ((some (.long (mxV X o n h))), 144, mk (X)) 0 0 0 [(0, .ref o), (1, .long h)] [] 144 (mk X)
  refine s_lload_n (q := 1) d_B_mixedInto_0 rfl rfl ?_
  refine s_lstore_n (q := 2) d_B_mixedInto_1 rfl (by decide) ?_
  refine s_iconst (v := 0) (q := 3) d_B_mixedInto_2 rfl ki_0 ?_
  refine s_istore (q := 5) d_B_mixedInto_3 rfl (by decide) ?_
  exact s_lv (lv' := [(0, .ref o), (1, .long h), (3, .long (mfV X o h 0)), (5, .int (nI 0))]) ⟨rfl, rfl, rfl, rfl, trivial⟩ (lp_mixF hB hsz hn 0 (Nat.zero_le 14))
def absI (v : Int32) : Int32 := if 0 ≤ v then v else 0 - v
def kpV (X : RAM) (ko o k : Nat) : Bool := if X ko 0 = 0 then decide (0 < X ko 1 ∧ remI (nI k) (X ko 1) = 0) else if X ko 0 = 1 then decide (nI (cntB (eqG X o k) k) < X ko 1) else if X ko 0 = 2 then decide (0 < X ko 1 ∧ remI (X (o + 1) k) (X ko 1) = X ko 2) else if X ko 0 = 3 then decide (¬ absI (X (o + 3) k) < X ko 1) else false
theorem t_K_keeps {X : RAM} {ko o n k : Nat} (hK : isK ko) (hB : isB o) (hsz : X o 5 = nI n) (hn : n ≤ 12) (hk : k < n) : CG l D ac b y_K_keeps c_K_keeps 3 (some .boolean) 1 23 [.ref ko, .ref o, .int (nI k)] X (some (.int (bI (kpV X ko o k)))) X := by
  refine Ct_of false (by decide) (fun h => by cases h) (Nat.le_of_ble_eq_true rfl) ?_
  show V l D ac b "SpanStore$Keeper" c_K_keeps 3 (some .boolean) false 1 23 0 0 ((some (.int (bI (kpV X ko o k)))), 144, mk X) 0 0 0 [(0, .ref ko), (1, .ref o), (2, .int (nI k))] [] 144 (mk X)
  by_cases k0 : X ko 0 = 0
  · skip
    refine s_aload_n (q := 1) d_K_keeps_0 rfl rfl (Or.inr ⟨_, rfl⟩) ?_
    refine s_iload_n (q := 2) d_K_keeps_1 rfl rfl ?_
    refine g_callV (q := 5) d_K_keeps_2 rfl ml_K_21 mx_B_hasRow mv_B_hasRow (t_B_hasRow hB) hB.1 rfl rfl (Nat.le_of_ble_eq_true rfl) (by decide) ?_
    refine s_if_ne (tgt := 10) (q := 8) d_K_keeps_5 (by decide) rfl (fun _ => ?_) (fun z9 => absurd z9 (hr_t hsz hk hn))
    refine s_aload_n (q := 11) d_K_keeps_10 rfl rfl (Or.inr ⟨_, rfl⟩) ?_
    refine g_getv (v := 0) (q := 14) d_K_keeps_11 rfl fl_K_9 hK rfl k0 ?_
    refine s_tsIn (tgt := 44) d_K_keeps_14 (by decide) (by decide) rfl (by decide) ?_
    refine s_iload_n (q := 45) d_K_keeps_44 rfl rfl ?_
    refine s_aload_n (q := 46) d_K_keeps_45 rfl rfl (Or.inr ⟨_, rfl⟩) ?_
    refine g_geti (q := 49) d_K_keeps_46 rfl fl_K_15 hK rfl ?_
    refine s_iconst (v := 0) (q := 50) d_K_keeps_49 rfl ki_0 ?_
    refine g_callN (q := 53) d_K_keeps_50 rfl (by decide) mx_C_isCongruent ms_C_isCongruent t_C_isCongruent rfl rfl (Nat.le_of_ble_eq_true rfl) (by decide) ?_
    exact g_iret d_K_keeps_53 rfl (nbI _) (by simp [kpV, k0]) rfl
  by_cases k1 : X ko 0 = 1
  · skip
    refine s_aload_n (q := 1) d_K_keeps_0 rfl rfl (Or.inr ⟨_, rfl⟩) ?_
    refine s_iload_n (q := 2) d_K_keeps_1 rfl rfl ?_
    refine g_callV (q := 5) d_K_keeps_2 rfl ml_K_21 mx_B_hasRow mv_B_hasRow (t_B_hasRow hB) hB.1 rfl rfl (Nat.le_of_ble_eq_true rfl) (by decide) ?_
    refine s_if_ne (tgt := 10) (q := 8) d_K_keeps_5 (by decide) rfl (fun _ => ?_) (fun z9 => absurd z9 (hr_t hsz hk hn))
    refine s_aload_n (q := 11) d_K_keeps_10 rfl rfl (Or.inr ⟨_, rfl⟩) ?_
    refine g_getv (v := 1) (q := 14) d_K_keeps_11 rfl fl_K_9 hK rfl k1 ?_
    refine s_tsIn (tgt := 54) d_K_keeps_14 (by decide) (by decide) rfl (by decide) ?_
    refine s_aload_n (q := 55) d_K_keeps_54 rfl rfl (Or.inr ⟨_, rfl⟩) ?_
    refine s_iload_n (q := 56) d_K_keeps_55 rfl rfl ?_
    refine g_callV (q := 59) d_K_keeps_56 rfl ml_K_31 mx_B_earlierOfItsGroup mv_B_earlierOfItsGroup (t_B_earlier hB hsz hn hk) hB.1 rfl rfl (Nat.le_of_ble_eq_true rfl) (by decide) ?_
    refine s_aload_n (q := 60) d_K_keeps_59 rfl rfl (Or.inr ⟨_, rfl⟩) ?_
    refine g_geti (q := 63) d_K_keeps_60 rfl fl_K_15 hK rfl ?_
    refine s_icmp_ge (tgt := 70) (q := 66) d_K_keeps_63 (by decide) rfl (fun h_63 => ?_) (fun h_63 => ?_)
    · -- T 63
      refine s_iconst (v := 0) (q := 71) d_K_keeps_70 rfl ki_0 ?_
      exact g_iret d_K_keeps_71 rfl rfl (by simp [kpV, bI, k0, k1, h_63]) rfl
    · -- F 63
      refine s_iconst (v := 1) (q := 67) d_K_keeps_66 rfl ki_1 ?_
      refine s_goto (tgt := 71) d_K_keeps_67 (by decide) ?_
      exact g_iret d_K_keeps_71 rfl rfl (by simp [kpV, bI, k0, k1, h_63]) rfl
  by_cases k2 : X ko 0 = 2
  · skip
    refine s_aload_n (q := 1) d_K_keeps_0 rfl rfl (Or.inr ⟨_, rfl⟩) ?_
    refine s_iload_n (q := 2) d_K_keeps_1 rfl rfl ?_
    refine g_callV (q := 5) d_K_keeps_2 rfl ml_K_21 mx_B_hasRow mv_B_hasRow (t_B_hasRow hB) hB.1 rfl rfl (Nat.le_of_ble_eq_true rfl) (by decide) ?_
    refine s_if_ne (tgt := 10) (q := 8) d_K_keeps_5 (by decide) rfl (fun _ => ?_) (fun z9 => absurd z9 (hr_t hsz hk hn))
    refine s_aload_n (q := 11) d_K_keeps_10 rfl rfl (Or.inr ⟨_, rfl⟩) ?_
    refine g_getv (v := 2) (q := 14) d_K_keeps_11 rfl fl_K_9 hK rfl k2 ?_
    refine s_tsIn (tgt := 72) d_K_keeps_14 (by decide) (by decide) rfl (by decide) ?_
    refine s_aload_n (q := 73) d_K_keeps_72 rfl rfl (Or.inr ⟨_, rfl⟩) ?_
    refine g_getr (q := 76) d_K_keeps_73 rfl fl_K_35 hB.1 rfl ?_
    refine s_iload_n (q := 77) d_K_keeps_76 rfl rfl ?_
    refine g_iald (q := 78) d_K_keeps_77 rfl hB.2.1 (by omega) rfl (by omega) ?_
    refine s_aload_n (q := 79) d_K_keeps_78 rfl rfl (Or.inr ⟨_, rfl⟩) ?_
    refine g_geti (q := 82) d_K_keeps_79 rfl fl_K_15 hK rfl ?_
    refine s_aload_n (q := 83) d_K_keeps_82 rfl rfl (Or.inr ⟨_, rfl⟩) ?_
    refine g_geti (q := 86) d_K_keeps_83 rfl fl_K_18 hK rfl ?_
    refine g_callN (q := 89) d_K_keeps_86 rfl (by decide) mx_C_isCongruent ms_C_isCongruent t_C_isCongruent rfl rfl (Nat.le_of_ble_eq_true rfl) (by decide) ?_
    exact g_iret d_K_keeps_89 rfl (nbI _) (by simp [kpV, k0, k1, k2]) rfl
  by_cases k3 : X ko 0 = 3
  · skip
    refine s_aload_n (q := 1) d_K_keeps_0 rfl rfl (Or.inr ⟨_, rfl⟩) ?_
    refine s_iload_n (q := 2) d_K_keeps_1 rfl rfl ?_
    refine g_callV (q := 5) d_K_keeps_2 rfl ml_K_21 mx_B_hasRow mv_B_hasRow (t_B_hasRow hB) hB.1 rfl rfl (Nat.le_of_ble_eq_true rfl) (by decide) ?_
    refine s_if_ne (tgt := 10) (q := 8) d_K_keeps_5 (by decide) rfl (fun _ => ?_) (fun z9 => absurd z9 (hr_t hsz hk hn))
    refine s_aload_n (q := 11) d_K_keeps_10 rfl rfl (Or.inr ⟨_, rfl⟩) ?_
    refine g_getv (v := 3) (q := 14) d_K_keeps_11 rfl fl_K_9 hK rfl k3 ?_
    refine s_tsIn (tgt := 90) d_K_keeps_14 (by decide) (by decide) rfl (by decide) ?_
    refine s_aload_n (q := 91) d_K_keeps_90 rfl rfl (Or.inr ⟨_, rfl⟩) ?_
    refine g_getr (q := 94) d_K_keeps_91 rfl fl_K_39 hB.1 rfl ?_
    refine s_iload_n (q := 95) d_K_keeps_94 rfl rfl ?_
    refine g_iald (q := 96) d_K_keeps_95 rfl hB.2.2.2.1 (by omega) rfl (by omega) ?_
    refine s_abs (q := 99) d_K_keeps_96 rfl ml_K_42 (Nat.le_of_ble_eq_true rfl) (by decide) (by decide) ⟨Nat.le_refl _, Nat.le_refl _⟩ ?_
    rw [show (if 0 ≤ X (o + 3) k then X (o + 3) k else 0 - X (o + 3) k) = absI (X (o + 3) k) from rfl]
    refine s_aload_n (q := 100) d_K_keeps_99 rfl rfl (Or.inr ⟨_, rfl⟩) ?_
    refine g_geti (q := 103) d_K_keeps_100 rfl fl_K_15 hK rfl ?_
    refine s_icmp_lt (tgt := 110) (q := 106) d_K_keeps_103 (by decide) rfl (fun h_103 => ?_) (fun h_103 => ?_)
    · -- T 103
      refine s_iconst (v := 0) (q := 111) d_K_keeps_110 rfl ki_0 ?_
      exact g_iret d_K_keeps_111 rfl rfl (by simp [kpV, bI, k0, k1, k2, k3, h_103]) rfl
    · -- F 103
      refine s_iconst (v := 1) (q := 107) d_K_keeps_106 rfl ki_1 ?_
      refine s_goto (tgt := 111) d_K_keeps_107 (by decide) ?_
      exact g_iret d_K_keeps_111 rfl rfl (by simp [kpV, bI, k0, k1, k2, k3, h_103]) rfl
  · skip
    refine s_aload_n (q := 1) d_K_keeps_0 rfl rfl (Or.inr ⟨_, rfl⟩) ?_
    refine s_iload_n (q := 2) d_K_keeps_1 rfl rfl ?_
    refine g_callV (q := 5) d_K_keeps_2 rfl ml_K_21 mx_B_hasRow mv_B_hasRow (t_B_hasRow hB) hB.1 rfl rfl (Nat.le_of_ble_eq_true rfl) (by decide) ?_
    refine s_if_ne (tgt := 10) (q := 8) d_K_keeps_5 (by decide) rfl (fun _ => ?_) (fun z9 => absurd z9 (hr_t hsz hk hn))
    refine s_aload_n (q := 11) d_K_keeps_10 rfl rfl (Or.inr ⟨_, rfl⟩) ?_
    refine g_geti (q := 14) d_K_keeps_11 rfl fl_K_9 hK rfl ?_
    refine s_tsOut (tgt := 112) d_K_keeps_14 (by rw [i_eq, tI_0] at k0; rw [i_eq, tI_1] at k1; rw [i_eq, tI_2] at k2; rw [i_eq, tI_3] at k3; omega) (by decide) ?_
    refine s_iconst (v := 0) (q := 113) d_K_keeps_112 rfl ki_0 ?_
    exact g_iret d_K_keeps_113 rfl rfl (by simp [kpV, bI, k0, k1, k2, k3]) rfl
def st3 (Y : RAM) (s1 s2 s3 it : Nat) (a1 a2 a3 : Int32) : RAM := up2 (up2 (up2 Y (s1 + 1) it (cutV (Y s1 1) a1)) (s2 + 1) it (cutV (Y s2 1) a2)) (s3 + 1) it (cutV (Y s3 1) a3)
def wkS (X : RAM) (o s1 s2 s3 rm it0 : Nat) : Nat → RAM × Nat
  | 0 => (X, it0)
  | i + 1 => if (wkS X o s1 s2 s3 rm it0 i).2 < rm ∧ knP X o i = true then (st3 (wkS X o s1 s2 s3 rm it0 i).1 s1 s2 s3 (wkS X o s1 s2 s3 rm it0 i).2 (X (o + 1) i) (X (o + 2) i) (X (o + 3) i), (wkS X o s1 s2 s3 rm it0 i).2 + 1) else wkS X o s1 s2 s3 rm it0 i
theorem st3_ne {Y : RAM} {s1 s2 s3 it a : Nat} {a1 a2 a3 : Int32} (h1 : a ≠ s1 + 1) (h2 : a ≠ s2 + 1) (h3 : a ≠ s3 + 1) : st3 Y s1 s2 s3 it a1 a2 a3 a = Y a := by
  unfold st3
  rw [up2_ne h3, up2_ne h2, up2_ne h1]
theorem wkS_ne {X : RAM} {o s1 s2 s3 rm it0 a : Nat} (h1 : a ≠ s1 + 1) (h2 : a ≠ s2 + 1) (h3 : a ≠ s3 + 1) (i : Nat) : (wkS X o s1 s2 s3 rm it0 i).1 a = X a := by
  induction i with
  | zero => rfl
  | succ i ih =>
    unfold wkS
    split
    · exact (st3_ne h1 h2 h3).trans ih
    · exact ih
theorem wkS_stay {X : RAM} {o s1 s2 s3 rm it0 i : Nat} (h : rm ≤ (wkS X o s1 s2 s3 rm it0 i).2) (d : Nat) : wkS X o s1 s2 s3 rm it0 (i + d) = wkS X o s1 s2 s3 rm it0 i := by
  induction d with
  | zero => rfl
  | succ d ih =>
    rw [show i + (d + 1) = (i + d) + 1 by omega, wkS, ih, if_neg (by omega)]
theorem wkS_le {X : RAM} {o s1 s2 s3 rm it0 : Nat} (h : it0 ≤ 40) (hr : rm ≤ 40) (i : Nat) : (wkS X o s1 s2 s3 rm it0 i).2 ≤ 40 := by
  induction i with
  | zero => exact h
  | succ i ih =>
    unfold wkS
    split
    · show _ + 1 ≤ 40; omega
    · exact ih
def min3 (a b c : Nat) : Nat := min a (min b c)
theorem mn2 {a b : Nat} (ha : a ≤ 40) (hb : b ≤ 40) : (if nI b < nI a then nI b else nI a) = nI (min a b) := by
  by_cases h : b < a
  · rw [if_pos ((nI_ltI (by omega) (by omega)).mpr h), Nat.min_eq_right (by omega)]
  · rw [if_neg (fun z => h ((nI_ltI (by omega) (by omega)).mp z)), Nat.min_eq_left (by omega)]
theorem min3_1 {a b c k : Nat} (h : k < min3 a b c) : k < a ∧ k < b ∧ k < c := by unfold min3 at h; omega
theorem lp_write {X : RAM} {o n s1 s2 s3 n1 n2 n3 it0 : Nat} (hB : isB o) (hsz : X o 5 = nI n) (hn : n ≤ 12) (h1 : isS s1) (h2 : isS s2) (h3 : isS s3) (z1 : X s1 2 = nI n1) (z2 : X s2 2 = nI n2) (z3 : X s3 2 = nI n3) (m1 : n1 ≤ 40) (m2 : n2 ≤ 40) (m3 : n3 ≤ 40) (hit : it0 ≤ 40) (hlo : o + 5 < 114) (g1 : 114 ≤ s1 ∧ s1 % 2 = 0) (g2 : 114 ≤ s2 ∧ s2 % 2 = 0) (g3 : 114 ≤ s3 ∧ s3 % 2 = 0) : ∀ i, i ≤ n → V l D ac b "SpanStore$Block" c_B_writeKnown 8 (some .int) false 2 43 0 0 ((some (.int (nI (wkS X o s1 s2 s3 (min3 n1 n2 n3) it0 n).2))), 144, mk (wkS X o s1 s2 s3 (min3 n1 n2 n3) it0 n).1) 0 0 27 [(0, .ref o), (1, .ref s1), (2, .ref s2), (3, .ref s3), (4, .int (nI it0)), (5, .int (nI (min3 n1 n2 n3))), (6, .int (nI (wkS X o s1 s2 s3 (min3 n1 n2 n3) it0 i).2)), (7, .int (nI i))] [] 144 (mk (wkS X o s1 s2 s3 (min3 n1 n2 n3) it0 i).1) := by
  have hrm : min3 n1 n2 n3 ≤ 40 := by unfold min3; omega
  refine nat_down ?_ (fun i hi ih => ?_)
  · skip
    refine s_iload (q := 29) d_B_writeKnown_27 rfl rfl ?_
    refine s_aload_n (q := 30) d_B_writeKnown_29 rfl rfl (Or.inr ⟨_, rfl⟩) ?_
    refine g_getv (v := nI n) (q := 33) d_B_writeKnown_30 rfl fl_B_28 hB.1 rfl (by rw [wkS_ne (by omega) (by omega) (by omega), hsz]) ?_
    refine s_icmp_ge (tgt := 101) (q := 36) d_B_writeKnown_33 (by decide) rfl (fun _ => ?_) (fun z9 => absurd (nI_le (Nat.le_refl n) (by omega)) z9)
    refine s_iload (q := 103) d_B_writeKnown_101 rfl rfl ?_
    exact g_iret d_B_writeKnown_103 rfl rfl rfl rfl
  · skip
    refine s_iload (q := 29) d_B_writeKnown_27 rfl rfl ?_
    refine s_aload_n (q := 30) d_B_writeKnown_29 rfl rfl (Or.inr ⟨_, rfl⟩) ?_
    refine g_getv (v := nI n) (q := 33) d_B_writeKnown_30 rfl fl_B_28 hB.1 rfl (by rw [wkS_ne (by omega) (by omega) (by omega), hsz]) ?_
    refine s_icmp_ge (tgt := 101) (q := 36) d_B_writeKnown_33 (by decide) rfl (fun z9 => absurd z9 (nI_ge hi (by omega))) (fun _ => ?_)
    refine s_iload (q := 38) d_B_writeKnown_36 rfl rfl ?_
    refine s_iload (q := 40) d_B_writeKnown_38 rfl rfl ?_
    refine s_icmp_ge (tgt := 101) (q := 43) d_B_writeKnown_40 (by decide) rfl (fun h_40 => ?_) (fun h_40 => ?_)
    · -- T 40
      have hst : wkS X o s1 s2 s3 (min3 n1 n2 n3) it0 n = (wkS X o s1 s2 s3 (min3 n1 n2 n3) it0 i) := by
        rw [show n = i + (n - i) by omega]
        exact wkS_stay (by rcases Nat.lt_or_ge (wkS X o s1 s2 s3 (min3 n1 n2 n3) it0 i).2 (min3 n1 n2 n3) with q | q
                           · exact absurd h_40 (nI_ge q (by omega))
                           · exact q) _
      refine s_iload (q := 103) d_B_writeKnown_101 rfl rfl ?_
      exact g_iret d_B_writeKnown_103 rfl rfl (by rw [hst]) (by rw [hst])
    · -- F 40
      have hlt : (wkS X o s1 s2 s3 (min3 n1 n2 n3) it0 i).2 < min3 n1 n2 n3 := by
        rcases Nat.lt_or_ge (wkS X o s1 s2 s3 (min3 n1 n2 n3) it0 i).2 (min3 n1 n2 n3) with q | q
        · exact q
        · exact absurd (nI_le q (by have := wkS_le (X := X) (o := o) (s1 := s1) (s2 := s2) (s3 := s3) (rm := min3 n1 n2 n3) hit hrm i; omega)) h_40
      obtain ⟨hl1, hl2, hl3⟩ := min3_1 hlt
      refine s_aload_n (q := 44) d_B_writeKnown_43 rfl rfl (Or.inr ⟨_, rfl⟩) ?_
      refine g_getr (q := 47) d_B_writeKnown_44 rfl fl_B_21 hB.1 rfl ?_
      refine s_iload (q := 49) d_B_writeKnown_47 rfl rfl ?_
      refine g_zalv (v := X (o + 4) i) (q := 50) d_B_writeKnown_49 rfl hB.2.2.2.2.1 (by omega) rfl (by omega) (by rw [wkS_ne (by omega) (by omega) (by omega)]) ?_
      refine s_if_eq (tgt := 95) (q := 53) d_B_writeKnown_50 (by decide) rfl (fun h_50 => ?_) (fun h_50 => ?_)
      · -- T 50
        have e1 : wkS X o s1 s2 s3 (min3 n1 n2 n3) it0 (i + 1) = (wkS X o s1 s2 s3 (min3 n1 n2 n3) it0 i) := by
          rw [wkS, if_neg (fun z => by simp [knP, h_50] at z)]
        rw [e1] at ih
        refine s_iinc (q := 98) d_B_writeKnown_95 rfl rfl (by first | exact inc1 _ | rfl) (by decide) ?_
        refine s_goto (tgt := 27) d_B_writeKnown_98 (by decide) ?_
        exact s_lv (lv' := [(0, .ref o), (1, .ref s1), (2, .ref s2), (3, .ref s3), (4, .int (nI it0)), (5, .int (nI (min3 n1 n2 n3))), (6, .int (nI _)), (7, .int (nI (i + 1)))]) ⟨rfl, rfl, rfl, rfl, rfl, rfl, rfl, rfl, trivial⟩ ih
      · -- F 50
        have e1 : wkS X o s1 s2 s3 (min3 n1 n2 n3) it0 (i + 1) = (st3 (wkS X o s1 s2 s3 (min3 n1 n2 n3) it0 i).1 s1 s2 s3 (wkS X o s1 s2 s3 (min3 n1 n2 n3) it0 i).2 (X (o + 1) i) (X (o + 2) i) (X (o + 3) i), (wkS X o s1 s2 s3 (min3 n1 n2 n3) it0 i).2 + 1) := by
          rw [wkS, if_pos ⟨hlt, by simp [knP, h_50]⟩]
        rw [e1] at ih
        refine s_aload_n (q := 54) d_B_writeKnown_53 rfl rfl (Or.inr ⟨_, rfl⟩) ?_
        refine s_iload (q := 56) d_B_writeKnown_54 rfl rfl ?_
        refine s_aload_n (q := 57) d_B_writeKnown_56 rfl rfl (Or.inr ⟨_, rfl⟩) ?_
        refine g_getr (q := 60) d_B_writeKnown_57 rfl fl_B_9 hB.1 rfl ?_
        refine s_iload (q := 62) d_B_writeKnown_60 rfl rfl ?_
        refine g_ialv (v := X (o + 1) i) (q := 63) d_B_writeKnown_62 rfl hB.2.1 (by omega) rfl (by omega) (by rw [wkS_ne (by omega) (by omega) (by omega)]) ?_
        refine g_callV (q := 66) d_B_writeKnown_63 rfl ml_B_114 mx_S_store mv_S_store (t_S_store (k := (wkS X o s1 s2 s3 (min3 n1 n2 n3) it0 i).2) h1 (n := n1) (by (repeat rw [up2_ne (by omega)]); rw [wkS_ne (by omega) (by omega) (by omega), z1]) hl1 m1) h1.1 rfl rfl (Nat.le_of_ble_eq_true rfl) (by decide) ?_
        refine s_aload_n (q := 67) d_B_writeKnown_66 rfl rfl (Or.inr ⟨_, rfl⟩) ?_
        refine s_iload (q := 69) d_B_writeKnown_67 rfl rfl ?_
        refine s_aload_n (q := 70) d_B_writeKnown_69 rfl rfl (Or.inr ⟨_, rfl⟩) ?_
        refine g_getr (q := 73) d_B_writeKnown_70 rfl fl_B_15 hB.1 rfl ?_
        refine s_iload (q := 75) d_B_writeKnown_73 rfl rfl ?_
        refine g_ialv (v := X (o + 2) i) (q := 76) d_B_writeKnown_75 rfl hB.2.2.1 (by omega) rfl (by omega) (by rw [up2_ne (by omega), wkS_ne (by omega) (by omega) (by omega)]) ?_
        refine g_callV (q := 79) d_B_writeKnown_76 rfl ml_B_114 mx_S_store mv_S_store (t_S_store (k := (wkS X o s1 s2 s3 (min3 n1 n2 n3) it0 i).2) h2 (n := n2) (by (repeat rw [up2_ne (by omega)]); rw [wkS_ne (by omega) (by omega) (by omega), z2]) hl2 m2) h2.1 rfl rfl (Nat.le_of_ble_eq_true rfl) (by decide) ?_
        refine s_aload_n (q := 80) d_B_writeKnown_79 rfl rfl (Or.inr ⟨_, rfl⟩) ?_
        refine s_iload (q := 82) d_B_writeKnown_80 rfl rfl ?_
        refine s_aload_n (q := 83) d_B_writeKnown_82 rfl rfl (Or.inr ⟨_, rfl⟩) ?_
        refine g_getr (q := 86) d_B_writeKnown_83 rfl fl_B_18 hB.1 rfl ?_
        refine s_iload (q := 88) d_B_writeKnown_86 rfl rfl ?_
        refine g_ialv (v := X (o + 3) i) (q := 89) d_B_writeKnown_88 rfl hB.2.2.2.1 (by omega) rfl (by omega) (by rw [up2_ne (by omega), up2_ne (by omega), wkS_ne (by omega) (by omega) (by omega)]) ?_
        refine g_callV (q := 92) d_B_writeKnown_89 rfl ml_B_114 mx_S_store mv_S_store (t_S_store (k := (wkS X o s1 s2 s3 (min3 n1 n2 n3) it0 i).2) h3 (n := n3) (by (repeat rw [up2_ne (by omega)]); rw [wkS_ne (by omega) (by omega) (by omega), z3]) hl3 m3) h3.1 rfl rfl (Nat.le_of_ble_eq_true rfl) (by decide) ?_
        rw [show up2 (up2 (up2 (wkS X o s1 s2 s3 (min3 n1 n2 n3) it0 i).1 (s1 + 1) (wkS X o s1 s2 s3 (min3 n1 n2 n3) it0 i).2 (cutV ((wkS X o s1 s2 s3 (min3 n1 n2 n3) it0 i).1 s1 1) (X (o + 1) i))) (s2 + 1) (wkS X o s1 s2 s3 (min3 n1 n2 n3) it0 i).2 (cutV (up2 (wkS X o s1 s2 s3 (min3 n1 n2 n3) it0 i).1 (s1 + 1) (wkS X o s1 s2 s3 (min3 n1 n2 n3) it0 i).2 (cutV ((wkS X o s1 s2 s3 (min3 n1 n2 n3) it0 i).1 s1 1) (X (o + 1) i)) s2 1) (X (o + 2) i))) (s3 + 1) (wkS X o s1 s2 s3 (min3 n1 n2 n3) it0 i).2 (cutV (up2 (up2 (wkS X o s1 s2 s3 (min3 n1 n2 n3) it0 i).1 (s1 + 1) (wkS X o s1 s2 s3 (min3 n1 n2 n3) it0 i).2 (cutV ((wkS X o s1 s2 s3 (min3 n1 n2 n3) it0 i).1 s1 1) (X (o + 1) i))) (s2 + 1) (wkS X o s1 s2 s3 (min3 n1 n2 n3) it0 i).2 (cutV (up2 (wkS X o s1 s2 s3 (min3 n1 n2 n3) it0 i).1 (s1 + 1) (wkS X o s1 s2 s3 (min3 n1 n2 n3) it0 i).2 (cutV ((wkS X o s1 s2 s3 (min3 n1 n2 n3) it0 i).1 s1 1) (X (o + 1) i)) s2 1) (X (o + 2) i)) s3 1) (X (o + 3) i)) = st3 (wkS X o s1 s2 s3 (min3 n1 n2 n3) it0 i).1 s1 s2 s3 (wkS X o s1 s2 s3 (min3 n1 n2 n3) it0 i).2 (X (o + 1) i) (X (o + 2) i) (X (o + 3) i) from by unfold st3; rw [up2_ne (show s2 ≠ s1 + 1 by omega), up2_ne (show s3 ≠ s2 + 1 by omega), up2_ne (show s3 ≠ s1 + 1 by omega)]]
        refine s_iinc (q := 95) d_B_writeKnown_92 rfl rfl (by first | exact inc1 _ | rfl) (by decide) ?_
        refine s_iinc (q := 98) d_B_writeKnown_95 rfl rfl (by first | exact inc1 _ | rfl) (by decide) ?_
        refine s_goto (tgt := 27) d_B_writeKnown_98 (by decide) ?_
        exact s_lv (lv' := [(0, .ref o), (1, .ref s1), (2, .ref s2), (3, .ref s3), (4, .int (nI it0)), (5, .int (nI (min3 n1 n2 n3))), (6, .int (nI _)), (7, .int (nI (i + 1)))]) ⟨rfl, rfl, rfl, rfl, rfl, rfl, rfl, rfl, trivial⟩ ih
theorem t_B_write {X : RAM} {o n s1 s2 s3 n1 n2 n3 it0 : Nat} (hB : isB o) (hsz : X o 5 = nI n) (hn : n ≤ 12) (h1 : isS s1) (h2 : isS s2) (h3 : isS s3) (z1 : X s1 2 = nI n1) (z2 : X s2 2 = nI n2) (z3 : X s3 2 = nI n3) (m1 : n1 ≤ 40) (m2 : n2 ≤ 40) (m3 : n3 ≤ 40) (hit : it0 ≤ 40) (hlo : o + 5 < 114) (g1 : 114 ≤ s1 ∧ s1 % 2 = 0) (g2 : 114 ≤ s2 ∧ s2 % 2 = 0) (g3 : 114 ≤ s3 ∧ s3 % 2 = 0) : CG l D ac b y_B_writeKnown c_B_writeKnown 8 (some .int) 2 43 [.ref o, .ref s1, .ref s2, .ref s3, .int (nI it0)] X (some (.int (nI (wkS X o s1 s2 s3 (min3 n1 n2 n3) it0 n).2))) ((wkS X o s1 s2 s3 (min3 n1 n2 n3) it0 n).1) := by
  refine Ct_of false (by decide) (fun h => by cases h) (Nat.le_of_ble_eq_true rfl) ?_
  show V l D ac b "SpanStore$Block" c_B_writeKnown 8 (some .int) false 2 43 0 0 ((some (.int (nI (wkS X o s1 s2 s3 (min3 n1 n2 n3) it0 n).2))), 144, mk ((wkS X o s1 s2 s3 (min3 n1 n2 n3) it0 n).1)) 0 0 0 [(0, .ref o), (1, .ref s1), (2, .ref s2), (3, .ref s3), (4, .int (nI it0))] [] 144 (mk X)
  refine s_aload_n (q := 1) d_B_writeKnown_0 rfl rfl (Or.inr ⟨_, rfl⟩) ?_
  refine g_getv (v := nI n1) (q := 4) d_B_writeKnown_1 rfl fl_B_111 h1.1 rfl z1 ?_
  refine s_aload_n (q := 5) d_B_writeKnown_4 rfl rfl (Or.inr ⟨_, rfl⟩) ?_
  refine g_getv (v := nI n2) (q := 8) d_B_writeKnown_5 rfl fl_B_111 h2.1 rfl z2 ?_
  refine s_aload_n (q := 9) d_B_writeKnown_8 rfl rfl (Or.inr ⟨_, rfl⟩) ?_
  refine g_getv (v := nI n3) (q := 12) d_B_writeKnown_9 rfl fl_B_111 h3.1 rfl z3 ?_
  refine s_min (q := 15) d_B_writeKnown_12 rfl ml_B_59 (Nat.le_of_ble_eq_true rfl) (by decide) (by decide) ⟨Nat.le_refl _, Nat.le_refl _⟩ ?_
  rw [mn2 m2 m3]
  refine s_min (q := 18) d_B_writeKnown_15 rfl ml_B_59 (Nat.le_of_ble_eq_true rfl) (by decide) (by decide) ⟨Nat.le_refl _, Nat.le_refl _⟩ ?_
  rw [mn2 m1 (by omega)]
  refine s_istore (q := 20) d_B_writeKnown_18 rfl (by decide) ?_
  refine s_iload (q := 22) d_B_writeKnown_20 rfl rfl ?_
  refine s_istore (q := 24) d_B_writeKnown_22 rfl (by decide) ?_
  refine s_iconst (v := 0) (q := 25) d_B_writeKnown_24 rfl ki_0 ?_
  refine s_istore (q := 27) d_B_writeKnown_25 rfl (by decide) ?_
  exact s_lv (lv' := [(0, .ref o), (1, .ref s1), (2, .ref s2), (3, .ref s3), (4, .int (nI it0)), (5, .int (nI (min3 n1 n2 n3))), (6, .int (nI (wkS X o s1 s2 s3 (min3 n1 n2 n3) it0 0).2)), (7, .int (nI 0))]) ⟨rfl, rfl, rfl, rfl, rfl, rfl, rfl, rfl, trivial⟩ (lp_write hB hsz hn h1 h2 h3 z1 z2 z3 m1 m2 m3 hit hlo g1 g2 g3 0 (Nat.zero_le n))
end P09
