section P08
variable {l : Launch} {D : va_G} {ac : Nat → ClassId} {b : Nat}
theorem t_B_isHalf {X : RAM} {o : Nat} (hB : isB o) : CG l D ac b y_B_isHalf c_B_isHalf 1 (some .boolean) 0 0 [.ref o] X (some (.int (bI (decide (X o 6 < X o 5))))) (X) := by
  refine Ct_of false (by decide) (fun h => by cases h) (Nat.le_of_ble_eq_true rfl) ?_
  show V l D ac b "SpanStore$Block" c_B_isHalf 1 (some .boolean) false 0 0 0 0 ((some (.int (bI (decide (X o 6 < X o 5))))), 144, mk (X)) 0 0 0 [(0, .ref o)] [] 144 (mk X)
  refine s_aload_n (q := 1) d_B_isHalf_0 rfl rfl (Or.inr ⟨_, rfl⟩) ?_
  refine g_geti (q := 4) d_B_isHalf_1 rfl fl_B_32 hB.1 rfl ?_
  refine s_aload_n (q := 5) d_B_isHalf_4 rfl rfl (Or.inr ⟨_, rfl⟩) ?_
  refine g_geti (q := 8) d_B_isHalf_5 rfl fl_B_28 hB.1 rfl ?_
  refine s_icmp_ge (tgt := 15) (q := 11) d_B_isHalf_8 (by decide) rfl (fun h_8 => ?_) (fun h_8 => ?_)
  · -- T 8
    refine s_iconst (v := 0) (q := 16) d_B_isHalf_15 rfl ki_0 ?_
    exact g_iret d_B_isHalf_16 rfl rfl (by first | exact bI_is1 (by (try simp only [bI_d, bI_dn, strV, remI] at *); simp only [i_le, i_lt, i_eq, tI_0, tI_1, tI_2, tI_3, tI_4, tI_7, tI_8, tI_10, tI_12, tI_13, tI_14, tI_40, tI_99, tI_100, tI_1000, tI_m1000, tI_m1, tI_mil] at *; omega) | exact bI_is0 (by (try simp only [bI_d, bI_dn, strV, remI] at *); simp only [i_le, i_lt, i_eq, tI_0, tI_1, tI_2, tI_3, tI_4, tI_7, tI_8, tI_10, tI_12, tI_13, tI_14, tI_40, tI_99, tI_100, tI_1000, tI_m1000, tI_m1, tI_mil] at *; omega)) rfl
  · -- F 8
    refine s_iconst (v := 1) (q := 12) d_B_isHalf_11 rfl ki_1 ?_
    refine s_goto (tgt := 16) d_B_isHalf_12 (by decide) ?_
    exact g_iret d_B_isHalf_16 rfl rfl (by first | exact bI_is1 (by (try simp only [bI_d, bI_dn, strV, remI] at *); simp only [i_le, i_lt, i_eq, tI_0, tI_1, tI_2, tI_3, tI_4, tI_7, tI_8, tI_10, tI_12, tI_13, tI_14, tI_40, tI_99, tI_100, tI_1000, tI_m1000, tI_m1, tI_mil] at *; omega) | exact bI_is0 (by (try simp only [bI_d, bI_dn, strV, remI] at *); simp only [i_le, i_lt, i_eq, tI_0, tI_1, tI_2, tI_3, tI_4, tI_7, tI_8, tI_10, tI_12, tI_13, tI_14, tI_40, tI_99, tI_100, tI_1000, tI_m1000, tI_m1, tI_mil] at *; omega)) rfl
def olP (X : RAM) (o : Nat) : Bool := decide (X o 6 < X o 5 ∧ X o 11 = 0 ∧ X o 13 = 0 ∧ X o 9 = X o 7)
def ogP (X : RAM) (o : Nat) : Bool := decide (X o 6 < X o 5 ∧ X o 12 = 0 ∧ X o 13 = 0 ∧ X o 10 = X o 8)
theorem t_B_owesLeast {X : RAM} {o : Nat} (hB : isB o) : CG l D ac b y_B_owesLeast c_B_owesLeast 1 (some .boolean) 1 20 [.ref o] X (some (.int (bI (olP X o)))) (X) := by
  refine Ct_of false (by decide) (fun h => by cases h) (Nat.le_of_ble_eq_true rfl) ?_
  show V l D ac b "SpanStore$Block" c_B_owesLeast 1 (some .boolean) false 1 20 0 0 ((some (.int (bI (olP X o)))), 144, mk (X)) 0 0 0 [(0, .ref o)] [] 144 (mk X)
  refine s_aload_n (q := 1) d_B_owesLeast_0 rfl rfl (Or.inr ⟨_, rfl⟩) ?_
  refine g_callV (q := 4) d_B_owesLeast_1 rfl ml_B_83 mx_B_isHalf mv_B_isHalf (t_B_isHalf hB) hB.1 rfl rfl (Nat.le_of_ble_eq_true rfl) (by decide) ?_
  refine s_if_eq (tgt := 36) (q := 7) d_B_owesLeast_4 (by decide) rfl (fun h_4 => ?_) (fun h_4 => ?_)
  · -- T 4
    rw [bI_d] at h_4
    refine s_iconst (v := 0) (q := 37) d_B_owesLeast_36 rfl ki_0 ?_
    exact g_iret d_B_owesLeast_37 rfl rfl (by first | exact bI_is1 (by simp_all) | exact bI_is0 (fun z => h_4 z.1) | exact bI_is0 (by simp_all)) rfl
  · -- F 4
    rw [bI_dn] at h_4
    refine s_aload_n (q := 8) d_B_owesLeast_7 rfl rfl (Or.inr ⟨_, rfl⟩) ?_
    refine g_geti (q := 11) d_B_owesLeast_8 rfl fl_B_77 hB.1 rfl ?_
    refine s_if_ne (tgt := 36) (q := 14) d_B_owesLeast_11 (by decide) rfl (fun h_11 => ?_) (fun h_11 => ?_)
    · -- T 11
      refine s_iconst (v := 0) (q := 37) d_B_owesLeast_36 rfl ki_0 ?_
      exact g_iret d_B_owesLeast_37 rfl rfl (by first | exact bI_is1 (by simp_all) | exact bI_is0 (fun z => h_4 z.1) | exact bI_is0 (by simp_all)) rfl
    · -- F 11
      refine s_aload_n (q := 15) d_B_owesLeast_14 rfl rfl (Or.inr ⟨_, rfl⟩) ?_
      refine g_geti (q := 18) d_B_owesLeast_15 rfl fl_B_49 hB.1 rfl ?_
      refine s_if_ne (tgt := 36) (q := 21) d_B_owesLeast_18 (by decide) rfl (fun h_18 => ?_) (fun h_18 => ?_)
      · -- T 18
        refine s_iconst (v := 0) (q := 37) d_B_owesLeast_36 rfl ki_0 ?_
        exact g_iret d_B_owesLeast_37 rfl rfl (by first | exact bI_is1 (by simp_all) | exact bI_is0 (fun z => h_4 z.1) | exact bI_is0 (by simp_all)) rfl
      · -- F 18
        refine s_aload_n (q := 22) d_B_owesLeast_21 rfl rfl (Or.inr ⟨_, rfl⟩) ?_
        refine g_geti (q := 25) d_B_owesLeast_22 rfl fl_B_68 hB.1 rfl ?_
        refine s_aload_n (q := 26) d_B_owesLeast_25 rfl rfl (Or.inr ⟨_, rfl⟩) ?_
        refine g_geti (q := 29) d_B_owesLeast_26 rfl fl_B_53 hB.1 rfl ?_
        refine s_icmp_ne (tgt := 36) (q := 32) d_B_owesLeast_29 (by decide) rfl (fun h_29 => ?_) (fun h_29 => ?_)
        · -- T 29
          refine s_iconst (v := 0) (q := 37) d_B_owesLeast_36 rfl ki_0 ?_
          exact g_iret d_B_owesLeast_37 rfl rfl (by first | exact bI_is1 (by simp_all) | exact bI_is0 (fun z => h_4 z.1) | exact bI_is0 (by simp_all)) rfl
        · -- F 29
          refine s_iconst (v := 1) (q := 33) d_B_owesLeast_32 rfl ki_1 ?_
          refine s_goto (tgt := 37) d_B_owesLeast_33 (by decide) ?_
          exact g_iret d_B_owesLeast_37 rfl rfl (by first | exact bI_is1 (by simp_all) | exact bI_is0 (fun z => h_4 z.1) | exact bI_is0 (by simp_all)) rfl
theorem t_B_owesGreatest {X : RAM} {o : Nat} (hB : isB o) : CG l D ac b y_B_owesGreatest c_B_owesGreatest 1 (some .boolean) 1 20 [.ref o] X (some (.int (bI (ogP X o)))) (X) := by
  refine Ct_of false (by decide) (fun h => by cases h) (Nat.le_of_ble_eq_true rfl) ?_
  show V l D ac b "SpanStore$Block" c_B_owesGreatest 1 (some .boolean) false 1 20 0 0 ((some (.int (bI (ogP X o)))), 144, mk (X)) 0 0 0 [(0, .ref o)] [] 144 (mk X)
  refine s_aload_n (q := 1) d_B_owesGreatest_0 rfl rfl (Or.inr ⟨_, rfl⟩) ?_
  refine g_callV (q := 4) d_B_owesGreatest_1 rfl ml_B_83 mx_B_isHalf mv_B_isHalf (t_B_isHalf hB) hB.1 rfl rfl (Nat.le_of_ble_eq_true rfl) (by decide) ?_
  refine s_if_eq (tgt := 36) (q := 7) d_B_owesGreatest_4 (by decide) rfl (fun h_4 => ?_) (fun h_4 => ?_)
  · -- T 4
    rw [bI_d] at h_4
    refine s_iconst (v := 0) (q := 37) d_B_owesGreatest_36 rfl ki_0 ?_
    exact g_iret d_B_owesGreatest_37 rfl rfl (by first | exact bI_is1 (by simp_all) | exact bI_is0 (fun z => h_4 z.1) | exact bI_is0 (by simp_all)) rfl
  · -- F 4
    rw [bI_dn] at h_4
    refine s_aload_n (q := 8) d_B_owesGreatest_7 rfl rfl (Or.inr ⟨_, rfl⟩) ?_
    refine g_geti (q := 11) d_B_owesGreatest_8 rfl fl_B_80 hB.1 rfl ?_
    refine s_if_ne (tgt := 36) (q := 14) d_B_owesGreatest_11 (by decide) rfl (fun h_11 => ?_) (fun h_11 => ?_)
    · -- T 11
      refine s_iconst (v := 0) (q := 37) d_B_owesGreatest_36 rfl ki_0 ?_
      exact g_iret d_B_owesGreatest_37 rfl rfl (by first | exact bI_is1 (by simp_all) | exact bI_is0 (fun z => h_4 z.1) | exact bI_is0 (by simp_all)) rfl
    · -- F 11
      refine s_aload_n (q := 15) d_B_owesGreatest_14 rfl rfl (Or.inr ⟨_, rfl⟩) ?_
      refine g_geti (q := 18) d_B_owesGreatest_15 rfl fl_B_49 hB.1 rfl ?_
      refine s_if_ne (tgt := 36) (q := 21) d_B_owesGreatest_18 (by decide) rfl (fun h_18 => ?_) (fun h_18 => ?_)
      · -- T 18
        refine s_iconst (v := 0) (q := 37) d_B_owesGreatest_36 rfl ki_0 ?_
        exact g_iret d_B_owesGreatest_37 rfl rfl (by first | exact bI_is1 (by simp_all) | exact bI_is0 (fun z => h_4 z.1) | exact bI_is0 (by simp_all)) rfl
      · -- F 18
        refine s_aload_n (q := 22) d_B_owesGreatest_21 rfl rfl (Or.inr ⟨_, rfl⟩) ?_
        refine g_geti (q := 25) d_B_owesGreatest_22 rfl fl_B_71 hB.1 rfl ?_
        refine s_aload_n (q := 26) d_B_owesGreatest_25 rfl rfl (Or.inr ⟨_, rfl⟩) ?_
        refine g_geti (q := 29) d_B_owesGreatest_26 rfl fl_B_56 hB.1 rfl ?_
        refine s_icmp_ne (tgt := 36) (q := 32) d_B_owesGreatest_29 (by decide) rfl (fun h_29 => ?_) (fun h_29 => ?_)
        · -- T 29
          refine s_iconst (v := 0) (q := 37) d_B_owesGreatest_36 rfl ki_0 ?_
          exact g_iret d_B_owesGreatest_37 rfl rfl (by first | exact bI_is1 (by simp_all) | exact bI_is0 (fun z => h_4 z.1) | exact bI_is0 (by simp_all)) rfl
        · -- F 29
          refine s_iconst (v := 1) (q := 33) d_B_owesGreatest_32 rfl ki_1 ?_
          refine s_goto (tgt := 37) d_B_owesGreatest_33 (by decide) ?_
          exact g_iret d_B_owesGreatest_37 rfl rfl (by first | exact bI_is1 (by simp_all) | exact bI_is0 (fun z => h_4 z.1) | exact bI_is0 (by simp_all)) rfl
theorem t_B_groupSize {X : RAM} {o gg : Nat} (hB : isB o) (hg : gg < 4) : CG l D ac b y_B_groupSize c_B_groupSize 2 (some .int) 0 0 [.ref o, .int (nI gg)] X (some (.int (X (o + 5) gg))) (X) := by
  refine Ct_of false (by decide) (fun h => by cases h) (Nat.le_of_ble_eq_true rfl) ?_
  show V l D ac b "SpanStore$Block" c_B_groupSize 2 (some .int) false 0 0 0 0 ((some (.int (X (o + 5) gg))), 144, mk (X)) 0 0 0 [(0, .ref o), (1, .int (nI gg))] [] 144 (mk X)
  refine s_iload_n (q := 1) d_B_groupSize_0 rfl rfl ?_
  refine s_if_lt (tgt := 18) (q := 4) d_B_groupSize_1 (by decide) rfl (fun z9 => absurd z9 (nI_pos (by omega))) (fun _ => ?_)
  refine s_iload_n (q := 5) d_B_groupSize_4 rfl rfl ?_
  refine s_iconst (v := 4) (q := 6) d_B_groupSize_5 rfl ki_4 ?_
  refine s_icmp_ge (tgt := 18) (q := 9) d_B_groupSize_6 (by decide) rfl (fun z9 => absurd z9 (nI_ge (a := gg) (b := 4) hg (by decide))) (fun _ => ?_)
  refine s_aload_n (q := 10) d_B_groupSize_9 rfl rfl (Or.inr ⟨_, rfl⟩) ?_
  refine g_getr (q := 13) d_B_groupSize_10 rfl fl_B_25 hB.1 rfl ?_
  refine s_iload_n (q := 14) d_B_groupSize_13 rfl rfl ?_
  refine g_iald (q := 15) d_B_groupSize_14 rfl hB.2.2.2.2.2 (by omega) rfl (by omega) ?_
  refine s_goto (tgt := 19) d_B_groupSize_15 (by decide) ?_
  exact g_iret d_B_groupSize_19 rfl rfl rfl rfl
def hsV (X : RAM) (o : Nat) (h e : Int32) : Int32 := if e = 0 then h * X o 9 + (if h = X o 5 - X o 6 ∧ ogP X o = true then X o 10 - X o 9 else 0) else h * X o 10 - (if h = X o 5 - X o 6 ∧ olP X o = true then X o 10 - X o 9 else 0)
theorem t_B_hiddenSumEnd {X : RAM} {o : Nat} {h e : Int32} (hB : isB o) : CG l D ac b y_B_hiddenSumEnd c_B_hiddenSumEnd 4 (some .int) 2 40 [.ref o, .int h, .int e] X (some (.int (hsV X o h e))) (X) := by
  refine Ct_of false (by decide) (fun h => by cases h) (Nat.le_of_ble_eq_true rfl) ?_
  show V l D ac b "SpanStore$Block" c_B_hiddenSumEnd 4 (some .int) false 2 40 0 0 ((some (.int (hsV X o h e))), 144, mk (X)) 0 0 0 [(0, .ref o), (1, .int h), (2, .int e)] [] 144 (mk X)
  refine s_iload_n (q := 1) d_B_hiddenSumEnd_0 rfl rfl ?_
  refine s_aload_n (q := 2) d_B_hiddenSumEnd_1 rfl rfl (Or.inr ⟨_, rfl⟩) ?_
  refine g_geti (q := 5) d_B_hiddenSumEnd_2 rfl fl_B_28 hB.1 rfl ?_
  refine s_aload_n (q := 6) d_B_hiddenSumEnd_5 rfl rfl (Or.inr ⟨_, rfl⟩) ?_
  refine g_geti (q := 9) d_B_hiddenSumEnd_6 rfl fl_B_32 hB.1 rfl ?_
  refine s_isub (q := 10) d_B_hiddenSumEnd_9 rfl ?_
  refine s_icmp_ne (tgt := 17) (q := 13) d_B_hiddenSumEnd_10 (by decide) rfl (fun h_10 => ?_) (fun h_10 => ?_)
  · -- T 10
    refine s_iconst (v := 0) (q := 18) d_B_hiddenSumEnd_17 rfl ki_0 ?_
    refine s_istore_n (q := 19) d_B_hiddenSumEnd_18 rfl (by decide) ?_
    refine s_iload_n (q := 20) d_B_hiddenSumEnd_19 rfl rfl ?_
    refine s_if_ne (tgt := 55) (q := 23) d_B_hiddenSumEnd_20 (by decide) rfl (fun h_20 => ?_) (fun h_20 => ?_)
    · -- T 20
      refine s_iload_n (q := 56) d_B_hiddenSumEnd_55 rfl rfl ?_
      refine s_aload_n (q := 57) d_B_hiddenSumEnd_56 rfl rfl (Or.inr ⟨_, rfl⟩) ?_
      refine g_geti (q := 60) d_B_hiddenSumEnd_57 rfl fl_B_71 hB.1 rfl ?_
      refine s_imul (q := 61) d_B_hiddenSumEnd_60 rfl ?_
      refine s_iload_n (q := 62) d_B_hiddenSumEnd_61 rfl rfl ?_
      refine s_if_eq (tgt := 84) (q := 65) d_B_hiddenSumEnd_62 (by decide) rfl (fun _ => ?_) (fun z9 => absurd (by decide) z9)
      refine s_iconst (v := 0) (q := 85) d_B_hiddenSumEnd_84 rfl ki_0 ?_
      refine s_isub (q := 86) d_B_hiddenSumEnd_85 rfl ?_
      exact g_iret d_B_hiddenSumEnd_86 rfl rfl (by simp_all [hsV]) rfl
    · -- F 20
      refine s_iload_n (q := 24) d_B_hiddenSumEnd_23 rfl rfl ?_
      refine s_aload_n (q := 25) d_B_hiddenSumEnd_24 rfl rfl (Or.inr ⟨_, rfl⟩) ?_
      refine g_geti (q := 28) d_B_hiddenSumEnd_25 rfl fl_B_68 hB.1 rfl ?_
      refine s_imul (q := 29) d_B_hiddenSumEnd_28 rfl ?_
      refine s_iload_n (q := 30) d_B_hiddenSumEnd_29 rfl rfl ?_
      refine s_if_eq (tgt := 52) (q := 33) d_B_hiddenSumEnd_30 (by decide) rfl (fun _ => ?_) (fun z9 => absurd (by decide) z9)
      refine s_iconst (v := 0) (q := 53) d_B_hiddenSumEnd_52 rfl ki_0 ?_
      refine s_iadd (q := 54) d_B_hiddenSumEnd_53 rfl ?_
      exact g_iret d_B_hiddenSumEnd_54 rfl rfl (by simp_all [hsV]) rfl
  · -- F 10
    refine s_iconst (v := 1) (q := 14) d_B_hiddenSumEnd_13 rfl ki_1 ?_
    refine s_goto (tgt := 18) d_B_hiddenSumEnd_14 (by decide) ?_
    refine s_istore_n (q := 19) d_B_hiddenSumEnd_18 rfl (by decide) ?_
    refine s_iload_n (q := 20) d_B_hiddenSumEnd_19 rfl rfl ?_
    refine s_if_ne (tgt := 55) (q := 23) d_B_hiddenSumEnd_20 (by decide) rfl (fun h_20 => ?_) (fun h_20 => ?_)
    · -- T 20
      refine s_iload_n (q := 56) d_B_hiddenSumEnd_55 rfl rfl ?_
      refine s_aload_n (q := 57) d_B_hiddenSumEnd_56 rfl rfl (Or.inr ⟨_, rfl⟩) ?_
      refine g_geti (q := 60) d_B_hiddenSumEnd_57 rfl fl_B_71 hB.1 rfl ?_
      refine s_imul (q := 61) d_B_hiddenSumEnd_60 rfl ?_
      refine s_iload_n (q := 62) d_B_hiddenSumEnd_61 rfl rfl ?_
      refine s_if_eq (tgt := 84) (q := 65) d_B_hiddenSumEnd_62 (by decide) rfl (fun z9 => absurd z9 (by decide)) (fun _ => ?_)
      refine s_aload_n (q := 66) d_B_hiddenSumEnd_65 rfl rfl (Or.inr ⟨_, rfl⟩) ?_
      refine g_callV (q := 69) d_B_hiddenSumEnd_66 rfl ml_B_87 mx_B_owesLeast mv_B_owesLeast (t_B_owesLeast hB) hB.1 rfl rfl (Nat.le_of_ble_eq_true rfl) (by decide) ?_
      refine s_if_eq (tgt := 84) (q := 72) d_B_hiddenSumEnd_69 (by decide) rfl (fun h_69 => ?_) (fun h_69 => ?_)
      · -- T 69
        rw [bI_0] at h_69
        refine s_iconst (v := 0) (q := 85) d_B_hiddenSumEnd_84 rfl ki_0 ?_
        refine s_isub (q := 86) d_B_hiddenSumEnd_85 rfl ?_
        exact g_iret d_B_hiddenSumEnd_86 rfl rfl (by simp_all [hsV]) rfl
      · -- F 69
        rw [bI_n0] at h_69
        refine s_aload_n (q := 73) d_B_hiddenSumEnd_72 rfl rfl (Or.inr ⟨_, rfl⟩) ?_
        refine g_geti (q := 76) d_B_hiddenSumEnd_73 rfl fl_B_71 hB.1 rfl ?_
        refine s_aload_n (q := 77) d_B_hiddenSumEnd_76 rfl rfl (Or.inr ⟨_, rfl⟩) ?_
        refine g_geti (q := 80) d_B_hiddenSumEnd_77 rfl fl_B_68 hB.1 rfl ?_
        refine s_isub (q := 81) d_B_hiddenSumEnd_80 rfl ?_
        refine s_goto (tgt := 85) d_B_hiddenSumEnd_81 (by decide) ?_
        refine s_isub (q := 86) d_B_hiddenSumEnd_85 rfl ?_
        exact g_iret d_B_hiddenSumEnd_86 rfl rfl (by simp_all [hsV]) rfl
    · -- F 20
      refine s_iload_n (q := 24) d_B_hiddenSumEnd_23 rfl rfl ?_
      refine s_aload_n (q := 25) d_B_hiddenSumEnd_24 rfl rfl (Or.inr ⟨_, rfl⟩) ?_
      refine g_geti (q := 28) d_B_hiddenSumEnd_25 rfl fl_B_68 hB.1 rfl ?_
      refine s_imul (q := 29) d_B_hiddenSumEnd_28 rfl ?_
      refine s_iload_n (q := 30) d_B_hiddenSumEnd_29 rfl rfl ?_
      refine s_if_eq (tgt := 52) (q := 33) d_B_hiddenSumEnd_30 (by decide) rfl (fun z9 => absurd z9 (by decide)) (fun _ => ?_)
      refine s_aload_n (q := 34) d_B_hiddenSumEnd_33 rfl rfl (Or.inr ⟨_, rfl⟩) ?_
      refine g_callV (q := 37) d_B_hiddenSumEnd_34 rfl ml_B_90 mx_B_owesGreatest mv_B_owesGreatest (t_B_owesGreatest hB) hB.1 rfl rfl (Nat.le_of_ble_eq_true rfl) (by decide) ?_
      refine s_if_eq (tgt := 52) (q := 40) d_B_hiddenSumEnd_37 (by decide) rfl (fun h_37 => ?_) (fun h_37 => ?_)
      · -- T 37
        rw [bI_0] at h_37
        refine s_iconst (v := 0) (q := 53) d_B_hiddenSumEnd_52 rfl ki_0 ?_
        refine s_iadd (q := 54) d_B_hiddenSumEnd_53 rfl ?_
        exact g_iret d_B_hiddenSumEnd_54 rfl rfl (by simp_all [hsV]) rfl
      · -- F 37
        rw [bI_n0] at h_37
        refine s_aload_n (q := 41) d_B_hiddenSumEnd_40 rfl rfl (Or.inr ⟨_, rfl⟩) ?_
        refine g_geti (q := 44) d_B_hiddenSumEnd_41 rfl fl_B_71 hB.1 rfl ?_
        refine s_aload_n (q := 45) d_B_hiddenSumEnd_44 rfl rfl (Or.inr ⟨_, rfl⟩) ?_
        refine g_geti (q := 48) d_B_hiddenSumEnd_45 rfl fl_B_68 hB.1 rfl ?_
        refine s_isub (q := 49) d_B_hiddenSumEnd_48 rfl ?_
        refine s_goto (tgt := 53) d_B_hiddenSumEnd_49 (by decide) ?_
        refine s_iadd (q := 54) d_B_hiddenSumEnd_53 rfl ?_
        exact g_iret d_B_hiddenSumEnd_54 rfl rfl (by simp_all [hsV]) rfl
def seP (X : RAM) (o : Nat) (g : Int32) (i : Nat) : Bool := decide (g = -1 ∨ X (o + 2) i = g)
def knP (X : RAM) (o : Nat) (i : Nat) : Bool := decide (¬ X (o + 4) i = 0)
def sumK (X : RAM) (o : Nat) (g : Int32) : Nat → Int32
  | 0 => 0
  | i + 1 => if (seP X o g i && knP X o i) = true then sumK X o g i + X (o + 3) i else sumK X o g i
def hidP (X : RAM) (o : Nat) (g : Int32) (i : Nat) : Bool := seP X o g i && !knP X o i
def sumV (X : RAM) (o n : Nat) (g e : Int32) : Int64 := if cntB (hidP X o g) n = 0 then (sumK X o g n).toInt64 else (sumK X o g n + hsV X o (nI (cntB (hidP X o g) n)) e).toInt64
theorem lp_sumEnd {X : RAM} {o n : Nat} {g e : Int32} (hB : isB o) (hsz : X o 5 = nI n) (hn : n ≤ 12) : ∀ i, i ≤ n → V l D ac b "SpanStore$Block" c_B_sumEnd 6 (some .long) false 3 63 0 0 ((some (.long (sumV X o n g e))), 144, mk X) 0 0 8 [(0, .ref o), (1, .int g), (2, .int e), (3, .int (sumK X o g i)), (4, .int (nI (cntB (hidP X o g) i))), (5, .int (nI i))] [] 144 (mk X) := by
  refine nat_down ?_ (fun i hi ih => ?_)
  · skip
    refine s_iload (q := 10) d_B_sumEnd_8 rfl rfl ?_
    refine s_aload_n (q := 11) d_B_sumEnd_10 rfl rfl (Or.inr ⟨_, rfl⟩) ?_
    refine g_getv (v := nI n) (q := 14) d_B_sumEnd_11 rfl fl_B_28 hB.1 rfl hsz ?_
    refine s_icmp_ge (tgt := 65) (q := 17) d_B_sumEnd_14 (by decide) rfl (fun _ => ?_) (fun z9 => absurd (nI_le (Nat.le_refl n) (by omega)) z9)
    refine s_iload (q := 67) d_B_sumEnd_65 rfl rfl ?_
    refine s_if_ne (tgt := 75) (q := 70) d_B_sumEnd_67 (by decide) rfl (fun h_67 => ?_) (fun h_67 => ?_)
    · -- T 67
      have h67 : ¬ cntB (hidP X o g) n = 0 := fun z => h_67 (by rw [z]; rfl)
      refine s_iload_n (q := 76) d_B_sumEnd_75 rfl rfl ?_
      refine s_aload_n (q := 77) d_B_sumEnd_76 rfl rfl (Or.inr ⟨_, rfl⟩) ?_
      refine s_iload (q := 79) d_B_sumEnd_77 rfl rfl ?_
      refine s_iload_n (q := 80) d_B_sumEnd_79 rfl rfl ?_
      refine g_callV (q := 83) d_B_sumEnd_80 rfl ml_B_97 mx_B_hiddenSumEnd mv_B_hiddenSumEnd (t_B_hiddenSumEnd hB) hB.1 rfl rfl (Nat.le_of_ble_eq_true rfl) (by decide) ?_
      refine s_iadd (q := 84) d_B_sumEnd_83 rfl ?_
      refine s_i2l (q := 85) d_B_sumEnd_84 rfl ?_
      exact g_lret d_B_sumEnd_85 rfl (by simp [sumV, h67]) rfl
    · -- F 67
      have h67 : cntB (hidP X o g) n = 0 := (nI_eq (a := cntB (hidP X o g) n) (b := 0) (by have := cntB_le (hidP X o g) n; omega) (by decide)).mp h_67
      refine s_iload_n (q := 71) d_B_sumEnd_70 rfl rfl ?_
      refine s_i2l (q := 72) d_B_sumEnd_71 rfl ?_
      refine s_goto (tgt := 85) d_B_sumEnd_72 (by decide) ?_
      exact g_lret d_B_sumEnd_85 rfl (by simp [sumV, h67]) rfl
  · skip
    refine s_iload (q := 10) d_B_sumEnd_8 rfl rfl ?_
    refine s_aload_n (q := 11) d_B_sumEnd_10 rfl rfl (Or.inr ⟨_, rfl⟩) ?_
    refine g_getv (v := nI n) (q := 14) d_B_sumEnd_11 rfl fl_B_28 hB.1 rfl hsz ?_
    refine s_icmp_ge (tgt := 65) (q := 17) d_B_sumEnd_14 (by decide) rfl (fun z9 => absurd z9 (nI_ge hi (by omega))) (fun _ => ?_)
    refine s_iload_n (q := 18) d_B_sumEnd_17 rfl rfl ?_
    refine s_iconst (v := (-1)) (q := 19) d_B_sumEnd_18 rfl ki_m1 ?_
    refine s_icmp_eq (tgt := 33) (q := 22) d_B_sumEnd_19 (by decide) rfl (fun h_19 => ?_) (fun h_19 => ?_)
    · -- T 19
      refine s_aload_n (q := 34) d_B_sumEnd_33 rfl rfl (Or.inr ⟨_, rfl⟩) ?_
      refine g_getr (q := 37) d_B_sumEnd_34 rfl fl_B_21 hB.1 rfl ?_
      refine s_iload (q := 39) d_B_sumEnd_37 rfl rfl ?_
      refine g_zald (q := 40) d_B_sumEnd_39 rfl hB.2.2.2.2.1 (by omega) rfl (by omega) ?_
      refine s_if_eq (tgt := 56) (q := 43) d_B_sumEnd_40 (by decide) rfl (fun h_40 => ?_) (fun h_40 => ?_)
      · -- T 40
        rw [show sumK X o g (i + 1) = sumK X o g i from by simp [sumK, seP, knP, *], show cntB (hidP X o g) (i + 1) = cntB (hidP X o g) i + 1 from by simp [cntB, hidP, seP, knP, *]] at ih
        refine s_iinc (q := 59) d_B_sumEnd_56 rfl rfl (by first | exact inc1 _ | rfl) (by decide) ?_
        refine s_iinc (q := 62) d_B_sumEnd_59 rfl rfl (by first | exact inc1 _ | rfl) (by decide) ?_
        refine s_goto (tgt := 8) d_B_sumEnd_62 (by decide) ?_
        exact s_lv (lv' := [(0, .ref o), (1, .int g), (2, .int e), (3, .int _), (4, .int (nI _)), (5, .int (nI (i + 1)))]) ⟨rfl, rfl, rfl, rfl, rfl, rfl, trivial⟩ ih
      · -- F 40
        rw [show sumK X o g (i + 1) = sumK X o g i + X (o + 3) i from by simp [sumK, seP, knP, *], show cntB (hidP X o g) (i + 1) = cntB (hidP X o g) i from by simp [cntB, hidP, seP, knP, *]] at ih
        refine s_iload_n (q := 44) d_B_sumEnd_43 rfl rfl ?_
        refine s_aload_n (q := 45) d_B_sumEnd_44 rfl rfl (Or.inr ⟨_, rfl⟩) ?_
        refine g_getr (q := 48) d_B_sumEnd_45 rfl fl_B_18 hB.1 rfl ?_
        refine s_iload (q := 50) d_B_sumEnd_48 rfl rfl ?_
        refine g_iald (q := 51) d_B_sumEnd_50 rfl hB.2.2.2.1 (by omega) rfl (by omega) ?_
        refine s_iadd (q := 52) d_B_sumEnd_51 rfl ?_
        refine s_istore_n (q := 53) d_B_sumEnd_52 rfl (by decide) ?_
        refine s_goto (tgt := 59) d_B_sumEnd_53 (by decide) ?_
        refine s_iinc (q := 62) d_B_sumEnd_59 rfl rfl (by first | exact inc1 _ | rfl) (by decide) ?_
        refine s_goto (tgt := 8) d_B_sumEnd_62 (by decide) ?_
        exact s_lv (lv' := [(0, .ref o), (1, .int g), (2, .int e), (3, .int _), (4, .int (nI _)), (5, .int (nI (i + 1)))]) ⟨rfl, rfl, rfl, rfl, rfl, rfl, trivial⟩ ih
    · -- F 19
      refine s_aload_n (q := 23) d_B_sumEnd_22 rfl rfl (Or.inr ⟨_, rfl⟩) ?_
      refine g_getr (q := 26) d_B_sumEnd_23 rfl fl_B_15 hB.1 rfl ?_
      refine s_iload (q := 28) d_B_sumEnd_26 rfl rfl ?_
      refine g_iald (q := 29) d_B_sumEnd_28 rfl hB.2.2.1 (by omega) rfl (by omega) ?_
      refine s_iload_n (q := 30) d_B_sumEnd_29 rfl rfl ?_
      refine s_icmp_ne (tgt := 59) (q := 33) d_B_sumEnd_30 (by decide) rfl (fun h_30 => ?_) (fun h_30 => ?_)
      · -- T 30
        rw [show sumK X o g (i + 1) = sumK X o g i from by simp [sumK, seP, knP, *], show cntB (hidP X o g) (i + 1) = cntB (hidP X o g) i from by simp [cntB, hidP, seP, knP, *]] at ih
        refine s_iinc (q := 62) d_B_sumEnd_59 rfl rfl (by first | exact inc1 _ | rfl) (by decide) ?_
        refine s_goto (tgt := 8) d_B_sumEnd_62 (by decide) ?_
        exact s_lv (lv' := [(0, .ref o), (1, .int g), (2, .int e), (3, .int _), (4, .int (nI _)), (5, .int (nI (i + 1)))]) ⟨rfl, rfl, rfl, rfl, rfl, rfl, trivial⟩ ih
      · -- F 30
        refine s_aload_n (q := 34) d_B_sumEnd_33 rfl rfl (Or.inr ⟨_, rfl⟩) ?_
        refine g_getr (q := 37) d_B_sumEnd_34 rfl fl_B_21 hB.1 rfl ?_
        refine s_iload (q := 39) d_B_sumEnd_37 rfl rfl ?_
        refine g_zald (q := 40) d_B_sumEnd_39 rfl hB.2.2.2.2.1 (by omega) rfl (by omega) ?_
        refine s_if_eq (tgt := 56) (q := 43) d_B_sumEnd_40 (by decide) rfl (fun h_40 => ?_) (fun h_40 => ?_)
        · -- T 40
          rw [show sumK X o g (i + 1) = sumK X o g i from by simp [sumK, seP, knP, *], show cntB (hidP X o g) (i + 1) = cntB (hidP X o g) i + 1 from by simp [cntB, hidP, seP, knP, *]] at ih
          refine s_iinc (q := 59) d_B_sumEnd_56 rfl rfl (by first | exact inc1 _ | rfl) (by decide) ?_
          refine s_iinc (q := 62) d_B_sumEnd_59 rfl rfl (by first | exact inc1 _ | rfl) (by decide) ?_
          refine s_goto (tgt := 8) d_B_sumEnd_62 (by decide) ?_
          exact s_lv (lv' := [(0, .ref o), (1, .int g), (2, .int e), (3, .int _), (4, .int (nI _)), (5, .int (nI (i + 1)))]) ⟨rfl, rfl, rfl, rfl, rfl, rfl, trivial⟩ ih
        · -- F 40
          rw [show sumK X o g (i + 1) = sumK X o g i + X (o + 3) i from by simp [sumK, seP, knP, *], show cntB (hidP X o g) (i + 1) = cntB (hidP X o g) i from by simp [cntB, hidP, seP, knP, *]] at ih
          refine s_iload_n (q := 44) d_B_sumEnd_43 rfl rfl ?_
          refine s_aload_n (q := 45) d_B_sumEnd_44 rfl rfl (Or.inr ⟨_, rfl⟩) ?_
          refine g_getr (q := 48) d_B_sumEnd_45 rfl fl_B_18 hB.1 rfl ?_
          refine s_iload (q := 50) d_B_sumEnd_48 rfl rfl ?_
          refine g_iald (q := 51) d_B_sumEnd_50 rfl hB.2.2.2.1 (by omega) rfl (by omega) ?_
          refine s_iadd (q := 52) d_B_sumEnd_51 rfl ?_
          refine s_istore_n (q := 53) d_B_sumEnd_52 rfl (by decide) ?_
          refine s_goto (tgt := 59) d_B_sumEnd_53 (by decide) ?_
          refine s_iinc (q := 62) d_B_sumEnd_59 rfl rfl (by first | exact inc1 _ | rfl) (by decide) ?_
          refine s_goto (tgt := 8) d_B_sumEnd_62 (by decide) ?_
          exact s_lv (lv' := [(0, .ref o), (1, .int g), (2, .int e), (3, .int _), (4, .int (nI _)), (5, .int (nI (i + 1)))]) ⟨rfl, rfl, rfl, rfl, rfl, rfl, trivial⟩ ih
theorem t_B_sumEnd {X : RAM} {o n : Nat} {g e : Int32} (hB : isB o) (hsz : X o 5 = nI n) (hn : n ≤ 12) : CG l D ac b y_B_sumEnd c_B_sumEnd 6 (some .long) 3 63 [.ref o, .int g, .int e] X (some (.long (sumV X o n g e))) (X) := by
  refine Ct_of false (by decide) (fun h => by cases h) (Nat.le_of_ble_eq_true rfl) ?_
  show V l D ac b "SpanStore$Block" c_B_sumEnd 6 (some .long) false 3 63 0 0 ((some (.long (sumV X o n g e))), 144, mk (X)) 0 0 0 [(0, .ref o), (1, .int g), (2, .int e)] [] 144 (mk X)
  refine s_iconst (v := 0) (q := 1) d_B_sumEnd_0 rfl ki_0 ?_
  refine s_istore_n (q := 2) d_B_sumEnd_1 rfl (by decide) ?_
  refine s_iconst (v := 0) (q := 3) d_B_sumEnd_2 rfl ki_0 ?_
  refine s_istore (q := 5) d_B_sumEnd_3 rfl (by decide) ?_
  refine s_iconst (v := 0) (q := 6) d_B_sumEnd_5 rfl ki_0 ?_
  refine s_istore (q := 8) d_B_sumEnd_6 rfl (by decide) ?_
  exact s_lv (lv' := [(0, .ref o), (1, .int g), (2, .int e), (3, .int (sumK X o g 0)), (4, .int (nI (cntB (hidP X o g) 0))), (5, .int (nI 0))]) ⟨rfl, rfl, rfl, rfl, rfl, rfl, trivial⟩ (lp_sumEnd hB hsz hn 0 (Nat.zero_le n))
theorem t_B_apart {X : RAM} {o n : Nat} {g : Int32} (hB : isB o) (hsz : X o 5 = nI n) (hn : n ≤ 12) : CG l D ac b y_B_apart c_B_apart 2 (some .long) 4 88 [.ref o, .int g] X (some (.long (sumV X o n g 1 - sumV X o n g 0))) (X) := by
  refine Ct_of false (by decide) (fun h => by cases h) (Nat.le_of_ble_eq_true rfl) ?_
  show V l D ac b "SpanStore$Block" c_B_apart 2 (some .long) false 4 88 0 0 ((some (.long (sumV X o n g 1 - sumV X o n g 0))), 144, mk (X)) 0 0 0 [(0, .ref o), (1, .int g)] [] 144 (mk X)
  refine s_aload_n (q := 1) d_B_apart_0 rfl rfl (Or.inr ⟨_, rfl⟩) ?_
  refine s_iload_n (q := 2) d_B_apart_1 rfl rfl ?_
  refine s_iconst (v := 1) (q := 3) d_B_apart_2 rfl ki_1 ?_
  refine g_callV (q := 6) d_B_apart_3 rfl ml_B_100 mx_B_sumEnd mv_B_sumEnd (t_B_sumEnd hB hsz hn) hB.1 rfl rfl (Nat.le_of_ble_eq_true rfl) (by decide) ?_
  refine s_aload_n (q := 7) d_B_apart_6 rfl rfl (Or.inr ⟨_, rfl⟩) ?_
  refine s_iload_n (q := 8) d_B_apart_7 rfl rfl ?_
  refine s_iconst (v := 0) (q := 9) d_B_apart_8 rfl ki_0 ?_
  refine g_callV (q := 12) d_B_apart_9 rfl ml_B_100 mx_B_sumEnd mv_B_sumEnd (t_B_sumEnd hB hsz hn) hB.1 rfl rfl (Nat.le_of_ble_eq_true rfl) (by decide) ?_
  refine s_lsub (q := 13) d_B_apart_12 rfl ?_
  exact g_lret d_B_apart_13 rfl rfl rfl
def hcV (X : RAM) (o : Nat) (x e : Int32) : Int32 := if X o 9 < x then (if x ≤ X o 10 then (if e = 0 then bI (ogP X o) else if olP X o = true then X o 5 - X o 6 - 1 else X o 5 - X o 6) else 0) else X o 5 - X o 6
def geP (X : RAM) (o : Nat) (x : Int32) (i : Nat) : Bool := knP X o i && !decide (X (o + 3) i < x)
def cntV (X : RAM) (o n : Nat) (x e : Int32) : Int32 := if X o 6 < X o 5 then nI (cntB (geP X o x) n) + hcV X o x e else nI (cntB (geP X o x) n)
theorem t_B_hiddenCountEnd {X : RAM} {o : Nat} {x e : Int32} (hB : isB o) : CG l D ac b y_B_hiddenCountEnd c_B_hiddenCountEnd 4 (some .int) 2 40 [.ref o, .int x, .int e] X (some (.int (hcV X o x e))) (X) := by
  refine Ct_of false (by decide) (fun h => by cases h) (Nat.le_of_ble_eq_true rfl) ?_
  show V l D ac b "SpanStore$Block" c_B_hiddenCountEnd 4 (some .int) false 2 40 0 0 ((some (.int (hcV X o x e))), 144, mk (X)) 0 0 0 [(0, .ref o), (1, .int x), (2, .int e)] [] 144 (mk X)
  refine s_aload_n (q := 1) d_B_hiddenCountEnd_0 rfl rfl (Or.inr ⟨_, rfl⟩) ?_
  refine g_geti (q := 4) d_B_hiddenCountEnd_1 rfl fl_B_28 hB.1 rfl ?_
  refine s_aload_n (q := 5) d_B_hiddenCountEnd_4 rfl rfl (Or.inr ⟨_, rfl⟩) ?_
  refine g_geti (q := 8) d_B_hiddenCountEnd_5 rfl fl_B_32 hB.1 rfl ?_
  refine s_isub (q := 9) d_B_hiddenCountEnd_8 rfl ?_
  refine s_istore_n (q := 10) d_B_hiddenCountEnd_9 rfl (by decide) ?_
  refine s_aload_n (q := 11) d_B_hiddenCountEnd_10 rfl rfl (Or.inr ⟨_, rfl⟩) ?_
  refine g_geti (q := 14) d_B_hiddenCountEnd_11 rfl fl_B_68 hB.1 rfl ?_
  refine s_iload_n (q := 15) d_B_hiddenCountEnd_14 rfl rfl ?_
  refine s_icmp_lt (tgt := 20) (q := 18) d_B_hiddenCountEnd_15 (by decide) rfl (fun h_15 => ?_) (fun h_15 => ?_)
  · -- T 15
    refine s_aload_n (q := 21) d_B_hiddenCountEnd_20 rfl rfl (Or.inr ⟨_, rfl⟩) ?_
    refine g_geti (q := 24) d_B_hiddenCountEnd_21 rfl fl_B_71 hB.1 rfl ?_
    refine s_iload_n (q := 25) d_B_hiddenCountEnd_24 rfl rfl ?_
    refine s_icmp_ge (tgt := 30) (q := 28) d_B_hiddenCountEnd_25 (by decide) rfl (fun h_25 => ?_) (fun h_25 => ?_)
    · -- T 25
      refine s_iload_n (q := 31) d_B_hiddenCountEnd_30 rfl rfl ?_
      refine s_if_ne (tgt := 47) (q := 34) d_B_hiddenCountEnd_31 (by decide) rfl (fun h_31 => ?_) (fun h_31 => ?_)
      · -- T 31
        refine s_aload_n (q := 48) d_B_hiddenCountEnd_47 rfl rfl (Or.inr ⟨_, rfl⟩) ?_
        refine g_callV (q := 51) d_B_hiddenCountEnd_48 rfl ml_B_87 mx_B_owesLeast mv_B_owesLeast (t_B_owesLeast hB) hB.1 rfl rfl (Nat.le_of_ble_eq_true rfl) (by decide) ?_
        refine s_if_eq (tgt := 60) (q := 54) d_B_hiddenCountEnd_51 (by decide) rfl (fun h_51 => ?_) (fun h_51 => ?_)
        · -- T 51
          rw [bI_0] at h_51
          refine s_iload_n (q := 61) d_B_hiddenCountEnd_60 rfl rfl ?_
          exact g_iret d_B_hiddenCountEnd_61 rfl rfl (by simp [hcV, bI, *]) rfl
        · -- F 51
          rw [bI_n0] at h_51
          refine s_iload_n (q := 55) d_B_hiddenCountEnd_54 rfl rfl ?_
          refine s_iconst (v := 1) (q := 56) d_B_hiddenCountEnd_55 rfl ki_1 ?_
          refine s_isub (q := 57) d_B_hiddenCountEnd_56 rfl ?_
          refine s_goto (tgt := 61) d_B_hiddenCountEnd_57 (by decide) ?_
          exact g_iret d_B_hiddenCountEnd_61 rfl rfl (by simp [hcV, bI, *]) rfl
      · -- F 31
        refine s_aload_n (q := 35) d_B_hiddenCountEnd_34 rfl rfl (Or.inr ⟨_, rfl⟩) ?_
        refine g_callV (q := 38) d_B_hiddenCountEnd_35 rfl ml_B_90 mx_B_owesGreatest mv_B_owesGreatest (t_B_owesGreatest hB) hB.1 rfl rfl (Nat.le_of_ble_eq_true rfl) (by decide) ?_
        refine s_if_eq (tgt := 45) (q := 41) d_B_hiddenCountEnd_38 (by decide) rfl (fun h_38 => ?_) (fun h_38 => ?_)
        · -- T 38
          rw [bI_0] at h_38
          refine s_iconst (v := 0) (q := 46) d_B_hiddenCountEnd_45 rfl ki_0 ?_
          exact g_iret d_B_hiddenCountEnd_46 rfl rfl (by simp [hcV, bI, *]) rfl
        · -- F 38
          rw [bI_n0] at h_38
          refine s_iconst (v := 1) (q := 42) d_B_hiddenCountEnd_41 rfl ki_1 ?_
          refine s_goto (tgt := 46) d_B_hiddenCountEnd_42 (by decide) ?_
          exact g_iret d_B_hiddenCountEnd_46 rfl rfl (by simp [hcV, bI, *]) rfl
    · -- F 25
      refine s_iconst (v := 0) (q := 29) d_B_hiddenCountEnd_28 rfl ki_0 ?_
      exact g_iret d_B_hiddenCountEnd_29 rfl rfl (by simp [hcV, bI, *]) rfl
  · -- F 15
    refine s_iload_n (q := 19) d_B_hiddenCountEnd_18 rfl rfl ?_
    exact g_iret d_B_hiddenCountEnd_19 rfl rfl (by simp [hcV, bI, *]) rfl
theorem lp_countEnd {X : RAM} {o n : Nat} {x e : Int32} (hB : isB o) (hsz : X o 5 = nI n) (hn : n ≤ 12) : ∀ i, i ≤ n → V l D ac b "SpanStore$Block" c_B_countEnd 5 (some .int) false 3 63 0 0 ((some (.int (cntV X o n x e))), 144, mk X) 0 0 5 [(0, .ref o), (1, .int x), (2, .int e), (3, .int (nI (cntB (geP X o x) i))), (4, .int (nI i))] [] 144 (mk X) := by
  refine nat_down ?_ (fun i hi ih => ?_)
  · skip
    refine s_iload (q := 7) d_B_countEnd_5 rfl rfl ?_
    refine s_aload_n (q := 8) d_B_countEnd_7 rfl rfl (Or.inr ⟨_, rfl⟩) ?_
    refine g_getv (v := nI n) (q := 11) d_B_countEnd_8 rfl fl_B_28 hB.1 rfl hsz ?_
    refine s_icmp_ge (tgt := 44) (q := 14) d_B_countEnd_11 (by decide) rfl (fun _ => ?_) (fun z9 => absurd (nI_le (Nat.le_refl n) (by omega)) z9)
    refine s_aload_n (q := 45) d_B_countEnd_44 rfl rfl (Or.inr ⟨_, rfl⟩) ?_
    refine g_callV (q := 48) d_B_countEnd_45 rfl ml_B_83 mx_B_isHalf mv_B_isHalf (t_B_isHalf hB) hB.1 rfl rfl (Nat.le_of_ble_eq_true rfl) (by decide) ?_
    refine s_if_eq (tgt := 62) (q := 51) d_B_countEnd_48 (by decide) rfl (fun h_48 => ?_) (fun h_48 => ?_)
    · -- T 48
      rw [bI_d] at h_48
      refine s_iload_n (q := 63) d_B_countEnd_62 rfl rfl ?_
      exact g_iret d_B_countEnd_63 rfl rfl (by simp [cntV, h_48]) rfl
    · -- F 48
      rw [bI_dn] at h_48
      refine s_iload_n (q := 52) d_B_countEnd_51 rfl rfl ?_
      refine s_aload_n (q := 53) d_B_countEnd_52 rfl rfl (Or.inr ⟨_, rfl⟩) ?_
      refine s_iload_n (q := 54) d_B_countEnd_53 rfl rfl ?_
      refine s_iload_n (q := 55) d_B_countEnd_54 rfl rfl ?_
      refine g_callV (q := 58) d_B_countEnd_55 rfl ml_B_104 mx_B_hiddenCountEnd mv_B_hiddenCountEnd (t_B_hiddenCountEnd hB) hB.1 rfl rfl (Nat.le_of_ble_eq_true rfl) (by decide) ?_
      refine s_iadd (q := 59) d_B_countEnd_58 rfl ?_
      refine s_goto (tgt := 63) d_B_countEnd_59 (by decide) ?_
      exact g_iret d_B_countEnd_63 rfl rfl (by simp [cntV, h_48]) rfl
  · skip
    refine s_iload (q := 7) d_B_countEnd_5 rfl rfl ?_
    refine s_aload_n (q := 8) d_B_countEnd_7 rfl rfl (Or.inr ⟨_, rfl⟩) ?_
    refine g_getv (v := nI n) (q := 11) d_B_countEnd_8 rfl fl_B_28 hB.1 rfl hsz ?_
    refine s_icmp_ge (tgt := 44) (q := 14) d_B_countEnd_11 (by decide) rfl (fun z9 => absurd z9 (nI_ge hi (by omega))) (fun _ => ?_)
    refine s_aload_n (q := 15) d_B_countEnd_14 rfl rfl (Or.inr ⟨_, rfl⟩) ?_
    refine g_getr (q := 18) d_B_countEnd_15 rfl fl_B_21 hB.1 rfl ?_
    refine s_iload (q := 20) d_B_countEnd_18 rfl rfl ?_
    refine g_zald (q := 21) d_B_countEnd_20 rfl hB.2.2.2.2.1 (by omega) rfl (by omega) ?_
    refine s_if_eq (tgt := 38) (q := 24) d_B_countEnd_21 (by decide) rfl (fun h_21 => ?_) (fun h_21 => ?_)
    · -- T 21
      rw [show cntB (geP X o x) (i + 1) = cntB (geP X o x) i from by simp [cntB, geP, knP, *]] at ih
      refine s_iinc (q := 41) d_B_countEnd_38 rfl rfl (by first | exact inc1 _ | rfl) (by decide) ?_
      refine s_goto (tgt := 5) d_B_countEnd_41 (by decide) ?_
      exact s_lv (lv' := [(0, .ref o), (1, .int x), (2, .int e), (3, .int (nI _)), (4, .int (nI (i + 1)))]) ⟨rfl, rfl, rfl, rfl, rfl, trivial⟩ ih
    · -- F 21
      refine s_aload_n (q := 25) d_B_countEnd_24 rfl rfl (Or.inr ⟨_, rfl⟩) ?_
      refine g_getr (q := 28) d_B_countEnd_25 rfl fl_B_18 hB.1 rfl ?_
      refine s_iload (q := 30) d_B_countEnd_28 rfl rfl ?_
      refine g_iald (q := 31) d_B_countEnd_30 rfl hB.2.2.2.1 (by omega) rfl (by omega) ?_
      refine s_iload_n (q := 32) d_B_countEnd_31 rfl rfl ?_
      refine s_icmp_lt (tgt := 38) (q := 35) d_B_countEnd_32 (by decide) rfl (fun h_32 => ?_) (fun h_32 => ?_)
      · -- T 32
        rw [show cntB (geP X o x) (i + 1) = cntB (geP X o x) i from by simp [cntB, geP, knP, *]] at ih
        refine s_iinc (q := 41) d_B_countEnd_38 rfl rfl (by first | exact inc1 _ | rfl) (by decide) ?_
        refine s_goto (tgt := 5) d_B_countEnd_41 (by decide) ?_
        exact s_lv (lv' := [(0, .ref o), (1, .int x), (2, .int e), (3, .int (nI _)), (4, .int (nI (i + 1)))]) ⟨rfl, rfl, rfl, rfl, rfl, trivial⟩ ih
      · -- F 32
        rw [show cntB (geP X o x) (i + 1) = cntB (geP X o x) i + 1 from by simp [cntB, geP, knP, *]] at ih
        refine s_iinc (q := 38) d_B_countEnd_35 rfl rfl (by first | exact inc1 _ | rfl) (by decide) ?_
        refine s_iinc (q := 41) d_B_countEnd_38 rfl rfl (by first | exact inc1 _ | rfl) (by decide) ?_
        refine s_goto (tgt := 5) d_B_countEnd_41 (by decide) ?_
        exact s_lv (lv' := [(0, .ref o), (1, .int x), (2, .int e), (3, .int (nI _)), (4, .int (nI (i + 1)))]) ⟨rfl, rfl, rfl, rfl, rfl, trivial⟩ ih
theorem t_B_countEnd {X : RAM} {o n : Nat} {x e : Int32} (hB : isB o) (hsz : X o 5 = nI n) (hn : n ≤ 12) : CG l D ac b y_B_countEnd c_B_countEnd 5 (some .int) 3 63 [.ref o, .int x, .int e] X (some (.int (cntV X o n x e))) (X) := by
  refine Ct_of false (by decide) (fun h => by cases h) (Nat.le_of_ble_eq_true rfl) ?_
  show V l D ac b "SpanStore$Block" c_B_countEnd 5 (some .int) false 3 63 0 0 ((some (.int (cntV X o n x e))), 144, mk (X)) 0 0 0 [(0, .ref o), (1, .int x), (2, .int e)] [] 144 (mk X)
  refine s_iconst (v := 0) (q := 1) d_B_countEnd_0 rfl ki_0 ?_
  refine s_istore_n (q := 2) d_B_countEnd_1 rfl (by decide) ?_
  refine s_iconst (v := 0) (q := 3) d_B_countEnd_2 rfl ki_0 ?_
  refine s_istore (q := 5) d_B_countEnd_3 rfl (by decide) ?_
  exact s_lv (lv' := [(0, .ref o), (1, .int x), (2, .int e), (3, .int (nI (cntB (geP X o x) 0))), (4, .int (nI 0))]) ⟨rfl, rfl, rfl, rfl, rfl, trivial⟩ (lp_countEnd hB hsz hn 0 (Nat.zero_le n))
def kyN (X : RAM) (o i : Nat) : Nat := (X (o + 1) i).toNatClampNeg
def okK (X : RAM) (o n : Nat) : Prop := ∀ i, i < n → kyN X o i < 100 ∧ X (o + 1) i = nI (kyN X o i)
def keP (X : RAM) (o k : Nat) (i : Nat) : Bool := knP X o i && decide (kyN X o i = k)
def akX (X : RAM) (o n : Nat) : RAM := upA X 3 (fun k => X 3 k + nI (cntB (keP X o k) n))
theorem akX_0 (X : RAM) (o : Nat) : akX X o 0 = X := by
  unfold akX
  have : (fun k => X 3 k + nI (cntB (keP X o k) 0)) = X 3 := by
    funext k
    show X 3 k + 0 = X 3 k
    simp
  rw [this, upA_self]
theorem akX_ne {X : RAM} {o n a : Nat} (h : a ≠ 3) : akX X o n a = X a := upA_ne h
theorem akX_u {X : RAM} {o i : Nat} (h : ¬ X (o + 4) i = 0) : up2 (akX X o i) 3 (kyN X o i) (akX X o i 3 (kyN X o i) + 1) = akX X o (i + 1) := by
  unfold akX
  rw [up2_upA, upA_same]
  congr 1
  funext k
  by_cases hk : k = kyN X o i
  · subst hk
    have : cntB (keP X o (kyN X o i)) (i + 1) = cntB (keP X o (kyN X o i)) i + 1 := by simp [cntB, keP, knP, h]
    rw [this]
    simp only [upd, if_true]
    rw [← nI_s, Int32.add_assoc]
  · have : cntB (keP X o k) (i + 1) = cntB (keP X o k) i := by
      simp [cntB, keP, Ne.symm hk]
    rw [this]
    simp [upd, hk]
theorem akX_k {X : RAM} {o i : Nat} (h : X (o + 4) i = 0) : akX X o i = akX X o (i + 1) := by
  unfold akX
  congr 1
  funext k
  have : cntB (keP X o k) (i + 1) = cntB (keP X o k) i := by simp [cntB, keP, knP, h]
  rw [this]
theorem lp_addKK {X : RAM} {o n : Nat} (hB : isB o) (hsz : X o 5 = nI n) (hn : n ≤ 12) (hk : okK X o n) (h7 : 7 ≤ o) : ∀ i, i ≤ n → V l D ac b "SpanStore$Block" c_B_addKnownKeys 4 none false 0 0 0 0 (none, 144, mk (akX X o n)) 0 0 2 [(0, .ref o), (1, .ref 3), (2, .int (nI i))] [] 144 (mk (akX X o i)) := by
  refine nat_down ?_ (fun i hi ih => ?_)
  · skip
    refine s_iload_n (q := 3) d_B_addKnownKeys_2 rfl rfl ?_
    refine s_aload_n (q := 4) d_B_addKnownKeys_3 rfl rfl (Or.inr ⟨_, rfl⟩) ?_
    refine g_getv (v := nI n) (q := 7) d_B_addKnownKeys_4 rfl fl_B_28 hB.1 rfl (by rw [akX_ne (by omega), hsz]) ?_
    refine s_icmp_ge (tgt := 49) (q := 10) d_B_addKnownKeys_7 (by decide) rfl (fun _ => ?_) (fun z9 => absurd (nI_le (Nat.le_refl n) (by omega)) z9)
    exact g_ret d_B_addKnownKeys_49 rfl rfl
  · skip
    refine s_iload_n (q := 3) d_B_addKnownKeys_2 rfl rfl ?_
    refine s_aload_n (q := 4) d_B_addKnownKeys_3 rfl rfl (Or.inr ⟨_, rfl⟩) ?_
    refine g_getv (v := nI n) (q := 7) d_B_addKnownKeys_4 rfl fl_B_28 hB.1 rfl (by rw [akX_ne (by omega), hsz]) ?_
    refine s_icmp_ge (tgt := 49) (q := 10) d_B_addKnownKeys_7 (by decide) rfl (fun z9 => absurd z9 (nI_ge hi (by omega))) (fun _ => ?_)
    refine s_aload_n (q := 11) d_B_addKnownKeys_10 rfl rfl (Or.inr ⟨_, rfl⟩) ?_
    refine g_getr (q := 14) d_B_addKnownKeys_11 rfl fl_B_9 hB.1 rfl ?_
    refine s_iload_n (q := 15) d_B_addKnownKeys_14 rfl rfl ?_
    refine g_ialv (v := nI (kyN X o i)) (q := 16) d_B_addKnownKeys_15 rfl hB.2.1 (by omega) rfl (by omega) (by rw [akX_ne (by omega)]; exact (hk i hi).2) ?_
    refine s_istore_n (q := 17) d_B_addKnownKeys_16 rfl (by decide) ?_
    refine s_aload_n (q := 18) d_B_addKnownKeys_17 rfl rfl (Or.inr ⟨_, rfl⟩) ?_
    refine g_getr (q := 21) d_B_addKnownKeys_18 rfl fl_B_21 hB.1 rfl ?_
    refine s_iload_n (q := 22) d_B_addKnownKeys_21 rfl rfl ?_
    refine g_zalv (v := X (o + 4) i) (q := 23) d_B_addKnownKeys_22 rfl hB.2.2.2.2.1 (by omega) rfl (by omega) (by rw [akX_ne (by omega)]) ?_
    refine s_if_eq (tgt := 43) (q := 26) d_B_addKnownKeys_23 (by decide) rfl (fun h_23 => ?_) (fun h_23 => ?_)
    · -- T 23
      rw [akX_k h_23]
      refine s_iinc (q := 46) d_B_addKnownKeys_43 rfl rfl (by first | exact inc1 _ | rfl) (by decide) ?_
      refine s_goto (tgt := 2) d_B_addKnownKeys_46 (by decide) ?_
      exact s_lv (lv' := [(0, .ref o), (1, .ref 3), (2, .int (nI (i + 1)))]) ⟨rfl, rfl, rfl, trivial⟩ ih
    · -- F 23
      refine s_iload_n (q := 27) d_B_addKnownKeys_26 rfl rfl ?_
      refine s_if_lt (tgt := 43) (q := 30) d_B_addKnownKeys_27 (by decide) rfl (fun z9 => absurd z9 (nI_pos (by have := hk i hi; omega))) (fun _ => ?_)
      refine s_iload_n (q := 31) d_B_addKnownKeys_30 rfl rfl ?_
      refine s_aload_n (q := 32) d_B_addKnownKeys_31 rfl rfl (Or.inr ⟨_, rfl⟩) ?_
      refine g_alen (q := 33) d_B_addKnownKeys_32 rfl hC.2.2.2.1 (by decide) ?_
      refine s_icmp_ge (tgt := 43) (q := 36) d_B_addKnownKeys_33 (by decide) rfl (fun z9 => absurd z9 (nI_ge (hk i hi).1 (by decide))) (fun _ => ?_)
      refine s_aload_n (q := 37) d_B_addKnownKeys_36 rfl rfl (Or.inr ⟨_, rfl⟩) ?_
      refine s_iload_n (q := 38) d_B_addKnownKeys_37 rfl rfl ?_
      refine s_dup2 (q := 39) d_B_addKnownKeys_38 rfl rfl rfl ?_
      refine g_iald (q := 40) d_B_addKnownKeys_39 rfl hC.2.2.2.1 (by omega) rfl (hk i hi).1 ?_
      refine s_iconst (v := 1) (q := 41) d_B_addKnownKeys_40 rfl ki_1 ?_
      refine s_iadd (q := 42) d_B_addKnownKeys_41 rfl ?_
      refine g_iast (q := 43) d_B_addKnownKeys_42 rfl hC.2.2.2.1 (by omega) rfl (hk i hi).1 ?_
      rw [akX_u h_23]
      refine s_iinc (q := 46) d_B_addKnownKeys_43 rfl rfl (by first | exact inc1 _ | rfl) (by decide) ?_
      refine s_goto (tgt := 2) d_B_addKnownKeys_46 (by decide) ?_
      exact s_lv (lv' := [(0, .ref o), (1, .ref 3), (2, .int (nI (i + 1)))]) ⟨rfl, rfl, rfl, trivial⟩ ih
theorem t_B_addKK {X : RAM} {o n : Nat} (hB : isB o) (hsz : X o 5 = nI n) (hn : n ≤ 12) (hk : okK X o n) (h7 : 7 ≤ o) : CG l D ac b y_B_addKnownKeys c_B_addKnownKeys 4 none 0 0 [.ref o, .ref 3] X (none) (akX X o n) := by
  refine Ct_of false (by decide) (fun h => by cases h) (Nat.le_of_ble_eq_true rfl) ?_
  show V l D ac b "SpanStore$Block" c_B_addKnownKeys 4 none false 0 0 0 0 ((none), 144, mk (akX X o n)) 0 0 0 [(0, .ref o), (1, .ref 3)] [] 144 (mk X)
  refine s_iconst (v := 0) (q := 1) d_B_addKnownKeys_0 rfl ki_0 ?_
  refine s_istore_n (q := 2) d_B_addKnownKeys_1 rfl (by decide) ?_
  have h := lp_addKK (l := l) (D := D) (ac := ac) (b := b) hB hsz hn hk h7 0 (Nat.zero_le n)
  rw [akX_0] at h
  exact s_lv (lv' := [(0, .ref o), (1, .ref 3), (2, .int (nI 0))]) ⟨rfl, rfl, rfl, trivial⟩ h
def pwP (X : RAM) (o : Nat) (m r : Int32) (i : Nat) : Bool := knP X o i && decide (0 < m ∧ remI (X (o + 1) i) m = r)
def pwS (X : RAM) (o : Nat) (m r : Int32) : Nat → Int32
  | 0 => 0
  | i + 1 => if pwP X o m r i = true then pwS X o m r i + X 3 (kyN X o i) else pwS X o m r i
theorem lp_pairsWith {X : RAM} {o n : Nat} {m r : Int32} (hB : isB o) (hsz : X o 5 = nI n) (hn : n ≤ 12) (hk : okK X o n) : ∀ i, i ≤ n → V l D ac b "SpanStore$Block" c_B_pairsWith 8 (some .int) false 1 22 0 0 ((some (.int (pwS X o m r n))), 144, mk X) 0 0 6 [(0, .ref o), (1, .ref 3), (2, .int m), (3, .int r), (4, .int (pwS X o m r i)), (5, .int (nI i))] [] 144 (mk X) := by
  refine nat_down ?_ (fun i hi ih => ?_)
  · skip
    refine s_iload (q := 8) d_B_pairsWith_6 rfl rfl ?_
    refine s_aload_n (q := 9) d_B_pairsWith_8 rfl rfl (Or.inr ⟨_, rfl⟩) ?_
    refine g_getv (v := nI n) (q := 12) d_B_pairsWith_9 rfl fl_B_28 hB.1 rfl hsz ?_
    refine s_icmp_ge (tgt := 83) (q := 15) d_B_pairsWith_12 (by decide) rfl (fun _ => ?_) (fun z9 => absurd (nI_le (Nat.le_refl n) (by omega)) z9)
    refine s_iload (q := 85) d_B_pairsWith_83 rfl rfl ?_
    exact g_iret d_B_pairsWith_85 rfl rfl rfl rfl
  · skip
    refine s_iload (q := 8) d_B_pairsWith_6 rfl rfl ?_
    refine s_aload_n (q := 9) d_B_pairsWith_8 rfl rfl (Or.inr ⟨_, rfl⟩) ?_
    refine g_getv (v := nI n) (q := 12) d_B_pairsWith_9 rfl fl_B_28 hB.1 rfl hsz ?_
    refine s_icmp_ge (tgt := 83) (q := 15) d_B_pairsWith_12 (by decide) rfl (fun z9 => absurd z9 (nI_ge hi (by omega))) (fun _ => ?_)
    refine s_aload_n (q := 16) d_B_pairsWith_15 rfl rfl (Or.inr ⟨_, rfl⟩) ?_
    refine g_getr (q := 19) d_B_pairsWith_16 rfl fl_B_9 hB.1 rfl ?_
    refine s_iload (q := 21) d_B_pairsWith_19 rfl rfl ?_
    refine g_ialv (v := nI (kyN X o i)) (q := 22) d_B_pairsWith_21 rfl hB.2.1 (by omega) rfl (by omega) (hk i hi).2 ?_
    refine s_istore (q := 24) d_B_pairsWith_22 rfl (by decide) ?_
    refine s_aload_n (q := 25) d_B_pairsWith_24 rfl rfl (Or.inr ⟨_, rfl⟩) ?_
    refine g_getr (q := 28) d_B_pairsWith_25 rfl fl_B_21 hB.1 rfl ?_
    refine s_iload (q := 30) d_B_pairsWith_28 rfl rfl ?_
    refine g_zald (q := 31) d_B_pairsWith_30 rfl hB.2.2.2.2.1 (by omega) rfl (by omega) ?_
    refine s_if_eq (tgt := 48) (q := 34) d_B_pairsWith_31 (by decide) rfl (fun h_31 => ?_) (fun h_31 => ?_)
    · -- T 31
      rw [show pwS X o m r (i + 1) = pwS X o m r i from by simp [pwS, pwP, knP, *]] at ih
      refine s_iconst (v := 0) (q := 49) d_B_pairsWith_48 rfl ki_0 ?_
      refine s_istore (q := 51) d_B_pairsWith_49 rfl (by decide) ?_
      refine s_iload (q := 53) d_B_pairsWith_51 rfl rfl ?_
      refine s_if_eq (tgt := 77) (q := 56) d_B_pairsWith_53 (by decide) rfl (fun _ => ?_) (fun z9 => absurd (by decide) z9)
      refine s_iinc (q := 80) d_B_pairsWith_77 rfl rfl (by first | exact inc1 _ | rfl) (by decide) ?_
      refine s_goto (tgt := 6) d_B_pairsWith_80 (by decide) ?_
      exact s_lv (lv' := [(0, .ref o), (1, .ref 3), (2, .int m), (3, .int r), (4, .int _), (5, .int (nI (i + 1)))]) ⟨rfl, rfl, rfl, rfl, rfl, rfl, trivial⟩ ih
    · -- F 31
      refine s_iload (q := 36) d_B_pairsWith_34 rfl rfl ?_
      refine s_iload_n (q := 37) d_B_pairsWith_36 rfl rfl ?_
      refine s_iload_n (q := 38) d_B_pairsWith_37 rfl rfl ?_
      refine g_callN (q := 41) d_B_pairsWith_38 rfl (by decide) mx_C_isCongruent ms_C_isCongruent t_C_isCongruent rfl rfl (Nat.le_of_ble_eq_true rfl) (by decide) ?_
      refine s_if_eq (tgt := 48) (q := 44) d_B_pairsWith_41 (by decide) rfl (fun h_41 => ?_) (fun h_41 => ?_)
      · -- T 41
        rw [bI_d, ← (hk i hi).2] at h_41
        rw [show pwS X o m r (i + 1) = pwS X o m r i from by simp [pwS, pwP, knP, *]] at ih
        refine s_iconst (v := 0) (q := 49) d_B_pairsWith_48 rfl ki_0 ?_
        refine s_istore (q := 51) d_B_pairsWith_49 rfl (by decide) ?_
        refine s_iload (q := 53) d_B_pairsWith_51 rfl rfl ?_
        refine s_if_eq (tgt := 77) (q := 56) d_B_pairsWith_53 (by decide) rfl (fun _ => ?_) (fun z9 => absurd (by decide) z9)
        refine s_iinc (q := 80) d_B_pairsWith_77 rfl rfl (by first | exact inc1 _ | rfl) (by decide) ?_
        refine s_goto (tgt := 6) d_B_pairsWith_80 (by decide) ?_
        exact s_lv (lv' := [(0, .ref o), (1, .ref 3), (2, .int m), (3, .int r), (4, .int _), (5, .int (nI (i + 1)))]) ⟨rfl, rfl, rfl, rfl, rfl, rfl, trivial⟩ ih
      · -- F 41
        rw [bI_dn, ← (hk i hi).2] at h_41
        rw [show pwS X o m r (i + 1) = pwS X o m r i + X 3 (kyN X o i) from by simp [pwS, pwP, knP, *]] at ih
        refine s_iconst (v := 1) (q := 45) d_B_pairsWith_44 rfl ki_1 ?_
        refine s_goto (tgt := 49) d_B_pairsWith_45 (by decide) ?_
        refine s_istore (q := 51) d_B_pairsWith_49 rfl (by decide) ?_
        refine s_iload (q := 53) d_B_pairsWith_51 rfl rfl ?_
        refine s_if_eq (tgt := 77) (q := 56) d_B_pairsWith_53 (by decide) rfl (fun z9 => absurd z9 (by decide)) (fun _ => ?_)
        refine s_iload (q := 58) d_B_pairsWith_56 rfl rfl ?_
        refine s_if_lt (tgt := 77) (q := 61) d_B_pairsWith_58 (by decide) rfl (fun z9 => absurd z9 (nI_pos (by have := hk i hi; omega))) (fun _ => ?_)
        refine s_iload (q := 63) d_B_pairsWith_61 rfl rfl ?_
        refine s_aload_n (q := 64) d_B_pairsWith_63 rfl rfl (Or.inr ⟨_, rfl⟩) ?_
        refine g_alen (q := 65) d_B_pairsWith_64 rfl hC.2.2.2.1 (by decide) ?_
        refine s_icmp_ge (tgt := 77) (q := 68) d_B_pairsWith_65 (by decide) rfl (fun z9 => absurd z9 (nI_ge (hk i hi).1 (by decide))) (fun _ => ?_)
        refine s_iload (q := 70) d_B_pairsWith_68 rfl rfl ?_
        refine s_aload_n (q := 71) d_B_pairsWith_70 rfl rfl (Or.inr ⟨_, rfl⟩) ?_
        refine s_iload (q := 73) d_B_pairsWith_71 rfl rfl ?_
        refine g_iald (q := 74) d_B_pairsWith_73 rfl hC.2.2.2.1 (by omega) rfl (hk i hi).1 ?_
        refine s_iadd (q := 75) d_B_pairsWith_74 rfl ?_
        refine s_istore (q := 77) d_B_pairsWith_75 rfl (by decide) ?_
        refine s_iinc (q := 80) d_B_pairsWith_77 rfl rfl (by first | exact inc1 _ | rfl) (by decide) ?_
        refine s_goto (tgt := 6) d_B_pairsWith_80 (by decide) ?_
        exact s_lv (lv' := [(0, .ref o), (1, .ref 3), (2, .int m), (3, .int r), (4, .int _), (5, .int (nI (i + 1)))]) ⟨rfl, rfl, rfl, rfl, rfl, rfl, trivial⟩ ih
theorem t_B_pairsWith {X : RAM} {o n : Nat} {m r : Int32} (hB : isB o) (hsz : X o 5 = nI n) (hn : n ≤ 12) (hk : okK X o n) : CG l D ac b y_B_pairsWith c_B_pairsWith 8 (some .int) 1 22 [.ref o, .ref 3, .int m, .int r] X (some (.int (pwS X o m r n))) (X) := by
  refine Ct_of false (by decide) (fun h => by cases h) (Nat.le_of_ble_eq_true rfl) ?_
  show V l D ac b "SpanStore$Block" c_B_pairsWith 8 (some .int) false 1 22 0 0 ((some (.int (pwS X o m r n))), 144, mk (X)) 0 0 0 [(0, .ref o), (1, .ref 3), (2, .int m), (3, .int r)] [] 144 (mk X)
  refine s_iconst (v := 0) (q := 1) d_B_pairsWith_0 rfl ki_0 ?_
  refine s_istore (q := 3) d_B_pairsWith_1 rfl (by decide) ?_
  refine s_iconst (v := 0) (q := 4) d_B_pairsWith_3 rfl ki_0 ?_
  refine s_istore (q := 6) d_B_pairsWith_4 rfl (by decide) ?_
  exact s_lv (lv' := [(0, .ref o), (1, .ref 3), (2, .int m), (3, .int r), (4, .int (pwS X o m r 0)), (5, .int (nI 0))]) ⟨rfl, rfl, rfl, rfl, rfl, rfl, trivial⟩ (lp_pairsWith hB hsz hn hk 0 (Nat.zero_le n))
end P08
