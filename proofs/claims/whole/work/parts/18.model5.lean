section P18
variable {l : Launch} {D : va_G} {ac : Nat → ClassId} {b : Nat}
theorem frm2 {f : Int32} : (0 ≤ f ∧ f ≤ 2) ↔ FrmOK f := by
  unfold FrmOK
  rw [i_nlt]
theorem rowin40 {r : Int32} {n : Nat} (hn : n ≤ 40) : (0 ≤ r ∧ r ≤ nI n - 1) ↔ (¬ r < 0 ∧ r < nI n) := by
  have h1 : (nI n - 1).toInt = (n : Int) - 1 := by
    rcases Nat.eq_zero_or_pos n with rfl | h
    · decide
    · rw [show nI n - 1 = nI (n - 1) from pk_sub (a := n) (b := 1) h, nI_toInt (by omega)]
      omega
  simp only [i_le, i_lt, tI_0, h1, nI_toInt (show n < 2 ^ 31 by omega)]
  omega
theorem t_M_sheet_N {X : RAM} {x f n : Int32} (hz : x < 0 ∨ 4 ≤ x) : CG l D ac b y_M_sheet c_M_sheet 5 (some .int) 2 42 [.ref 122, .int x, .int f, .int n] X (some (.int (-2))) (X) := by
  refine Ct_of false (by decide) (fun h => by cases h) (Nat.le_of_ble_eq_true rfl) ?_
  show V l D ac b "SpanStoreModel" c_M_sheet 5 (some .int) false 2 42 0 0 ((some (.int (-2))), 144, mk (X)) 0 0 0 [(0, .ref 122), (1, .int x), (2, .int f), (3, .int n)] [] 144 (mk X)
  refine s_iload_n (q := 1) d_M_sheet_0 rfl rfl ?_
  refine g_callS (q := 4) d_M_sheet_1 rfl ml_M_93 mx_M_isSheet ms_M_isSheet t_M_isSheet rfl rfl (Nat.le_of_ble_eq_true rfl) (by decide) ?_
  refine s_if_eq (tgt := 22) (q := 7) d_M_sheet_4 (by decide) rfl (fun _ => ?_) (fun z9 => absurd (bI_d.mpr (niS hz)) z9)
  refine s_bipush (v := (-2)) (q := 24) d_M_sheet_22 rfl kb_m2 ?_
  exact g_iret d_M_sheet_24 rfl rfl rfl rfl
theorem t_M_sheet_F {X : RAM} {k : Nat} {f n : Int32} (hk : k < 4) (hf : ¬ FrmOK f) : CG l D ac b y_M_sheet c_M_sheet 5 (some .int) 2 42 [.ref 122, .int (nI k), .int f, .int n] X (some (.int (-2))) (X) := by
  refine Ct_of false (by decide) (fun h => by cases h) (Nat.le_of_ble_eq_true rfl) ?_
  show V l D ac b "SpanStoreModel" c_M_sheet 5 (some .int) false 2 42 0 0 ((some (.int (-2))), 144, mk (X)) 0 0 0 [(0, .ref 122), (1, .int (nI k)), (2, .int f), (3, .int n)] [] 144 (mk X)
  refine s_iload_n (q := 1) d_M_sheet_0 rfl rfl ?_
  refine g_callS (q := 4) d_M_sheet_1 rfl ml_M_93 mx_M_isSheet ms_M_isSheet t_M_isSheet rfl rfl (Nat.le_of_ble_eq_true rfl) (by decide) ?_
  refine s_if_eq (tgt := 22) (q := 7) d_M_sheet_4 (by decide) rfl (fun z9 => absurd z9 (bI_dn.mpr (inS hk))) (fun _ => ?_)
  refine s_iload_n (q := 8) d_M_sheet_7 rfl rfl ?_
  refine s_iconst (v := 0) (q := 9) d_M_sheet_8 rfl ki_0 ?_
  refine s_iconst (v := 2) (q := 10) d_M_sheet_9 rfl ki_2 ?_
  refine g_callS (q := 13) d_M_sheet_10 rfl ml_M_74 mx_M_in ms_M_in t_M_in rfl rfl (Nat.le_of_ble_eq_true rfl) (by decide) ?_
  refine s_if_eq (tgt := 22) (q := 16) d_M_sheet_13 (by decide) rfl (fun _ => ?_) (fun z9 => absurd (bI_d.mpr (fun z => hf (frm2.mp z))) z9)
  refine s_bipush (v := (-2)) (q := 24) d_M_sheet_22 rfl kb_m2 ?_
  exact g_iret d_M_sheet_24 rfl rfl rfl rfl
theorem t_M_sheet_B {X : RAM} {k : Nat} {f n : Int32} (hk : k < 4) (hf : FrmOK f) (hn : 40 < n) : CG l D ac b y_M_sheet c_M_sheet 5 (some .int) 2 42 [.ref 122, .int (nI k), .int f, .int n] X (some (.int (-2))) (X) := by
  refine Ct_of false (by decide) (fun h => by cases h) (Nat.le_of_ble_eq_true rfl) ?_
  show V l D ac b "SpanStoreModel" c_M_sheet 5 (some .int) false 2 42 0 0 ((some (.int (-2))), 144, mk (X)) 0 0 0 [(0, .ref 122), (1, .int (nI k)), (2, .int f), (3, .int n)] [] 144 (mk X)
  refine s_iload_n (q := 1) d_M_sheet_0 rfl rfl ?_
  refine g_callS (q := 4) d_M_sheet_1 rfl ml_M_93 mx_M_isSheet ms_M_isSheet t_M_isSheet rfl rfl (Nat.le_of_ble_eq_true rfl) (by decide) ?_
  refine s_if_eq (tgt := 22) (q := 7) d_M_sheet_4 (by decide) rfl (fun z9 => absurd z9 (bI_dn.mpr (inS hk))) (fun _ => ?_)
  refine s_iload_n (q := 8) d_M_sheet_7 rfl rfl ?_
  refine s_iconst (v := 0) (q := 9) d_M_sheet_8 rfl ki_0 ?_
  refine s_iconst (v := 2) (q := 10) d_M_sheet_9 rfl ki_2 ?_
  refine g_callS (q := 13) d_M_sheet_10 rfl ml_M_74 mx_M_in ms_M_in t_M_in rfl rfl (Nat.le_of_ble_eq_true rfl) (by decide) ?_
  refine s_if_eq (tgt := 22) (q := 16) d_M_sheet_13 (by decide) rfl (fun z9 => absurd z9 (bI_dn.mpr (frm2.mpr hf))) (fun _ => ?_)
  refine s_iload_n (q := 17) d_M_sheet_16 rfl rfl ?_
  refine s_bipush (v := 40) (q := 19) d_M_sheet_17 rfl kb_40 ?_
  refine s_icmp_le (tgt := 25) (q := 22) d_M_sheet_19 (by decide) rfl (fun z9 => absurd z9 (i_nle.mpr hn)) (fun _ => ?_)
  refine s_bipush (v := (-2)) (q := 24) d_M_sheet_22 rfl kb_m2 ?_
  exact g_iret d_M_sheet_24 rfl rfl rfl rfl
theorem t_M_sheet_Z {X : RAM} {k : Nat} {f n : Int32} (hk : k < 4) (hf : FrmOK f) (hn : n < 0) : CG l D ac b y_M_sheet c_M_sheet 5 (some .int) 2 42 [.ref 122, .int (nI k), .int f, .int n] X (some (.int (-15))) (up2 X 122 22 5) := by
  refine Ct_of false (by decide) (fun h => by cases h) (Nat.le_of_ble_eq_true rfl) ?_
  show V l D ac b "SpanStoreModel" c_M_sheet 5 (some .int) false 2 42 0 0 ((some (.int (-15))), 144, mk (up2 X 122 22 5)) 0 0 0 [(0, .ref 122), (1, .int (nI k)), (2, .int f), (3, .int n)] [] 144 (mk X)
  refine s_iload_n (q := 1) d_M_sheet_0 rfl rfl ?_
  refine g_callS (q := 4) d_M_sheet_1 rfl ml_M_93 mx_M_isSheet ms_M_isSheet t_M_isSheet rfl rfl (Nat.le_of_ble_eq_true rfl) (by decide) ?_
  refine s_if_eq (tgt := 22) (q := 7) d_M_sheet_4 (by decide) rfl (fun z9 => absurd z9 (bI_dn.mpr (inS hk))) (fun _ => ?_)
  refine s_iload_n (q := 8) d_M_sheet_7 rfl rfl ?_
  refine s_iconst (v := 0) (q := 9) d_M_sheet_8 rfl ki_0 ?_
  refine s_iconst (v := 2) (q := 10) d_M_sheet_9 rfl ki_2 ?_
  refine g_callS (q := 13) d_M_sheet_10 rfl ml_M_74 mx_M_in ms_M_in t_M_in rfl rfl (Nat.le_of_ble_eq_true rfl) (by decide) ?_
  refine s_if_eq (tgt := 22) (q := 16) d_M_sheet_13 (by decide) rfl (fun z9 => absurd z9 (bI_dn.mpr (frm2.mpr hf))) (fun _ => ?_)
  refine s_iload_n (q := 17) d_M_sheet_16 rfl rfl ?_
  refine s_bipush (v := 40) (q := 19) d_M_sheet_17 rfl kb_40 ?_
  refine s_icmp_le (tgt := 25) (q := 22) d_M_sheet_19 (by decide) rfl (fun _ => ?_) (fun z9 => absurd (by simp only [i_le, i_lt, tI_0, tI_40] at *; omega) z9)
  refine s_iload_n (q := 26) d_M_sheet_25 rfl rfl ?_
  refine s_if_ge (tgt := 35) (q := 29) d_M_sheet_26 (by decide) rfl (fun z9 => absurd z9 (i_nle.mpr hn)) (fun _ => ?_)
  refine s_aload_n (q := 30) d_M_sheet_29 rfl rfl (Or.inr ⟨_, rfl⟩) ?_
  refine s_iconst (v := 5) (q := 31) d_M_sheet_30 rfl ki_5 ?_
  refine g_callV (q := 34) d_M_sheet_31 rfl ml_M_96 mx_M_meets mv_M_meets t_M_meets skM rfl rfl (Nat.le_of_ble_eq_true rfl) (by decide) ?_
  exact g_iret d_M_sheet_34 rfl rfl (by decide) rfl
def znS (Y : RAM) (k : Nat) : Nat → RAM
  | 0 => Y
  | i + 1 => up2 (znS Y k i) 142 (40 * k + i) 0
def mshX (X : RAM) (k m : Nat) (f : Int32) : RAM := znS (up2 (up2 (up2 X 139 k 1) 140 k f) 141 k (nI m)) k 40
theorem lp_shM {Y : RAM} {k m : Nat} (hk : k < 4) : ∀ i, i ≤ 40 → V l D ac b "SpanStoreModel" c_M_sheet 5 (some .int) false 2 42 0 0 ((some (.int (nI m))), 144, mk (znS Y k 40)) 0 0 59 [(0, .ref 122), (1, .int (nI k)), (3, .int (nI m)), (4, .int (nI i))] [] 144 (mk (znS Y k i)) := by
  refine nat_down ?_ (fun i hi ih => ?_)
  · skip
    refine s_iload (q := 61) d_M_sheet_59 rfl rfl ?_
    refine s_bipush (v := 40) (q := 63) d_M_sheet_61 rfl kb_40 ?_
    refine s_icmp_ge (tgt := 85) (q := 66) d_M_sheet_63 (by decide) rfl (fun _ => ?_) (fun z9 => absurd (by decide) z9)
    refine s_iload_n (q := 86) d_M_sheet_85 rfl rfl ?_
    exact g_iret d_M_sheet_86 rfl rfl rfl rfl
  · skip
    refine s_iload (q := 61) d_M_sheet_59 rfl rfl ?_
    refine s_bipush (v := 40) (q := 63) d_M_sheet_61 rfl kb_40 ?_
    refine s_icmp_ge (tgt := 85) (q := 66) d_M_sheet_63 (by decide) rfl (fun z9 => absurd z9 (nI_ge (a := i) (b := 40) hi (by decide))) (fun _ => ?_)
    refine s_aload_n (q := 67) d_M_sheet_66 rfl rfl (Or.inr ⟨_, rfl⟩) ?_
    refine g_getr (q := 70) d_M_sheet_67 rfl fl_M_68 skM rfl ?_
    refine s_bipush (v := 40) (q := 72) d_M_sheet_70 rfl kb_40 ?_
    refine s_iload_n (q := 73) d_M_sheet_72 rfl rfl ?_
    refine s_imul (q := 74) d_M_sheet_73 rfl ?_
    refine s_iload (q := 76) d_M_sheet_74 rfl rfl ?_
    refine s_iadd (q := 77) d_M_sheet_76 rfl ?_
    refine s_iconst (v := 0) (q := 78) d_M_sheet_77 rfl ki_0 ?_
    refine g_iast (q := 79) d_M_sheet_78 rfl sm_19 (by omega) (ix40 _ _) (by omega) ?_
    refine s_iinc (q := 82) d_M_sheet_79 rfl rfl (by first | exact inc1 _ | rfl) (by decide) ?_
    refine s_goto (tgt := 59) d_M_sheet_82 (by decide) ?_
    exact s_lv (lv' := [(0, .ref 122), (1, .int (nI k)), (3, .int (nI m)), (4, .int (nI (i + 1)))]) ⟨rfl, rfl, rfl, rfl, trivial⟩ ih
theorem t_M_sheet_D {X : RAM} {k m : Nat} {f : Int32} (hk : k < 4) (hf : FrmOK f) (hm : m ≤ 40) : CG l D ac b y_M_sheet c_M_sheet 5 (some .int) 2 42 [.ref 122, .int (nI k), .int f, .int (nI m)] X (some (.int (nI m))) (mshX X k m f) := by
  refine Ct_of false (by decide) (fun h => by cases h) (Nat.le_of_ble_eq_true rfl) ?_
  show V l D ac b "SpanStoreModel" c_M_sheet 5 (some .int) false 2 42 0 0 ((some (.int (nI m))), 144, mk (mshX X k m f)) 0 0 0 [(0, .ref 122), (1, .int (nI k)), (2, .int f), (3, .int (nI m))] [] 144 (mk X)
  refine s_iload_n (q := 1) d_M_sheet_0 rfl rfl ?_
  refine g_callS (q := 4) d_M_sheet_1 rfl ml_M_93 mx_M_isSheet ms_M_isSheet t_M_isSheet rfl rfl (Nat.le_of_ble_eq_true rfl) (by decide) ?_
  refine s_if_eq (tgt := 22) (q := 7) d_M_sheet_4 (by decide) rfl (fun z9 => absurd z9 (bI_dn.mpr (inS hk))) (fun _ => ?_)
  refine s_iload_n (q := 8) d_M_sheet_7 rfl rfl ?_
  refine s_iconst (v := 0) (q := 9) d_M_sheet_8 rfl ki_0 ?_
  refine s_iconst (v := 2) (q := 10) d_M_sheet_9 rfl ki_2 ?_
  refine g_callS (q := 13) d_M_sheet_10 rfl ml_M_74 mx_M_in ms_M_in t_M_in rfl rfl (Nat.le_of_ble_eq_true rfl) (by decide) ?_
  refine s_if_eq (tgt := 22) (q := 16) d_M_sheet_13 (by decide) rfl (fun z9 => absurd z9 (bI_dn.mpr (frm2.mpr hf))) (fun _ => ?_)
  refine s_iload_n (q := 17) d_M_sheet_16 rfl rfl ?_
  refine s_bipush (v := 40) (q := 19) d_M_sheet_17 rfl kb_40 ?_
  refine s_icmp_le (tgt := 25) (q := 22) d_M_sheet_19 (by decide) rfl (fun _ => ?_) (fun z9 => absurd (nI_le (a := m) (b := 40) hm (by decide)) z9)
  refine s_iload_n (q := 26) d_M_sheet_25 rfl rfl ?_
  refine s_if_ge (tgt := 35) (q := 29) d_M_sheet_26 (by decide) rfl (fun _ => ?_) (fun z9 => absurd (nI_pos' (by omega)) z9)
  refine s_aload_n (q := 36) d_M_sheet_35 rfl rfl (Or.inr ⟨_, rfl⟩) ?_
  refine g_getr (q := 39) d_M_sheet_36 rfl fl_M_59 skM rfl ?_
  refine s_iload_n (q := 40) d_M_sheet_39 rfl rfl ?_
  refine s_iconst (v := 1) (q := 41) d_M_sheet_40 rfl ki_1 ?_
  refine g_zast (q := 42) d_M_sheet_41 rfl sm_16 (by omega) rfl hk rfl ?_
  refine s_aload_n (q := 43) d_M_sheet_42 rfl rfl (Or.inr ⟨_, rfl⟩) ?_
  refine g_getr (q := 46) d_M_sheet_43 rfl fl_M_62 skM rfl ?_
  refine s_iload_n (q := 47) d_M_sheet_46 rfl rfl ?_
  refine s_iload_n (q := 48) d_M_sheet_47 rfl rfl ?_
  refine g_iast (q := 49) d_M_sheet_48 rfl sm_17 (by omega) rfl hk ?_
  refine s_aload_n (q := 50) d_M_sheet_49 rfl rfl (Or.inr ⟨_, rfl⟩) ?_
  refine g_getr (q := 53) d_M_sheet_50 rfl fl_M_65 skM rfl ?_
  refine s_iload_n (q := 54) d_M_sheet_53 rfl rfl ?_
  refine s_iload_n (q := 55) d_M_sheet_54 rfl rfl ?_
  refine g_iast (q := 56) d_M_sheet_55 rfl sm_18 (by omega) rfl hk ?_
  refine s_iconst (v := 0) (q := 57) d_M_sheet_56 rfl ki_0 ?_
  refine s_istore (q := 59) d_M_sheet_57 rfl (by decide) ?_
  exact s_lv (lv' := [(0, .ref 122), (1, .int (nI k)), (3, .int (nI m)), (4, .int (nI 0))]) ⟨rfl, rfl, rfl, rfl, trivial⟩ (lp_shM hk 0 (Nat.zero_le 40))
theorem t_M_lose_N {X : RAM} {x : Int32} (hz : x < 0 ∨ 4 ≤ x) : CG l D ac b y_M_lose c_M_lose 2 (some .int) 2 42 [.ref 122, .int x] X (some (.int (-2))) (X) := by
  refine Ct_of false (by decide) (fun h => by cases h) (Nat.le_of_ble_eq_true rfl) ?_
  show V l D ac b "SpanStoreModel" c_M_lose 2 (some .int) false 2 42 0 0 ((some (.int (-2))), 144, mk (X)) 0 0 0 [(0, .ref 122), (1, .int x)] [] 144 (mk X)
  refine s_iload_n (q := 1) d_M_lose_0 rfl rfl ?_
  refine g_callS (q := 4) d_M_lose_1 rfl ml_M_93 mx_M_isSheet ms_M_isSheet t_M_isSheet rfl rfl (Nat.le_of_ble_eq_true rfl) (by decide) ?_
  refine s_if_ne (tgt := 10) (q := 7) d_M_lose_4 (by decide) rfl (fun z9 => absurd (bI_d.mpr (niS hz)) z9) (fun _ => ?_)
  refine s_bipush (v := (-2)) (q := 9) d_M_lose_7 rfl kb_m2 ?_
  exact g_iret d_M_lose_9 rfl rfl rfl rfl
theorem t_M_lose_L {X : RAM} {k : Nat} (hk : k < 4) (hl : X 139 k = 0) : CG l D ac b y_M_lose c_M_lose 2 (some .int) 2 42 [.ref 122, .int (nI k)] X (some (.int (-11))) (up2 X 122 22 1) := by
  refine Ct_of false (by decide) (fun h => by cases h) (Nat.le_of_ble_eq_true rfl) ?_
  show V l D ac b "SpanStoreModel" c_M_lose 2 (some .int) false 2 42 0 0 ((some (.int (-11))), 144, mk (up2 X 122 22 1)) 0 0 0 [(0, .ref 122), (1, .int (nI k))] [] 144 (mk X)
  refine s_iload_n (q := 1) d_M_lose_0 rfl rfl ?_
  refine g_callS (q := 4) d_M_lose_1 rfl ml_M_93 mx_M_isSheet ms_M_isSheet t_M_isSheet rfl rfl (Nat.le_of_ble_eq_true rfl) (by decide) ?_
  refine s_if_ne (tgt := 10) (q := 7) d_M_lose_4 (by decide) rfl (fun _ => ?_) (fun z9 => absurd z9 (bI_dn.mpr (inS hk)))
  refine s_aload_n (q := 11) d_M_lose_10 rfl rfl (Or.inr ⟨_, rfl⟩) ?_
  refine g_getr (q := 14) d_M_lose_11 rfl fl_M_59 skM rfl ?_
  refine s_iload_n (q := 15) d_M_lose_14 rfl rfl ?_
  refine g_zald (q := 16) d_M_lose_15 rfl sm_16 (by omega) rfl hk ?_
  refine s_if_ne (tgt := 25) (q := 19) d_M_lose_16 (by decide) rfl (fun z9 => absurd hl z9) (fun _ => ?_)
  refine s_aload_n (q := 20) d_M_lose_19 rfl rfl (Or.inr ⟨_, rfl⟩) ?_
  refine s_iconst (v := 1) (q := 21) d_M_lose_20 rfl ki_1 ?_
  refine g_callV (q := 24) d_M_lose_21 rfl ml_M_96 mx_M_meets mv_M_meets t_M_meets skM rfl rfl (Nat.le_of_ble_eq_true rfl) (by decide) ?_
  exact g_iret d_M_lose_24 rfl rfl (by decide) rfl
theorem t_M_lose_D {X : RAM} {k : Nat} (hk : k < 4) (hl : ¬ X 139 k = 0) : CG l D ac b y_M_lose c_M_lose 2 (some .int) 2 42 [.ref 122, .int (nI k)] X (some (.int (X 141 k))) (up2 X 139 k 0) := by
  refine Ct_of false (by decide) (fun h => by cases h) (Nat.le_of_ble_eq_true rfl) ?_
  show V l D ac b "SpanStoreModel" c_M_lose 2 (some .int) false 2 42 0 0 ((some (.int (X 141 k))), 144, mk (up2 X 139 k 0)) 0 0 0 [(0, .ref 122), (1, .int (nI k))] [] 144 (mk X)
  refine s_iload_n (q := 1) d_M_lose_0 rfl rfl ?_
  refine g_callS (q := 4) d_M_lose_1 rfl ml_M_93 mx_M_isSheet ms_M_isSheet t_M_isSheet rfl rfl (Nat.le_of_ble_eq_true rfl) (by decide) ?_
  refine s_if_ne (tgt := 10) (q := 7) d_M_lose_4 (by decide) rfl (fun _ => ?_) (fun z9 => absurd z9 (bI_dn.mpr (inS hk)))
  refine s_aload_n (q := 11) d_M_lose_10 rfl rfl (Or.inr ⟨_, rfl⟩) ?_
  refine g_getr (q := 14) d_M_lose_11 rfl fl_M_59 skM rfl ?_
  refine s_iload_n (q := 15) d_M_lose_14 rfl rfl ?_
  refine g_zald (q := 16) d_M_lose_15 rfl sm_16 (by omega) rfl hk ?_
  refine s_if_ne (tgt := 25) (q := 19) d_M_lose_16 (by decide) rfl (fun _ => ?_) (fun z9 => absurd z9 hl)
  refine s_aload_n (q := 26) d_M_lose_25 rfl rfl (Or.inr ⟨_, rfl⟩) ?_
  refine g_getr (q := 29) d_M_lose_26 rfl fl_M_59 skM rfl ?_
  refine s_iload_n (q := 30) d_M_lose_29 rfl rfl ?_
  refine s_iconst (v := 0) (q := 31) d_M_lose_30 rfl ki_0 ?_
  refine g_zast (q := 32) d_M_lose_31 rfl sm_16 (by omega) rfl hk rfl ?_
  refine s_aload_n (q := 33) d_M_lose_32 rfl rfl (Or.inr ⟨_, rfl⟩) ?_
  refine g_getr (q := 36) d_M_lose_33 rfl fl_M_65 skM rfl ?_
  refine s_iload_n (q := 37) d_M_lose_36 rfl rfl ?_
  refine g_ialv (v := X 141 k) (q := 38) d_M_lose_37 rfl sm_18 (by omega) rfl hk (up2_nej (by decide)) ?_
  exact g_iret d_M_lose_38 rfl rfl rfl rfl
def lkV (X : RAM) (k n : Nat) (f i : Int32) : Int32 := if X 139 k = 0 then 1 else if X 140 k = f then (if ¬ i < 0 ∧ i < nI n then 0 else 2) else 3
theorem t_M_lacks {X : RAM} {k n : Nat} {f i : Int32} (hk : k < 4) (hz : X 141 k = nI n) (hn : n ≤ 40) : CG l D ac b y_M_lacks c_M_lacks 4 (some .int) 1 22 [.ref 122, .int (nI k), .int f, .int i] X (some (.int (lkV X k n f i))) (X) := by
  refine Ct_of false (by decide) (fun h => by cases h) (Nat.le_of_ble_eq_true rfl) ?_
  show V l D ac b "SpanStoreModel" c_M_lacks 4 (some .int) false 1 22 0 0 ((some (.int (lkV X k n f i))), 144, mk (X)) 0 0 0 [(0, .ref 122), (1, .int (nI k)), (2, .int f), (3, .int i)] [] 144 (mk X)
  refine s_aload_n (q := 1) d_M_lacks_0 rfl rfl (Or.inr ⟨_, rfl⟩) ?_
  refine g_getr (q := 4) d_M_lacks_1 rfl fl_M_59 skM rfl ?_
  refine s_iload_n (q := 5) d_M_lacks_4 rfl rfl ?_
  refine g_zald (q := 6) d_M_lacks_5 rfl sm_16 (by omega) rfl hk ?_
  refine s_if_ne (tgt := 13) (q := 9) d_M_lacks_6 (by decide) rfl (fun h_6 => ?_) (fun h_6 => ?_)
  · -- T 6
    refine s_aload_n (q := 14) d_M_lacks_13 rfl rfl (Or.inr ⟨_, rfl⟩) ?_
    refine g_getr (q := 17) d_M_lacks_14 rfl fl_M_62 skM rfl ?_
    refine s_iload_n (q := 18) d_M_lacks_17 rfl rfl ?_
    refine g_iald (q := 19) d_M_lacks_18 rfl sm_17 (by omega) rfl hk ?_
    refine s_iload_n (q := 20) d_M_lacks_19 rfl rfl ?_
    refine s_icmp_eq (tgt := 27) (q := 23) d_M_lacks_20 (by decide) rfl (fun h_20 => ?_) (fun h_20 => ?_)
    · -- T 20
      refine s_iload_n (q := 28) d_M_lacks_27 rfl rfl ?_
      refine s_iconst (v := 0) (q := 29) d_M_lacks_28 rfl ki_0 ?_
      refine s_aload_n (q := 30) d_M_lacks_29 rfl rfl (Or.inr ⟨_, rfl⟩) ?_
      refine g_getr (q := 33) d_M_lacks_30 rfl fl_M_65 skM rfl ?_
      refine s_iload_n (q := 34) d_M_lacks_33 rfl rfl ?_
      refine g_ialv (v := nI n) (q := 35) d_M_lacks_34 rfl sm_18 (by omega) rfl hk hz ?_
      refine s_iconst (v := 1) (q := 36) d_M_lacks_35 rfl ki_1 ?_
      refine s_isub (q := 37) d_M_lacks_36 rfl ?_
      refine g_callS (q := 40) d_M_lacks_37 rfl ml_M_74 mx_M_in ms_M_in t_M_in rfl rfl (Nat.le_of_ble_eq_true rfl) (by decide) ?_
      refine s_if_eq (tgt := 47) (q := 43) d_M_lacks_40 (by decide) rfl (fun h_40 => ?_) (fun h_40 => ?_)
      · -- T 40
        rw [bI_d, rowin40 hn] at h_40
        refine s_iconst (v := 2) (q := 48) d_M_lacks_47 rfl ki_2 ?_
        exact g_iret d_M_lacks_48 rfl rfl (by first | exact (if_pos h_6).symm | exact ((if_neg h_6).trans (if_neg h_20)).symm | exact ((if_neg h_6).trans ((if_pos h_20).trans (if_pos h_40))).symm | exact ((if_neg h_6).trans ((if_pos h_20).trans (if_neg h_40))).symm) rfl
      · -- F 40
        rw [bI_dn, rowin40 hn] at h_40
        refine s_iconst (v := 0) (q := 44) d_M_lacks_43 rfl ki_0 ?_
        refine s_goto (tgt := 48) d_M_lacks_44 (by decide) ?_
        exact g_iret d_M_lacks_48 rfl rfl (by first | exact (if_pos h_6).symm | exact ((if_neg h_6).trans (if_neg h_20)).symm | exact ((if_neg h_6).trans ((if_pos h_20).trans (if_pos h_40))).symm | exact ((if_neg h_6).trans ((if_pos h_20).trans (if_neg h_40))).symm) rfl
    · -- F 20
      refine s_iconst (v := 3) (q := 24) d_M_lacks_23 rfl ki_3 ?_
      refine s_goto (tgt := 48) d_M_lacks_24 (by decide) ?_
      exact g_iret d_M_lacks_48 rfl rfl (by first | exact (if_pos h_6).symm | exact ((if_neg h_6).trans (if_neg h_20)).symm | exact ((if_neg h_6).trans ((if_pos h_20).trans (if_pos h_40))).symm | exact ((if_neg h_6).trans ((if_pos h_20).trans (if_neg h_40))).symm) rfl
  · -- F 6
    refine s_iconst (v := 1) (q := 10) d_M_lacks_9 rfl ki_1 ?_
    refine s_goto (tgt := 48) d_M_lacks_10 (by decide) ?_
    exact g_iret d_M_lacks_48 rfl rfl (by first | exact (if_pos h_6).symm | exact ((if_neg h_6).trans (if_neg h_20)).symm | exact ((if_neg h_6).trans ((if_pos h_20).trans (if_pos h_40))).symm | exact ((if_neg h_6).trans ((if_pos h_20).trans (if_neg h_40))).symm) rfl
theorem t_M_lay {X : RAM} {k i : Nat} {v : Int32} (hk : k < 4) (hi : i < 40) : CG l D ac b y_M_lay c_M_lay 4 none 0 0 [.ref 122, .int (nI k), .int (nI i), .int v] X (none) (up2 X 142 (40 * k + i) (cutV (X 140 k) v)) := by
  refine Ct_of false (by decide) (fun h => by cases h) (Nat.le_of_ble_eq_true rfl) ?_
  show V l D ac b "SpanStoreModel" c_M_lay 4 none false 0 0 0 0 ((none), 144, mk (up2 X 142 (40 * k + i) (cutV (X 140 k) v))) 0 0 0 [(0, .ref 122), (1, .int (nI k)), (2, .int (nI i)), (3, .int v)] [] 144 (mk X)
  refine s_aload_n (q := 1) d_M_lay_0 rfl rfl (Or.inr ⟨_, rfl⟩) ?_
  refine g_getr (q := 4) d_M_lay_1 rfl fl_M_68 skM rfl ?_
  refine s_bipush (v := 40) (q := 6) d_M_lay_4 rfl kb_40 ?_
  refine s_iload_n (q := 7) d_M_lay_6 rfl rfl ?_
  refine s_imul (q := 8) d_M_lay_7 rfl ?_
  refine s_iload_n (q := 9) d_M_lay_8 rfl rfl ?_
  refine s_iadd (q := 10) d_M_lay_9 rfl ?_
  rw [ix40]
  refine s_aload_n (q := 11) d_M_lay_10 rfl rfl (Or.inr ⟨_, rfl⟩) ?_
  refine g_getr (q := 14) d_M_lay_11 rfl fl_M_62 skM rfl ?_
  refine s_iload_n (q := 15) d_M_lay_14 rfl rfl ?_
  refine g_iald (q := 16) d_M_lay_15 rfl sm_17 (by omega) rfl hk ?_
  refine s_if_ne (tgt := 24) (q := 19) d_M_lay_16 (by decide) rfl (fun h_16 => ?_) (fun h_16 => ?_)
  · -- T 16
    refine s_aload_n (q := 25) d_M_lay_24 rfl rfl (Or.inr ⟨_, rfl⟩) ?_
    refine g_getr (q := 28) d_M_lay_25 rfl fl_M_62 skM rfl ?_
    refine s_iload_n (q := 29) d_M_lay_28 rfl rfl ?_
    refine g_iald (q := 30) d_M_lay_29 rfl sm_17 (by omega) rfl hk ?_
    refine s_iconst (v := 1) (q := 31) d_M_lay_30 rfl ki_1 ?_
    refine s_icmp_ne (tgt := 39) (q := 34) d_M_lay_31 (by decide) rfl (fun h_31 => ?_) (fun h_31 => ?_)
    · -- T 31
      refine s_iload_n (q := 40) d_M_lay_39 rfl rfl ?_
      refine g_iast (q := 41) d_M_lay_40 rfl sm_19 (by omega) rfl (by omega) ?_
      exact g_ret d_M_lay_41 rfl (by simp [cutV, *])
    · -- F 31
      refine s_iload_n (q := 35) d_M_lay_34 rfl rfl ?_
      refine s_i2s (q := 36) d_M_lay_35 rfl ?_
      refine s_goto (tgt := 40) d_M_lay_36 (by decide) ?_
      refine g_iast (q := 41) d_M_lay_40 rfl sm_19 (by omega) rfl (by omega) ?_
      exact g_ret d_M_lay_41 rfl (by simp [cutV, *])
  · -- F 16
    refine s_iload_n (q := 20) d_M_lay_19 rfl rfl ?_
    refine s_i2b (q := 21) d_M_lay_20 rfl ?_
    refine s_goto (tgt := 40) d_M_lay_21 (by decide) ?_
    refine g_iast (q := 41) d_M_lay_40 rfl sm_19 (by omega) rfl (by omega) ?_
    exact g_ret d_M_lay_41 rfl (by simp [cutV, *])
theorem t_M_put_N {X : RAM} {x f i v : Int32} (hz : x < 0 ∨ 4 ≤ x) : CG l D ac b y_M_put c_M_put 6 (some .int) 2 45 [.ref 122, .int x, .int f, .int i, .int v] X (some (.int (-2))) (X) := by
  refine Ct_of false (by decide) (fun h => by cases h) (Nat.le_of_ble_eq_true rfl) ?_
  show V l D ac b "SpanStoreModel" c_M_put 6 (some .int) false 2 45 0 0 ((some (.int (-2))), 144, mk (X)) 0 0 0 [(0, .ref 122), (1, .int x), (2, .int f), (3, .int i), (4, .int v)] [] 144 (mk X)
  refine s_iload_n (q := 1) d_M_put_0 rfl rfl ?_
  refine g_callS (q := 4) d_M_put_1 rfl ml_M_93 mx_M_isSheet ms_M_isSheet t_M_isSheet rfl rfl (Nat.le_of_ble_eq_true rfl) (by decide) ?_
  refine s_if_eq (tgt := 16) (q := 7) d_M_put_4 (by decide) rfl (fun _ => ?_) (fun z9 => absurd (bI_d.mpr (niS hz)) z9)
  refine s_bipush (v := (-2)) (q := 18) d_M_put_16 rfl kb_m2 ?_
  exact g_iret d_M_put_18 rfl rfl rfl rfl
theorem t_M_put_F {X : RAM} {k : Nat} {f i v : Int32} (hk : k < 4) (hf : ¬ FrmOK f) : CG l D ac b y_M_put c_M_put 6 (some .int) 2 45 [.ref 122, .int (nI k), .int f, .int i, .int v] X (some (.int (-2))) (X) := by
  refine Ct_of false (by decide) (fun h => by cases h) (Nat.le_of_ble_eq_true rfl) ?_
  show V l D ac b "SpanStoreModel" c_M_put 6 (some .int) false 2 45 0 0 ((some (.int (-2))), 144, mk (X)) 0 0 0 [(0, .ref 122), (1, .int (nI k)), (2, .int f), (3, .int i), (4, .int v)] [] 144 (mk X)
  refine s_iload_n (q := 1) d_M_put_0 rfl rfl ?_
  refine g_callS (q := 4) d_M_put_1 rfl ml_M_93 mx_M_isSheet ms_M_isSheet t_M_isSheet rfl rfl (Nat.le_of_ble_eq_true rfl) (by decide) ?_
  refine s_if_eq (tgt := 16) (q := 7) d_M_put_4 (by decide) rfl (fun z9 => absurd z9 (bI_dn.mpr (inS hk))) (fun _ => ?_)
  refine s_iload_n (q := 8) d_M_put_7 rfl rfl ?_
  refine s_iconst (v := 0) (q := 9) d_M_put_8 rfl ki_0 ?_
  refine s_iconst (v := 2) (q := 10) d_M_put_9 rfl ki_2 ?_
  refine g_callS (q := 13) d_M_put_10 rfl ml_M_74 mx_M_in ms_M_in t_M_in rfl rfl (Nat.le_of_ble_eq_true rfl) (by decide) ?_
  refine s_if_ne (tgt := 19) (q := 16) d_M_put_13 (by decide) rfl (fun z9 => absurd (bI_d.mpr (fun z => hf (frm2.mp z))) z9) (fun _ => ?_)
  refine s_bipush (v := (-2)) (q := 18) d_M_put_16 rfl kb_m2 ?_
  exact g_iret d_M_put_18 rfl rfl rfl rfl
theorem t_M_put_1 {X : RAM} {k n : Nat} {f i v : Int32} (hk : k < 4) (hf : FrmOK f) (hz : X 141 k = nI n) (hn : n ≤ 40) (hq : lkV X k n f i = 1) : CG l D ac b y_M_put c_M_put 6 (some .int) 2 45 [.ref 122, .int (nI k), .int f, .int i, .int v] X (some (.int (-11))) (up2 X 122 22 1) := by
  refine Ct_of false (by decide) (fun h => by cases h) (Nat.le_of_ble_eq_true rfl) ?_
  show V l D ac b "SpanStoreModel" c_M_put 6 (some .int) false 2 45 0 0 ((some (.int (-11))), 144, mk (up2 X 122 22 1)) 0 0 0 [(0, .ref 122), (1, .int (nI k)), (2, .int f), (3, .int i), (4, .int v)] [] 144 (mk X)
  refine s_iload_n (q := 1) d_M_put_0 rfl rfl ?_
  refine g_callS (q := 4) d_M_put_1 rfl ml_M_93 mx_M_isSheet ms_M_isSheet t_M_isSheet rfl rfl (Nat.le_of_ble_eq_true rfl) (by decide) ?_
  refine s_if_eq (tgt := 16) (q := 7) d_M_put_4 (by decide) rfl (fun z9 => absurd z9 (bI_dn.mpr (inS hk))) (fun _ => ?_)
  refine s_iload_n (q := 8) d_M_put_7 rfl rfl ?_
  refine s_iconst (v := 0) (q := 9) d_M_put_8 rfl ki_0 ?_
  refine s_iconst (v := 2) (q := 10) d_M_put_9 rfl ki_2 ?_
  refine g_callS (q := 13) d_M_put_10 rfl ml_M_74 mx_M_in ms_M_in t_M_in rfl rfl (Nat.le_of_ble_eq_true rfl) (by decide) ?_
  refine s_if_ne (tgt := 19) (q := 16) d_M_put_13 (by decide) rfl (fun _ => ?_) (fun z9 => absurd z9 (bI_dn.mpr (frm2.mpr hf)))
  refine s_aload_n (q := 20) d_M_put_19 rfl rfl (Or.inr ⟨_, rfl⟩) ?_
  refine s_iload_n (q := 21) d_M_put_20 rfl rfl ?_
  refine s_iload_n (q := 22) d_M_put_21 rfl rfl ?_
  refine s_iload_n (q := 23) d_M_put_22 rfl rfl ?_
  refine g_callV (q := 26) d_M_put_23 rfl ml_M_182 mx_M_lacks mv_M_lacks (t_M_lacks hk hz hn) skM rfl rfl (Nat.le_of_ble_eq_true rfl) (by decide) ?_
  rw [hq]
  refine s_istore (q := 28) d_M_put_26 rfl (by decide) ?_
  refine s_iload (q := 30) d_M_put_28 rfl rfl ?_
  refine s_if_le (tgt := 40) (q := 33) d_M_put_30 (by decide) rfl (fun z9 => absurd z9 (by decide)) (fun _ => ?_)
  refine s_aload_n (q := 34) d_M_put_33 rfl rfl (Or.inr ⟨_, rfl⟩) ?_
  refine s_iload (q := 36) d_M_put_34 rfl rfl ?_
  refine g_callV (q := 39) d_M_put_36 rfl ml_M_96 mx_M_meets mv_M_meets t_M_meets skM rfl rfl (Nat.le_of_ble_eq_true rfl) (by decide) ?_
  exact g_iret d_M_put_39 rfl rfl (by decide) rfl
theorem t_M_put_2 {X : RAM} {k n : Nat} {f i v : Int32} (hk : k < 4) (hf : FrmOK f) (hz : X 141 k = nI n) (hn : n ≤ 40) (hq : lkV X k n f i = 2) : CG l D ac b y_M_put c_M_put 6 (some .int) 2 45 [.ref 122, .int (nI k), .int f, .int i, .int v] X (some (.int (-12))) (up2 X 122 22 2) := by
  refine Ct_of false (by decide) (fun h => by cases h) (Nat.le_of_ble_eq_true rfl) ?_
  show V l D ac b "SpanStoreModel" c_M_put 6 (some .int) false 2 45 0 0 ((some (.int (-12))), 144, mk (up2 X 122 22 2)) 0 0 0 [(0, .ref 122), (1, .int (nI k)), (2, .int f), (3, .int i), (4, .int v)] [] 144 (mk X)
  refine s_iload_n (q := 1) d_M_put_0 rfl rfl ?_
  refine g_callS (q := 4) d_M_put_1 rfl ml_M_93 mx_M_isSheet ms_M_isSheet t_M_isSheet rfl rfl (Nat.le_of_ble_eq_true rfl) (by decide) ?_
  refine s_if_eq (tgt := 16) (q := 7) d_M_put_4 (by decide) rfl (fun z9 => absurd z9 (bI_dn.mpr (inS hk))) (fun _ => ?_)
  refine s_iload_n (q := 8) d_M_put_7 rfl rfl ?_
  refine s_iconst (v := 0) (q := 9) d_M_put_8 rfl ki_0 ?_
  refine s_iconst (v := 2) (q := 10) d_M_put_9 rfl ki_2 ?_
  refine g_callS (q := 13) d_M_put_10 rfl ml_M_74 mx_M_in ms_M_in t_M_in rfl rfl (Nat.le_of_ble_eq_true rfl) (by decide) ?_
  refine s_if_ne (tgt := 19) (q := 16) d_M_put_13 (by decide) rfl (fun _ => ?_) (fun z9 => absurd z9 (bI_dn.mpr (frm2.mpr hf)))
  refine s_aload_n (q := 20) d_M_put_19 rfl rfl (Or.inr ⟨_, rfl⟩) ?_
  refine s_iload_n (q := 21) d_M_put_20 rfl rfl ?_
  refine s_iload_n (q := 22) d_M_put_21 rfl rfl ?_
  refine s_iload_n (q := 23) d_M_put_22 rfl rfl ?_
  refine g_callV (q := 26) d_M_put_23 rfl ml_M_182 mx_M_lacks mv_M_lacks (t_M_lacks hk hz hn) skM rfl rfl (Nat.le_of_ble_eq_true rfl) (by decide) ?_
  rw [hq]
  refine s_istore (q := 28) d_M_put_26 rfl (by decide) ?_
  refine s_iload (q := 30) d_M_put_28 rfl rfl ?_
  refine s_if_le (tgt := 40) (q := 33) d_M_put_30 (by decide) rfl (fun z9 => absurd z9 (by decide)) (fun _ => ?_)
  refine s_aload_n (q := 34) d_M_put_33 rfl rfl (Or.inr ⟨_, rfl⟩) ?_
  refine s_iload (q := 36) d_M_put_34 rfl rfl ?_
  refine g_callV (q := 39) d_M_put_36 rfl ml_M_96 mx_M_meets mv_M_meets t_M_meets skM rfl rfl (Nat.le_of_ble_eq_true rfl) (by decide) ?_
  exact g_iret d_M_put_39 rfl rfl (by decide) rfl
theorem t_M_put_3 {X : RAM} {k n : Nat} {f i v : Int32} (hk : k < 4) (hf : FrmOK f) (hz : X 141 k = nI n) (hn : n ≤ 40) (hq : lkV X k n f i = 3) : CG l D ac b y_M_put c_M_put 6 (some .int) 2 45 [.ref 122, .int (nI k), .int f, .int i, .int v] X (some (.int (-13))) (up2 X 122 22 3) := by
  refine Ct_of false (by decide) (fun h => by cases h) (Nat.le_of_ble_eq_true rfl) ?_
  show V l D ac b "SpanStoreModel" c_M_put 6 (some .int) false 2 45 0 0 ((some (.int (-13))), 144, mk (up2 X 122 22 3)) 0 0 0 [(0, .ref 122), (1, .int (nI k)), (2, .int f), (3, .int i), (4, .int v)] [] 144 (mk X)
  refine s_iload_n (q := 1) d_M_put_0 rfl rfl ?_
  refine g_callS (q := 4) d_M_put_1 rfl ml_M_93 mx_M_isSheet ms_M_isSheet t_M_isSheet rfl rfl (Nat.le_of_ble_eq_true rfl) (by decide) ?_
  refine s_if_eq (tgt := 16) (q := 7) d_M_put_4 (by decide) rfl (fun z9 => absurd z9 (bI_dn.mpr (inS hk))) (fun _ => ?_)
  refine s_iload_n (q := 8) d_M_put_7 rfl rfl ?_
  refine s_iconst (v := 0) (q := 9) d_M_put_8 rfl ki_0 ?_
  refine s_iconst (v := 2) (q := 10) d_M_put_9 rfl ki_2 ?_
  refine g_callS (q := 13) d_M_put_10 rfl ml_M_74 mx_M_in ms_M_in t_M_in rfl rfl (Nat.le_of_ble_eq_true rfl) (by decide) ?_
  refine s_if_ne (tgt := 19) (q := 16) d_M_put_13 (by decide) rfl (fun _ => ?_) (fun z9 => absurd z9 (bI_dn.mpr (frm2.mpr hf)))
  refine s_aload_n (q := 20) d_M_put_19 rfl rfl (Or.inr ⟨_, rfl⟩) ?_
  refine s_iload_n (q := 21) d_M_put_20 rfl rfl ?_
  refine s_iload_n (q := 22) d_M_put_21 rfl rfl ?_
  refine s_iload_n (q := 23) d_M_put_22 rfl rfl ?_
  refine g_callV (q := 26) d_M_put_23 rfl ml_M_182 mx_M_lacks mv_M_lacks (t_M_lacks hk hz hn) skM rfl rfl (Nat.le_of_ble_eq_true rfl) (by decide) ?_
  rw [hq]
  refine s_istore (q := 28) d_M_put_26 rfl (by decide) ?_
  refine s_iload (q := 30) d_M_put_28 rfl rfl ?_
  refine s_if_le (tgt := 40) (q := 33) d_M_put_30 (by decide) rfl (fun z9 => absurd z9 (by decide)) (fun _ => ?_)
  refine s_aload_n (q := 34) d_M_put_33 rfl rfl (Or.inr ⟨_, rfl⟩) ?_
  refine s_iload (q := 36) d_M_put_34 rfl rfl ?_
  refine g_callV (q := 39) d_M_put_36 rfl ml_M_96 mx_M_meets mv_M_meets t_M_meets skM rfl rfl (Nat.le_of_ble_eq_true rfl) (by decide) ?_
  exact g_iret d_M_put_39 rfl rfl (by decide) rfl
theorem t_M_get_N {X : RAM} {x f i : Int32} (hz : x < 0 ∨ 4 ≤ x) : CG l D ac b y_M_get c_M_get 5 (some .int) 2 45 [.ref 122, .int x, .int f, .int i] X (some (.int (-2147483648))) (X) := by
  refine Ct_of false (by decide) (fun h => by cases h) (Nat.le_of_ble_eq_true rfl) ?_
  show V l D ac b "SpanStoreModel" c_M_get 5 (some .int) false 2 45 0 0 ((some (.int (-2147483648))), 144, mk (X)) 0 0 0 [(0, .ref 122), (1, .int x), (2, .int f), (3, .int i)] [] 144 (mk X)
  refine s_iload_n (q := 1) d_M_get_0 rfl rfl ?_
  refine g_callS (q := 4) d_M_get_1 rfl ml_M_93 mx_M_isSheet ms_M_isSheet t_M_isSheet rfl rfl (Nat.le_of_ble_eq_true rfl) (by decide) ?_
  refine s_if_eq (tgt := 16) (q := 7) d_M_get_4 (by decide) rfl (fun _ => ?_) (fun z9 => absurd (bI_d.mpr (niS hz)) z9)
  refine s_ldc (q := 18) d_M_get_16 rfl kc_M_129 ?_
  exact g_iret d_M_get_18 rfl rfl rfl rfl
theorem t_M_get_F {X : RAM} {k : Nat} {f i : Int32} (hk : k < 4) (hf : ¬ FrmOK f) : CG l D ac b y_M_get c_M_get 5 (some .int) 2 45 [.ref 122, .int (nI k), .int f, .int i] X (some (.int (-2147483648))) (X) := by
  refine Ct_of false (by decide) (fun h => by cases h) (Nat.le_of_ble_eq_true rfl) ?_
  show V l D ac b "SpanStoreModel" c_M_get 5 (some .int) false 2 45 0 0 ((some (.int (-2147483648))), 144, mk (X)) 0 0 0 [(0, .ref 122), (1, .int (nI k)), (2, .int f), (3, .int i)] [] 144 (mk X)
  refine s_iload_n (q := 1) d_M_get_0 rfl rfl ?_
  refine g_callS (q := 4) d_M_get_1 rfl ml_M_93 mx_M_isSheet ms_M_isSheet t_M_isSheet rfl rfl (Nat.le_of_ble_eq_true rfl) (by decide) ?_
  refine s_if_eq (tgt := 16) (q := 7) d_M_get_4 (by decide) rfl (fun z9 => absurd z9 (bI_dn.mpr (inS hk))) (fun _ => ?_)
  refine s_iload_n (q := 8) d_M_get_7 rfl rfl ?_
  refine s_iconst (v := 0) (q := 9) d_M_get_8 rfl ki_0 ?_
  refine s_iconst (v := 2) (q := 10) d_M_get_9 rfl ki_2 ?_
  refine g_callS (q := 13) d_M_get_10 rfl ml_M_74 mx_M_in ms_M_in t_M_in rfl rfl (Nat.le_of_ble_eq_true rfl) (by decide) ?_
  refine s_if_ne (tgt := 19) (q := 16) d_M_get_13 (by decide) rfl (fun z9 => absurd (bI_d.mpr (fun z => hf (frm2.mp z))) z9) (fun _ => ?_)
  refine s_ldc (q := 18) d_M_get_16 rfl kc_M_129 ?_
  exact g_iret d_M_get_18 rfl rfl rfl rfl
theorem t_M_get_1 {X : RAM} {k n : Nat} {f i : Int32} (hk : k < 4) (hf : FrmOK f) (hz : X 141 k = nI n) (hn : n ≤ 40) (hq : lkV X k n f i = 1) : CG l D ac b y_M_get c_M_get 5 (some .int) 2 45 [.ref 122, .int (nI k), .int f, .int i] X (some (.int (-2147483648))) (up2 X 122 22 1) := by
  refine Ct_of false (by decide) (fun h => by cases h) (Nat.le_of_ble_eq_true rfl) ?_
  show V l D ac b "SpanStoreModel" c_M_get 5 (some .int) false 2 45 0 0 ((some (.int (-2147483648))), 144, mk (up2 X 122 22 1)) 0 0 0 [(0, .ref 122), (1, .int (nI k)), (2, .int f), (3, .int i)] [] 144 (mk X)
  refine s_iload_n (q := 1) d_M_get_0 rfl rfl ?_
  refine g_callS (q := 4) d_M_get_1 rfl ml_M_93 mx_M_isSheet ms_M_isSheet t_M_isSheet rfl rfl (Nat.le_of_ble_eq_true rfl) (by decide) ?_
  refine s_if_eq (tgt := 16) (q := 7) d_M_get_4 (by decide) rfl (fun z9 => absurd z9 (bI_dn.mpr (inS hk))) (fun _ => ?_)
  refine s_iload_n (q := 8) d_M_get_7 rfl rfl ?_
  refine s_iconst (v := 0) (q := 9) d_M_get_8 rfl ki_0 ?_
  refine s_iconst (v := 2) (q := 10) d_M_get_9 rfl ki_2 ?_
  refine g_callS (q := 13) d_M_get_10 rfl ml_M_74 mx_M_in ms_M_in t_M_in rfl rfl (Nat.le_of_ble_eq_true rfl) (by decide) ?_
  refine s_if_ne (tgt := 19) (q := 16) d_M_get_13 (by decide) rfl (fun _ => ?_) (fun z9 => absurd z9 (bI_dn.mpr (frm2.mpr hf)))
  refine s_aload_n (q := 20) d_M_get_19 rfl rfl (Or.inr ⟨_, rfl⟩) ?_
  refine s_iload_n (q := 21) d_M_get_20 rfl rfl ?_
  refine s_iload_n (q := 22) d_M_get_21 rfl rfl ?_
  refine s_iload_n (q := 23) d_M_get_22 rfl rfl ?_
  refine g_callV (q := 26) d_M_get_23 rfl ml_M_182 mx_M_lacks mv_M_lacks (t_M_lacks hk hz hn) skM rfl rfl (Nat.le_of_ble_eq_true rfl) (by decide) ?_
  rw [hq]
  refine s_istore (q := 28) d_M_get_26 rfl (by decide) ?_
  refine s_iload (q := 30) d_M_get_28 rfl rfl ?_
  refine s_if_le (tgt := 42) (q := 33) d_M_get_30 (by decide) rfl (fun z9 => absurd z9 (by decide)) (fun _ => ?_)
  refine s_aload_n (q := 34) d_M_get_33 rfl rfl (Or.inr ⟨_, rfl⟩) ?_
  refine s_iload (q := 36) d_M_get_34 rfl rfl ?_
  refine g_puti (q := 39) d_M_get_36 rfl fl_M_179 rfl (okV_int _) skM rfl ?_
  refine s_ldc (q := 41) d_M_get_39 rfl kc_M_129 ?_
  exact g_iret d_M_get_41 rfl rfl rfl rfl
theorem t_M_get_2 {X : RAM} {k n : Nat} {f i : Int32} (hk : k < 4) (hf : FrmOK f) (hz : X 141 k = nI n) (hn : n ≤ 40) (hq : lkV X k n f i = 2) : CG l D ac b y_M_get c_M_get 5 (some .int) 2 45 [.ref 122, .int (nI k), .int f, .int i] X (some (.int (-2147483648))) (up2 X 122 22 2) := by
  refine Ct_of false (by decide) (fun h => by cases h) (Nat.le_of_ble_eq_true rfl) ?_
  show V l D ac b "SpanStoreModel" c_M_get 5 (some .int) false 2 45 0 0 ((some (.int (-2147483648))), 144, mk (up2 X 122 22 2)) 0 0 0 [(0, .ref 122), (1, .int (nI k)), (2, .int f), (3, .int i)] [] 144 (mk X)
  refine s_iload_n (q := 1) d_M_get_0 rfl rfl ?_
  refine g_callS (q := 4) d_M_get_1 rfl ml_M_93 mx_M_isSheet ms_M_isSheet t_M_isSheet rfl rfl (Nat.le_of_ble_eq_true rfl) (by decide) ?_
  refine s_if_eq (tgt := 16) (q := 7) d_M_get_4 (by decide) rfl (fun z9 => absurd z9 (bI_dn.mpr (inS hk))) (fun _ => ?_)
  refine s_iload_n (q := 8) d_M_get_7 rfl rfl ?_
  refine s_iconst (v := 0) (q := 9) d_M_get_8 rfl ki_0 ?_
  refine s_iconst (v := 2) (q := 10) d_M_get_9 rfl ki_2 ?_
  refine g_callS (q := 13) d_M_get_10 rfl ml_M_74 mx_M_in ms_M_in t_M_in rfl rfl (Nat.le_of_ble_eq_true rfl) (by decide) ?_
  refine s_if_ne (tgt := 19) (q := 16) d_M_get_13 (by decide) rfl (fun _ => ?_) (fun z9 => absurd z9 (bI_dn.mpr (frm2.mpr hf)))
  refine s_aload_n (q := 20) d_M_get_19 rfl rfl (Or.inr ⟨_, rfl⟩) ?_
  refine s_iload_n (q := 21) d_M_get_20 rfl rfl ?_
  refine s_iload_n (q := 22) d_M_get_21 rfl rfl ?_
  refine s_iload_n (q := 23) d_M_get_22 rfl rfl ?_
  refine g_callV (q := 26) d_M_get_23 rfl ml_M_182 mx_M_lacks mv_M_lacks (t_M_lacks hk hz hn) skM rfl rfl (Nat.le_of_ble_eq_true rfl) (by decide) ?_
  rw [hq]
  refine s_istore (q := 28) d_M_get_26 rfl (by decide) ?_
  refine s_iload (q := 30) d_M_get_28 rfl rfl ?_
  refine s_if_le (tgt := 42) (q := 33) d_M_get_30 (by decide) rfl (fun z9 => absurd z9 (by decide)) (fun _ => ?_)
  refine s_aload_n (q := 34) d_M_get_33 rfl rfl (Or.inr ⟨_, rfl⟩) ?_
  refine s_iload (q := 36) d_M_get_34 rfl rfl ?_
  refine g_puti (q := 39) d_M_get_36 rfl fl_M_179 rfl (okV_int _) skM rfl ?_
  refine s_ldc (q := 41) d_M_get_39 rfl kc_M_129 ?_
  exact g_iret d_M_get_41 rfl rfl rfl rfl
theorem t_M_get_3 {X : RAM} {k n : Nat} {f i : Int32} (hk : k < 4) (hf : FrmOK f) (hz : X 141 k = nI n) (hn : n ≤ 40) (hq : lkV X k n f i = 3) : CG l D ac b y_M_get c_M_get 5 (some .int) 2 45 [.ref 122, .int (nI k), .int f, .int i] X (some (.int (-2147483648))) (up2 X 122 22 3) := by
  refine Ct_of false (by decide) (fun h => by cases h) (Nat.le_of_ble_eq_true rfl) ?_
  show V l D ac b "SpanStoreModel" c_M_get 5 (some .int) false 2 45 0 0 ((some (.int (-2147483648))), 144, mk (up2 X 122 22 3)) 0 0 0 [(0, .ref 122), (1, .int (nI k)), (2, .int f), (3, .int i)] [] 144 (mk X)
  refine s_iload_n (q := 1) d_M_get_0 rfl rfl ?_
  refine g_callS (q := 4) d_M_get_1 rfl ml_M_93 mx_M_isSheet ms_M_isSheet t_M_isSheet rfl rfl (Nat.le_of_ble_eq_true rfl) (by decide) ?_
  refine s_if_eq (tgt := 16) (q := 7) d_M_get_4 (by decide) rfl (fun z9 => absurd z9 (bI_dn.mpr (inS hk))) (fun _ => ?_)
  refine s_iload_n (q := 8) d_M_get_7 rfl rfl ?_
  refine s_iconst (v := 0) (q := 9) d_M_get_8 rfl ki_0 ?_
  refine s_iconst (v := 2) (q := 10) d_M_get_9 rfl ki_2 ?_
  refine g_callS (q := 13) d_M_get_10 rfl ml_M_74 mx_M_in ms_M_in t_M_in rfl rfl (Nat.le_of_ble_eq_true rfl) (by decide) ?_
  refine s_if_ne (tgt := 19) (q := 16) d_M_get_13 (by decide) rfl (fun _ => ?_) (fun z9 => absurd z9 (bI_dn.mpr (frm2.mpr hf)))
  refine s_aload_n (q := 20) d_M_get_19 rfl rfl (Or.inr ⟨_, rfl⟩) ?_
  refine s_iload_n (q := 21) d_M_get_20 rfl rfl ?_
  refine s_iload_n (q := 22) d_M_get_21 rfl rfl ?_
  refine s_iload_n (q := 23) d_M_get_22 rfl rfl ?_
  refine g_callV (q := 26) d_M_get_23 rfl ml_M_182 mx_M_lacks mv_M_lacks (t_M_lacks hk hz hn) skM rfl rfl (Nat.le_of_ble_eq_true rfl) (by decide) ?_
  rw [hq]
  refine s_istore (q := 28) d_M_get_26 rfl (by decide) ?_
  refine s_iload (q := 30) d_M_get_28 rfl rfl ?_
  refine s_if_le (tgt := 42) (q := 33) d_M_get_30 (by decide) rfl (fun z9 => absurd z9 (by decide)) (fun _ => ?_)
  refine s_aload_n (q := 34) d_M_get_33 rfl rfl (Or.inr ⟨_, rfl⟩) ?_
  refine s_iload (q := 36) d_M_get_34 rfl rfl ?_
  refine g_puti (q := 39) d_M_get_36 rfl fl_M_179 rfl (okV_int _) skM rfl ?_
  refine s_ldc (q := 41) d_M_get_39 rfl kc_M_129 ?_
  exact g_iret d_M_get_41 rfl rfl rfl rfl
theorem t_M_put_D {X : RAM} {k n i : Nat} {f v : Int32} (hk : k < 4) (hf : FrmOK f) (hz : X 141 k = nI n) (hn : n ≤ 40) (hi : i < n) (hq : lkV X k n f (nI i) = 0) : CG l D ac b y_M_put c_M_put 6 (some .int) 2 45 [.ref 122, .int (nI k), .int f, .int (nI i), .int v] X (some (.int 1)) (up2 X 142 (40 * k + i) (cutV (X 140 k) v)) := by
  refine Ct_of false (by decide) (fun h => by cases h) (Nat.le_of_ble_eq_true rfl) ?_
  show V l D ac b "SpanStoreModel" c_M_put 6 (some .int) false 2 45 0 0 ((some (.int 1)), 144, mk (up2 X 142 (40 * k + i) (cutV (X 140 k) v))) 0 0 0 [(0, .ref 122), (1, .int (nI k)), (2, .int f), (3, .int (nI i)), (4, .int v)] [] 144 (mk X)
  refine s_iload_n (q := 1) d_M_put_0 rfl rfl ?_
  refine g_callS (q := 4) d_M_put_1 rfl ml_M_93 mx_M_isSheet ms_M_isSheet t_M_isSheet rfl rfl (Nat.le_of_ble_eq_true rfl) (by decide) ?_
  refine s_if_eq (tgt := 16) (q := 7) d_M_put_4 (by decide) rfl (fun z9 => absurd z9 (bI_dn.mpr (inS hk))) (fun _ => ?_)
  refine s_iload_n (q := 8) d_M_put_7 rfl rfl ?_
  refine s_iconst (v := 0) (q := 9) d_M_put_8 rfl ki_0 ?_
  refine s_iconst (v := 2) (q := 10) d_M_put_9 rfl ki_2 ?_
  refine g_callS (q := 13) d_M_put_10 rfl ml_M_74 mx_M_in ms_M_in t_M_in rfl rfl (Nat.le_of_ble_eq_true rfl) (by decide) ?_
  refine s_if_ne (tgt := 19) (q := 16) d_M_put_13 (by decide) rfl (fun _ => ?_) (fun z9 => absurd z9 (bI_dn.mpr (frm2.mpr hf)))
  refine s_aload_n (q := 20) d_M_put_19 rfl rfl (Or.inr ⟨_, rfl⟩) ?_
  refine s_iload_n (q := 21) d_M_put_20 rfl rfl ?_
  refine s_iload_n (q := 22) d_M_put_21 rfl rfl ?_
  refine s_iload_n (q := 23) d_M_put_22 rfl rfl ?_
  refine g_callV (q := 26) d_M_put_23 rfl ml_M_182 mx_M_lacks mv_M_lacks (t_M_lacks hk hz hn) skM rfl rfl (Nat.le_of_ble_eq_true rfl) (by decide) ?_
  rw [hq]
  refine s_istore (q := 28) d_M_put_26 rfl (by decide) ?_
  refine s_iload (q := 30) d_M_put_28 rfl rfl ?_
  refine s_if_le (tgt := 40) (q := 33) d_M_put_30 (by decide) rfl (fun _ => ?_) (fun z9 => absurd (by decide) z9)
  refine s_aload_n (q := 41) d_M_put_40 rfl rfl (Or.inr ⟨_, rfl⟩) ?_
  refine s_iload_n (q := 42) d_M_put_41 rfl rfl ?_
  refine s_iload_n (q := 43) d_M_put_42 rfl rfl ?_
  refine s_iload (q := 45) d_M_put_43 rfl rfl ?_
  refine g_callV (q := 48) d_M_put_45 rfl ml_M_186 mx_M_lay mv_M_lay (t_M_lay hk (by omega)) skM rfl rfl (Nat.le_of_ble_eq_true rfl) (by decide) ?_
  refine s_iconst (v := 1) (q := 49) d_M_put_48 rfl ki_1 ?_
  exact g_iret d_M_put_49 rfl rfl rfl rfl
theorem t_M_get_D {X : RAM} {k n i : Nat} {f : Int32} (hk : k < 4) (hf : FrmOK f) (hz : X 141 k = nI n) (hn : n ≤ 40) (hi : i < n) (hq : lkV X k n f (nI i) = 0) : CG l D ac b y_M_get c_M_get 5 (some .int) 2 45 [.ref 122, .int (nI k), .int f, .int (nI i)] X (some (.int (X 142 (40 * k + i)))) (X) := by
  refine Ct_of false (by decide) (fun h => by cases h) (Nat.le_of_ble_eq_true rfl) ?_
  show V l D ac b "SpanStoreModel" c_M_get 5 (some .int) false 2 45 0 0 ((some (.int (X 142 (40 * k + i)))), 144, mk (X)) 0 0 0 [(0, .ref 122), (1, .int (nI k)), (2, .int f), (3, .int (nI i))] [] 144 (mk X)
  refine s_iload_n (q := 1) d_M_get_0 rfl rfl ?_
  refine g_callS (q := 4) d_M_get_1 rfl ml_M_93 mx_M_isSheet ms_M_isSheet t_M_isSheet rfl rfl (Nat.le_of_ble_eq_true rfl) (by decide) ?_
  refine s_if_eq (tgt := 16) (q := 7) d_M_get_4 (by decide) rfl (fun z9 => absurd z9 (bI_dn.mpr (inS hk))) (fun _ => ?_)
  refine s_iload_n (q := 8) d_M_get_7 rfl rfl ?_
  refine s_iconst (v := 0) (q := 9) d_M_get_8 rfl ki_0 ?_
  refine s_iconst (v := 2) (q := 10) d_M_get_9 rfl ki_2 ?_
  refine g_callS (q := 13) d_M_get_10 rfl ml_M_74 mx_M_in ms_M_in t_M_in rfl rfl (Nat.le_of_ble_eq_true rfl) (by decide) ?_
  refine s_if_ne (tgt := 19) (q := 16) d_M_get_13 (by decide) rfl (fun _ => ?_) (fun z9 => absurd z9 (bI_dn.mpr (frm2.mpr hf)))
  refine s_aload_n (q := 20) d_M_get_19 rfl rfl (Or.inr ⟨_, rfl⟩) ?_
  refine s_iload_n (q := 21) d_M_get_20 rfl rfl ?_
  refine s_iload_n (q := 22) d_M_get_21 rfl rfl ?_
  refine s_iload_n (q := 23) d_M_get_22 rfl rfl ?_
  refine g_callV (q := 26) d_M_get_23 rfl ml_M_182 mx_M_lacks mv_M_lacks (t_M_lacks hk hz hn) skM rfl rfl (Nat.le_of_ble_eq_true rfl) (by decide) ?_
  rw [hq]
  refine s_istore (q := 28) d_M_get_26 rfl (by decide) ?_
  refine s_iload (q := 30) d_M_get_28 rfl rfl ?_
  refine s_if_le (tgt := 42) (q := 33) d_M_get_30 (by decide) rfl (fun _ => ?_) (fun z9 => absurd (by decide) z9)
  refine s_aload_n (q := 43) d_M_get_42 rfl rfl (Or.inr ⟨_, rfl⟩) ?_
  refine g_getr (q := 46) d_M_get_43 rfl fl_M_68 skM rfl ?_
  refine s_bipush (v := 40) (q := 48) d_M_get_46 rfl kb_40 ?_
  refine s_iload_n (q := 49) d_M_get_48 rfl rfl ?_
  refine s_imul (q := 50) d_M_get_49 rfl ?_
  refine s_iload_n (q := 51) d_M_get_50 rfl rfl ?_
  refine s_iadd (q := 52) d_M_get_51 rfl ?_
  refine g_iald (q := 53) d_M_get_52 rfl sm_19 (by omega) (ix40 _ _) (by omega) ?_
  exact g_iret d_M_get_53 rfl rfl rfl rfl
theorem t_M_copy_S {X : RAM} {s i u w n : Int32} (hz : s < 0 ∨ 4 ≤ s) : CG l D ac b y_M_copy c_M_copy 7 (some .int) 2 42 [.ref 122, .int s, .int i, .int u, .int w, .int n] X (some (.int (-2))) (X) := by
  refine Ct_of false (by decide) (fun h => by cases h) (Nat.le_of_ble_eq_true rfl) ?_
  show V l D ac b "SpanStoreModel" c_M_copy 7 (some .int) false 2 42 0 0 ((some (.int (-2))), 144, mk (X)) 0 0 0 [(0, .ref 122), (1, .int s), (2, .int i), (3, .int u), (4, .int w), (5, .int n)] [] 144 (mk X)
  refine s_iload_n (q := 1) d_M_copy_0 rfl rfl ?_
  refine g_callS (q := 4) d_M_copy_1 rfl ml_M_93 mx_M_isSheet ms_M_isSheet t_M_isSheet rfl rfl (Nat.le_of_ble_eq_true rfl) (by decide) ?_
  refine s_if_eq (tgt := 14) (q := 7) d_M_copy_4 (by decide) rfl (fun _ => ?_) (fun z9 => absurd (bI_d.mpr (niS hz)) z9)
  refine s_bipush (v := (-2)) (q := 16) d_M_copy_14 rfl kb_m2 ?_
  exact g_iret d_M_copy_16 rfl rfl rfl rfl
theorem t_M_copy_U {X : RAM} {s : Nat} {i u w n : Int32} (hs : s < 4) (hz : u < 0 ∨ 4 ≤ u) : CG l D ac b y_M_copy c_M_copy 7 (some .int) 2 42 [.ref 122, .int (nI s), .int i, .int u, .int w, .int n] X (some (.int (-2))) (X) := by
  refine Ct_of false (by decide) (fun h => by cases h) (Nat.le_of_ble_eq_true rfl) ?_
  show V l D ac b "SpanStoreModel" c_M_copy 7 (some .int) false 2 42 0 0 ((some (.int (-2))), 144, mk (X)) 0 0 0 [(0, .ref 122), (1, .int (nI s)), (2, .int i), (3, .int u), (4, .int w), (5, .int n)] [] 144 (mk X)
  refine s_iload_n (q := 1) d_M_copy_0 rfl rfl ?_
  refine g_callS (q := 4) d_M_copy_1 rfl ml_M_93 mx_M_isSheet ms_M_isSheet t_M_isSheet rfl rfl (Nat.le_of_ble_eq_true rfl) (by decide) ?_
  refine s_if_eq (tgt := 14) (q := 7) d_M_copy_4 (by decide) rfl (fun z9 => absurd z9 (bI_dn.mpr (inS hs))) (fun _ => ?_)
  refine s_iload_n (q := 8) d_M_copy_7 rfl rfl ?_
  refine g_callS (q := 11) d_M_copy_8 rfl ml_M_93 mx_M_isSheet ms_M_isSheet t_M_isSheet rfl rfl (Nat.le_of_ble_eq_true rfl) (by decide) ?_
  refine s_if_ne (tgt := 17) (q := 14) d_M_copy_11 (by decide) rfl (fun z9 => absurd (bI_d.mpr (niS hz)) z9) (fun _ => ?_)
  refine s_bipush (v := (-2)) (q := 16) d_M_copy_14 rfl kb_m2 ?_
  exact g_iret d_M_copy_16 rfl rfl rfl rfl
theorem t_M_copy_L {X : RAM} {s u : Nat} {i w n : Int32} (hs : s < 4) (hu : u < 4) (hl : ¬ (¬ X 139 s = 0 ∧ ¬ X 139 u = 0)) : CG l D ac b y_M_copy c_M_copy 7 (some .int) 2 42 [.ref 122, .int (nI s), .int i, .int (nI u), .int w, .int n] X (some (.int (-11))) (up2 X 122 22 1) := by
  refine Ct_of false (by decide) (fun h => by cases h) (Nat.le_of_ble_eq_true rfl) ?_
  show V l D ac b "SpanStoreModel" c_M_copy 7 (some .int) false 2 42 0 0 ((some (.int (-11))), 144, mk (up2 X 122 22 1)) 0 0 0 [(0, .ref 122), (1, .int (nI s)), (2, .int i), (3, .int (nI u)), (4, .int w), (5, .int n)] [] 144 (mk X)
  refine s_iload_n (q := 1) d_M_copy_0 rfl rfl ?_
  refine g_callS (q := 4) d_M_copy_1 rfl ml_M_93 mx_M_isSheet ms_M_isSheet t_M_isSheet rfl rfl (Nat.le_of_ble_eq_true rfl) (by decide) ?_
  refine s_if_eq (tgt := 14) (q := 7) d_M_copy_4 (by decide) rfl (fun z9 => absurd z9 (bI_dn.mpr (inS hs))) (fun _ => ?_)
  refine s_iload_n (q := 8) d_M_copy_7 rfl rfl ?_
  refine g_callS (q := 11) d_M_copy_8 rfl ml_M_93 mx_M_isSheet ms_M_isSheet t_M_isSheet rfl rfl (Nat.le_of_ble_eq_true rfl) (by decide) ?_
  refine s_if_ne (tgt := 17) (q := 14) d_M_copy_11 (by decide) rfl (fun _ => ?_) (fun z9 => absurd z9 (bI_dn.mpr (inS hu)))
  refine s_aload_n (q := 18) d_M_copy_17 rfl rfl (Or.inr ⟨_, rfl⟩) ?_
  refine g_getr (q := 21) d_M_copy_18 rfl fl_M_59 skM rfl ?_
  refine s_iload_n (q := 22) d_M_copy_21 rfl rfl ?_
  refine g_zald (q := 23) d_M_copy_22 rfl sm_16 (by omega) rfl hs ?_
  refine s_if_eq (tgt := 35) (q := 26) d_M_copy_23 (by decide) rfl (fun h_23 => ?_) (fun h_23 => ?_)
  · -- T 23
    refine s_aload_n (q := 36) d_M_copy_35 rfl rfl (Or.inr ⟨_, rfl⟩) ?_
    refine s_iconst (v := 1) (q := 37) d_M_copy_36 rfl ki_1 ?_
    refine g_callV (q := 40) d_M_copy_37 rfl ml_M_96 mx_M_meets mv_M_meets t_M_meets skM rfl rfl (Nat.le_of_ble_eq_true rfl) (by decide) ?_
    exact g_iret d_M_copy_40 rfl rfl (by decide) rfl
  · -- F 23
    refine s_aload_n (q := 27) d_M_copy_26 rfl rfl (Or.inr ⟨_, rfl⟩) ?_
    refine g_getr (q := 30) d_M_copy_27 rfl fl_M_59 skM rfl ?_
    refine s_iload_n (q := 31) d_M_copy_30 rfl rfl ?_
    refine g_zald (q := 32) d_M_copy_31 rfl sm_16 (by omega) rfl hu ?_
    refine s_if_ne (tgt := 41) (q := 35) d_M_copy_32 (by decide) rfl (fun h_32 => ?_) (fun h_32 => ?_)
    · -- T 32
      exact absurd ⟨h_23, h_32⟩ hl --done
    · -- F 32
      refine s_aload_n (q := 36) d_M_copy_35 rfl rfl (Or.inr ⟨_, rfl⟩) ?_
      refine s_iconst (v := 1) (q := 37) d_M_copy_36 rfl ki_1 ?_
      refine g_callV (q := 40) d_M_copy_37 rfl ml_M_96 mx_M_meets mv_M_meets t_M_meets skM rfl rfl (Nat.le_of_ble_eq_true rfl) (by decide) ?_
      exact g_iret d_M_copy_40 rfl rfl (by decide) rfl
theorem t_M_copy_F {X : RAM} {s u : Nat} {i w n : Int32} (hs : s < 4) (hu : u < 4) (l1 : ¬ X 139 s = 0) (l2 : ¬ X 139 u = 0) (hf : ¬ X 140 s = X 140 u) : CG l D ac b y_M_copy c_M_copy 7 (some .int) 2 42 [.ref 122, .int (nI s), .int i, .int (nI u), .int w, .int n] X (some (.int (-14))) (up2 X 122 22 4) := by
  refine Ct_of false (by decide) (fun h => by cases h) (Nat.le_of_ble_eq_true rfl) ?_
  show V l D ac b "SpanStoreModel" c_M_copy 7 (some .int) false 2 42 0 0 ((some (.int (-14))), 144, mk (up2 X 122 22 4)) 0 0 0 [(0, .ref 122), (1, .int (nI s)), (2, .int i), (3, .int (nI u)), (4, .int w), (5, .int n)] [] 144 (mk X)
  refine s_iload_n (q := 1) d_M_copy_0 rfl rfl ?_
  refine g_callS (q := 4) d_M_copy_1 rfl ml_M_93 mx_M_isSheet ms_M_isSheet t_M_isSheet rfl rfl (Nat.le_of_ble_eq_true rfl) (by decide) ?_
  refine s_if_eq (tgt := 14) (q := 7) d_M_copy_4 (by decide) rfl (fun z9 => absurd z9 (bI_dn.mpr (inS hs))) (fun _ => ?_)
  refine s_iload_n (q := 8) d_M_copy_7 rfl rfl ?_
  refine g_callS (q := 11) d_M_copy_8 rfl ml_M_93 mx_M_isSheet ms_M_isSheet t_M_isSheet rfl rfl (Nat.le_of_ble_eq_true rfl) (by decide) ?_
  refine s_if_ne (tgt := 17) (q := 14) d_M_copy_11 (by decide) rfl (fun _ => ?_) (fun z9 => absurd z9 (bI_dn.mpr (inS hu)))
  refine s_aload_n (q := 18) d_M_copy_17 rfl rfl (Or.inr ⟨_, rfl⟩) ?_
  refine g_getr (q := 21) d_M_copy_18 rfl fl_M_59 skM rfl ?_
  refine s_iload_n (q := 22) d_M_copy_21 rfl rfl ?_
  refine g_zald (q := 23) d_M_copy_22 rfl sm_16 (by omega) rfl hs ?_
  refine s_if_eq (tgt := 35) (q := 26) d_M_copy_23 (by decide) rfl (fun z9 => absurd z9 l1) (fun _ => ?_)
  refine s_aload_n (q := 27) d_M_copy_26 rfl rfl (Or.inr ⟨_, rfl⟩) ?_
  refine g_getr (q := 30) d_M_copy_27 rfl fl_M_59 skM rfl ?_
  refine s_iload_n (q := 31) d_M_copy_30 rfl rfl ?_
  refine g_zald (q := 32) d_M_copy_31 rfl sm_16 (by omega) rfl hu ?_
  refine s_if_ne (tgt := 41) (q := 35) d_M_copy_32 (by decide) rfl (fun _ => ?_) (fun z9 => absurd z9 l2)
  refine s_aload_n (q := 42) d_M_copy_41 rfl rfl (Or.inr ⟨_, rfl⟩) ?_
  refine g_getr (q := 45) d_M_copy_42 rfl fl_M_62 skM rfl ?_
  refine s_iload_n (q := 46) d_M_copy_45 rfl rfl ?_
  refine g_iald (q := 47) d_M_copy_46 rfl sm_17 (by omega) rfl hs ?_
  refine s_aload_n (q := 48) d_M_copy_47 rfl rfl (Or.inr ⟨_, rfl⟩) ?_
  refine g_getr (q := 51) d_M_copy_48 rfl fl_M_62 skM rfl ?_
  refine s_iload_n (q := 52) d_M_copy_51 rfl rfl ?_
  refine g_iald (q := 53) d_M_copy_52 rfl sm_17 (by omega) rfl hu ?_
  refine s_icmp_eq (tgt := 62) (q := 56) d_M_copy_53 (by decide) rfl (fun z9 => absurd z9 hf) (fun _ => ?_)
  refine s_aload_n (q := 57) d_M_copy_56 rfl rfl (Or.inr ⟨_, rfl⟩) ?_
  refine s_iconst (v := 4) (q := 58) d_M_copy_57 rfl ki_4 ?_
  refine g_callV (q := 61) d_M_copy_58 rfl ml_M_96 mx_M_meets mv_M_meets t_M_meets skM rfl rfl (Nat.le_of_ble_eq_true rfl) (by decide) ?_
  exact g_iret d_M_copy_61 rfl rfl (by decide) rfl
theorem lg_gt {x y : Int64} : 0 < lg_cmp x y ↔ y < x := by
  unfold lg_cmp
  by_cases h : y < x
  · rw [if_pos h]
    exact ⟨fun _ => h, fun _ => by decide⟩
  · rw [if_neg h]
    refine ⟨fun z => absurd z ?_, fun z => absurd z h⟩
    split <;> decide
theorem lsum {a c m : Nat} (ha : a < 2 ^ 31) (hc : c < 2 ^ 31) (hm : m ≤ 40) : (nI m).toInt64 < (nI a).toInt64 + (nI c).toInt64 ↔ m < a + c := by
  rw [nI_l (by omega), nI_l ha, nI_l hc, lN_add, pk_lLT (by omega) (by omega)]
theorem str_in {i n : Int32} {m : Nat} (h1 : ¬ i < 0) (h2 : ¬ n < 0) (h3 : ¬ (nI m).toInt64 < i.toInt64 + n.toInt64) (hm : m ≤ 40) : strV (nI m) i n = true := by
  obtain ⟨a, ha, rfl⟩ := nI_of h1
  obtain ⟨c, hc, rfl⟩ := nI_of h2
  rw [lsum ha hc hm] at h3
  exact str_mk (by omega) hm
theorem t_M_copy_I {X : RAM} {s u n1 n2 : Nat} {i w n : Int32} (hs : s < 4) (hu : u < 4) (l1 : ¬ X 139 s = 0) (l2 : ¬ X 139 u = 0) (hf : X 140 s = X 140 u) (z1 : X 141 s = nI n1) (z2 : X 141 u = nI n2) (m1 : n1 ≤ 40) (m2 : n2 ≤ 40) (hi : ¬ (strV (nI n1) i n = true ∧ strV (nI n2) w n = true)) : CG l D ac b y_M_copy c_M_copy 7 (some .int) 2 42 [.ref 122, .int (nI s), .int i, .int (nI u), .int w, .int n] X (some (.int (-12))) (up2 X 122 22 2) := by
  refine Ct_of false (by decide) (fun h => by cases h) (Nat.le_of_ble_eq_true rfl) ?_
  show V l D ac b "SpanStoreModel" c_M_copy 7 (some .int) false 2 42 0 0 ((some (.int (-12))), 144, mk (up2 X 122 22 2)) 0 0 0 [(0, .ref 122), (1, .int (nI s)), (2, .int i), (3, .int (nI u)), (4, .int w), (5, .int n)] [] 144 (mk X)
  refine s_iload_n (q := 1) d_M_copy_0 rfl rfl ?_
  refine g_callS (q := 4) d_M_copy_1 rfl ml_M_93 mx_M_isSheet ms_M_isSheet t_M_isSheet rfl rfl (Nat.le_of_ble_eq_true rfl) (by decide) ?_
  refine s_if_eq (tgt := 14) (q := 7) d_M_copy_4 (by decide) rfl (fun z9 => absurd z9 (bI_dn.mpr (inS hs))) (fun _ => ?_)
  refine s_iload_n (q := 8) d_M_copy_7 rfl rfl ?_
  refine g_callS (q := 11) d_M_copy_8 rfl ml_M_93 mx_M_isSheet ms_M_isSheet t_M_isSheet rfl rfl (Nat.le_of_ble_eq_true rfl) (by decide) ?_
  refine s_if_ne (tgt := 17) (q := 14) d_M_copy_11 (by decide) rfl (fun _ => ?_) (fun z9 => absurd z9 (bI_dn.mpr (inS hu)))
  refine s_aload_n (q := 18) d_M_copy_17 rfl rfl (Or.inr ⟨_, rfl⟩) ?_
  refine g_getr (q := 21) d_M_copy_18 rfl fl_M_59 skM rfl ?_
  refine s_iload_n (q := 22) d_M_copy_21 rfl rfl ?_
  refine g_zald (q := 23) d_M_copy_22 rfl sm_16 (by omega) rfl hs ?_
  refine s_if_eq (tgt := 35) (q := 26) d_M_copy_23 (by decide) rfl (fun z9 => absurd z9 l1) (fun _ => ?_)
  refine s_aload_n (q := 27) d_M_copy_26 rfl rfl (Or.inr ⟨_, rfl⟩) ?_
  refine g_getr (q := 30) d_M_copy_27 rfl fl_M_59 skM rfl ?_
  refine s_iload_n (q := 31) d_M_copy_30 rfl rfl ?_
  refine g_zald (q := 32) d_M_copy_31 rfl sm_16 (by omega) rfl hu ?_
  refine s_if_ne (tgt := 41) (q := 35) d_M_copy_32 (by decide) rfl (fun _ => ?_) (fun z9 => absurd z9 l2)
  refine s_aload_n (q := 42) d_M_copy_41 rfl rfl (Or.inr ⟨_, rfl⟩) ?_
  refine g_getr (q := 45) d_M_copy_42 rfl fl_M_62 skM rfl ?_
  refine s_iload_n (q := 46) d_M_copy_45 rfl rfl ?_
  refine g_iald (q := 47) d_M_copy_46 rfl sm_17 (by omega) rfl hs ?_
  refine s_aload_n (q := 48) d_M_copy_47 rfl rfl (Or.inr ⟨_, rfl⟩) ?_
  refine g_getr (q := 51) d_M_copy_48 rfl fl_M_62 skM rfl ?_
  refine s_iload_n (q := 52) d_M_copy_51 rfl rfl ?_
  refine g_iald (q := 53) d_M_copy_52 rfl sm_17 (by omega) rfl hu ?_
  refine s_icmp_eq (tgt := 62) (q := 56) d_M_copy_53 (by decide) rfl (fun _ => ?_) (fun z9 => absurd hf z9)
  refine s_iload_n (q := 63) d_M_copy_62 rfl rfl ?_
  refine s_if_lt (tgt := 111) (q := 66) d_M_copy_63 (by decide) rfl (fun h_63 => ?_) (fun h_63 => ?_)
  · -- T 63
    refine s_aload_n (q := 112) d_M_copy_111 rfl rfl (Or.inr ⟨_, rfl⟩) ?_
    refine s_iconst (v := 2) (q := 113) d_M_copy_112 rfl ki_2 ?_
    refine g_callV (q := 116) d_M_copy_113 rfl ml_M_96 mx_M_meets mv_M_meets t_M_meets skM rfl rfl (Nat.le_of_ble_eq_true rfl) (by decide) ?_
    exact g_iret d_M_copy_116 rfl rfl (by decide) rfl
  · -- F 63
    refine s_iload (q := 68) d_M_copy_66 rfl rfl ?_
    refine s_if_lt (tgt := 111) (q := 71) d_M_copy_68 (by decide) rfl (fun h_68 => ?_) (fun h_68 => ?_)
    · -- T 68
      refine s_aload_n (q := 112) d_M_copy_111 rfl rfl (Or.inr ⟨_, rfl⟩) ?_
      refine s_iconst (v := 2) (q := 113) d_M_copy_112 rfl ki_2 ?_
      refine g_callV (q := 116) d_M_copy_113 rfl ml_M_96 mx_M_meets mv_M_meets t_M_meets skM rfl rfl (Nat.le_of_ble_eq_true rfl) (by decide) ?_
      exact g_iret d_M_copy_116 rfl rfl (by decide) rfl
    · -- F 68
      refine s_iload (q := 73) d_M_copy_71 rfl rfl ?_
      refine s_if_lt (tgt := 111) (q := 76) d_M_copy_73 (by decide) rfl (fun h_73 => ?_) (fun h_73 => ?_)
      · -- T 73
        refine s_aload_n (q := 112) d_M_copy_111 rfl rfl (Or.inr ⟨_, rfl⟩) ?_
        refine s_iconst (v := 2) (q := 113) d_M_copy_112 rfl ki_2 ?_
        refine g_callV (q := 116) d_M_copy_113 rfl ml_M_96 mx_M_meets mv_M_meets t_M_meets skM rfl rfl (Nat.le_of_ble_eq_true rfl) (by decide) ?_
        exact g_iret d_M_copy_116 rfl rfl (by decide) rfl
      · -- F 73
        refine s_iload_n (q := 77) d_M_copy_76 rfl rfl ?_
        refine s_i2l (q := 78) d_M_copy_77 rfl ?_
        refine s_iload (q := 80) d_M_copy_78 rfl rfl ?_
        refine s_i2l (q := 81) d_M_copy_80 rfl ?_
        refine s_ladd (q := 82) d_M_copy_81 rfl ?_
        refine s_aload_n (q := 83) d_M_copy_82 rfl rfl (Or.inr ⟨_, rfl⟩) ?_
        refine g_getr (q := 86) d_M_copy_83 rfl fl_M_65 skM rfl ?_
        refine s_iload_n (q := 87) d_M_copy_86 rfl rfl ?_
        refine g_ialv (v := nI n1) (q := 88) d_M_copy_87 rfl sm_18 (by omega) rfl hs z1 ?_
        refine s_i2l (q := 89) d_M_copy_88 rfl ?_
        refine s_lcmp (q := 90) d_M_copy_89 rfl ?_
        refine s_if_gt (tgt := 111) (q := 93) d_M_copy_90 (by decide) rfl (fun h_90 => ?_) (fun h_90 => ?_)
        · -- T 90
          refine s_aload_n (q := 112) d_M_copy_111 rfl rfl (Or.inr ⟨_, rfl⟩) ?_
          refine s_iconst (v := 2) (q := 113) d_M_copy_112 rfl ki_2 ?_
          refine g_callV (q := 116) d_M_copy_113 rfl ml_M_96 mx_M_meets mv_M_meets t_M_meets skM rfl rfl (Nat.le_of_ble_eq_true rfl) (by decide) ?_
          exact g_iret d_M_copy_116 rfl rfl (by decide) rfl
        · -- F 90
          refine s_iload (q := 95) d_M_copy_93 rfl rfl ?_
          refine s_i2l (q := 96) d_M_copy_95 rfl ?_
          refine s_iload (q := 98) d_M_copy_96 rfl rfl ?_
          refine s_i2l (q := 99) d_M_copy_98 rfl ?_
          refine s_ladd (q := 100) d_M_copy_99 rfl ?_
          refine s_aload_n (q := 101) d_M_copy_100 rfl rfl (Or.inr ⟨_, rfl⟩) ?_
          refine g_getr (q := 104) d_M_copy_101 rfl fl_M_65 skM rfl ?_
          refine s_iload_n (q := 105) d_M_copy_104 rfl rfl ?_
          refine g_ialv (v := nI n2) (q := 106) d_M_copy_105 rfl sm_18 (by omega) rfl hu z2 ?_
          refine s_i2l (q := 107) d_M_copy_106 rfl ?_
          refine s_lcmp (q := 108) d_M_copy_107 rfl ?_
          refine s_if_le (tgt := 117) (q := 111) d_M_copy_108 (by decide) rfl (fun h_108 => ?_) (fun h_108 => ?_)
          · -- T 108
            rw [lg_gt] at h_90
            rw [lg_le] at h_108
            exact absurd ⟨str_in h_63 h_73 h_90 m1, str_in h_68 h_73 h_108 m2⟩ hi --done
          · -- F 108
            refine s_aload_n (q := 112) d_M_copy_111 rfl rfl (Or.inr ⟨_, rfl⟩) ?_
            refine s_iconst (v := 2) (q := 113) d_M_copy_112 rfl ki_2 ?_
            refine g_callV (q := 116) d_M_copy_113 rfl ml_M_96 mx_M_meets mv_M_meets t_M_meets skM rfl rfl (Nat.le_of_ble_eq_true rfl) (by decide) ?_
            exact g_iret d_M_copy_116 rfl rfl (by decide) rfl
def mvS (X : RAM) (s i : Nat) : Nat → RAM
  | 0 => X
  | k + 1 => up2 (mvS X s i k) 143 k (X 142 (40 * s + i + k))
def cpS (X Y : RAM) (s i u w : Nat) : Nat → RAM
  | 0 => Y
  | k + 1 => up2 (cpS X Y s i u w k) 142 (40 * u + w + k) (X 142 (40 * s + i + k))
theorem mvS_ne {X : RAM} {s i a : Nat} (h : a ≠ 143) (k : Nat) : mvS X s i k a = X a := by
  induction k with
  | zero => rfl
  | succ k ih => exact (up2_ne h).trans ih
theorem mvS_at {X : RAM} {s i n k : Nat} (hk : k < n) : mvS X s i n 143 k = X 142 (40 * s + i + k) := by
  induction n with
  | zero => omega
  | succ n ih =>
    unfold mvS
    by_cases h : k = n
    · subst h; exact um_u
    · rw [up2_same h]; exact ih (by omega)
theorem cpS_ne {X Y : RAM} {s i u w a : Nat} (h : a ≠ 142) (k : Nat) : cpS X Y s i u w k a = Y a := by
  induction k with
  | zero => rfl
  | succ k ih => exact (up2_ne h).trans ih
theorem lp_cp2 {X : RAM} {s u i w n n1 n2 : Nat} (hs : s < 4) (hu : u < 4) (m1 : n1 ≤ 40) (m2 : n2 ≤ 40) (e1 : i + n ≤ n1) (e2 : w + n ≤ n2) : ∀ k, k ≤ n → V l D ac b "SpanStoreModel" c_M_copy 7 (some .int) false 2 42 0 0 (some (.int 1), 144, mk (cpS X (mvS X s i n) s i u w n)) 0 0 157 [(0, .ref 122), (1, .int (nI s)), (2, .int (nI i)), (3, .int (nI u)), (4, .int (nI w)), (5, .int (nI n)), (6, .int (nI k))] [] 144 (mk (cpS X (mvS X s i n) s i u w k)) := by
  refine nat_down ?_ (fun k hk ih => ?_)
  · skip
    refine s_iload (q := 159) d_M_copy_157 rfl rfl ?_
    refine s_iload (q := 161) d_M_copy_159 rfl rfl ?_
    refine s_icmp_ge (tgt := 192) (q := 164) d_M_copy_161 (by decide) rfl (fun _ => ?_) (fun z9 => absurd (nI_le (Nat.le_refl n) (by omega)) z9)
    refine s_iconst (v := 1) (q := 193) d_M_copy_192 rfl ki_1 ?_
    exact g_iret d_M_copy_193 rfl rfl rfl rfl
  · skip
    refine s_iload (q := 159) d_M_copy_157 rfl rfl ?_
    refine s_iload (q := 161) d_M_copy_159 rfl rfl ?_
    refine s_icmp_ge (tgt := 192) (q := 164) d_M_copy_161 (by decide) rfl (fun z9 => absurd z9 (nI_ge hk (by omega))) (fun _ => ?_)
    refine s_aload_n (q := 165) d_M_copy_164 rfl rfl (Or.inr ⟨_, rfl⟩) ?_
    refine g_getr (q := 168) d_M_copy_165 rfl fl_M_68 skM rfl ?_
    refine s_bipush (v := 40) (q := 170) d_M_copy_168 rfl kb_40 ?_
    refine s_iload_n (q := 171) d_M_copy_170 rfl rfl ?_
    refine s_imul (q := 172) d_M_copy_171 rfl ?_
    refine s_iload (q := 174) d_M_copy_172 rfl rfl ?_
    refine s_iadd (q := 175) d_M_copy_174 rfl ?_
    rw [ix40]
    refine s_iload (q := 177) d_M_copy_175 rfl rfl ?_
    refine s_iadd (q := 178) d_M_copy_177 rfl ?_
    rw [nI_add]
    refine s_aload_n (q := 179) d_M_copy_178 rfl rfl (Or.inr ⟨_, rfl⟩) ?_
    refine g_getr (q := 182) d_M_copy_179 rfl fl_M_71 skM rfl ?_
    refine s_iload (q := 184) d_M_copy_182 rfl rfl ?_
    refine g_ialv (v := X 142 (40 * s + i + k)) (q := 185) d_M_copy_184 rfl sm_20 (by omega) rfl (by omega) (by rw [cpS_ne (by decide)]; exact mvS_at hk) ?_
    refine g_iast (q := 186) d_M_copy_185 rfl sm_19 (by omega) rfl (by omega) ?_
    refine s_iinc (q := 189) d_M_copy_186 rfl rfl (by first | exact inc1 _ | rfl) (by decide) ?_
    refine s_goto (tgt := 157) d_M_copy_189 (by decide) ?_
    exact s_lv (lv' := [(0, .ref 122), (1, .int (nI s)), (2, .int (nI i)), (3, .int (nI u)), (4, .int (nI w)), (5, .int (nI n)), (6, .int (nI (k + 1)))]) ⟨rfl, rfl, rfl, rfl, rfl, rfl, rfl, trivial⟩ ih
theorem lp_cp1 {X : RAM} {s u i w n n1 n2 : Nat} (hs : s < 4) (hu : u < 4) (m1 : n1 ≤ 40) (m2 : n2 ≤ 40) (e1 : i + n ≤ n1) (e2 : w + n ≤ n2) : ∀ k, k ≤ n → V l D ac b "SpanStoreModel" c_M_copy 7 (some .int) false 2 42 0 0 (some (.int 1), 144, mk (cpS X (mvS X s i n) s i u w n)) 0 0 120 [(0, .ref 122), (1, .int (nI s)), (2, .int (nI i)), (3, .int (nI u)), (4, .int (nI w)), (5, .int (nI n)), (6, .int (nI k))] [] 144 (mk (mvS X s i k)) := by
  refine nat_down ?_ (fun k hk ih => ?_)
  · skip
    refine s_iload (q := 122) d_M_copy_120 rfl rfl ?_
    refine s_iload (q := 124) d_M_copy_122 rfl rfl ?_
    refine s_icmp_ge (tgt := 154) (q := 127) d_M_copy_124 (by decide) rfl (fun _ => ?_) (fun z9 => absurd (nI_le (Nat.le_refl n) (by omega)) z9)
    refine s_iconst (v := 0) (q := 155) d_M_copy_154 rfl ki_0 ?_
    refine s_istore (q := 157) d_M_copy_155 rfl (by decide) ?_
    exact s_lv (lv' := [(0, .ref 122), (1, .int (nI s)), (2, .int (nI i)), (3, .int (nI u)), (4, .int (nI w)), (5, .int (nI n)), (6, .int (nI 0))]) ⟨rfl, rfl, rfl, rfl, rfl, rfl, rfl, trivial⟩ (lp_cp2 hs hu m1 m2 e1 e2 0 (Nat.zero_le n))
  · skip
    refine s_iload (q := 122) d_M_copy_120 rfl rfl ?_
    refine s_iload (q := 124) d_M_copy_122 rfl rfl ?_
    refine s_icmp_ge (tgt := 154) (q := 127) d_M_copy_124 (by decide) rfl (fun z9 => absurd z9 (nI_ge hk (by omega))) (fun _ => ?_)
    refine s_aload_n (q := 128) d_M_copy_127 rfl rfl (Or.inr ⟨_, rfl⟩) ?_
    refine g_getr (q := 131) d_M_copy_128 rfl fl_M_71 skM rfl ?_
    refine s_iload (q := 133) d_M_copy_131 rfl rfl ?_
    refine s_aload_n (q := 134) d_M_copy_133 rfl rfl (Or.inr ⟨_, rfl⟩) ?_
    refine g_getr (q := 137) d_M_copy_134 rfl fl_M_68 skM rfl ?_
    refine s_bipush (v := 40) (q := 139) d_M_copy_137 rfl kb_40 ?_
    refine s_iload_n (q := 140) d_M_copy_139 rfl rfl ?_
    refine s_imul (q := 141) d_M_copy_140 rfl ?_
    refine s_iload_n (q := 142) d_M_copy_141 rfl rfl ?_
    refine s_iadd (q := 143) d_M_copy_142 rfl ?_
    rw [ix40]
    refine s_iload (q := 145) d_M_copy_143 rfl rfl ?_
    refine s_iadd (q := 146) d_M_copy_145 rfl ?_
    rw [nI_add]
    refine g_ialv (v := X 142 (40 * s + i + k)) (q := 147) d_M_copy_146 rfl sm_19 (by omega) rfl (by omega) (by rw [mvS_ne (by decide)]) ?_
    refine g_iast (q := 148) d_M_copy_147 rfl sm_20 (by omega) rfl (by omega) ?_
    refine s_iinc (q := 151) d_M_copy_148 rfl rfl (by first | exact inc1 _ | rfl) (by decide) ?_
    refine s_goto (tgt := 120) d_M_copy_151 (by decide) ?_
    exact s_lv (lv' := [(0, .ref 122), (1, .int (nI s)), (2, .int (nI i)), (3, .int (nI u)), (4, .int (nI w)), (5, .int (nI n)), (6, .int (nI (k + 1)))]) ⟨rfl, rfl, rfl, rfl, rfl, rfl, rfl, trivial⟩ ih
theorem t_M_copy_D {X : RAM} {s u i w n n1 n2 : Nat} (hs : s < 4) (hu : u < 4) (l1 : ¬ X 139 s = 0) (l2 : ¬ X 139 u = 0) (hf : X 140 s = X 140 u) (z1 : X 141 s = nI n1) (z2 : X 141 u = nI n2) (m1 : n1 ≤ 40) (m2 : n2 ≤ 40) (e1 : i + n ≤ n1) (e2 : w + n ≤ n2) : CG l D ac b y_M_copy c_M_copy 7 (some .int) 2 42 [.ref 122, .int (nI s), .int (nI i), .int (nI u), .int (nI w), .int (nI n)] X (some (.int 1)) (cpS X (mvS X s i n) s i u w n) := by
  refine Ct_of false (by decide) (fun h => by cases h) (Nat.le_of_ble_eq_true rfl) ?_
  show V l D ac b "SpanStoreModel" c_M_copy 7 (some .int) false 2 42 0 0 ((some (.int 1)), 144, mk (cpS X (mvS X s i n) s i u w n)) 0 0 0 [(0, .ref 122), (1, .int (nI s)), (2, .int (nI i)), (3, .int (nI u)), (4, .int (nI w)), (5, .int (nI n))] [] 144 (mk X)
  refine s_iload_n (q := 1) d_M_copy_0 rfl rfl ?_
  refine g_callS (q := 4) d_M_copy_1 rfl ml_M_93 mx_M_isSheet ms_M_isSheet t_M_isSheet rfl rfl (Nat.le_of_ble_eq_true rfl) (by decide) ?_
  refine s_if_eq (tgt := 14) (q := 7) d_M_copy_4 (by decide) rfl (fun z9 => absurd z9 (bI_dn.mpr (inS hs))) (fun _ => ?_)
  refine s_iload_n (q := 8) d_M_copy_7 rfl rfl ?_
  refine g_callS (q := 11) d_M_copy_8 rfl ml_M_93 mx_M_isSheet ms_M_isSheet t_M_isSheet rfl rfl (Nat.le_of_ble_eq_true rfl) (by decide) ?_
  refine s_if_ne (tgt := 17) (q := 14) d_M_copy_11 (by decide) rfl (fun _ => ?_) (fun z9 => absurd z9 (bI_dn.mpr (inS hu)))
  refine s_aload_n (q := 18) d_M_copy_17 rfl rfl (Or.inr ⟨_, rfl⟩) ?_
  refine g_getr (q := 21) d_M_copy_18 rfl fl_M_59 skM rfl ?_
  refine s_iload_n (q := 22) d_M_copy_21 rfl rfl ?_
  refine g_zald (q := 23) d_M_copy_22 rfl sm_16 (by omega) rfl hs ?_
  refine s_if_eq (tgt := 35) (q := 26) d_M_copy_23 (by decide) rfl (fun z9 => absurd z9 l1) (fun _ => ?_)
  refine s_aload_n (q := 27) d_M_copy_26 rfl rfl (Or.inr ⟨_, rfl⟩) ?_
  refine g_getr (q := 30) d_M_copy_27 rfl fl_M_59 skM rfl ?_
  refine s_iload_n (q := 31) d_M_copy_30 rfl rfl ?_
  refine g_zald (q := 32) d_M_copy_31 rfl sm_16 (by omega) rfl hu ?_
  refine s_if_ne (tgt := 41) (q := 35) d_M_copy_32 (by decide) rfl (fun _ => ?_) (fun z9 => absurd z9 l2)
  refine s_aload_n (q := 42) d_M_copy_41 rfl rfl (Or.inr ⟨_, rfl⟩) ?_
  refine g_getr (q := 45) d_M_copy_42 rfl fl_M_62 skM rfl ?_
  refine s_iload_n (q := 46) d_M_copy_45 rfl rfl ?_
  refine g_iald (q := 47) d_M_copy_46 rfl sm_17 (by omega) rfl hs ?_
  refine s_aload_n (q := 48) d_M_copy_47 rfl rfl (Or.inr ⟨_, rfl⟩) ?_
  refine g_getr (q := 51) d_M_copy_48 rfl fl_M_62 skM rfl ?_
  refine s_iload_n (q := 52) d_M_copy_51 rfl rfl ?_
  refine g_iald (q := 53) d_M_copy_52 rfl sm_17 (by omega) rfl hu ?_
  refine s_icmp_eq (tgt := 62) (q := 56) d_M_copy_53 (by decide) rfl (fun _ => ?_) (fun z9 => absurd hf z9)
  refine s_iload_n (q := 63) d_M_copy_62 rfl rfl ?_
  refine s_if_lt (tgt := 111) (q := 66) d_M_copy_63 (by decide) rfl (fun z9 => absurd z9 (nI_pos (by omega))) (fun _ => ?_)
  refine s_iload (q := 68) d_M_copy_66 rfl rfl ?_
  refine s_if_lt (tgt := 111) (q := 71) d_M_copy_68 (by decide) rfl (fun z9 => absurd z9 (nI_pos (by omega))) (fun _ => ?_)
  refine s_iload (q := 73) d_M_copy_71 rfl rfl ?_
  refine s_if_lt (tgt := 111) (q := 76) d_M_copy_73 (by decide) rfl (fun z9 => absurd z9 (nI_pos (by omega))) (fun _ => ?_)
  refine s_iload_n (q := 77) d_M_copy_76 rfl rfl ?_
  refine s_i2l (q := 78) d_M_copy_77 rfl ?_
  refine s_iload (q := 80) d_M_copy_78 rfl rfl ?_
  refine s_i2l (q := 81) d_M_copy_80 rfl ?_
  refine s_ladd (q := 82) d_M_copy_81 rfl ?_
  refine s_aload_n (q := 83) d_M_copy_82 rfl rfl (Or.inr ⟨_, rfl⟩) ?_
  refine g_getr (q := 86) d_M_copy_83 rfl fl_M_65 skM rfl ?_
  refine s_iload_n (q := 87) d_M_copy_86 rfl rfl ?_
  refine g_ialv (v := nI n1) (q := 88) d_M_copy_87 rfl sm_18 (by omega) rfl hs z1 ?_
  refine s_i2l (q := 89) d_M_copy_88 rfl ?_
  refine s_lcmp (q := 90) d_M_copy_89 rfl ?_
  refine s_if_gt (tgt := 111) (q := 93) d_M_copy_90 (by decide) rfl (fun z9 => absurd z9 (fun z => by rw [lg_gt, lsum (by omega) (by omega) m1] at z; omega)) (fun _ => ?_)
  refine s_iload (q := 95) d_M_copy_93 rfl rfl ?_
  refine s_i2l (q := 96) d_M_copy_95 rfl ?_
  refine s_iload (q := 98) d_M_copy_96 rfl rfl ?_
  refine s_i2l (q := 99) d_M_copy_98 rfl ?_
  refine s_ladd (q := 100) d_M_copy_99 rfl ?_
  refine s_aload_n (q := 101) d_M_copy_100 rfl rfl (Or.inr ⟨_, rfl⟩) ?_
  refine g_getr (q := 104) d_M_copy_101 rfl fl_M_65 skM rfl ?_
  refine s_iload_n (q := 105) d_M_copy_104 rfl rfl ?_
  refine g_ialv (v := nI n2) (q := 106) d_M_copy_105 rfl sm_18 (by omega) rfl hu z2 ?_
  refine s_i2l (q := 107) d_M_copy_106 rfl ?_
  refine s_lcmp (q := 108) d_M_copy_107 rfl ?_
  refine s_if_le (tgt := 117) (q := 111) d_M_copy_108 (by decide) rfl (fun _ => ?_) (fun z9 => absurd (lg_le.mpr (fun z => by rw [lsum (by omega) (by omega) m2] at z; omega)) z9)
  refine s_iconst (v := 0) (q := 118) d_M_copy_117 rfl ki_0 ?_
  refine s_istore (q := 120) d_M_copy_118 rfl (by decide) ?_
  exact s_lv (lv' := [(0, .ref 122), (1, .int (nI s)), (2, .int (nI i)), (3, .int (nI u)), (4, .int (nI w)), (5, .int (nI n)), (6, .int (nI 0))]) ⟨rfl, rfl, rfl, rfl, rfl, rfl, rfl, trivial⟩ (lp_cp1 hs hu m1 m2 e1 e2 0 (Nat.zero_le n))
theorem t_M_write_T {X : RAM} {x k g v : Int32} (hx : x < 0 ∨ 2 ≤ x) : CG l D ac b y_M_write c_M_write 8 (some .int) 2 42 [.ref 122, .int x, .int k, .int g, .int v] X (some (.int (-2))) (X) := by
  refine Ct_of false (by decide) (fun h => by cases h) (Nat.le_of_ble_eq_true rfl) ?_
  show V l D ac b "SpanStoreModel" c_M_write 8 (some .int) false 2 42 0 0 ((some (.int (-2))), 144, mk (X)) 0 0 0 [(0, .ref 122), (1, .int x), (2, .int k), (3, .int g), (4, .int v)] [] 144 (mk X)
  refine s_iload_n (q := 1) d_M_write_0 rfl rfl ?_
  refine g_callS (q := 4) d_M_write_1 rfl ml_M_78 mx_M_isTable ms_M_isTable t_M_isTable rfl rfl (Nat.le_of_ble_eq_true rfl) (by decide) ?_
  refine s_if_eq (tgt := 29) (q := 7) d_M_write_4 (by decide) rfl (fun _ => ?_) (fun z9 => absurd (bI_d.mpr (niT hx)) z9)
  refine s_bipush (v := (-2)) (q := 31) d_M_write_29 rfl kb_m2 ?_
  exact g_iret d_M_write_31 rfl rfl rfl rfl
theorem t_M_write_K {X : RAM} {t : Nat} {k g v : Int32} (ht : t < 2) (hz : k < 0 ∨ 4 ≤ k) : CG l D ac b y_M_write c_M_write 8 (some .int) 2 42 [.ref 122, .int (nI t), .int k, .int g, .int v] X (some (.int (-2))) (X) := by
  refine Ct_of false (by decide) (fun h => by cases h) (Nat.le_of_ble_eq_true rfl) ?_
  show V l D ac b "SpanStoreModel" c_M_write 8 (some .int) false 2 42 0 0 ((some (.int (-2))), 144, mk (X)) 0 0 0 [(0, .ref 122), (1, .int (nI t)), (2, .int k), (3, .int g), (4, .int v)] [] 144 (mk X)
  refine s_iload_n (q := 1) d_M_write_0 rfl rfl ?_
  refine g_callS (q := 4) d_M_write_1 rfl ml_M_78 mx_M_isTable ms_M_isTable t_M_isTable rfl rfl (Nat.le_of_ble_eq_true rfl) (by decide) ?_
  refine s_if_eq (tgt := 29) (q := 7) d_M_write_4 (by decide) rfl (fun z9 => absurd z9 (bI_dn.mpr (inT ht))) (fun _ => ?_)
  refine s_iload_n (q := 8) d_M_write_7 rfl rfl ?_
  refine g_callS (q := 11) d_M_write_8 rfl ml_M_93 mx_M_isSheet ms_M_isSheet t_M_isSheet rfl rfl (Nat.le_of_ble_eq_true rfl) (by decide) ?_
  refine s_if_eq (tgt := 29) (q := 14) d_M_write_11 (by decide) rfl (fun _ => ?_) (fun z9 => absurd (bI_d.mpr (niS hz)) z9)
  refine s_bipush (v := (-2)) (q := 31) d_M_write_29 rfl kb_m2 ?_
  exact g_iret d_M_write_31 rfl rfl rfl rfl
theorem t_M_write_G {X : RAM} {t k : Nat} {g v : Int32} (ht : t < 2) (hk : k < 4) (hz : g < 0 ∨ 4 ≤ g) : CG l D ac b y_M_write c_M_write 8 (some .int) 2 42 [.ref 122, .int (nI t), .int (nI k), .int g, .int v] X (some (.int (-2))) (X) := by
  refine Ct_of false (by decide) (fun h => by cases h) (Nat.le_of_ble_eq_true rfl) ?_
  show V l D ac b "SpanStoreModel" c_M_write 8 (some .int) false 2 42 0 0 ((some (.int (-2))), 144, mk (X)) 0 0 0 [(0, .ref 122), (1, .int (nI t)), (2, .int (nI k)), (3, .int g), (4, .int v)] [] 144 (mk X)
  refine s_iload_n (q := 1) d_M_write_0 rfl rfl ?_
  refine g_callS (q := 4) d_M_write_1 rfl ml_M_78 mx_M_isTable ms_M_isTable t_M_isTable rfl rfl (Nat.le_of_ble_eq_true rfl) (by decide) ?_
  refine s_if_eq (tgt := 29) (q := 7) d_M_write_4 (by decide) rfl (fun z9 => absurd z9 (bI_dn.mpr (inT ht))) (fun _ => ?_)
  refine s_iload_n (q := 8) d_M_write_7 rfl rfl ?_
  refine g_callS (q := 11) d_M_write_8 rfl ml_M_93 mx_M_isSheet ms_M_isSheet t_M_isSheet rfl rfl (Nat.le_of_ble_eq_true rfl) (by decide) ?_
  refine s_if_eq (tgt := 29) (q := 14) d_M_write_11 (by decide) rfl (fun z9 => absurd z9 (bI_dn.mpr (inS hk))) (fun _ => ?_)
  refine s_iload_n (q := 15) d_M_write_14 rfl rfl ?_
  refine g_callS (q := 18) d_M_write_15 rfl ml_M_93 mx_M_isSheet ms_M_isSheet t_M_isSheet rfl rfl (Nat.le_of_ble_eq_true rfl) (by decide) ?_
  refine s_if_eq (tgt := 29) (q := 21) d_M_write_18 (by decide) rfl (fun _ => ?_) (fun z9 => absurd (bI_d.mpr (niS hz)) z9)
  refine s_bipush (v := (-2)) (q := 31) d_M_write_29 rfl kb_m2 ?_
  exact g_iret d_M_write_31 rfl rfl rfl rfl
theorem t_M_write_V {X : RAM} {t k g : Nat} {v : Int32} (ht : t < 2) (hk : k < 4) (hg : g < 4) (hz : v < 0 ∨ 4 ≤ v) : CG l D ac b y_M_write c_M_write 8 (some .int) 2 42 [.ref 122, .int (nI t), .int (nI k), .int (nI g), .int v] X (some (.int (-2))) (X) := by
  refine Ct_of false (by decide) (fun h => by cases h) (Nat.le_of_ble_eq_true rfl) ?_
  show V l D ac b "SpanStoreModel" c_M_write 8 (some .int) false 2 42 0 0 ((some (.int (-2))), 144, mk (X)) 0 0 0 [(0, .ref 122), (1, .int (nI t)), (2, .int (nI k)), (3, .int (nI g)), (4, .int v)] [] 144 (mk X)
  refine s_iload_n (q := 1) d_M_write_0 rfl rfl ?_
  refine g_callS (q := 4) d_M_write_1 rfl ml_M_78 mx_M_isTable ms_M_isTable t_M_isTable rfl rfl (Nat.le_of_ble_eq_true rfl) (by decide) ?_
  refine s_if_eq (tgt := 29) (q := 7) d_M_write_4 (by decide) rfl (fun z9 => absurd z9 (bI_dn.mpr (inT ht))) (fun _ => ?_)
  refine s_iload_n (q := 8) d_M_write_7 rfl rfl ?_
  refine g_callS (q := 11) d_M_write_8 rfl ml_M_93 mx_M_isSheet ms_M_isSheet t_M_isSheet rfl rfl (Nat.le_of_ble_eq_true rfl) (by decide) ?_
  refine s_if_eq (tgt := 29) (q := 14) d_M_write_11 (by decide) rfl (fun z9 => absurd z9 (bI_dn.mpr (inS hk))) (fun _ => ?_)
  refine s_iload_n (q := 15) d_M_write_14 rfl rfl ?_
  refine g_callS (q := 18) d_M_write_15 rfl ml_M_93 mx_M_isSheet ms_M_isSheet t_M_isSheet rfl rfl (Nat.le_of_ble_eq_true rfl) (by decide) ?_
  refine s_if_eq (tgt := 29) (q := 21) d_M_write_18 (by decide) rfl (fun z9 => absurd z9 (bI_dn.mpr (inS hg))) (fun _ => ?_)
  refine s_iload (q := 23) d_M_write_21 rfl rfl ?_
  refine g_callS (q := 26) d_M_write_23 rfl ml_M_93 mx_M_isSheet ms_M_isSheet t_M_isSheet rfl rfl (Nat.le_of_ble_eq_true rfl) (by decide) ?_
  refine s_if_ne (tgt := 32) (q := 29) d_M_write_26 (by decide) rfl (fun z9 => absurd (bI_d.mpr (niS hz)) z9) (fun _ => ?_)
  refine s_bipush (v := (-2)) (q := 31) d_M_write_29 rfl kb_m2 ?_
  exact g_iret d_M_write_31 rfl rfl rfl rfl
theorem t_M_write_S {X : RAM} {t k g v : Nat} (ht : t < 2) (hk : k < 4) (hg : g < 4) (hv : v < 4) (hs : X 134 t = 0) : CG l D ac b y_M_write c_M_write 8 (some .int) 2 42 [.ref 122, .int (nI t), .int (nI k), .int (nI g), .int (nI v)] X (some (.int (-3))) (X) := by
  refine Ct_of false (by decide) (fun h => by cases h) (Nat.le_of_ble_eq_true rfl) ?_
  show V l D ac b "SpanStoreModel" c_M_write 8 (some .int) false 2 42 0 0 ((some (.int (-3))), 144, mk (X)) 0 0 0 [(0, .ref 122), (1, .int (nI t)), (2, .int (nI k)), (3, .int (nI g)), (4, .int (nI v))] [] 144 (mk X)
  refine s_iload_n (q := 1) d_M_write_0 rfl rfl ?_
  refine g_callS (q := 4) d_M_write_1 rfl ml_M_78 mx_M_isTable ms_M_isTable t_M_isTable rfl rfl (Nat.le_of_ble_eq_true rfl) (by decide) ?_
  refine s_if_eq (tgt := 29) (q := 7) d_M_write_4 (by decide) rfl (fun z9 => absurd z9 (bI_dn.mpr (inT ht))) (fun _ => ?_)
  refine s_iload_n (q := 8) d_M_write_7 rfl rfl ?_
  refine g_callS (q := 11) d_M_write_8 rfl ml_M_93 mx_M_isSheet ms_M_isSheet t_M_isSheet rfl rfl (Nat.le_of_ble_eq_true rfl) (by decide) ?_
  refine s_if_eq (tgt := 29) (q := 14) d_M_write_11 (by decide) rfl (fun z9 => absurd z9 (bI_dn.mpr (inS hk))) (fun _ => ?_)
  refine s_iload_n (q := 15) d_M_write_14 rfl rfl ?_
  refine g_callS (q := 18) d_M_write_15 rfl ml_M_93 mx_M_isSheet ms_M_isSheet t_M_isSheet rfl rfl (Nat.le_of_ble_eq_true rfl) (by decide) ?_
  refine s_if_eq (tgt := 29) (q := 21) d_M_write_18 (by decide) rfl (fun z9 => absurd z9 (bI_dn.mpr (inS hg))) (fun _ => ?_)
  refine s_iload (q := 23) d_M_write_21 rfl rfl ?_
  refine g_callS (q := 26) d_M_write_23 rfl ml_M_93 mx_M_isSheet ms_M_isSheet t_M_isSheet rfl rfl (Nat.le_of_ble_eq_true rfl) (by decide) ?_
  refine s_if_ne (tgt := 32) (q := 29) d_M_write_26 (by decide) rfl (fun _ => ?_) (fun z9 => absurd z9 (bI_dn.mpr (inS hv)))
  refine s_aload_n (q := 33) d_M_write_32 rfl rfl (Or.inr ⟨_, rfl⟩) ?_
  refine g_getr (q := 36) d_M_write_33 rfl fl_M_44 skM rfl ?_
  refine s_iload_n (q := 37) d_M_write_36 rfl rfl ?_
  refine g_zald (q := 38) d_M_write_37 rfl sm_11 (by omega) rfl ht ?_
  refine s_if_ne (tgt := 44) (q := 41) d_M_write_38 (by decide) rfl (fun z9 => absurd hs z9) (fun _ => ?_)
  refine s_bipush (v := (-3)) (q := 43) d_M_write_41 rfl kb_m3 ?_
  exact g_iret d_M_write_43 rfl rfl rfl rfl
theorem t_M_write_L {X : RAM} {t k g v : Nat} (ht : t < 2) (hk : k < 4) (hg : g < 4) (hv : v < 4) (hs : ¬ X 134 t = 0) (hl : ¬ (¬ X 139 k = 0 ∧ ¬ X 139 g = 0 ∧ ¬ X 139 v = 0)) : CG l D ac b y_M_write c_M_write 8 (some .int) 2 42 [.ref 122, .int (nI t), .int (nI k), .int (nI g), .int (nI v)] X (some (.int (-11))) (up2 X 122 22 1) := by
  refine Ct_of false (by decide) (fun h => by cases h) (Nat.le_of_ble_eq_true rfl) ?_
  show V l D ac b "SpanStoreModel" c_M_write 8 (some .int) false 2 42 0 0 ((some (.int (-11))), 144, mk (up2 X 122 22 1)) 0 0 0 [(0, .ref 122), (1, .int (nI t)), (2, .int (nI k)), (3, .int (nI g)), (4, .int (nI v))] [] 144 (mk X)
  refine s_iload_n (q := 1) d_M_write_0 rfl rfl ?_
  refine g_callS (q := 4) d_M_write_1 rfl ml_M_78 mx_M_isTable ms_M_isTable t_M_isTable rfl rfl (Nat.le_of_ble_eq_true rfl) (by decide) ?_
  refine s_if_eq (tgt := 29) (q := 7) d_M_write_4 (by decide) rfl (fun z9 => absurd z9 (bI_dn.mpr (inT ht))) (fun _ => ?_)
  refine s_iload_n (q := 8) d_M_write_7 rfl rfl ?_
  refine g_callS (q := 11) d_M_write_8 rfl ml_M_93 mx_M_isSheet ms_M_isSheet t_M_isSheet rfl rfl (Nat.le_of_ble_eq_true rfl) (by decide) ?_
  refine s_if_eq (tgt := 29) (q := 14) d_M_write_11 (by decide) rfl (fun z9 => absurd z9 (bI_dn.mpr (inS hk))) (fun _ => ?_)
  refine s_iload_n (q := 15) d_M_write_14 rfl rfl ?_
  refine g_callS (q := 18) d_M_write_15 rfl ml_M_93 mx_M_isSheet ms_M_isSheet t_M_isSheet rfl rfl (Nat.le_of_ble_eq_true rfl) (by decide) ?_
  refine s_if_eq (tgt := 29) (q := 21) d_M_write_18 (by decide) rfl (fun z9 => absurd z9 (bI_dn.mpr (inS hg))) (fun _ => ?_)
  refine s_iload (q := 23) d_M_write_21 rfl rfl ?_
  refine g_callS (q := 26) d_M_write_23 rfl ml_M_93 mx_M_isSheet ms_M_isSheet t_M_isSheet rfl rfl (Nat.le_of_ble_eq_true rfl) (by decide) ?_
  refine s_if_ne (tgt := 32) (q := 29) d_M_write_26 (by decide) rfl (fun _ => ?_) (fun z9 => absurd z9 (bI_dn.mpr (inS hv)))
  refine s_aload_n (q := 33) d_M_write_32 rfl rfl (Or.inr ⟨_, rfl⟩) ?_
  refine g_getr (q := 36) d_M_write_33 rfl fl_M_44 skM rfl ?_
  refine s_iload_n (q := 37) d_M_write_36 rfl rfl ?_
  refine g_zald (q := 38) d_M_write_37 rfl sm_11 (by omega) rfl ht ?_
  refine s_if_ne (tgt := 44) (q := 41) d_M_write_38 (by decide) rfl (fun _ => ?_) (fun z9 => absurd z9 hs)
  refine s_aload_n (q := 45) d_M_write_44 rfl rfl (Or.inr ⟨_, rfl⟩) ?_
  refine g_getr (q := 48) d_M_write_45 rfl fl_M_59 skM rfl ?_
  refine s_iload_n (q := 49) d_M_write_48 rfl rfl ?_
  refine g_zald (q := 50) d_M_write_49 rfl sm_16 (by omega) rfl hk ?_
  refine s_if_eq (tgt := 72) (q := 53) d_M_write_50 (by decide) rfl (fun h_50 => ?_) (fun h_50 => ?_)
  · -- T 50
    refine s_aload_n (q := 73) d_M_write_72 rfl rfl (Or.inr ⟨_, rfl⟩) ?_
    refine s_iconst (v := 1) (q := 74) d_M_write_73 rfl ki_1 ?_
    refine g_callV (q := 77) d_M_write_74 rfl ml_M_96 mx_M_meets mv_M_meets t_M_meets skM rfl rfl (Nat.le_of_ble_eq_true rfl) (by decide) ?_
    exact g_iret d_M_write_77 rfl rfl (by decide) rfl
  · -- F 50
    refine s_aload_n (q := 54) d_M_write_53 rfl rfl (Or.inr ⟨_, rfl⟩) ?_
    refine g_getr (q := 57) d_M_write_54 rfl fl_M_59 skM rfl ?_
    refine s_iload_n (q := 58) d_M_write_57 rfl rfl ?_
    refine g_zald (q := 59) d_M_write_58 rfl sm_16 (by omega) rfl hg ?_
    refine s_if_eq (tgt := 72) (q := 62) d_M_write_59 (by decide) rfl (fun h_59 => ?_) (fun h_59 => ?_)
    · -- T 59
      refine s_aload_n (q := 73) d_M_write_72 rfl rfl (Or.inr ⟨_, rfl⟩) ?_
      refine s_iconst (v := 1) (q := 74) d_M_write_73 rfl ki_1 ?_
      refine g_callV (q := 77) d_M_write_74 rfl ml_M_96 mx_M_meets mv_M_meets t_M_meets skM rfl rfl (Nat.le_of_ble_eq_true rfl) (by decide) ?_
      exact g_iret d_M_write_77 rfl rfl (by decide) rfl
    · -- F 59
      refine s_aload_n (q := 63) d_M_write_62 rfl rfl (Or.inr ⟨_, rfl⟩) ?_
      refine g_getr (q := 66) d_M_write_63 rfl fl_M_59 skM rfl ?_
      refine s_iload (q := 68) d_M_write_66 rfl rfl ?_
      refine g_zald (q := 69) d_M_write_68 rfl sm_16 (by omega) rfl hv ?_
      refine s_if_ne (tgt := 78) (q := 72) d_M_write_69 (by decide) rfl (fun h_69 => ?_) (fun h_69 => ?_)
      · -- T 69
        exact absurd ⟨h_50, h_59, h_69⟩ hl --done
      · -- F 69
        refine s_aload_n (q := 73) d_M_write_72 rfl rfl (Or.inr ⟨_, rfl⟩) ?_
        refine s_iconst (v := 1) (q := 74) d_M_write_73 rfl ki_1 ?_
        refine g_callV (q := 77) d_M_write_74 rfl ml_M_96 mx_M_meets mv_M_meets t_M_meets skM rfl rfl (Nat.le_of_ble_eq_true rfl) (by decide) ?_
        exact g_iret d_M_write_77 rfl rfl (by decide) rfl
def ly3 (Y : RAM) (k g v it : Nat) (a1 a2 a3 : Int32) : RAM := up2 (up2 (up2 Y 142 (40 * k + it) (cutV (Y 140 k) a1)) 142 (40 * g + it) (cutV (Y 140 g) a2)) 142 (40 * v + it) (cutV (Y 140 v) a3)
def mwS (X : RAM) (t k g v rm : Nat) : Nat → RAM × Nat
  | 0 => (X, 0)
  | z + 1 => if (mwS X t k g v rm z).2 < rm ∧ kaV X (96 * t + z) = true then (ly3 (mwS X t k g v rm z).1 k g v (mwS X t k g v rm z).2 (X 124 (96 * t + z)) (X 125 (96 * t + z)) (X 126 (96 * t + z)), (mwS X t k g v rm z).2 + 1) else mwS X t k g v rm z
theorem mwS_ne {X : RAM} {t k g v rm a : Nat} (h : a ≠ 142) (z : Nat) : (mwS X t k g v rm z).1 a = X a := by
  induction z with
  | zero => rfl
  | succ z ih =>
    unfold mwS
    split
    · show ly3 _ _ _ _ _ _ _ _ a = X a
      unfold ly3
      rw [up2_ne h, up2_ne h, up2_ne h]
      exact ih
    · exact ih
theorem mwS_stay {X : RAM} {t k g v rm z : Nat} (h : rm ≤ (mwS X t k g v rm z).2) (d : Nat) : mwS X t k g v rm (z + d) = mwS X t k g v rm z := by
  induction d with
  | zero => rfl
  | succ d ih => rw [show z + (d + 1) = (z + d) + 1 by omega, mwS, ih, if_neg (by omega)]
theorem mwS_le {X : RAM} {t k g v rm : Nat} (hr : rm ≤ 40) (z : Nat) : (mwS X t k g v rm z).2 ≤ 40 := by
  induction z with
  | zero => exact Nat.zero_le 40
  | succ z ih =>
    unfold mwS
    split
    · show _ + 1 ≤ 40; omega
    · exact ih
theorem kaV_same {X Y : RAM} {r : Nat} (h1 : Y 123 = X 123) (h2 : Y 127 = X 127) : kaV Y r = kaV X r := by unfold kaV; rw [h1, h2]
theorem e96 (t : Nat) : nI (96 * t) + 96 = nI (96 * t + 96) := nI_add (96 * t) 96
theorem lp_wrM {X : RAM} {t k g v n1 n2 n3 : Nat} (ht : t < 2) (hk : k < 4) (hg : g < 4) (hv : v < 4) (m1 : n1 ≤ 40) (m2 : n2 ≤ 40) (m3 : n3 ≤ 40) : ∀ z, z ≤ 96 → V l D ac b "SpanStoreModel" c_M_write 8 (some .int) false 2 42 0 0 (some (.int (nI (mwS X t k g v (min3 n1 n2 n3) 96).2)), 144, mk (mwS X t k g v (min3 n1 n2 n3) 96).1) 0 0 145 [(0, .ref 122), (1, .int (nI t)), (2, .int (nI k)), (3, .int (nI g)), (4, .int (nI v)), (5, .int (nI (min3 n1 n2 n3))), (6, .int (nI (mwS X t k g v (min3 n1 n2 n3) z).2)), (7, .int (nI (96 * t + z)))] [] 144 (mk (mwS X t k g v (min3 n1 n2 n3) z).1) := by
  have hrm : min3 n1 n2 n3 ≤ 40 := by unfold min3; omega
  refine nat_down ?_ (fun z hz ih => ?_)
  · skip
    refine s_iload (q := 147) d_M_write_145 rfl rfl ?_
    refine s_bipush (v := 96) (q := 149) d_M_write_147 rfl kb_96 ?_
    refine s_iload_n (q := 150) d_M_write_149 rfl rfl ?_
    refine s_imul (q := 151) d_M_write_150 rfl ?_
    rw [m96]
    refine s_bipush (v := 96) (q := 153) d_M_write_151 rfl kb_96 ?_
    refine s_iadd (q := 154) d_M_write_153 rfl ?_
    rw [e96]
    refine s_icmp_ge (tgt := 225) (q := 157) d_M_write_154 (by decide) rfl (fun _ => ?_) (fun z9 => absurd (nI_le (Nat.le_refl _) (by omega)) z9)
    refine s_iload (q := 227) d_M_write_225 rfl rfl ?_
    exact g_iret d_M_write_227 rfl rfl rfl rfl
  · skip
    refine s_iload (q := 147) d_M_write_145 rfl rfl ?_
    refine s_bipush (v := 96) (q := 149) d_M_write_147 rfl kb_96 ?_
    refine s_iload_n (q := 150) d_M_write_149 rfl rfl ?_
    refine s_imul (q := 151) d_M_write_150 rfl ?_
    rw [m96]
    refine s_bipush (v := 96) (q := 153) d_M_write_151 rfl kb_96 ?_
    refine s_iadd (q := 154) d_M_write_153 rfl ?_
    rw [e96]
    refine s_icmp_ge (tgt := 225) (q := 157) d_M_write_154 (by decide) rfl (fun z9 => absurd z9 (nI_ge (by omega) (by omega))) (fun _ => ?_)
    refine s_iload (q := 159) d_M_write_157 rfl rfl ?_
    refine s_iload (q := 161) d_M_write_159 rfl rfl ?_
    refine s_icmp_ge (tgt := 225) (q := 164) d_M_write_161 (by decide) rfl (fun h_161 => ?_) (fun h_161 => ?_)
    · -- T 161
      have hst : (mwS X t k g v (min3 n1 n2 n3) 96) = (mwS X t k g v (min3 n1 n2 n3) z) := by
        rw [show 96 = z + (96 - z) by omega]
        exact mwS_stay (by rcases Nat.lt_or_ge (mwS X t k g v (min3 n1 n2 n3) z).2 (min3 n1 n2 n3) with q | q
                           · exact absurd h_161 (nI_ge q (by omega))
                           · exact q) _
      refine s_iload (q := 227) d_M_write_225 rfl rfl ?_
      exact g_iret d_M_write_227 rfl rfl (by rw [hst]) (by rw [hst])
    · -- F 161
      have hlt : (mwS X t k g v (min3 n1 n2 n3) z).2 < min3 n1 n2 n3 := by
        rcases Nat.lt_or_ge (mwS X t k g v (min3 n1 n2 n3) z).2 (min3 n1 n2 n3) with q | q
        · exact q
        · exact absurd (nI_le q (by have := mwS_le (X := X) (t := t) (k := k) (g := g) (v := v) hrm z; omega)) h_161
      refine s_aload_n (q := 165) d_M_write_164 rfl rfl (Or.inr ⟨_, rfl⟩) ?_
      refine s_iload (q := 167) d_M_write_165 rfl rfl ?_
      refine g_callV (q := 170) d_M_write_167 rfl ml_M_166 mx_M_isKnownAt mv_M_isKnownAt (t_M_isKnownAt (by omega)) skM rfl rfl (Nat.le_of_ble_eq_true rfl) (by decide) ?_
      rw [kaV_same (mwS_ne (by decide) z) (mwS_ne (by decide) z)]
      refine s_if_eq (tgt := 219) (q := 173) d_M_write_170 (by decide) rfl (fun h_170 => ?_) (fun h_170 => ?_)
      · -- T 170
        rw [bI_0] at h_170
        have e1 : mwS X t k g v (min3 n1 n2 n3) (z + 1) = (mwS X t k g v (min3 n1 n2 n3) z) := by
          rw [mwS, if_neg (fun q => Bool.noConfusion (h_170.symm.trans q.2))]
        rw [e1] at ih
        refine s_iinc (q := 222) d_M_write_219 rfl rfl (by first | exact inc1 _ | rfl) (by decide) ?_
        refine s_goto (tgt := 145) d_M_write_222 (by decide) ?_
        exact s_lv (lv' := [(0, .ref 122), (1, .int (nI t)), (2, .int (nI k)), (3, .int (nI g)), (4, .int (nI v)), (5, .int (nI (min3 n1 n2 n3))), (6, .int (nI _)), (7, .int (nI (96 * t + (z + 1))))]) ⟨rfl, rfl, rfl, rfl, rfl, rfl, rfl, rfl, trivial⟩ ih
      · -- F 170
        rw [bI_n0] at h_170
        have e1 : mwS X t k g v (min3 n1 n2 n3) (z + 1) = (ly3 (mwS X t k g v (min3 n1 n2 n3) z).1 k g v (mwS X t k g v (min3 n1 n2 n3) z).2 (X 124 (96 * t + z)) (X 125 (96 * t + z)) (X 126 (96 * t + z)), (mwS X t k g v (min3 n1 n2 n3) z).2 + 1) := by
          rw [mwS, if_pos ⟨hlt, h_170⟩]
        rw [e1] at ih
        refine s_aload_n (q := 174) d_M_write_173 rfl rfl (Or.inr ⟨_, rfl⟩) ?_
        refine s_iload_n (q := 175) d_M_write_174 rfl rfl ?_
        refine s_iload (q := 177) d_M_write_175 rfl rfl ?_
        refine s_aload_n (q := 178) d_M_write_177 rfl rfl (Or.inr ⟨_, rfl⟩) ?_
        refine g_getr (q := 181) d_M_write_178 rfl fl_M_13 skM rfl ?_
        refine s_iload (q := 183) d_M_write_181 rfl rfl ?_
        refine g_ialv (v := X 124 (96 * t + z)) (q := 184) d_M_write_183 rfl sm_1 (by omega) rfl (by omega) (by rw [mwS_ne (by decide)]) ?_
        refine g_callV (q := 187) d_M_write_184 rfl ml_M_186 mx_M_lay mv_M_lay (t_M_lay (i := (mwS X t k g v (min3 n1 n2 n3) z).2) hk (by omega)) skM rfl rfl (Nat.le_of_ble_eq_true rfl) (by decide) ?_
        refine s_aload_n (q := 188) d_M_write_187 rfl rfl (Or.inr ⟨_, rfl⟩) ?_
        refine s_iload_n (q := 189) d_M_write_188 rfl rfl ?_
        refine s_iload (q := 191) d_M_write_189 rfl rfl ?_
        refine s_aload_n (q := 192) d_M_write_191 rfl rfl (Or.inr ⟨_, rfl⟩) ?_
        refine g_getr (q := 195) d_M_write_192 rfl fl_M_16 skM rfl ?_
        refine s_iload (q := 197) d_M_write_195 rfl rfl ?_
        refine g_ialv (v := X 125 (96 * t + z)) (q := 198) d_M_write_197 rfl sm_2 (by omega) rfl (by omega) (by rw [up2_ne (by decide), mwS_ne (by decide)]) ?_
        refine g_callV (q := 201) d_M_write_198 rfl ml_M_186 mx_M_lay mv_M_lay (t_M_lay (i := (mwS X t k g v (min3 n1 n2 n3) z).2) hg (by omega)) skM rfl rfl (Nat.le_of_ble_eq_true rfl) (by decide) ?_
        refine s_aload_n (q := 202) d_M_write_201 rfl rfl (Or.inr ⟨_, rfl⟩) ?_
        refine s_iload (q := 204) d_M_write_202 rfl rfl ?_
        refine s_iload (q := 206) d_M_write_204 rfl rfl ?_
        refine s_aload_n (q := 207) d_M_write_206 rfl rfl (Or.inr ⟨_, rfl⟩) ?_
        refine g_getr (q := 210) d_M_write_207 rfl fl_M_19 skM rfl ?_
        refine s_iload (q := 212) d_M_write_210 rfl rfl ?_
        refine g_ialv (v := X 126 (96 * t + z)) (q := 213) d_M_write_212 rfl sm_3 (by omega) rfl (by omega) (by rw [up2_ne (by decide), up2_ne (by decide), mwS_ne (by decide)]) ?_
        refine g_callV (q := 216) d_M_write_213 rfl ml_M_186 mx_M_lay mv_M_lay (t_M_lay (i := (mwS X t k g v (min3 n1 n2 n3) z).2) hv (by omega)) skM rfl rfl (Nat.le_of_ble_eq_true rfl) (by decide) ?_
        rw [show up2 (up2 (up2 (mwS X t k g v (min3 n1 n2 n3) z).1 142 (40 * k + (mwS X t k g v (min3 n1 n2 n3) z).2) (cutV ((mwS X t k g v (min3 n1 n2 n3) z).1 140 k) (X 124 (96 * t + z)))) 142 (40 * g + (mwS X t k g v (min3 n1 n2 n3) z).2) (cutV (up2 (mwS X t k g v (min3 n1 n2 n3) z).1 142 (40 * k + (mwS X t k g v (min3 n1 n2 n3) z).2) (cutV ((mwS X t k g v (min3 n1 n2 n3) z).1 140 k) (X 124 (96 * t + z))) 140 g) (X 125 (96 * t + z)))) 142 (40 * v + (mwS X t k g v (min3 n1 n2 n3) z).2) (cutV (up2 (up2 (mwS X t k g v (min3 n1 n2 n3) z).1 142 (40 * k + (mwS X t k g v (min3 n1 n2 n3) z).2) (cutV ((mwS X t k g v (min3 n1 n2 n3) z).1 140 k) (X 124 (96 * t + z)))) 142 (40 * g + (mwS X t k g v (min3 n1 n2 n3) z).2) (cutV (up2 (mwS X t k g v (min3 n1 n2 n3) z).1 142 (40 * k + (mwS X t k g v (min3 n1 n2 n3) z).2) (cutV ((mwS X t k g v (min3 n1 n2 n3) z).1 140 k) (X 124 (96 * t + z))) 140 g) (X 125 (96 * t + z))) 140 v) (X 126 (96 * t + z))) = ly3 (mwS X t k g v (min3 n1 n2 n3) z).1 k g v (mwS X t k g v (min3 n1 n2 n3) z).2 (X 124 (96 * t + z)) (X 125 (96 * t + z)) (X 126 (96 * t + z)) from by unfold ly3; simp only [up2_ne (show 140 ≠ 142 by decide)]]
        refine s_iinc (q := 219) d_M_write_216 rfl rfl (by first | exact inc1 _ | rfl) (by decide) ?_
        refine s_iinc (q := 222) d_M_write_219 rfl rfl (by first | exact inc1 _ | rfl) (by decide) ?_
        refine s_goto (tgt := 145) d_M_write_222 (by decide) ?_
        exact s_lv (lv' := [(0, .ref 122), (1, .int (nI t)), (2, .int (nI k)), (3, .int (nI g)), (4, .int (nI v)), (5, .int (nI (min3 n1 n2 n3))), (6, .int (nI _)), (7, .int (nI (96 * t + (z + 1))))]) ⟨rfl, rfl, rfl, rfl, rfl, rfl, rfl, rfl, trivial⟩ ih
theorem mn_lt {a c : Nat} (h : a < c) : nI a = nI (min a c) := by rw [Nat.min_eq_left (by omega)]
theorem mn_ge {a c : Nat} (h : c ≤ a) : nI c = nI (min a c) := by rw [Nat.min_eq_right h]
theorem t_M_write_D {X : RAM} {t k g v n1 n2 n3 : Nat} (ht : t < 2) (hk : k < 4) (hg : g < 4) (hv : v < 4) (z1 : X 141 k = nI n1) (z2 : X 141 g = nI n2) (z3 : X 141 v = nI n3) (m1 : n1 ≤ 40) (m2 : n2 ≤ 40) (m3 : n3 ≤ 40) (hs : ¬ X 134 t = 0) (l1 : ¬ X 139 k = 0) (l2 : ¬ X 139 g = 0) (l3 : ¬ X 139 v = 0) : CG l D ac b y_M_write c_M_write 8 (some .int) 2 42 [.ref 122, .int (nI t), .int (nI k), .int (nI g), .int (nI v)] X (some (.int (nI (mwS X t k g v (min3 n1 n2 n3) 96).2))) ((mwS X t k g v (min3 n1 n2 n3) 96).1) := by
  refine Ct_of false (by decide) (fun h => by cases h) (Nat.le_of_ble_eq_true rfl) ?_
  show V l D ac b "SpanStoreModel" c_M_write 8 (some .int) false 2 42 0 0 ((some (.int (nI (mwS X t k g v (min3 n1 n2 n3) 96).2))), 144, mk ((mwS X t k g v (min3 n1 n2 n3) 96).1)) 0 0 0 [(0, .ref 122), (1, .int (nI t)), (2, .int (nI k)), (3, .int (nI g)), (4, .int (nI v))] [] 144 (mk X)
  by_cases q1 : n1 < n2
  · skip
    by_cases q2 : n3 < n1
    · skip
      refine s_iload_n (q := 1) d_M_write_0 rfl rfl ?_
      refine g_callS (q := 4) d_M_write_1 rfl ml_M_78 mx_M_isTable ms_M_isTable t_M_isTable rfl rfl (Nat.le_of_ble_eq_true rfl) (by decide) ?_
      refine s_if_eq (tgt := 29) (q := 7) d_M_write_4 (by decide) rfl (fun z9 => absurd z9 (bI_dn.mpr (inT ht))) (fun _ => ?_)
      refine s_iload_n (q := 8) d_M_write_7 rfl rfl ?_
      refine g_callS (q := 11) d_M_write_8 rfl ml_M_93 mx_M_isSheet ms_M_isSheet t_M_isSheet rfl rfl (Nat.le_of_ble_eq_true rfl) (by decide) ?_
      refine s_if_eq (tgt := 29) (q := 14) d_M_write_11 (by decide) rfl (fun z9 => absurd z9 (bI_dn.mpr (inS hk))) (fun _ => ?_)
      refine s_iload_n (q := 15) d_M_write_14 rfl rfl ?_
      refine g_callS (q := 18) d_M_write_15 rfl ml_M_93 mx_M_isSheet ms_M_isSheet t_M_isSheet rfl rfl (Nat.le_of_ble_eq_true rfl) (by decide) ?_
      refine s_if_eq (tgt := 29) (q := 21) d_M_write_18 (by decide) rfl (fun z9 => absurd z9 (bI_dn.mpr (inS hg))) (fun _ => ?_)
      refine s_iload (q := 23) d_M_write_21 rfl rfl ?_
      refine g_callS (q := 26) d_M_write_23 rfl ml_M_93 mx_M_isSheet ms_M_isSheet t_M_isSheet rfl rfl (Nat.le_of_ble_eq_true rfl) (by decide) ?_
      refine s_if_ne (tgt := 32) (q := 29) d_M_write_26 (by decide) rfl (fun _ => ?_) (fun z9 => absurd z9 (bI_dn.mpr (inS hv)))
      refine s_aload_n (q := 33) d_M_write_32 rfl rfl (Or.inr ⟨_, rfl⟩) ?_
      refine g_getr (q := 36) d_M_write_33 rfl fl_M_44 skM rfl ?_
      refine s_iload_n (q := 37) d_M_write_36 rfl rfl ?_
      refine g_zald (q := 38) d_M_write_37 rfl sm_11 (by omega) rfl ht ?_
      refine s_if_ne (tgt := 44) (q := 41) d_M_write_38 (by decide) rfl (fun _ => ?_) (fun z9 => absurd z9 hs)
      refine s_aload_n (q := 45) d_M_write_44 rfl rfl (Or.inr ⟨_, rfl⟩) ?_
      refine g_getr (q := 48) d_M_write_45 rfl fl_M_59 skM rfl ?_
      refine s_iload_n (q := 49) d_M_write_48 rfl rfl ?_
      refine g_zald (q := 50) d_M_write_49 rfl sm_16 (by omega) rfl hk ?_
      refine s_if_eq (tgt := 72) (q := 53) d_M_write_50 (by decide) rfl (fun z9 => absurd z9 l1) (fun _ => ?_)
      refine s_aload_n (q := 54) d_M_write_53 rfl rfl (Or.inr ⟨_, rfl⟩) ?_
      refine g_getr (q := 57) d_M_write_54 rfl fl_M_59 skM rfl ?_
      refine s_iload_n (q := 58) d_M_write_57 rfl rfl ?_
      refine g_zald (q := 59) d_M_write_58 rfl sm_16 (by omega) rfl hg ?_
      refine s_if_eq (tgt := 72) (q := 62) d_M_write_59 (by decide) rfl (fun z9 => absurd z9 l2) (fun _ => ?_)
      refine s_aload_n (q := 63) d_M_write_62 rfl rfl (Or.inr ⟨_, rfl⟩) ?_
      refine g_getr (q := 66) d_M_write_63 rfl fl_M_59 skM rfl ?_
      refine s_iload (q := 68) d_M_write_66 rfl rfl ?_
      refine g_zald (q := 69) d_M_write_68 rfl sm_16 (by omega) rfl hv ?_
      refine s_if_ne (tgt := 78) (q := 72) d_M_write_69 (by decide) rfl (fun _ => ?_) (fun z9 => absurd z9 l3)
      refine s_aload_n (q := 79) d_M_write_78 rfl rfl (Or.inr ⟨_, rfl⟩) ?_
      refine g_getr (q := 82) d_M_write_79 rfl fl_M_65 skM rfl ?_
      refine s_iload_n (q := 83) d_M_write_82 rfl rfl ?_
      refine g_ialv (v := nI n1) (q := 84) d_M_write_83 rfl sm_18 (by omega) rfl hk z1 ?_
      refine s_aload_n (q := 85) d_M_write_84 rfl rfl (Or.inr ⟨_, rfl⟩) ?_
      refine g_getr (q := 88) d_M_write_85 rfl fl_M_65 skM rfl ?_
      refine s_iload_n (q := 89) d_M_write_88 rfl rfl ?_
      refine g_ialv (v := nI n2) (q := 90) d_M_write_89 rfl sm_18 (by omega) rfl hg z2 ?_
      refine s_icmp_ge (tgt := 102) (q := 93) d_M_write_90 (by decide) rfl (fun z9 => absurd z9 (nI_ge q1 (by omega))) (fun _ => ?_)
      refine s_aload_n (q := 94) d_M_write_93 rfl rfl (Or.inr ⟨_, rfl⟩) ?_
      refine g_getr (q := 97) d_M_write_94 rfl fl_M_65 skM rfl ?_
      refine s_iload_n (q := 98) d_M_write_97 rfl rfl ?_
      refine g_ialv (v := nI n1) (q := 99) d_M_write_98 rfl sm_18 (by omega) rfl hk z1 ?_
      refine s_goto (tgt := 108) d_M_write_99 (by decide) ?_
      refine s_istore (q := 110) d_M_write_108 rfl (by decide) ?_
      refine s_aload_n (q := 111) d_M_write_110 rfl rfl (Or.inr ⟨_, rfl⟩) ?_
      refine g_getr (q := 114) d_M_write_111 rfl fl_M_65 skM rfl ?_
      refine s_iload (q := 116) d_M_write_114 rfl rfl ?_
      refine g_ialv (v := nI n3) (q := 117) d_M_write_116 rfl sm_18 (by omega) rfl hv z3 ?_
      refine s_iload (q := 119) d_M_write_117 rfl rfl ?_
      refine s_icmp_ge (tgt := 132) (q := 122) d_M_write_119 (by decide) rfl (fun z9 => absurd z9 (nI_ge q2 (by omega))) (fun _ => ?_)
      refine s_aload_n (q := 123) d_M_write_122 rfl rfl (Or.inr ⟨_, rfl⟩) ?_
      refine g_getr (q := 126) d_M_write_123 rfl fl_M_65 skM rfl ?_
      refine s_iload (q := 128) d_M_write_126 rfl rfl ?_
      refine g_ialv (v := nI n3) (q := 129) d_M_write_128 rfl sm_18 (by omega) rfl hv z3 ?_
      refine s_goto (tgt := 134) d_M_write_129 (by decide) ?_
      refine s_istore (q := 136) d_M_write_134 rfl (by decide) ?_
      refine s_iconst (v := 0) (q := 137) d_M_write_136 rfl ki_0 ?_
      refine s_istore (q := 139) d_M_write_137 rfl (by decide) ?_
      refine s_bipush (v := 96) (q := 141) d_M_write_139 rfl kb_96 ?_
      refine s_iload_n (q := 142) d_M_write_141 rfl rfl ?_
      refine s_imul (q := 143) d_M_write_142 rfl ?_
      rw [m96]
      refine s_istore (q := 145) d_M_write_143 rfl (by decide) ?_
      exact s_lv (lv' := [(0, .ref 122), (1, .int (nI t)), (2, .int (nI k)), (3, .int (nI g)), (4, .int (nI v)), (5, .int (nI (min3 n1 n2 n3))), (6, .int (nI (mwS X t k g v (min3 n1 n2 n3) 0).2)), (7, .int (nI (96 * t + 0)))]) ⟨rfl, rfl, rfl, rfl, rfl, by show some (Value.int (nI n3)) = some (Value.int (nI (min3 n1 n2 n3))); rw [show min3 n1 n2 n3 = n3 from by unfold min3; omega], rfl, rfl, trivial⟩ (lp_wrM ht hk hg hv m1 m2 m3 0 (Nat.zero_le 96))
    · skip
      refine s_iload_n (q := 1) d_M_write_0 rfl rfl ?_
      refine g_callS (q := 4) d_M_write_1 rfl ml_M_78 mx_M_isTable ms_M_isTable t_M_isTable rfl rfl (Nat.le_of_ble_eq_true rfl) (by decide) ?_
      refine s_if_eq (tgt := 29) (q := 7) d_M_write_4 (by decide) rfl (fun z9 => absurd z9 (bI_dn.mpr (inT ht))) (fun _ => ?_)
      refine s_iload_n (q := 8) d_M_write_7 rfl rfl ?_
      refine g_callS (q := 11) d_M_write_8 rfl ml_M_93 mx_M_isSheet ms_M_isSheet t_M_isSheet rfl rfl (Nat.le_of_ble_eq_true rfl) (by decide) ?_
      refine s_if_eq (tgt := 29) (q := 14) d_M_write_11 (by decide) rfl (fun z9 => absurd z9 (bI_dn.mpr (inS hk))) (fun _ => ?_)
      refine s_iload_n (q := 15) d_M_write_14 rfl rfl ?_
      refine g_callS (q := 18) d_M_write_15 rfl ml_M_93 mx_M_isSheet ms_M_isSheet t_M_isSheet rfl rfl (Nat.le_of_ble_eq_true rfl) (by decide) ?_
      refine s_if_eq (tgt := 29) (q := 21) d_M_write_18 (by decide) rfl (fun z9 => absurd z9 (bI_dn.mpr (inS hg))) (fun _ => ?_)
      refine s_iload (q := 23) d_M_write_21 rfl rfl ?_
      refine g_callS (q := 26) d_M_write_23 rfl ml_M_93 mx_M_isSheet ms_M_isSheet t_M_isSheet rfl rfl (Nat.le_of_ble_eq_true rfl) (by decide) ?_
      refine s_if_ne (tgt := 32) (q := 29) d_M_write_26 (by decide) rfl (fun _ => ?_) (fun z9 => absurd z9 (bI_dn.mpr (inS hv)))
      refine s_aload_n (q := 33) d_M_write_32 rfl rfl (Or.inr ⟨_, rfl⟩) ?_
      refine g_getr (q := 36) d_M_write_33 rfl fl_M_44 skM rfl ?_
      refine s_iload_n (q := 37) d_M_write_36 rfl rfl ?_
      refine g_zald (q := 38) d_M_write_37 rfl sm_11 (by omega) rfl ht ?_
      refine s_if_ne (tgt := 44) (q := 41) d_M_write_38 (by decide) rfl (fun _ => ?_) (fun z9 => absurd z9 hs)
      refine s_aload_n (q := 45) d_M_write_44 rfl rfl (Or.inr ⟨_, rfl⟩) ?_
      refine g_getr (q := 48) d_M_write_45 rfl fl_M_59 skM rfl ?_
      refine s_iload_n (q := 49) d_M_write_48 rfl rfl ?_
      refine g_zald (q := 50) d_M_write_49 rfl sm_16 (by omega) rfl hk ?_
      refine s_if_eq (tgt := 72) (q := 53) d_M_write_50 (by decide) rfl (fun z9 => absurd z9 l1) (fun _ => ?_)
      refine s_aload_n (q := 54) d_M_write_53 rfl rfl (Or.inr ⟨_, rfl⟩) ?_
      refine g_getr (q := 57) d_M_write_54 rfl fl_M_59 skM rfl ?_
      refine s_iload_n (q := 58) d_M_write_57 rfl rfl ?_
      refine g_zald (q := 59) d_M_write_58 rfl sm_16 (by omega) rfl hg ?_
      refine s_if_eq (tgt := 72) (q := 62) d_M_write_59 (by decide) rfl (fun z9 => absurd z9 l2) (fun _ => ?_)
      refine s_aload_n (q := 63) d_M_write_62 rfl rfl (Or.inr ⟨_, rfl⟩) ?_
      refine g_getr (q := 66) d_M_write_63 rfl fl_M_59 skM rfl ?_
      refine s_iload (q := 68) d_M_write_66 rfl rfl ?_
      refine g_zald (q := 69) d_M_write_68 rfl sm_16 (by omega) rfl hv ?_
      refine s_if_ne (tgt := 78) (q := 72) d_M_write_69 (by decide) rfl (fun _ => ?_) (fun z9 => absurd z9 l3)
      refine s_aload_n (q := 79) d_M_write_78 rfl rfl (Or.inr ⟨_, rfl⟩) ?_
      refine g_getr (q := 82) d_M_write_79 rfl fl_M_65 skM rfl ?_
      refine s_iload_n (q := 83) d_M_write_82 rfl rfl ?_
      refine g_ialv (v := nI n1) (q := 84) d_M_write_83 rfl sm_18 (by omega) rfl hk z1 ?_
      refine s_aload_n (q := 85) d_M_write_84 rfl rfl (Or.inr ⟨_, rfl⟩) ?_
      refine g_getr (q := 88) d_M_write_85 rfl fl_M_65 skM rfl ?_
      refine s_iload_n (q := 89) d_M_write_88 rfl rfl ?_
      refine g_ialv (v := nI n2) (q := 90) d_M_write_89 rfl sm_18 (by omega) rfl hg z2 ?_
      refine s_icmp_ge (tgt := 102) (q := 93) d_M_write_90 (by decide) rfl (fun z9 => absurd z9 (nI_ge q1 (by omega))) (fun _ => ?_)
      refine s_aload_n (q := 94) d_M_write_93 rfl rfl (Or.inr ⟨_, rfl⟩) ?_
      refine g_getr (q := 97) d_M_write_94 rfl fl_M_65 skM rfl ?_
      refine s_iload_n (q := 98) d_M_write_97 rfl rfl ?_
      refine g_ialv (v := nI n1) (q := 99) d_M_write_98 rfl sm_18 (by omega) rfl hk z1 ?_
      refine s_goto (tgt := 108) d_M_write_99 (by decide) ?_
      refine s_istore (q := 110) d_M_write_108 rfl (by decide) ?_
      refine s_aload_n (q := 111) d_M_write_110 rfl rfl (Or.inr ⟨_, rfl⟩) ?_
      refine g_getr (q := 114) d_M_write_111 rfl fl_M_65 skM rfl ?_
      refine s_iload (q := 116) d_M_write_114 rfl rfl ?_
      refine g_ialv (v := nI n3) (q := 117) d_M_write_116 rfl sm_18 (by omega) rfl hv z3 ?_
      refine s_iload (q := 119) d_M_write_117 rfl rfl ?_
      refine s_icmp_ge (tgt := 132) (q := 122) d_M_write_119 (by decide) rfl (fun _ => ?_) (fun z9 => absurd (nI_le (Nat.le_of_not_lt q2) (by omega)) z9)
      refine s_iload (q := 134) d_M_write_132 rfl rfl ?_
      refine s_istore (q := 136) d_M_write_134 rfl (by decide) ?_
      refine s_iconst (v := 0) (q := 137) d_M_write_136 rfl ki_0 ?_
      refine s_istore (q := 139) d_M_write_137 rfl (by decide) ?_
      refine s_bipush (v := 96) (q := 141) d_M_write_139 rfl kb_96 ?_
      refine s_iload_n (q := 142) d_M_write_141 rfl rfl ?_
      refine s_imul (q := 143) d_M_write_142 rfl ?_
      rw [m96]
      refine s_istore (q := 145) d_M_write_143 rfl (by decide) ?_
      exact s_lv (lv' := [(0, .ref 122), (1, .int (nI t)), (2, .int (nI k)), (3, .int (nI g)), (4, .int (nI v)), (5, .int (nI (min3 n1 n2 n3))), (6, .int (nI (mwS X t k g v (min3 n1 n2 n3) 0).2)), (7, .int (nI (96 * t + 0)))]) ⟨rfl, rfl, rfl, rfl, rfl, by show some (Value.int (nI n1)) = some (Value.int (nI (min3 n1 n2 n3))); rw [show min3 n1 n2 n3 = n1 from by unfold min3; omega], rfl, rfl, trivial⟩ (lp_wrM ht hk hg hv m1 m2 m3 0 (Nat.zero_le 96))
  · skip
    by_cases q2 : n3 < n2
    · skip
      refine s_iload_n (q := 1) d_M_write_0 rfl rfl ?_
      refine g_callS (q := 4) d_M_write_1 rfl ml_M_78 mx_M_isTable ms_M_isTable t_M_isTable rfl rfl (Nat.le_of_ble_eq_true rfl) (by decide) ?_
      refine s_if_eq (tgt := 29) (q := 7) d_M_write_4 (by decide) rfl (fun z9 => absurd z9 (bI_dn.mpr (inT ht))) (fun _ => ?_)
      refine s_iload_n (q := 8) d_M_write_7 rfl rfl ?_
      refine g_callS (q := 11) d_M_write_8 rfl ml_M_93 mx_M_isSheet ms_M_isSheet t_M_isSheet rfl rfl (Nat.le_of_ble_eq_true rfl) (by decide) ?_
      refine s_if_eq (tgt := 29) (q := 14) d_M_write_11 (by decide) rfl (fun z9 => absurd z9 (bI_dn.mpr (inS hk))) (fun _ => ?_)
      refine s_iload_n (q := 15) d_M_write_14 rfl rfl ?_
      refine g_callS (q := 18) d_M_write_15 rfl ml_M_93 mx_M_isSheet ms_M_isSheet t_M_isSheet rfl rfl (Nat.le_of_ble_eq_true rfl) (by decide) ?_
      refine s_if_eq (tgt := 29) (q := 21) d_M_write_18 (by decide) rfl (fun z9 => absurd z9 (bI_dn.mpr (inS hg))) (fun _ => ?_)
      refine s_iload (q := 23) d_M_write_21 rfl rfl ?_
      refine g_callS (q := 26) d_M_write_23 rfl ml_M_93 mx_M_isSheet ms_M_isSheet t_M_isSheet rfl rfl (Nat.le_of_ble_eq_true rfl) (by decide) ?_
      refine s_if_ne (tgt := 32) (q := 29) d_M_write_26 (by decide) rfl (fun _ => ?_) (fun z9 => absurd z9 (bI_dn.mpr (inS hv)))
      refine s_aload_n (q := 33) d_M_write_32 rfl rfl (Or.inr ⟨_, rfl⟩) ?_
      refine g_getr (q := 36) d_M_write_33 rfl fl_M_44 skM rfl ?_
      refine s_iload_n (q := 37) d_M_write_36 rfl rfl ?_
      refine g_zald (q := 38) d_M_write_37 rfl sm_11 (by omega) rfl ht ?_
      refine s_if_ne (tgt := 44) (q := 41) d_M_write_38 (by decide) rfl (fun _ => ?_) (fun z9 => absurd z9 hs)
      refine s_aload_n (q := 45) d_M_write_44 rfl rfl (Or.inr ⟨_, rfl⟩) ?_
      refine g_getr (q := 48) d_M_write_45 rfl fl_M_59 skM rfl ?_
      refine s_iload_n (q := 49) d_M_write_48 rfl rfl ?_
      refine g_zald (q := 50) d_M_write_49 rfl sm_16 (by omega) rfl hk ?_
      refine s_if_eq (tgt := 72) (q := 53) d_M_write_50 (by decide) rfl (fun z9 => absurd z9 l1) (fun _ => ?_)
      refine s_aload_n (q := 54) d_M_write_53 rfl rfl (Or.inr ⟨_, rfl⟩) ?_
      refine g_getr (q := 57) d_M_write_54 rfl fl_M_59 skM rfl ?_
      refine s_iload_n (q := 58) d_M_write_57 rfl rfl ?_
      refine g_zald (q := 59) d_M_write_58 rfl sm_16 (by omega) rfl hg ?_
      refine s_if_eq (tgt := 72) (q := 62) d_M_write_59 (by decide) rfl (fun z9 => absurd z9 l2) (fun _ => ?_)
      refine s_aload_n (q := 63) d_M_write_62 rfl rfl (Or.inr ⟨_, rfl⟩) ?_
      refine g_getr (q := 66) d_M_write_63 rfl fl_M_59 skM rfl ?_
      refine s_iload (q := 68) d_M_write_66 rfl rfl ?_
      refine g_zald (q := 69) d_M_write_68 rfl sm_16 (by omega) rfl hv ?_
      refine s_if_ne (tgt := 78) (q := 72) d_M_write_69 (by decide) rfl (fun _ => ?_) (fun z9 => absurd z9 l3)
      refine s_aload_n (q := 79) d_M_write_78 rfl rfl (Or.inr ⟨_, rfl⟩) ?_
      refine g_getr (q := 82) d_M_write_79 rfl fl_M_65 skM rfl ?_
      refine s_iload_n (q := 83) d_M_write_82 rfl rfl ?_
      refine g_ialv (v := nI n1) (q := 84) d_M_write_83 rfl sm_18 (by omega) rfl hk z1 ?_
      refine s_aload_n (q := 85) d_M_write_84 rfl rfl (Or.inr ⟨_, rfl⟩) ?_
      refine g_getr (q := 88) d_M_write_85 rfl fl_M_65 skM rfl ?_
      refine s_iload_n (q := 89) d_M_write_88 rfl rfl ?_
      refine g_ialv (v := nI n2) (q := 90) d_M_write_89 rfl sm_18 (by omega) rfl hg z2 ?_
      refine s_icmp_ge (tgt := 102) (q := 93) d_M_write_90 (by decide) rfl (fun _ => ?_) (fun z9 => absurd (nI_le (Nat.le_of_not_lt q1) (by omega)) z9)
      refine s_aload_n (q := 103) d_M_write_102 rfl rfl (Or.inr ⟨_, rfl⟩) ?_
      refine g_getr (q := 106) d_M_write_103 rfl fl_M_65 skM rfl ?_
      refine s_iload_n (q := 107) d_M_write_106 rfl rfl ?_
      refine g_ialv (v := nI n2) (q := 108) d_M_write_107 rfl sm_18 (by omega) rfl hg z2 ?_
      refine s_istore (q := 110) d_M_write_108 rfl (by decide) ?_
      refine s_aload_n (q := 111) d_M_write_110 rfl rfl (Or.inr ⟨_, rfl⟩) ?_
      refine g_getr (q := 114) d_M_write_111 rfl fl_M_65 skM rfl ?_
      refine s_iload (q := 116) d_M_write_114 rfl rfl ?_
      refine g_ialv (v := nI n3) (q := 117) d_M_write_116 rfl sm_18 (by omega) rfl hv z3 ?_
      refine s_iload (q := 119) d_M_write_117 rfl rfl ?_
      refine s_icmp_ge (tgt := 132) (q := 122) d_M_write_119 (by decide) rfl (fun z9 => absurd z9 (nI_ge q2 (by omega))) (fun _ => ?_)
      refine s_aload_n (q := 123) d_M_write_122 rfl rfl (Or.inr ⟨_, rfl⟩) ?_
      refine g_getr (q := 126) d_M_write_123 rfl fl_M_65 skM rfl ?_
      refine s_iload (q := 128) d_M_write_126 rfl rfl ?_
      refine g_ialv (v := nI n3) (q := 129) d_M_write_128 rfl sm_18 (by omega) rfl hv z3 ?_
      refine s_goto (tgt := 134) d_M_write_129 (by decide) ?_
      refine s_istore (q := 136) d_M_write_134 rfl (by decide) ?_
      refine s_iconst (v := 0) (q := 137) d_M_write_136 rfl ki_0 ?_
      refine s_istore (q := 139) d_M_write_137 rfl (by decide) ?_
      refine s_bipush (v := 96) (q := 141) d_M_write_139 rfl kb_96 ?_
      refine s_iload_n (q := 142) d_M_write_141 rfl rfl ?_
      refine s_imul (q := 143) d_M_write_142 rfl ?_
      rw [m96]
      refine s_istore (q := 145) d_M_write_143 rfl (by decide) ?_
      exact s_lv (lv' := [(0, .ref 122), (1, .int (nI t)), (2, .int (nI k)), (3, .int (nI g)), (4, .int (nI v)), (5, .int (nI (min3 n1 n2 n3))), (6, .int (nI (mwS X t k g v (min3 n1 n2 n3) 0).2)), (7, .int (nI (96 * t + 0)))]) ⟨rfl, rfl, rfl, rfl, rfl, by show some (Value.int (nI n3)) = some (Value.int (nI (min3 n1 n2 n3))); rw [show min3 n1 n2 n3 = n3 from by unfold min3; omega], rfl, rfl, trivial⟩ (lp_wrM ht hk hg hv m1 m2 m3 0 (Nat.zero_le 96))
    · skip
      refine s_iload_n (q := 1) d_M_write_0 rfl rfl ?_
      refine g_callS (q := 4) d_M_write_1 rfl ml_M_78 mx_M_isTable ms_M_isTable t_M_isTable rfl rfl (Nat.le_of_ble_eq_true rfl) (by decide) ?_
      refine s_if_eq (tgt := 29) (q := 7) d_M_write_4 (by decide) rfl (fun z9 => absurd z9 (bI_dn.mpr (inT ht))) (fun _ => ?_)
      refine s_iload_n (q := 8) d_M_write_7 rfl rfl ?_
      refine g_callS (q := 11) d_M_write_8 rfl ml_M_93 mx_M_isSheet ms_M_isSheet t_M_isSheet rfl rfl (Nat.le_of_ble_eq_true rfl) (by decide) ?_
      refine s_if_eq (tgt := 29) (q := 14) d_M_write_11 (by decide) rfl (fun z9 => absurd z9 (bI_dn.mpr (inS hk))) (fun _ => ?_)
      refine s_iload_n (q := 15) d_M_write_14 rfl rfl ?_
      refine g_callS (q := 18) d_M_write_15 rfl ml_M_93 mx_M_isSheet ms_M_isSheet t_M_isSheet rfl rfl (Nat.le_of_ble_eq_true rfl) (by decide) ?_
      refine s_if_eq (tgt := 29) (q := 21) d_M_write_18 (by decide) rfl (fun z9 => absurd z9 (bI_dn.mpr (inS hg))) (fun _ => ?_)
      refine s_iload (q := 23) d_M_write_21 rfl rfl ?_
      refine g_callS (q := 26) d_M_write_23 rfl ml_M_93 mx_M_isSheet ms_M_isSheet t_M_isSheet rfl rfl (Nat.le_of_ble_eq_true rfl) (by decide) ?_
      refine s_if_ne (tgt := 32) (q := 29) d_M_write_26 (by decide) rfl (fun _ => ?_) (fun z9 => absurd z9 (bI_dn.mpr (inS hv)))
      refine s_aload_n (q := 33) d_M_write_32 rfl rfl (Or.inr ⟨_, rfl⟩) ?_
      refine g_getr (q := 36) d_M_write_33 rfl fl_M_44 skM rfl ?_
      refine s_iload_n (q := 37) d_M_write_36 rfl rfl ?_
      refine g_zald (q := 38) d_M_write_37 rfl sm_11 (by omega) rfl ht ?_
      refine s_if_ne (tgt := 44) (q := 41) d_M_write_38 (by decide) rfl (fun _ => ?_) (fun z9 => absurd z9 hs)
      refine s_aload_n (q := 45) d_M_write_44 rfl rfl (Or.inr ⟨_, rfl⟩) ?_
      refine g_getr (q := 48) d_M_write_45 rfl fl_M_59 skM rfl ?_
      refine s_iload_n (q := 49) d_M_write_48 rfl rfl ?_
      refine g_zald (q := 50) d_M_write_49 rfl sm_16 (by omega) rfl hk ?_
      refine s_if_eq (tgt := 72) (q := 53) d_M_write_50 (by decide) rfl (fun z9 => absurd z9 l1) (fun _ => ?_)
      refine s_aload_n (q := 54) d_M_write_53 rfl rfl (Or.inr ⟨_, rfl⟩) ?_
      refine g_getr (q := 57) d_M_write_54 rfl fl_M_59 skM rfl ?_
      refine s_iload_n (q := 58) d_M_write_57 rfl rfl ?_
      refine g_zald (q := 59) d_M_write_58 rfl sm_16 (by omega) rfl hg ?_
      refine s_if_eq (tgt := 72) (q := 62) d_M_write_59 (by decide) rfl (fun z9 => absurd z9 l2) (fun _ => ?_)
      refine s_aload_n (q := 63) d_M_write_62 rfl rfl (Or.inr ⟨_, rfl⟩) ?_
      refine g_getr (q := 66) d_M_write_63 rfl fl_M_59 skM rfl ?_
      refine s_iload (q := 68) d_M_write_66 rfl rfl ?_
      refine g_zald (q := 69) d_M_write_68 rfl sm_16 (by omega) rfl hv ?_
      refine s_if_ne (tgt := 78) (q := 72) d_M_write_69 (by decide) rfl (fun _ => ?_) (fun z9 => absurd z9 l3)
      refine s_aload_n (q := 79) d_M_write_78 rfl rfl (Or.inr ⟨_, rfl⟩) ?_
      refine g_getr (q := 82) d_M_write_79 rfl fl_M_65 skM rfl ?_
      refine s_iload_n (q := 83) d_M_write_82 rfl rfl ?_
      refine g_ialv (v := nI n1) (q := 84) d_M_write_83 rfl sm_18 (by omega) rfl hk z1 ?_
      refine s_aload_n (q := 85) d_M_write_84 rfl rfl (Or.inr ⟨_, rfl⟩) ?_
      refine g_getr (q := 88) d_M_write_85 rfl fl_M_65 skM rfl ?_
      refine s_iload_n (q := 89) d_M_write_88 rfl rfl ?_
      refine g_ialv (v := nI n2) (q := 90) d_M_write_89 rfl sm_18 (by omega) rfl hg z2 ?_
      refine s_icmp_ge (tgt := 102) (q := 93) d_M_write_90 (by decide) rfl (fun _ => ?_) (fun z9 => absurd (nI_le (Nat.le_of_not_lt q1) (by omega)) z9)
      refine s_aload_n (q := 103) d_M_write_102 rfl rfl (Or.inr ⟨_, rfl⟩) ?_
      refine g_getr (q := 106) d_M_write_103 rfl fl_M_65 skM rfl ?_
      refine s_iload_n (q := 107) d_M_write_106 rfl rfl ?_
      refine g_ialv (v := nI n2) (q := 108) d_M_write_107 rfl sm_18 (by omega) rfl hg z2 ?_
      refine s_istore (q := 110) d_M_write_108 rfl (by decide) ?_
      refine s_aload_n (q := 111) d_M_write_110 rfl rfl (Or.inr ⟨_, rfl⟩) ?_
      refine g_getr (q := 114) d_M_write_111 rfl fl_M_65 skM rfl ?_
      refine s_iload (q := 116) d_M_write_114 rfl rfl ?_
      refine g_ialv (v := nI n3) (q := 117) d_M_write_116 rfl sm_18 (by omega) rfl hv z3 ?_
      refine s_iload (q := 119) d_M_write_117 rfl rfl ?_
      refine s_icmp_ge (tgt := 132) (q := 122) d_M_write_119 (by decide) rfl (fun _ => ?_) (fun z9 => absurd (nI_le (Nat.le_of_not_lt q2) (by omega)) z9)
      refine s_iload (q := 134) d_M_write_132 rfl rfl ?_
      refine s_istore (q := 136) d_M_write_134 rfl (by decide) ?_
      refine s_iconst (v := 0) (q := 137) d_M_write_136 rfl ki_0 ?_
      refine s_istore (q := 139) d_M_write_137 rfl (by decide) ?_
      refine s_bipush (v := 96) (q := 141) d_M_write_139 rfl kb_96 ?_
      refine s_iload_n (q := 142) d_M_write_141 rfl rfl ?_
      refine s_imul (q := 143) d_M_write_142 rfl ?_
      rw [m96]
      refine s_istore (q := 145) d_M_write_143 rfl (by decide) ?_
      exact s_lv (lv' := [(0, .ref 122), (1, .int (nI t)), (2, .int (nI k)), (3, .int (nI g)), (4, .int (nI v)), (5, .int (nI (min3 n1 n2 n3))), (6, .int (nI (mwS X t k g v (min3 n1 n2 n3) 0).2)), (7, .int (nI (96 * t + 0)))]) ⟨rfl, rfl, rfl, rfl, rfl, by show some (Value.int (nI n2)) = some (Value.int (nI (min3 n1 n2 n3))); rw [show min3 n1 n2 n3 = n2 from by unfold min3; omega], rfl, rfl, trivial⟩ (lp_wrM ht hk hg hv m1 m2 m3 0 (Nat.zero_le 96))
def mtV2 (X : RAM) (w : Nat) : Int32 := match w with
  | 0 => mrT X 0
  | 1 => mrT X 1
  | 2 => X 122 16
  | 3 => X 122 22
  | 4 => bI (decide (¬ X 134 0 = 0))
  | 5 => bI (decide (¬ X 134 1 = 0))
  | 6 => X 135 0
  | 7 => X 135 1
  | 8 => if X 134 0 = 0 then 0 else mkS X 0 8
  | _ => if X 134 1 = 0 then 0 else mkS X 1 8
theorem t_M_told {X : RAM} {w : Nat} (hw : w < 10) (hM : okM X) : CG l D ac b y_M_told c_M_told 2 (some .int) 2 46 [.ref 122, .int (nI w)] X (some (.int (mtV2 X w))) X := by
  rcases (show w = 0 ∨ w = 1 ∨ w = 2 ∨ w = 3 ∨ w = 4 ∨ w = 5 ∨ w = 6 ∨ w = 7 ∨ w = 8 ∨ w = 9 by omega) with rfl | rfl | rfl | rfl | rfl | rfl | rfl | rfl | rfl | rfl
  · skip
    refine Ct_of false (by decide) (fun h => by cases h) (Nat.le_of_ble_eq_true rfl) ?_
    show V l D ac b "SpanStoreModel" c_M_told 2 (some .int) false 2 46 0 0 ((some (.int (mtV2 X 0))), 144, mk X) 0 0 0 [(0, .ref 122), (1, .int (nI 0))] [] 144 (mk X)
    refine s_iload_n (q := 1) d_M_told_0 rfl rfl ?_
    refine s_tsIn (tgt := 56) d_M_told_1 (by decide) (by decide) rfl (by decide) ?_
    refine s_aload_n (q := 57) d_M_told_56 rfl rfl (Or.inr ⟨_, rfl⟩) ?_
    refine s_iload_n (q := 58) d_M_told_57 rfl rfl ?_
    refine g_callV (q := 61) d_M_told_58 rfl ml_M_113 mx_M_rowsOf mv_M_rowsOf (t_M_rowsOf (t := 0) (by decide)) skM rfl rfl (Nat.le_of_ble_eq_true rfl) (by decide) ?_
    exact g_iret d_M_told_61 rfl rfl rfl rfl
  · skip
    refine Ct_of false (by decide) (fun h => by cases h) (Nat.le_of_ble_eq_true rfl) ?_
    show V l D ac b "SpanStoreModel" c_M_told 2 (some .int) false 2 46 0 0 ((some (.int (mtV2 X 1))), 144, mk X) 0 0 0 [(0, .ref 122), (1, .int (nI 1))] [] 144 (mk X)
    refine s_iload_n (q := 1) d_M_told_0 rfl rfl ?_
    refine s_tsIn (tgt := 56) d_M_told_1 (by decide) (by decide) rfl (by decide) ?_
    refine s_aload_n (q := 57) d_M_told_56 rfl rfl (Or.inr ⟨_, rfl⟩) ?_
    refine s_iload_n (q := 58) d_M_told_57 rfl rfl ?_
    refine g_callV (q := 61) d_M_told_58 rfl ml_M_113 mx_M_rowsOf mv_M_rowsOf (t_M_rowsOf (t := 1) (by decide)) skM rfl rfl (Nat.le_of_ble_eq_true rfl) (by decide) ?_
    exact g_iret d_M_told_61 rfl rfl rfl rfl
  · skip
    refine Ct_of false (by decide) (fun h => by cases h) (Nat.le_of_ble_eq_true rfl) ?_
    show V l D ac b "SpanStoreModel" c_M_told 2 (some .int) false 2 46 0 0 ((some (.int (mtV2 X 2))), 144, mk X) 0 0 0 [(0, .ref 122), (1, .int (nI 2))] [] 144 (mk X)
    refine s_iload_n (q := 1) d_M_told_0 rfl rfl ?_
    refine s_tsIn (tgt := 62) d_M_told_1 (by decide) (by decide) rfl (by decide) ?_
    refine s_aload_n (q := 63) d_M_told_62 rfl rfl (Or.inr ⟨_, rfl⟩) ?_
    refine g_geti (q := 66) d_M_told_63 rfl fl_M_119 skM rfl ?_
    exact g_iret d_M_told_66 rfl rfl rfl rfl
  · skip
    refine Ct_of false (by decide) (fun h => by cases h) (Nat.le_of_ble_eq_true rfl) ?_
    show V l D ac b "SpanStoreModel" c_M_told 2 (some .int) false 2 46 0 0 ((some (.int (mtV2 X 3))), 144, mk X) 0 0 0 [(0, .ref 122), (1, .int (nI 3))] [] 144 (mk X)
    refine s_iload_n (q := 1) d_M_told_0 rfl rfl ?_
    refine s_tsIn (tgt := 67) d_M_told_1 (by decide) (by decide) rfl (by decide) ?_
    refine s_aload_n (q := 68) d_M_told_67 rfl rfl (Or.inr ⟨_, rfl⟩) ?_
    refine g_geti (q := 71) d_M_told_68 rfl fl_M_179 skM rfl ?_
    exact g_iret d_M_told_71 rfl rfl rfl rfl
  · skip
    refine Ct_of false (by decide) (fun h => by cases h) (Nat.le_of_ble_eq_true rfl) ?_
    show V l D ac b "SpanStoreModel" c_M_told 2 (some .int) false 2 46 0 0 ((some (.int (mtV2 X 4))), 144, mk X) 0 0 0 [(0, .ref 122), (1, .int (nI 4))] [] 144 (mk X)
    refine s_iload_n (q := 1) d_M_told_0 rfl rfl ?_
    refine s_tsIn (tgt := 72) d_M_told_1 (by decide) (by decide) rfl (by decide) ?_
    refine s_aload_n (q := 73) d_M_told_72 rfl rfl (Or.inr ⟨_, rfl⟩) ?_
    refine g_getr (q := 76) d_M_told_73 rfl fl_M_44 skM rfl ?_
    refine s_iload_n (q := 77) d_M_told_76 rfl rfl ?_
    refine s_iconst (v := 4) (q := 78) d_M_told_77 rfl ki_4 ?_
    refine s_isub (q := 79) d_M_told_78 rfl ?_
    refine g_zald (q := 80) d_M_told_79 rfl sm_11 (by omega) (show nI 4 - 4 = nI 0 by decide) (by decide) ?_
    refine s_if_eq (tgt := 87) (q := 83) d_M_told_80 (by decide) rfl (fun h_80 => ?_) (fun h_80 => ?_)
    · -- T 80
      refine s_iconst (v := 0) (q := 88) d_M_told_87 rfl ki_0 ?_
      exact g_iret d_M_told_88 rfl rfl (by first | exact bI_is1 h_80 | exact bI_is0 (fun z => z h_80)) rfl
    · -- F 80
      refine s_iconst (v := 1) (q := 84) d_M_told_83 rfl ki_1 ?_
      refine s_goto (tgt := 88) d_M_told_84 (by decide) ?_
      exact g_iret d_M_told_88 rfl rfl (by first | exact bI_is1 h_80 | exact bI_is0 (fun z => z h_80)) rfl
  · skip
    refine Ct_of false (by decide) (fun h => by cases h) (Nat.le_of_ble_eq_true rfl) ?_
    show V l D ac b "SpanStoreModel" c_M_told 2 (some .int) false 2 46 0 0 ((some (.int (mtV2 X 5))), 144, mk X) 0 0 0 [(0, .ref 122), (1, .int (nI 5))] [] 144 (mk X)
    refine s_iload_n (q := 1) d_M_told_0 rfl rfl ?_
    refine s_tsIn (tgt := 72) d_M_told_1 (by decide) (by decide) rfl (by decide) ?_
    refine s_aload_n (q := 73) d_M_told_72 rfl rfl (Or.inr ⟨_, rfl⟩) ?_
    refine g_getr (q := 76) d_M_told_73 rfl fl_M_44 skM rfl ?_
    refine s_iload_n (q := 77) d_M_told_76 rfl rfl ?_
    refine s_iconst (v := 4) (q := 78) d_M_told_77 rfl ki_4 ?_
    refine s_isub (q := 79) d_M_told_78 rfl ?_
    refine g_zald (q := 80) d_M_told_79 rfl sm_11 (by omega) (show nI 5 - 4 = nI 1 by decide) (by decide) ?_
    refine s_if_eq (tgt := 87) (q := 83) d_M_told_80 (by decide) rfl (fun h_80 => ?_) (fun h_80 => ?_)
    · -- T 80
      refine s_iconst (v := 0) (q := 88) d_M_told_87 rfl ki_0 ?_
      exact g_iret d_M_told_88 rfl rfl (by first | exact bI_is1 h_80 | exact bI_is0 (fun z => z h_80)) rfl
    · -- F 80
      refine s_iconst (v := 1) (q := 84) d_M_told_83 rfl ki_1 ?_
      refine s_goto (tgt := 88) d_M_told_84 (by decide) ?_
      exact g_iret d_M_told_88 rfl rfl (by first | exact bI_is1 h_80 | exact bI_is0 (fun z => z h_80)) rfl
  · skip
    refine Ct_of false (by decide) (fun h => by cases h) (Nat.le_of_ble_eq_true rfl) ?_
    show V l D ac b "SpanStoreModel" c_M_told 2 (some .int) false 2 46 0 0 ((some (.int (mtV2 X 6))), 144, mk X) 0 0 0 [(0, .ref 122), (1, .int (nI 6))] [] 144 (mk X)
    refine s_iload_n (q := 1) d_M_told_0 rfl rfl ?_
    refine s_tsIn (tgt := 89) d_M_told_1 (by decide) (by decide) rfl (by decide) ?_
    refine s_aload_n (q := 90) d_M_told_89 rfl rfl (Or.inr ⟨_, rfl⟩) ?_
    refine g_getr (q := 93) d_M_told_90 rfl fl_M_47 skM rfl ?_
    refine s_iload_n (q := 94) d_M_told_93 rfl rfl ?_
    refine s_bipush (v := 6) (q := 96) d_M_told_94 rfl kb_6 ?_
    refine s_isub (q := 97) d_M_told_96 rfl ?_
    refine g_iald (q := 98) d_M_told_97 rfl sm_12 (by omega) (show nI 6 - 6 = nI 0 by decide) (by decide) ?_
    exact g_iret d_M_told_98 rfl rfl rfl rfl
  · skip
    refine Ct_of false (by decide) (fun h => by cases h) (Nat.le_of_ble_eq_true rfl) ?_
    show V l D ac b "SpanStoreModel" c_M_told 2 (some .int) false 2 46 0 0 ((some (.int (mtV2 X 7))), 144, mk X) 0 0 0 [(0, .ref 122), (1, .int (nI 7))] [] 144 (mk X)
    refine s_iload_n (q := 1) d_M_told_0 rfl rfl ?_
    refine s_tsIn (tgt := 89) d_M_told_1 (by decide) (by decide) rfl (by decide) ?_
    refine s_aload_n (q := 90) d_M_told_89 rfl rfl (Or.inr ⟨_, rfl⟩) ?_
    refine g_getr (q := 93) d_M_told_90 rfl fl_M_47 skM rfl ?_
    refine s_iload_n (q := 94) d_M_told_93 rfl rfl ?_
    refine s_bipush (v := 6) (q := 96) d_M_told_94 rfl kb_6 ?_
    refine s_isub (q := 97) d_M_told_96 rfl ?_
    refine g_iald (q := 98) d_M_told_97 rfl sm_12 (by omega) (show nI 7 - 6 = nI 1 by decide) (by decide) ?_
    exact g_iret d_M_told_98 rfl rfl rfl rfl
  · skip
    refine Ct_of false (by decide) (fun h => by cases h) (Nat.le_of_ble_eq_true rfl) ?_
    show V l D ac b "SpanStoreModel" c_M_told 2 (some .int) false 2 46 0 0 ((some (.int (mtV2 X 8))), 144, mk X) 0 0 0 [(0, .ref 122), (1, .int (nI 8))] [] 144 (mk X)
    refine s_iload_n (q := 1) d_M_told_0 rfl rfl ?_
    refine s_tsIn (tgt := 99) d_M_told_1 (by decide) (by decide) rfl (by decide) ?_
    refine s_aload_n (q := 100) d_M_told_99 rfl rfl (Or.inr ⟨_, rfl⟩) ?_
    refine g_getr (q := 103) d_M_told_100 rfl fl_M_44 skM rfl ?_
    refine s_iload_n (q := 104) d_M_told_103 rfl rfl ?_
    refine s_bipush (v := 8) (q := 106) d_M_told_104 rfl kb_8 ?_
    refine s_isub (q := 107) d_M_told_106 rfl ?_
    refine g_zald (q := 108) d_M_told_107 rfl sm_11 (by omega) (show nI 8 - 8 = nI 0 by decide) (by decide) ?_
    refine s_if_eq (tgt := 122) (q := 111) d_M_told_108 (by decide) rfl (fun h_108 => ?_) (fun h_108 => ?_)
    · -- T 108
      refine s_iconst (v := 0) (q := 123) d_M_told_122 rfl ki_0 ?_
      exact g_iret d_M_told_123 rfl rfl (by first | exact (if_pos h_108).symm | exact (if_neg h_108).symm) rfl
    · -- F 108
      refine s_aload_n (q := 112) d_M_told_111 rfl rfl (Or.inr ⟨_, rfl⟩) ?_
      refine s_iload_n (q := 113) d_M_told_112 rfl rfl ?_
      refine s_bipush (v := 8) (q := 115) d_M_told_113 rfl kb_8 ?_
      refine s_isub (q := 116) d_M_told_115 rfl ?_
      rw [show nI 8 - 8 = nI 0 by decide]
      refine g_callV (q := 119) d_M_told_116 rfl ml_M_110 mx_M_knownOf mv_M_knownOf (t_M_knownOf (t := 0) (by decide) hM) skM rfl rfl (Nat.le_of_ble_eq_true rfl) (by decide) ?_
      refine s_goto (tgt := 123) d_M_told_119 (by decide) ?_
      exact g_iret d_M_told_123 rfl rfl (by first | exact (if_pos h_108).symm | exact (if_neg h_108).symm) rfl
  · skip
    refine Ct_of false (by decide) (fun h => by cases h) (Nat.le_of_ble_eq_true rfl) ?_
    show V l D ac b "SpanStoreModel" c_M_told 2 (some .int) false 2 46 0 0 ((some (.int (mtV2 X 9))), 144, mk X) 0 0 0 [(0, .ref 122), (1, .int (nI 9))] [] 144 (mk X)
    refine s_iload_n (q := 1) d_M_told_0 rfl rfl ?_
    refine s_tsIn (tgt := 99) d_M_told_1 (by decide) (by decide) rfl (by decide) ?_
    refine s_aload_n (q := 100) d_M_told_99 rfl rfl (Or.inr ⟨_, rfl⟩) ?_
    refine g_getr (q := 103) d_M_told_100 rfl fl_M_44 skM rfl ?_
    refine s_iload_n (q := 104) d_M_told_103 rfl rfl ?_
    refine s_bipush (v := 8) (q := 106) d_M_told_104 rfl kb_8 ?_
    refine s_isub (q := 107) d_M_told_106 rfl ?_
    refine g_zald (q := 108) d_M_told_107 rfl sm_11 (by omega) (show nI 9 - 8 = nI 1 by decide) (by decide) ?_
    refine s_if_eq (tgt := 122) (q := 111) d_M_told_108 (by decide) rfl (fun h_108 => ?_) (fun h_108 => ?_)
    · -- T 108
      refine s_iconst (v := 0) (q := 123) d_M_told_122 rfl ki_0 ?_
      exact g_iret d_M_told_123 rfl rfl (by first | exact (if_pos h_108).symm | exact (if_neg h_108).symm) rfl
    · -- F 108
      refine s_aload_n (q := 112) d_M_told_111 rfl rfl (Or.inr ⟨_, rfl⟩) ?_
      refine s_iload_n (q := 113) d_M_told_112 rfl rfl ?_
      refine s_bipush (v := 8) (q := 115) d_M_told_113 rfl kb_8 ?_
      refine s_isub (q := 116) d_M_told_115 rfl ?_
      rw [show nI 9 - 8 = nI 1 by decide]
      refine g_callV (q := 119) d_M_told_116 rfl ml_M_110 mx_M_knownOf mv_M_knownOf (t_M_knownOf (t := 1) (by decide) hM) skM rfl rfl (Nat.le_of_ble_eq_true rfl) (by decide) ?_
      refine s_goto (tgt := 123) d_M_told_119 (by decide) ?_
      exact g_iret d_M_told_123 rfl rfl (by first | exact (if_pos h_108).symm | exact (if_neg h_108).symm) rfl
theorem t_M_told_B {X : RAM} {w : Int32} (hw : w < 0 ∨ 9 < w) : CG l D ac b y_M_told c_M_told 2 (some .int) 2 46 [.ref 122, .int w] X (some (.int (-2))) (X) := by
  refine Ct_of false (by decide) (fun h => by cases h) (Nat.le_of_ble_eq_true rfl) ?_
  show V l D ac b "SpanStoreModel" c_M_told 2 (some .int) false 2 46 0 0 ((some (.int (-2))), 144, mk (X)) 0 0 0 [(0, .ref 122), (1, .int w)] [] 144 (mk X)
  refine s_iload_n (q := 1) d_M_told_0 rfl rfl ?_
  refine s_tsOut (tgt := 124) d_M_told_1 (by simpa [i_lt, tI_0, show (9 : Int32).toInt = 9 from by decide] using hw) (by decide) ?_
  refine s_bipush (v := (-2)) (q := 126) d_M_told_124 rfl kb_m2 ?_
  exact g_iret d_M_told_126 rfl rfl rfl rfl
def mgS (X : RAM) : Nat → Int64
  | 0 => 17
  | w + 1 => if w = 3 then mgS X w else 31 * mgS X w + (mtV2 X w).toInt64
def maS (X : RAM) (t B c n : Nat) (h : Int64) : Nat → Int64
  | 0 => h
  | w + 1 => if w = 8 ∨ w = 9 then maS X t B c n h w else 31 * maS X t B c n h w + (maV X t B c n w).toInt64
def mrS (X : RAM) (B : Nat) (h : Int64) : Nat → Int64
  | 0 => h
  | i + 1 => if X 127 (12 * B + i) = 0 then mrS X B h i else 31 * (31 * mrS X B h i + (nI i).toInt64) + (X 126 (12 * B + i)).toInt64
def mbS2 (X : RAM) (t c : Nat) (h : Int64) : Nat → Int64
  | 0 => h
  | j + 1 => mrS X (8 * t + j) (maS X t (8 * t + j) c (mnN X (8 * t + j)) (mbS2 X t c h j) 14) (mnN X (8 * t + j))
def mtS (X : RAM) (c0 c1 : Nat) : Nat → Int64
  | 0 => mgS X 10
  | t + 1 => if X 134 t = 0 then mtS X c0 c1 t else 31 * (31 * mbS2 X t (if t = 0 then c0 else c1) (mtS X c0 c1 t) 8 + smT X t (if t = 0 then c0 else c1) (-1) 0) + smT X t (if t = 0 then c0 else c1) (-1) 1
theorem lp_dgR {X : RAM} {c0 c1 : Nat} {t j : Nat} {h : Int64} (ht : t < 2) (hM : okM X) (hj : j < 8) (hex : V l D ac b "SpanStoreModel" c_M_digest 7 (some .long) false 5 126 0 0 ((some (.long (mtS X c0 c1 2))), 144, mk X) 0 0 193 [(0, .ref 122), (1, .long (mrS X (8 * t + j) h (mnN X (8 * t + j)))), (3, .int (nI t)), (4, .int (nI j))] [] 144 (mk X)) : ∀ i, i ≤ mnN X (8 * t + j) → V l D ac b "SpanStoreModel" c_M_digest 7 (some .long) false 5 126 0 0 ((some (.long (mtS X c0 c1 2))), 144, mk X) 0 0 120 [(0, .ref 122), (1, .long (mrS X (8 * t + j) h i)), (3, .int (nI t)), (4, .int (nI j)), (5, .int (nI i))] [] 144 (mk X) := by
  have hz := (hM (8 * t + j) (by omega)).1
  have hn := (hM (8 * t + j) (by omega)).2
  refine nat_down ?_ (fun i hi ih => ?_)
  · skip
    refine s_iload (q := 122) d_M_digest_120 rfl rfl ?_
    refine s_aload_n (q := 123) d_M_digest_122 rfl rfl (Or.inr ⟨_, rfl⟩) ?_
    refine g_getr (q := 126) d_M_digest_123 rfl fl_M_7 skM rfl ?_
    refine s_bipush (v := 8) (q := 128) d_M_digest_126 rfl kb_8 ?_
    refine s_iload_n (q := 129) d_M_digest_128 rfl rfl ?_
    refine s_imul (q := 130) d_M_digest_129 rfl ?_
    refine s_iload (q := 132) d_M_digest_130 rfl rfl ?_
    refine s_iadd (q := 133) d_M_digest_132 rfl ?_
    refine g_ialv (v := nI (mnN X (8 * t + j))) (q := 134) d_M_digest_133 rfl sm_0 (by omega) (ix8m _ _) (by omega) hz ?_
    refine s_icmp_ge (tgt := 193) (q := 137) d_M_digest_134 (by decide) rfl (fun _ => ?_) (fun z9 => absurd (nI_le (Nat.le_refl _) (by omega)) z9)
    exact s_lv (lv' := [(0, .ref 122), (1, .long (mrS X (8 * t + j) h (mnN X (8 * t + j)))), (3, .int (nI t)), (4, .int (nI j))]) ⟨rfl, rfl, rfl, rfl, trivial⟩ hex
  · skip
    refine s_iload (q := 122) d_M_digest_120 rfl rfl ?_
    refine s_aload_n (q := 123) d_M_digest_122 rfl rfl (Or.inr ⟨_, rfl⟩) ?_
    refine g_getr (q := 126) d_M_digest_123 rfl fl_M_7 skM rfl ?_
    refine s_bipush (v := 8) (q := 128) d_M_digest_126 rfl kb_8 ?_
    refine s_iload_n (q := 129) d_M_digest_128 rfl rfl ?_
    refine s_imul (q := 130) d_M_digest_129 rfl ?_
    refine s_iload (q := 132) d_M_digest_130 rfl rfl ?_
    refine s_iadd (q := 133) d_M_digest_132 rfl ?_
    refine g_ialv (v := nI (mnN X (8 * t + j))) (q := 134) d_M_digest_133 rfl sm_0 (by omega) (ix8m _ _) (by omega) hz ?_
    refine s_icmp_ge (tgt := 193) (q := 137) d_M_digest_134 (by decide) rfl (fun z9 => absurd z9 (nI_ge hi (by omega))) (fun _ => ?_)
    refine s_bipush (v := 12) (q := 139) d_M_digest_137 rfl kb_12 ?_
    refine s_bipush (v := 8) (q := 141) d_M_digest_139 rfl kb_8 ?_
    refine s_iload_n (q := 142) d_M_digest_141 rfl rfl ?_
    refine s_imul (q := 143) d_M_digest_142 rfl ?_
    refine s_iload (q := 145) d_M_digest_143 rfl rfl ?_
    refine s_iadd (q := 146) d_M_digest_145 rfl ?_
    rw [ix8m]
    refine s_imul (q := 147) d_M_digest_146 rfl ?_
    refine s_iload (q := 149) d_M_digest_147 rfl rfl ?_
    refine s_iadd (q := 150) d_M_digest_149 rfl ?_
    rw [ix12]
    refine s_istore (q := 152) d_M_digest_150 rfl (by decide) ?_
    refine s_aload_n (q := 153) d_M_digest_152 rfl rfl (Or.inr ⟨_, rfl⟩) ?_
    refine g_getr (q := 156) d_M_digest_153 rfl fl_M_22 skM rfl ?_
    refine s_iload (q := 158) d_M_digest_156 rfl rfl ?_
    refine g_zald (q := 159) d_M_digest_158 rfl sm_4 (by omega) rfl (by omega) ?_
    refine s_if_eq (tgt := 187) (q := 162) d_M_digest_159 (by decide) rfl (fun h_159 => ?_) (fun h_159 => ?_)
    · -- T 159
      rw [show mrS X (8 * t + j) h (i + 1) = mrS X (8 * t + j) h i from by simp [mrS, h_159]] at ih
      refine s_iinc (q := 190) d_M_digest_187 rfl rfl (by first | exact inc1 _ | rfl) (by decide) ?_
      refine s_goto (tgt := 120) d_M_digest_190 (by decide) ?_
      exact s_lv (lv' := [(0, .ref 122), (1, .long _), (3, .int (nI t)), (4, .int (nI j)), (5, .int (nI (i + 1)))]) ⟨rfl, rfl, rfl, rfl, rfl, trivial⟩ ih
    · -- F 159
      rw [show mrS X (8 * t + j) h (i + 1) = 31 * (31 * mrS X (8 * t + j) h i + (nI i).toInt64) + (X 126 (12 * (8 * t + j) + i)).toInt64 from by simp [mrS, h_159]] at ih
      refine s_ldc2 (q := 165) d_M_digest_162 rfl kc_M_192 ?_
      refine s_lload_n (q := 166) d_M_digest_165 rfl rfl ?_
      refine s_lmul (q := 167) d_M_digest_166 rfl ?_
      refine s_iload (q := 169) d_M_digest_167 rfl rfl ?_
      refine s_i2l (q := 170) d_M_digest_169 rfl ?_
      refine s_ladd (q := 171) d_M_digest_170 rfl ?_
      refine s_lstore_n (q := 172) d_M_digest_171 rfl (by decide) ?_
      refine s_ldc2 (q := 175) d_M_digest_172 rfl kc_M_192 ?_
      refine s_lload_n (q := 176) d_M_digest_175 rfl rfl ?_
      refine s_lmul (q := 177) d_M_digest_176 rfl ?_
      refine s_aload_n (q := 178) d_M_digest_177 rfl rfl (Or.inr ⟨_, rfl⟩) ?_
      refine g_getr (q := 181) d_M_digest_178 rfl fl_M_19 skM rfl ?_
      refine s_iload (q := 183) d_M_digest_181 rfl rfl ?_
      refine g_iald (q := 184) d_M_digest_183 rfl sm_3 (by omega) rfl (by omega) ?_
      refine s_i2l (q := 185) d_M_digest_184 rfl ?_
      refine s_ladd (q := 186) d_M_digest_185 rfl ?_
      refine s_lstore_n (q := 187) d_M_digest_186 rfl (by decide) ?_
      refine s_iinc (q := 190) d_M_digest_187 rfl rfl (by first | exact inc1 _ | rfl) (by decide) ?_
      refine s_goto (tgt := 120) d_M_digest_190 (by decide) ?_
      exact s_lv (lv' := [(0, .ref 122), (1, .long _), (3, .int (nI t)), (4, .int (nI j)), (5, .int (nI (i + 1)))]) ⟨rfl, rfl, rfl, rfl, rfl, trivial⟩ ih
theorem lp_dgA {X : RAM} {c0 c1 : Nat} {t j c : Nat} {h : Int64} (ht : t < 2) (hM : okM X) (hj : j < 8) (hs : ¬ X 134 t = 0) (hc : X 135 t = nI c) (hc4 : c ≤ 4) (hex : V l D ac b "SpanStoreModel" c_M_digest 7 (some .long) false 5 126 0 0 ((some (.long (mtS X c0 c1 2))), 144, mk X) 0 0 117 [(0, .ref 122), (1, .long (maS X t (8 * t + j) c (mnN X (8 * t + j)) h 14)), (3, .int (nI t)), (4, .int (nI j))] [] 144 (mk X)) : ∀ w, w ≤ 14 → V l D ac b "SpanStoreModel" c_M_digest 7 (some .long) false 5 126 0 0 ((some (.long (mtS X c0 c1 2))), 144, mk X) 0 0 69 [(0, .ref 122), (1, .long (maS X t (8 * t + j) c (mnN X (8 * t + j)) h w)), (3, .int (nI t)), (4, .int (nI j)), (5, .int (nI w))] [] 144 (mk X) := by
  refine nat_down ?_ (fun w hw ih => ?_)
  · skip
    refine s_iload (q := 71) d_M_digest_69 rfl rfl ?_
    refine s_bipush (v := 14) (q := 73) d_M_digest_71 rfl kb_14 ?_
    refine s_icmp_ge (tgt := 117) (q := 76) d_M_digest_73 (by decide) rfl (fun _ => ?_) (fun z9 => absurd (by decide) z9)
    exact s_lv (lv' := [(0, .ref 122), (1, .long (maS X t (8 * t + j) c (mnN X (8 * t + j)) h 14)), (3, .int (nI t)), (4, .int (nI j))]) ⟨rfl, rfl, rfl, rfl, trivial⟩ hex
  · skip
    refine s_iload (q := 71) d_M_digest_69 rfl rfl ?_
    refine s_bipush (v := 14) (q := 73) d_M_digest_71 rfl kb_14 ?_
    refine s_icmp_ge (tgt := 117) (q := 76) d_M_digest_73 (by decide) rfl (fun z9 => absurd z9 (nI_ge (a := w) (b := 14) hw (by decide))) (fun _ => ?_)
    refine s_iload (q := 78) d_M_digest_76 rfl rfl ?_
    refine s_bipush (v := 8) (q := 80) d_M_digest_78 rfl kb_8 ?_
    refine s_icmp_eq (tgt := 90) (q := 83) d_M_digest_80 (by decide) rfl (fun h_80 => ?_) (fun h_80 => ?_)
    · -- T 80
      have w8 : w = 8 := (nI_eq (a := w) (b := 8) (by omega) (by decide)).mp h_80
      rw [show maS X t (8 * t + j) c (mnN X (8 * t + j)) h (w + 1) = maS X t (8 * t + j) c (mnN X (8 * t + j)) h w from by simp [maS, w8]] at ih
      refine s_lload_n (q := 91) d_M_digest_90 rfl rfl ?_
      refine s_goto (tgt := 110) d_M_digest_91 (by decide) ?_
      refine s_lstore_n (q := 111) d_M_digest_110 rfl (by decide) ?_
      refine s_iinc (q := 114) d_M_digest_111 rfl rfl (by first | exact inc1 _ | rfl) (by decide) ?_
      refine s_goto (tgt := 69) d_M_digest_114 (by decide) ?_
      exact s_lv (lv' := [(0, .ref 122), (1, .long _), (3, .int (nI t)), (4, .int (nI j)), (5, .int (nI (w + 1)))]) ⟨rfl, rfl, rfl, rfl, rfl, trivial⟩ ih
    · -- F 80
      refine s_iload (q := 85) d_M_digest_83 rfl rfl ?_
      refine s_bipush (v := 9) (q := 87) d_M_digest_85 rfl kb_9 ?_
      refine s_icmp_ne (tgt := 94) (q := 90) d_M_digest_87 (by decide) rfl (fun h_87 => ?_) (fun h_87 => ?_)
      · -- T 87
        have w8 : ¬ w = 8 := fun z => h_80 (by rw [z]; rfl)
        have w9 : ¬ w = 9 := fun z => h_87 (by rw [z]; rfl)
        rw [show maS X t (8 * t + j) c (mnN X (8 * t + j)) h (w + 1) = 31 * maS X t (8 * t + j) c (mnN X (8 * t + j)) h w + (maV X t (8 * t + j) c (mnN X (8 * t + j)) w).toInt64 from by simp [maS, w8, w9]] at ih
        refine s_ldc2 (q := 97) d_M_digest_94 rfl kc_M_192 ?_
        refine s_lload_n (q := 98) d_M_digest_97 rfl rfl ?_
        refine s_lmul (q := 99) d_M_digest_98 rfl ?_
        refine s_aload_n (q := 100) d_M_digest_99 rfl rfl (Or.inr ⟨_, rfl⟩) ?_
        refine s_iload_n (q := 101) d_M_digest_100 rfl rfl ?_
        refine s_iload (q := 103) d_M_digest_101 rfl rfl ?_
        refine s_iload (q := 105) d_M_digest_103 rfl rfl ?_
        refine g_callV (q := 108) d_M_digest_105 rfl ml_M_197 mx_M_about mv_M_about (t_M_about_D (w := w) ht hj hs hc hc4 (hM _ (by omega)).1 (hM _ (by omega)).2 (by omega)) skM rfl rfl (Nat.le_of_ble_eq_true rfl) (by decide) ?_
        refine s_i2l (q := 109) d_M_digest_108 rfl ?_
        refine s_ladd (q := 110) d_M_digest_109 rfl ?_
        refine s_lstore_n (q := 111) d_M_digest_110 rfl (by decide) ?_
        refine s_iinc (q := 114) d_M_digest_111 rfl rfl (by first | exact inc1 _ | rfl) (by decide) ?_
        refine s_goto (tgt := 69) d_M_digest_114 (by decide) ?_
        exact s_lv (lv' := [(0, .ref 122), (1, .long _), (3, .int (nI t)), (4, .int (nI j)), (5, .int (nI (w + 1)))]) ⟨rfl, rfl, rfl, rfl, rfl, trivial⟩ ih
      · -- F 87
        have w9 : w = 9 := (nI_eq (a := w) (b := 9) (by omega) (by decide)).mp h_87
        rw [show maS X t (8 * t + j) c (mnN X (8 * t + j)) h (w + 1) = maS X t (8 * t + j) c (mnN X (8 * t + j)) h w from by simp [maS, w9]] at ih
        refine s_lload_n (q := 91) d_M_digest_90 rfl rfl ?_
        refine s_goto (tgt := 110) d_M_digest_91 (by decide) ?_
        refine s_lstore_n (q := 111) d_M_digest_110 rfl (by decide) ?_
        refine s_iinc (q := 114) d_M_digest_111 rfl rfl (by first | exact inc1 _ | rfl) (by decide) ?_
        refine s_goto (tgt := 69) d_M_digest_114 (by decide) ?_
        exact s_lv (lv' := [(0, .ref 122), (1, .long _), (3, .int (nI t)), (4, .int (nI j)), (5, .int (nI (w + 1)))]) ⟨rfl, rfl, rfl, rfl, rfl, trivial⟩ ih
theorem lp_dgB {X : RAM} {c0 c1 : Nat} {t c : Nat} {h : Int64} (ht : t < 2) (hM : okM X) (hs : ¬ X 134 t = 0) (hc : X 135 t = nI c) (hc4 : c ≤ 4) (hex : V l D ac b "SpanStoreModel" c_M_digest 7 (some .long) false 5 126 0 0 ((some (.long (mtS X c0 c1 2))), 144, mk X) 0 0 199 [(0, .ref 122), (1, .long (mbS2 X t c h 8)), (3, .int (nI t))] [] 144 (mk X)) : ∀ j, j ≤ 8 → V l D ac b "SpanStoreModel" c_M_digest 7 (some .long) false 5 126 0 0 ((some (.long (mtS X c0 c1 2))), 144, mk X) 0 0 59 [(0, .ref 122), (1, .long (mbS2 X t c h j)), (3, .int (nI t)), (4, .int (nI j))] [] 144 (mk X) := by
  refine nat_down ?_ (fun j hj ih => ?_)
  · skip
    refine s_iload (q := 61) d_M_digest_59 rfl rfl ?_
    refine s_bipush (v := 8) (q := 63) d_M_digest_61 rfl kb_8 ?_
    refine s_icmp_ge (tgt := 199) (q := 66) d_M_digest_63 (by decide) rfl (fun _ => ?_) (fun z9 => absurd le8 z9)
    exact s_lv (lv' := [(0, .ref 122), (1, .long (mbS2 X t c h 8)), (3, .int (nI t))]) ⟨rfl, rfl, rfl, trivial⟩ hex
  · have h3 : V l D ac b "SpanStoreModel" c_M_digest 7 (some .long) false 5 126 0 0 ((some (.long (mtS X c0 c1 2))), 144, mk X) 0 0 193 [(0, .ref 122), (1, .long (mbS2 X t c h (j + 1))), (3, .int (nI t)), (4, .int (nI j))] [] 144 (mk X) := by
      refine s_iinc (q := 196) d_M_digest_193 rfl rfl (by first | exact inc1 _ | rfl) (by decide) ?_
      refine s_goto (tgt := 59) d_M_digest_196 (by decide) ?_
      exact s_lv (lv' := [(0, .ref 122), (1, .long (mbS2 X t c h (j + 1))), (3, .int (nI t)), (4, .int (nI (j + 1)))]) ⟨rfl, rfl, rfl, rfl, trivial⟩ ih
    have h2 : V l D ac b "SpanStoreModel" c_M_digest 7 (some .long) false 5 126 0 0 ((some (.long (mtS X c0 c1 2))), 144, mk X) 0 0 117 [(0, .ref 122), (1, .long (maS X t (8 * t + j) c (mnN X (8 * t + j)) (mbS2 X t c h j) 14)), (3, .int (nI t)), (4, .int (nI j))] [] 144 (mk X) := by
      refine s_iconst (v := 0) (q := 118) d_M_digest_117 rfl ki_0 ?_
      refine s_istore (q := 120) d_M_digest_118 rfl (by decide) ?_
      exact s_lv (lv' := [(0, .ref 122), (1, .long (mrS X (8 * t + j) (maS X t (8 * t + j) c (mnN X (8 * t + j)) (mbS2 X t c h j) 14) 0)), (3, .int (nI t)), (4, .int (nI j)), (5, .int (nI 0))]) ⟨rfl, rfl, rfl, rfl, rfl, trivial⟩ (lp_dgR ht hM hj h3 0 (Nat.zero_le _))
    refine s_iload (q := 61) d_M_digest_59 rfl rfl ?_
    refine s_bipush (v := 8) (q := 63) d_M_digest_61 rfl kb_8 ?_
    refine s_icmp_ge (tgt := 199) (q := 66) d_M_digest_63 (by decide) rfl (fun z9 => absurd z9 (nle8 hj)) (fun _ => ?_)
    refine s_iconst (v := 0) (q := 67) d_M_digest_66 rfl ki_0 ?_
    refine s_istore (q := 69) d_M_digest_67 rfl (by decide) ?_
    exact s_lv (lv' := [(0, .ref 122), (1, .long (maS X t (8 * t + j) c (mnN X (8 * t + j)) (mbS2 X t c h j) 0)), (3, .int (nI t)), (4, .int (nI j)), (5, .int (nI 0))]) ⟨rfl, rfl, rfl, rfl, rfl, trivial⟩ (lp_dgA ht hM hj hs hc hc4 h2 0 (Nat.zero_le 14))
theorem lp_dgT {X : RAM} {c0 c1 : Nat} (h0 : X 135 0 = nI c0) (d0 : c0 ≤ 4) (h1 : X 135 1 = nI c1) (d1 : c1 ≤ 4) (hM : okM X) : ∀ t, t ≤ 2 → V l D ac b "SpanStoreModel" c_M_digest 7 (some .long) false 5 126 0 0 ((some (.long (mtS X c0 c1 2))), 144, mk X) 0 0 42 [(0, .ref 122), (1, .long (mtS X c0 c1 t)), (3, .int (nI t))] [] 144 (mk X) := by
  refine nat_down ?_ (fun t ht ih => ?_)
  · skip
    refine s_iload_n (q := 43) d_M_digest_42 rfl rfl ?_
    refine s_iconst (v := 2) (q := 44) d_M_digest_43 rfl ki_2 ?_
    refine s_icmp_ge (tgt := 233) (q := 47) d_M_digest_44 (by decide) rfl (fun _ => ?_) (fun z9 => absurd (by decide) z9)
    refine s_lload_n (q := 234) d_M_digest_233 rfl rfl ?_
    exact g_lret d_M_digest_234 rfl rfl rfl
  · have hc : X 135 t = nI (if t = 0 then c0 else c1) := by rcases (show t = 0 ∨ t = 1 by omega) with rfl | rfl; exact h0; exact h1
    have hc4 : (if t = 0 then c0 else c1) ≤ 4 := by split; exact d0; exact d1
    generalize hce : (if t = 0 then c0 else c1) = c at hc hc4
    have hg : GrpOK (-1) := by decide
    by_cases hs : X 134 t = 0
    · rw [show mtS X c0 c1 (t + 1) = mtS X c0 c1 t from by rw [mtS, if_pos hs]] at ih
      refine s_iload_n (q := 43) d_M_digest_42 rfl rfl ?_
      refine s_iconst (v := 2) (q := 44) d_M_digest_43 rfl ki_2 ?_
      refine s_icmp_ge (tgt := 233) (q := 47) d_M_digest_44 (by decide) rfl (fun z9 => absurd z9 (nI_ge (a := t) (b := 2) ht (by decide))) (fun _ => ?_)
      refine s_aload_n (q := 48) d_M_digest_47 rfl rfl (Or.inr ⟨_, rfl⟩) ?_
      refine g_getr (q := 51) d_M_digest_48 rfl fl_M_44 skM rfl ?_
      refine s_iload_n (q := 52) d_M_digest_51 rfl rfl ?_
      refine g_zald (q := 53) d_M_digest_52 rfl sm_11 (by omega) rfl ht ?_
      refine s_if_eq (tgt := 227) (q := 56) d_M_digest_53 (by decide) rfl (fun _ => ?_) (fun z9 => absurd hs z9)
      refine s_iinc (q := 230) d_M_digest_227 rfl rfl (by first | exact inc1 _ | rfl) (by decide) ?_
      refine s_goto (tgt := 42) d_M_digest_230 (by decide) ?_
      exact s_lv (lv' := [(0, .ref 122), (1, .long _), (3, .int (nI (t + 1)))]) ⟨rfl, rfl, rfl, trivial⟩ ih
    · rw [show mtS X c0 c1 (t + 1) = 31 * (31 * mbS2 X t c (mtS X c0 c1 t) 8 + smT X t c (-1) 0) + smT X t c (-1) 1 from by rw [mtS, if_neg hs, hce]] at ih
      have hx : V l D ac b "SpanStoreModel" c_M_digest 7 (some .long) false 5 126 0 0 ((some (.long (mtS X c0 c1 2))), 144, mk X) 0 0 199 [(0, .ref 122), (1, .long (mbS2 X t c (mtS X c0 c1 t) 8)), (3, .int (nI t))] [] 144 (mk X) := by
        refine s_ldc2 (q := 202) d_M_digest_199 rfl kc_M_192 ?_
        refine s_lload_n (q := 203) d_M_digest_202 rfl rfl ?_
        refine s_lmul (q := 204) d_M_digest_203 rfl ?_
        refine s_aload_n (q := 205) d_M_digest_204 rfl rfl (Or.inr ⟨_, rfl⟩) ?_
        refine s_iload_n (q := 206) d_M_digest_205 rfl rfl ?_
        refine s_iconst (v := (-1)) (q := 207) d_M_digest_206 rfl ki_m1 ?_
        refine s_iconst (v := 0) (q := 208) d_M_digest_207 rfl ki_0 ?_
        refine g_callV (q := 211) d_M_digest_208 rfl ml_M_158 mx_M_sumNow mv_M_sumNow (t_M_sumNow ht hc hc4 hM hg) skM rfl rfl (Nat.le_of_ble_eq_true rfl) (by decide) ?_
        refine s_ladd (q := 212) d_M_digest_211 rfl ?_
        refine s_lstore_n (q := 213) d_M_digest_212 rfl (by decide) ?_
        refine s_ldc2 (q := 216) d_M_digest_213 rfl kc_M_192 ?_
        refine s_lload_n (q := 217) d_M_digest_216 rfl rfl ?_
        refine s_lmul (q := 218) d_M_digest_217 rfl ?_
        refine s_aload_n (q := 219) d_M_digest_218 rfl rfl (Or.inr ⟨_, rfl⟩) ?_
        refine s_iload_n (q := 220) d_M_digest_219 rfl rfl ?_
        refine s_iconst (v := (-1)) (q := 221) d_M_digest_220 rfl ki_m1 ?_
        refine s_iconst (v := 1) (q := 222) d_M_digest_221 rfl ki_1 ?_
        refine g_callV (q := 225) d_M_digest_222 rfl ml_M_158 mx_M_sumNow mv_M_sumNow (t_M_sumNow ht hc hc4 hM hg) skM rfl rfl (Nat.le_of_ble_eq_true rfl) (by decide) ?_
        refine s_ladd (q := 226) d_M_digest_225 rfl ?_
        refine s_lstore_n (q := 227) d_M_digest_226 rfl (by decide) ?_
        refine s_iinc (q := 230) d_M_digest_227 rfl rfl (by first | exact inc1 _ | rfl) (by decide) ?_
        refine s_goto (tgt := 42) d_M_digest_230 (by decide) ?_
        exact s_lv (lv' := [(0, .ref 122), (1, .long _), (3, .int (nI (t + 1)))]) ⟨rfl, rfl, rfl, trivial⟩ ih
      refine s_iload_n (q := 43) d_M_digest_42 rfl rfl ?_
      refine s_iconst (v := 2) (q := 44) d_M_digest_43 rfl ki_2 ?_
      refine s_icmp_ge (tgt := 233) (q := 47) d_M_digest_44 (by decide) rfl (fun z9 => absurd z9 (nI_ge (a := t) (b := 2) ht (by decide))) (fun _ => ?_)
      refine s_aload_n (q := 48) d_M_digest_47 rfl rfl (Or.inr ⟨_, rfl⟩) ?_
      refine g_getr (q := 51) d_M_digest_48 rfl fl_M_44 skM rfl ?_
      refine s_iload_n (q := 52) d_M_digest_51 rfl rfl ?_
      refine g_zald (q := 53) d_M_digest_52 rfl sm_11 (by omega) rfl ht ?_
      refine s_if_eq (tgt := 227) (q := 56) d_M_digest_53 (by decide) rfl (fun z9 => absurd z9 hs) (fun _ => ?_)
      refine s_iconst (v := 0) (q := 57) d_M_digest_56 rfl ki_0 ?_
      refine s_istore (q := 59) d_M_digest_57 rfl (by decide) ?_
      exact s_lv (lv' := [(0, .ref 122), (1, .long (mbS2 X t c (mtS X c0 c1 t) 0)), (3, .int (nI t)), (4, .int (nI 0))]) ⟨rfl, rfl, rfl, rfl, trivial⟩ (lp_dgB ht hM hs hc hc4 hx 0 (Nat.zero_le 8))
theorem lp_dgW {X : RAM} {c0 c1 : Nat} (h0 : X 135 0 = nI c0) (d0 : c0 ≤ 4) (h1 : X 135 1 = nI c1) (d1 : c1 ≤ 4) (hM : okM X) : ∀ w, w ≤ 10 → V l D ac b "SpanStoreModel" c_M_digest 7 (some .long) false 5 126 0 0 ((some (.long (mtS X c0 c1 2))), 144, mk X) 0 0 6 [(0, .ref 122), (1, .long (mgS X w)), (3, .int (nI w))] [] 144 (mk X) := by
  refine nat_down ?_ (fun w hw ih => ?_)
  · skip
    refine s_iload_n (q := 7) d_M_digest_6 rfl rfl ?_
    refine s_bipush (v := 10) (q := 9) d_M_digest_7 rfl kb_10 ?_
    refine s_icmp_ge (tgt := 40) (q := 12) d_M_digest_9 (by decide) rfl (fun _ => ?_) (fun z9 => absurd (by decide) z9)
    refine s_iconst (v := 0) (q := 41) d_M_digest_40 rfl ki_0 ?_
    refine s_istore_n (q := 42) d_M_digest_41 rfl (by decide) ?_
    exact s_lv (lv' := [(0, .ref 122), (1, .long (mtS X c0 c1 0)), (3, .int (nI 0))]) ⟨rfl, rfl, rfl, trivial⟩ (lp_dgT h0 d0 h1 d1 hM 0 (Nat.zero_le 2))
  · skip
    refine s_iload_n (q := 7) d_M_digest_6 rfl rfl ?_
    refine s_bipush (v := 10) (q := 9) d_M_digest_7 rfl kb_10 ?_
    refine s_icmp_ge (tgt := 40) (q := 12) d_M_digest_9 (by decide) rfl (fun z9 => absurd z9 (nI_ge (a := w) (b := 10) hw (by decide))) (fun _ => ?_)
    refine s_iload_n (q := 13) d_M_digest_12 rfl rfl ?_
    refine s_iconst (v := 3) (q := 14) d_M_digest_13 rfl ki_3 ?_
    refine s_icmp_ne (tgt := 21) (q := 17) d_M_digest_14 (by decide) rfl (fun h_14 => ?_) (fun h_14 => ?_)
    · -- T 14
      have w3 : ¬ w = 3 := fun z => h_14 (by rw [z]; rfl)
      rw [show mgS X (w + 1) = 31 * mgS X w + (mtV2 X w).toInt64 from by simp [mgS, w3]] at ih
      refine s_ldc2 (q := 24) d_M_digest_21 rfl kc_M_192 ?_
      refine s_lload_n (q := 25) d_M_digest_24 rfl rfl ?_
      refine s_lmul (q := 26) d_M_digest_25 rfl ?_
      refine s_aload_n (q := 27) d_M_digest_26 rfl rfl (Or.inr ⟨_, rfl⟩) ?_
      refine s_iload_n (q := 28) d_M_digest_27 rfl rfl ?_
      refine g_callV (q := 31) d_M_digest_28 rfl ml_M_194 mx_M_told mv_M_told (t_M_told hw hM) skM rfl rfl (Nat.le_of_ble_eq_true rfl) (by decide) ?_
      refine s_i2l (q := 32) d_M_digest_31 rfl ?_
      refine s_ladd (q := 33) d_M_digest_32 rfl ?_
      refine s_lstore_n (q := 34) d_M_digest_33 rfl (by decide) ?_
      refine s_iinc (q := 37) d_M_digest_34 rfl rfl (by first | exact inc1 _ | rfl) (by decide) ?_
      refine s_goto (tgt := 6) d_M_digest_37 (by decide) ?_
      exact s_lv (lv' := [(0, .ref 122), (1, .long _), (3, .int (nI (w + 1)))]) ⟨rfl, rfl, rfl, trivial⟩ ih
    · -- F 14
      have w3 : w = 3 := (nI_eq (a := w) (b := 3) (by omega) (by decide)).mp h_14
      rw [show mgS X (w + 1) = mgS X w from by simp [mgS, w3]] at ih
      refine s_lload_n (q := 18) d_M_digest_17 rfl rfl ?_
      refine s_goto (tgt := 33) d_M_digest_18 (by decide) ?_
      refine s_lstore_n (q := 34) d_M_digest_33 rfl (by decide) ?_
      refine s_iinc (q := 37) d_M_digest_34 rfl rfl (by first | exact inc1 _ | rfl) (by decide) ?_
      refine s_goto (tgt := 6) d_M_digest_37 (by decide) ?_
      exact s_lv (lv' := [(0, .ref 122), (1, .long _), (3, .int (nI (w + 1)))]) ⟨rfl, rfl, rfl, trivial⟩ ih
theorem t_M_digest {X : RAM} {c0 c1 : Nat} (h0 : X 135 0 = nI c0) (d0 : c0 ≤ 4) (h1 : X 135 1 = nI c1) (d1 : c1 ≤ 4) (hM : okM X) : CG l D ac b y_M_digest c_M_digest 7 (some .long) 5 126 [.ref 122] X (some (.long (mtS X c0 c1 2))) (X) := by
  refine Ct_of false (by decide) (fun h => by cases h) (Nat.le_of_ble_eq_true rfl) ?_
  show V l D ac b "SpanStoreModel" c_M_digest 7 (some .long) false 5 126 0 0 ((some (.long (mtS X c0 c1 2))), 144, mk (X)) 0 0 0 [(0, .ref 122)] [] 144 (mk X)
  refine s_ldc2 (q := 3) d_M_digest_0 rfl kc_M_190 ?_
  refine s_lstore_n (q := 4) d_M_digest_3 rfl (by decide) ?_
  refine s_iconst (v := 0) (q := 5) d_M_digest_4 rfl ki_0 ?_
  refine s_istore_n (q := 6) d_M_digest_5 rfl (by decide) ?_
  exact s_lv (lv' := [(0, .ref 122), (1, .long (mgS X 0)), (3, .int (nI 0))]) ⟨rfl, rfl, rfl, trivial⟩ (lp_dgW h0 d0 h1 d1 hM 0 (Nat.zero_le 10))
end P18
