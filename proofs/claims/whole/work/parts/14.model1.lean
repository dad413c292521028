section P14
variable {l : Launch} {D : va_G} {ac : Nat → ClassId} {b : Nat}
theorem sm_0 : sk 123 = .inl (0, 16, none) := rfl
theorem sm_1 : sk 124 = .inl (0, 192, none) := rfl
theorem sm_2 : sk 125 = .inl (0, 192, none) := rfl
theorem sm_3 : sk 126 = .inl (0, 192, none) := rfl
theorem sm_4 : sk 127 = .inl (1, 192, none) := rfl
theorem sm_5 : sk 128 = .inl (1, 192, none) := rfl
theorem sm_6 : sk 129 = .inl (0, 192, none) := rfl
theorem sm_7 : sk 130 = .inl (0, 16, none) := rfl
theorem sm_8 : sk 131 = .inl (0, 16, none) := rfl
theorem sm_9 : sk 132 = .inl (0, 64, none) := rfl
theorem sm_10 : sk 133 = .inl (1, 16, none) := rfl
theorem sm_11 : sk 134 = .inl (1, 2, none) := rfl
theorem sm_12 : sk 135 = .inl (0, 2, none) := rfl
theorem sm_13 : sk 136 = .inl (0, 8, none) := rfl
theorem sm_14 : sk 137 = .inl (0, 8, none) := rfl
theorem sm_15 : sk 138 = .inl (0, 8, none) := rfl
theorem sm_16 : sk 139 = .inl (1, 4, none) := rfl
theorem sm_17 : sk 140 = .inl (0, 4, none) := rfl
theorem sm_18 : sk 141 = .inl (0, 4, none) := rfl
theorem sm_19 : sk 142 = .inl (0, 160, none) := rfl
theorem sm_20 : sk 143 = .inl (0, 40, none) := rfl
theorem ix12 (a k : Nat) : 12 * nI a + nI k = nI (12 * a + k) := by
  show nI 12 * nI a + nI k = _
  rw [pk_mul, nI_add]
theorem ix8m (a k : Nat) : 8 * nI a + nI k = nI (8 * a + k) := by
  show nI 8 * nI a + nI k = _
  rw [pk_mul, nI_add]
theorem ix4m (a k : Nat) : 4 * nI a + nI k = nI (4 * a + k) := by
  show nI 4 * nI a + nI k = _
  rw [pk_mul, nI_add]
theorem ix40 (a k : Nat) : 40 * nI a + nI k = nI (40 * a + k) := by
  show nI 40 * nI a + nI k = _
  rw [pk_mul, nI_add]
theorem m96 (a : Nat) : 96 * nI a = nI (96 * a) := by
  show nI 96 * nI a = _
  rw [pk_mul]
theorem m4 (a : Nat) : 4 * nI a = nI (4 * a) := by
  show nI 4 * nI a = _
  rw [pk_mul]
theorem inT {t : Nat} (ht : t < 2) : (0 : Int32) ≤ nI t ∧ nI t ≤ 1 := ⟨nI_pos' (by omega), nI_le (a := t) (b := 1) (by omega) (by decide)⟩
theorem inB {t : Nat} (ht : t < 8) : (0 : Int32) ≤ nI t ∧ nI t ≤ 7 := ⟨nI_pos' (by omega), nI_le (a := t) (b := 7) (by omega) (by decide)⟩
theorem inS {t : Nat} (ht : t < 4) : (0 : Int32) ≤ nI t ∧ nI t ≤ 3 := ⟨nI_pos' (by omega), nI_le (a := t) (b := 3) (by omega) (by decide)⟩
theorem niT {x : Int32} (h : x < 0 ∨ 2 ≤ x) : ¬ (0 ≤ x ∧ x ≤ 1) := by
  simp only [i_lt, i_le, tI_0, tI_1, tI_2] at *
  omega
theorem niB {x : Int32} (h : x < 0 ∨ 8 ≤ x) : ¬ (0 ≤ x ∧ x ≤ 7) := by
  simp only [i_lt, i_le, tI_0, tI_7, tI_8] at *
  omega
theorem niS {x : Int32} (h : x < 0 ∨ 4 ≤ x) : ¬ (0 ≤ x ∧ x ≤ 3) := by
  simp only [i_lt, i_le, tI_0, tI_3, tI_4] at *
  omega
theorem t_M_isTable {X : RAM} {x : Int32} : CG l D ac b y_M_isTable c_M_isTable 1 (some .boolean) 1 22 [.int x] X (some (.int (bI (decide (0 ≤ x ∧ x ≤ 1))))) (X) := by
  refine Ct_of false (by decide) (fun h => by cases h) (Nat.le_of_ble_eq_true rfl) ?_
  show V l D ac b "SpanStoreModel" c_M_isTable 1 (some .boolean) false 1 22 0 0 ((some (.int (bI (decide (0 ≤ x ∧ x ≤ 1))))), 144, mk (X)) 0 0 0 [(0, .int x)] [] 144 (mk X)
  refine s_iload_n (q := 1) d_M_isTable_0 rfl rfl ?_
  refine s_iconst (v := 0) (q := 2) d_M_isTable_1 rfl ki_0 ?_
  refine s_iconst (v := 1) (q := 3) d_M_isTable_2 rfl ki_1 ?_
  refine g_callS (q := 6) d_M_isTable_3 rfl ml_M_74 mx_M_in ms_M_in t_M_in rfl rfl (Nat.le_of_ble_eq_true rfl) (by decide) ?_
  exact g_iret d_M_isTable_6 rfl (nbI _) rfl rfl
theorem t_M_isSheet {X : RAM} {x : Int32} : CG l D ac b y_M_isSheet c_M_isSheet 1 (some .boolean) 1 22 [.int x] X (some (.int (bI (decide (0 ≤ x ∧ x ≤ 3))))) (X) := by
  refine Ct_of false (by decide) (fun h => by cases h) (Nat.le_of_ble_eq_true rfl) ?_
  show V l D ac b "SpanStoreModel" c_M_isSheet 1 (some .boolean) false 1 22 0 0 ((some (.int (bI (decide (0 ≤ x ∧ x ≤ 3))))), 144, mk (X)) 0 0 0 [(0, .int x)] [] 144 (mk X)
  refine s_iload_n (q := 1) d_M_isSheet_0 rfl rfl ?_
  refine s_iconst (v := 0) (q := 2) d_M_isSheet_1 rfl ki_0 ?_
  refine s_iconst (v := 3) (q := 3) d_M_isSheet_2 rfl ki_3 ?_
  refine g_callS (q := 6) d_M_isSheet_3 rfl ml_M_74 mx_M_in ms_M_in t_M_in rfl rfl (Nat.le_of_ble_eq_true rfl) (by decide) ?_
  exact g_iret d_M_isSheet_6 rfl (nbI _) rfl rfl
theorem t_M_isGroup {X : RAM} {x : Int32} : CG l D ac b y_M_isGroup c_M_isGroup 1 (some .boolean) 1 22 [.int x] X (some (.int (bI (decide (-1 ≤ x ∧ x ≤ 3))))) (X) := by
  refine Ct_of false (by decide) (fun h => by cases h) (Nat.le_of_ble_eq_true rfl) ?_
  show V l D ac b "SpanStoreModel" c_M_isGroup 1 (some .boolean) false 1 22 0 0 ((some (.int (bI (decide (-1 ≤ x ∧ x ≤ 3))))), 144, mk (X)) 0 0 0 [(0, .int x)] [] 144 (mk X)
  refine s_iload_n (q := 1) d_M_isGroup_0 rfl rfl ?_
  refine s_iconst (v := (-1)) (q := 2) d_M_isGroup_1 rfl ki_m1 ?_
  refine s_iconst (v := 3) (q := 3) d_M_isGroup_2 rfl ki_3 ?_
  refine g_callS (q := 6) d_M_isGroup_3 rfl ml_M_74 mx_M_in ms_M_in t_M_in rfl rfl (Nat.le_of_ble_eq_true rfl) (by decide) ?_
  exact g_iret d_M_isGroup_6 rfl (nbI _) rfl rfl
theorem t_M_isBlock {X : RAM} {x y : Int32} : CG l D ac b y_M_isBlock c_M_isBlock 2 (some .boolean) 2 42 [.int x, .int y] X (some (.int (bI (decide ((0 ≤ x ∧ x ≤ 1) ∧ 0 ≤ y ∧ y ≤ 7))))) (X) := by
  refine Ct_of false (by decide) (fun h => by cases h) (Nat.le_of_ble_eq_true rfl) ?_
  show V l D ac b "SpanStoreModel" c_M_isBlock 2 (some .boolean) false 2 42 0 0 ((some (.int (bI (decide ((0 ≤ x ∧ x ≤ 1) ∧ 0 ≤ y ∧ y ≤ 7))))), 144, mk (X)) 0 0 0 [(0, .int x), (1, .int y)] [] 144 (mk X)
  refine s_iload_n (q := 1) d_M_isBlock_0 rfl rfl ?_
  refine g_callS (q := 4) d_M_isBlock_1 rfl ml_M_78 mx_M_isTable ms_M_isTable t_M_isTable rfl rfl (Nat.le_of_ble_eq_true rfl) (by decide) ?_
  refine s_if_eq (tgt := 21) (q := 7) d_M_isBlock_4 (by decide) rfl (fun h_4 => ?_) (fun h_4 => ?_)
  · -- T 4
    rw [bI_d] at h_4
    refine s_iconst (v := 0) (q := 22) d_M_isBlock_21 rfl ki_0 ?_
    exact g_iret d_M_isBlock_22 rfl rfl (by first | exact bI_is1 ⟨h_4, h_14⟩ | exact bI_is0 (fun z => h_4 z.1) | exact bI_is0 (fun z => h_14 z.2)) rfl
  · -- F 4
    rw [bI_dn] at h_4
    refine s_iload_n (q := 8) d_M_isBlock_7 rfl rfl ?_
    refine s_iconst (v := 0) (q := 9) d_M_isBlock_8 rfl ki_0 ?_
    refine s_bipush (v := 7) (q := 11) d_M_isBlock_9 rfl kb_7 ?_
    refine g_callS (q := 14) d_M_isBlock_11 rfl ml_M_74 mx_M_in ms_M_in t_M_in rfl rfl (Nat.le_of_ble_eq_true rfl) (by decide) ?_
    refine s_if_eq (tgt := 21) (q := 17) d_M_isBlock_14 (by decide) rfl (fun h_14 => ?_) (fun h_14 => ?_)
    · -- T 14
      rw [bI_d] at h_14
      refine s_iconst (v := 0) (q := 22) d_M_isBlock_21 rfl ki_0 ?_
      exact g_iret d_M_isBlock_22 rfl rfl (by first | exact bI_is1 ⟨h_4, h_14⟩ | exact bI_is0 (fun z => h_4 z.1) | exact bI_is0 (fun z => h_14 z.2)) rfl
    · -- F 14
      rw [bI_dn] at h_14
      refine s_iconst (v := 1) (q := 18) d_M_isBlock_17 rfl ki_1 ?_
      refine s_goto (tgt := 22) d_M_isBlock_18 (by decide) ?_
      exact g_iret d_M_isBlock_22 rfl rfl (by first | exact bI_is1 ⟨h_4, h_14⟩ | exact bI_is0 (fun z => h_4 z.1) | exact bI_is0 (fun z => h_14 z.2)) rfl
theorem t_M_isRow {X : RAM} {k g v : Int32} : CG l D ac b y_M_isRow c_M_isRow 3 (some .boolean) 1 22 [.int k, .int g, .int v] X (some (.int (bI (decide (RowOK k g v))))) (X) := by
  refine Ct_of false (by decide) (fun h => by cases h) (Nat.le_of_ble_eq_true rfl) ?_
  show V l D ac b "SpanStoreModel" c_M_isRow 3 (some .boolean) false 1 22 0 0 ((some (.int (bI (decide (RowOK k g v))))), 144, mk (X)) 0 0 0 [(0, .int k), (1, .int g), (2, .int v)] [] 144 (mk X)
  refine s_iload_n (q := 1) d_M_isRow_0 rfl rfl ?_
  refine s_iconst (v := 0) (q := 2) d_M_isRow_1 rfl ki_0 ?_
  refine s_bipush (v := 99) (q := 4) d_M_isRow_2 rfl kb_99 ?_
  refine g_callS (q := 7) d_M_isRow_4 rfl ml_M_74 mx_M_in ms_M_in t_M_in rfl rfl (Nat.le_of_ble_eq_true rfl) (by decide) ?_
  refine s_if_eq (tgt := 36) (q := 10) d_M_isRow_7 (by decide) rfl (fun h_7 => ?_) (fun h_7 => ?_)
  · -- T 7
    rw [bI_d] at h_7
    refine s_iconst (v := 0) (q := 37) d_M_isRow_36 rfl ki_0 ?_
    exact g_iret d_M_isRow_37 rfl rfl (by first | exact bI_is1 (by unfold RowOK; (try simp only [bI_d, bI_dn, strV, remI] at *); simp only [i_le, i_lt, i_eq, tI_0, tI_1, tI_2, tI_3, tI_4, tI_7, tI_8, tI_10, tI_12, tI_13, tI_14, tI_40, tI_99, tI_100, tI_1000, tI_m1000, tI_m1, tI_mil] at *; omega) | exact bI_is0 (by unfold RowOK; (try simp only [bI_d, bI_dn, strV, remI] at *); simp only [i_le, i_lt, i_eq, tI_0, tI_1, tI_2, tI_3, tI_4, tI_7, tI_8, tI_10, tI_12, tI_13, tI_14, tI_40, tI_99, tI_100, tI_1000, tI_m1000, tI_m1, tI_mil] at *; omega)) rfl
  · -- F 7
    rw [bI_dn] at h_7
    refine s_iload_n (q := 11) d_M_isRow_10 rfl rfl ?_
    refine s_iconst (v := 0) (q := 12) d_M_isRow_11 rfl ki_0 ?_
    refine s_iconst (v := 3) (q := 13) d_M_isRow_12 rfl ki_3 ?_
    refine g_callS (q := 16) d_M_isRow_13 rfl ml_M_74 mx_M_in ms_M_in t_M_in rfl rfl (Nat.le_of_ble_eq_true rfl) (by decide) ?_
    refine s_if_eq (tgt := 36) (q := 19) d_M_isRow_16 (by decide) rfl (fun h_16 => ?_) (fun h_16 => ?_)
    · -- T 16
      rw [bI_d] at h_16
      refine s_iconst (v := 0) (q := 37) d_M_isRow_36 rfl ki_0 ?_
      exact g_iret d_M_isRow_37 rfl rfl (by first | exact bI_is1 (by unfold RowOK; (try simp only [bI_d, bI_dn, strV, remI] at *); simp only [i_le, i_lt, i_eq, tI_0, tI_1, tI_2, tI_3, tI_4, tI_7, tI_8, tI_10, tI_12, tI_13, tI_14, tI_40, tI_99, tI_100, tI_1000, tI_m1000, tI_m1, tI_mil] at *; omega) | exact bI_is0 (by unfold RowOK; (try simp only [bI_d, bI_dn, strV, remI] at *); simp only [i_le, i_lt, i_eq, tI_0, tI_1, tI_2, tI_3, tI_4, tI_7, tI_8, tI_10, tI_12, tI_13, tI_14, tI_40, tI_99, tI_100, tI_1000, tI_m1000, tI_m1, tI_mil] at *; omega)) rfl
    · -- F 16
      rw [bI_dn] at h_16
      refine s_iload_n (q := 20) d_M_isRow_19 rfl rfl ?_
      refine s_sipush (v := (-1000)) (q := 23) d_M_isRow_20 rfl kh_m1000 ?_
      refine s_sipush (v := 1000) (q := 26) d_M_isRow_23 rfl kh_1000 ?_
      refine g_callS (q := 29) d_M_isRow_26 rfl ml_M_74 mx_M_in ms_M_in t_M_in rfl rfl (Nat.le_of_ble_eq_true rfl) (by decide) ?_
      refine s_if_eq (tgt := 36) (q := 32) d_M_isRow_29 (by decide) rfl (fun h_29 => ?_) (fun h_29 => ?_)
      · -- T 29
        rw [bI_d] at h_29
        refine s_iconst (v := 0) (q := 37) d_M_isRow_36 rfl ki_0 ?_
        exact g_iret d_M_isRow_37 rfl rfl (by first | exact bI_is1 (by unfold RowOK; (try simp only [bI_d, bI_dn, strV, remI] at *); simp only [i_le, i_lt, i_eq, tI_0, tI_1, tI_2, tI_3, tI_4, tI_7, tI_8, tI_10, tI_12, tI_13, tI_14, tI_40, tI_99, tI_100, tI_1000, tI_m1000, tI_m1, tI_mil] at *; omega) | exact bI_is0 (by unfold RowOK; (try simp only [bI_d, bI_dn, strV, remI] at *); simp only [i_le, i_lt, i_eq, tI_0, tI_1, tI_2, tI_3, tI_4, tI_7, tI_8, tI_10, tI_12, tI_13, tI_14, tI_40, tI_99, tI_100, tI_1000, tI_m1000, tI_m1, tI_mil] at *; omega)) rfl
      · -- F 29
        rw [bI_dn] at h_29
        refine s_iconst (v := 1) (q := 33) d_M_isRow_32 rfl ki_1 ?_
        refine s_goto (tgt := 37) d_M_isRow_33 (by decide) ?_
        exact g_iret d_M_isRow_37 rfl rfl (by first | exact bI_is1 (by unfold RowOK; (try simp only [bI_d, bI_dn, strV, remI] at *); simp only [i_le, i_lt, i_eq, tI_0, tI_1, tI_2, tI_3, tI_4, tI_7, tI_8, tI_10, tI_12, tI_13, tI_14, tI_40, tI_99, tI_100, tI_1000, tI_m1000, tI_m1, tI_mil] at *; omega) | exact bI_is0 (by unfold RowOK; (try simp only [bI_d, bI_dn, strV, remI] at *); simp only [i_le, i_lt, i_eq, tI_0, tI_1, tI_2, tI_3, tI_4, tI_7, tI_8, tI_10, tI_12, tI_13, tI_14, tI_40, tI_99, tI_100, tI_1000, tI_m1000, tI_m1, tI_mil] at *; omega)) rfl
def mlX (X : RAM) (B n : Nat) (k g v : Int32) : RAM := up2 (up2 (up2 (up2 (up2 X 124 (12 * B + n) k) 125 (12 * B + n) g) 126 (12 * B + n) v) 127 (12 * B + n) 0) 123 B (nI (n + 1))
theorem t_M_lays {X : RAM} {B n : Nat} {k g v : Int32} (hB : B < 16) (hz : X 123 B = nI n) (hn : n < 12) : CG l D ac b y_M_lays c_M_lays 6 none 0 0 [.ref 122, .int (nI B), .int k, .int g, .int v] X (none) (mlX X B n k g v) := by
  refine Ct_of false (by decide) (fun h => by cases h) (Nat.le_of_ble_eq_true rfl) ?_
  show V l D ac b "SpanStoreModel" c_M_lays 6 none false 0 0 0 0 ((none), 144, mk (mlX X B n k g v)) 0 0 0 [(0, .ref 122), (1, .int (nI B)), (2, .int k), (3, .int g), (4, .int v)] [] 144 (mk X)
  refine s_bipush (v := 12) (q := 2) d_M_lays_0 rfl kb_12 ?_
  refine s_iload_n (q := 3) d_M_lays_2 rfl rfl ?_
  refine s_imul (q := 4) d_M_lays_3 rfl ?_
  refine s_aload_n (q := 5) d_M_lays_4 rfl rfl (Or.inr ⟨_, rfl⟩) ?_
  refine g_getr (q := 8) d_M_lays_5 rfl fl_M_7 skM rfl ?_
  refine s_iload_n (q := 9) d_M_lays_8 rfl rfl ?_
  refine g_ialv (v := nI n) (q := 10) d_M_lays_9 rfl sm_0 (by omega) rfl (by omega) hz ?_
  refine s_iadd (q := 11) d_M_lays_10 rfl ?_
  rw [ix12]
  refine s_istore (q := 13) d_M_lays_11 rfl (by decide) ?_
  refine s_aload_n (q := 14) d_M_lays_13 rfl rfl (Or.inr ⟨_, rfl⟩) ?_
  refine g_getr (q := 17) d_M_lays_14 rfl fl_M_13 skM rfl ?_
  refine s_iload (q := 19) d_M_lays_17 rfl rfl ?_
  refine s_iload_n (q := 20) d_M_lays_19 rfl rfl ?_
  refine g_iast (q := 21) d_M_lays_20 rfl sm_1 (by omega) rfl (by omega) ?_
  refine s_aload_n (q := 22) d_M_lays_21 rfl rfl (Or.inr ⟨_, rfl⟩) ?_
  refine g_getr (q := 25) d_M_lays_22 rfl fl_M_16 skM rfl ?_
  refine s_iload (q := 27) d_M_lays_25 rfl rfl ?_
  refine s_iload_n (q := 28) d_M_lays_27 rfl rfl ?_
  refine g_iast (q := 29) d_M_lays_28 rfl sm_2 (by omega) rfl (by omega) ?_
  refine s_aload_n (q := 30) d_M_lays_29 rfl rfl (Or.inr ⟨_, rfl⟩) ?_
  refine g_getr (q := 33) d_M_lays_30 rfl fl_M_19 skM rfl ?_
  refine s_iload (q := 35) d_M_lays_33 rfl rfl ?_
  refine s_iload (q := 37) d_M_lays_35 rfl rfl ?_
  refine g_iast (q := 38) d_M_lays_37 rfl sm_3 (by omega) rfl (by omega) ?_
  refine s_aload_n (q := 39) d_M_lays_38 rfl rfl (Or.inr ⟨_, rfl⟩) ?_
  refine g_getr (q := 42) d_M_lays_39 rfl fl_M_22 skM rfl ?_
  refine s_iload (q := 44) d_M_lays_42 rfl rfl ?_
  refine s_iconst (v := 0) (q := 45) d_M_lays_44 rfl ki_0 ?_
  refine g_zast (q := 46) d_M_lays_45 rfl sm_4 (by omega) rfl (by omega) rfl ?_
  refine s_aload_n (q := 47) d_M_lays_46 rfl rfl (Or.inr ⟨_, rfl⟩) ?_
  refine g_getr (q := 50) d_M_lays_47 rfl fl_M_7 skM rfl ?_
  refine s_iload_n (q := 51) d_M_lays_50 rfl rfl ?_
  refine s_dup2 (q := 52) d_M_lays_51 rfl rfl rfl ?_
  refine g_ialv (v := nI n) (q := 53) d_M_lays_52 rfl sm_0 (by omega) rfl (by omega) (by simp [up2, upd, hz]) ?_
  refine s_iconst (v := 1) (q := 54) d_M_lays_53 rfl ki_1 ?_
  refine s_iadd (q := 55) d_M_lays_54 rfl ?_
  rw [nI_s]
  refine g_iast (q := 56) d_M_lays_55 rfl sm_0 (by omega) rfl (by omega) ?_
  exact g_ret d_M_lays_56 rfl rfl
theorem t_M_row_T {X : RAM} {x y k g v : Int32} (hx : x < 0 ∨ 2 ≤ x) : CG l D ac b y_M_row c_M_row 7 (some .int) 3 63 [.ref 122, .int x, .int y, .int k, .int g, .int v] X (some (.int (-2))) (X) := by
  refine Ct_of false (by decide) (fun h => by cases h) (Nat.le_of_ble_eq_true rfl) ?_
  show V l D ac b "SpanStoreModel" c_M_row 7 (some .int) false 3 63 0 0 ((some (.int (-2))), 144, mk (X)) 0 0 0 [(0, .ref 122), (1, .int x), (2, .int y), (3, .int k), (4, .int g), (5, .int v)] [] 144 (mk X)
  refine s_iload_n (q := 1) d_M_row_0 rfl rfl ?_
  refine s_iload_n (q := 2) d_M_row_1 rfl rfl ?_
  refine g_callS (q := 5) d_M_row_2 rfl ml_M_82 mx_M_isBlock ms_M_isBlock t_M_isBlock rfl rfl (Nat.le_of_ble_eq_true rfl) (by decide) ?_
  refine s_if_eq (tgt := 19) (q := 8) d_M_row_5 (by decide) rfl (fun _ => ?_) (fun z9 => absurd (bI_d.mpr (fun z => niT hx z.1)) z9)
  refine s_bipush (v := (-2)) (q := 21) d_M_row_19 rfl kb_m2 ?_
  exact g_iret d_M_row_21 rfl rfl rfl rfl
theorem t_M_row_B {X : RAM} {t : Nat} {y k g v : Int32} (ht : t < 2) (hy : y < 0 ∨ 8 ≤ y) : CG l D ac b y_M_row c_M_row 7 (some .int) 3 63 [.ref 122, .int (nI t), .int y, .int k, .int g, .int v] X (some (.int (-2))) (X) := by
  refine Ct_of false (by decide) (fun h => by cases h) (Nat.le_of_ble_eq_true rfl) ?_
  show V l D ac b "SpanStoreModel" c_M_row 7 (some .int) false 3 63 0 0 ((some (.int (-2))), 144, mk (X)) 0 0 0 [(0, .ref 122), (1, .int (nI t)), (2, .int y), (3, .int k), (4, .int g), (5, .int v)] [] 144 (mk X)
  refine s_iload_n (q := 1) d_M_row_0 rfl rfl ?_
  refine s_iload_n (q := 2) d_M_row_1 rfl rfl ?_
  refine g_callS (q := 5) d_M_row_2 rfl ml_M_82 mx_M_isBlock ms_M_isBlock t_M_isBlock rfl rfl (Nat.le_of_ble_eq_true rfl) (by decide) ?_
  refine s_if_eq (tgt := 19) (q := 8) d_M_row_5 (by decide) rfl (fun _ => ?_) (fun z9 => absurd (bI_d.mpr (fun z => niB hy z.2)) z9)
  refine s_bipush (v := (-2)) (q := 21) d_M_row_19 rfl kb_m2 ?_
  exact g_iret d_M_row_21 rfl rfl rfl rfl
theorem t_M_row_R {X : RAM} {t j : Nat} {k g v : Int32} (ht : t < 2) (hj : j < 8) (hr : ¬ RowOK k g v) : CG l D ac b y_M_row c_M_row 7 (some .int) 3 63 [.ref 122, .int (nI t), .int (nI j), .int k, .int g, .int v] X (some (.int (-2))) (X) := by
  refine Ct_of false (by decide) (fun h => by cases h) (Nat.le_of_ble_eq_true rfl) ?_
  show V l D ac b "SpanStoreModel" c_M_row 7 (some .int) false 3 63 0 0 ((some (.int (-2))), 144, mk (X)) 0 0 0 [(0, .ref 122), (1, .int (nI t)), (2, .int (nI j)), (3, .int k), (4, .int g), (5, .int v)] [] 144 (mk X)
  refine s_iload_n (q := 1) d_M_row_0 rfl rfl ?_
  refine s_iload_n (q := 2) d_M_row_1 rfl rfl ?_
  refine g_callS (q := 5) d_M_row_2 rfl ml_M_82 mx_M_isBlock ms_M_isBlock t_M_isBlock rfl rfl (Nat.le_of_ble_eq_true rfl) (by decide) ?_
  refine s_if_eq (tgt := 19) (q := 8) d_M_row_5 (by decide) rfl (fun z9 => absurd z9 (bI_dn.mpr ⟨inT ht, inB hj⟩)) (fun _ => ?_)
  refine s_iload_n (q := 9) d_M_row_8 rfl rfl ?_
  refine s_iload (q := 11) d_M_row_9 rfl rfl ?_
  refine s_iload (q := 13) d_M_row_11 rfl rfl ?_
  refine g_callS (q := 16) d_M_row_13 rfl ml_M_86 mx_M_isRow ms_M_isRow t_M_isRow rfl rfl (Nat.le_of_ble_eq_true rfl) (by decide) ?_
  refine s_if_ne (tgt := 22) (q := 19) d_M_row_16 (by decide) rfl (fun z9 => absurd (bI_d.mpr hr) z9) (fun _ => ?_)
  refine s_bipush (v := (-2)) (q := 21) d_M_row_19 rfl kb_m2 ?_
  exact g_iret d_M_row_21 rfl rfl rfl rfl
theorem t_M_row_S {X : RAM} {t j : Nat} {k g v : Int32} (ht : t < 2) (hj : j < 8) (hr : RowOK k g v) (hs : ¬ X 134 t = 0) : CG l D ac b y_M_row c_M_row 7 (some .int) 3 63 [.ref 122, .int (nI t), .int (nI j), .int k, .int g, .int v] X (some (.int (-3))) (X) := by
  refine Ct_of false (by decide) (fun h => by cases h) (Nat.le_of_ble_eq_true rfl) ?_
  show V l D ac b "SpanStoreModel" c_M_row 7 (some .int) false 3 63 0 0 ((some (.int (-3))), 144, mk (X)) 0 0 0 [(0, .ref 122), (1, .int (nI t)), (2, .int (nI j)), (3, .int k), (4, .int g), (5, .int v)] [] 144 (mk X)
  refine s_iload_n (q := 1) d_M_row_0 rfl rfl ?_
  refine s_iload_n (q := 2) d_M_row_1 rfl rfl ?_
  refine g_callS (q := 5) d_M_row_2 rfl ml_M_82 mx_M_isBlock ms_M_isBlock t_M_isBlock rfl rfl (Nat.le_of_ble_eq_true rfl) (by decide) ?_
  refine s_if_eq (tgt := 19) (q := 8) d_M_row_5 (by decide) rfl (fun z9 => absurd z9 (bI_dn.mpr ⟨inT ht, inB hj⟩)) (fun _ => ?_)
  refine s_iload_n (q := 9) d_M_row_8 rfl rfl ?_
  refine s_iload (q := 11) d_M_row_9 rfl rfl ?_
  refine s_iload (q := 13) d_M_row_11 rfl rfl ?_
  refine g_callS (q := 16) d_M_row_13 rfl ml_M_86 mx_M_isRow ms_M_isRow t_M_isRow rfl rfl (Nat.le_of_ble_eq_true rfl) (by decide) ?_
  refine s_if_ne (tgt := 22) (q := 19) d_M_row_16 (by decide) rfl (fun _ => ?_) (fun z9 => absurd z9 (bI_dn.mpr hr))
  refine s_aload_n (q := 23) d_M_row_22 rfl rfl (Or.inr ⟨_, rfl⟩) ?_
  refine g_getr (q := 26) d_M_row_23 rfl fl_M_44 skM rfl ?_
  refine s_iload_n (q := 27) d_M_row_26 rfl rfl ?_
  refine g_zald (q := 28) d_M_row_27 rfl sm_11 (by omega) rfl ht ?_
  refine s_if_eq (tgt := 34) (q := 31) d_M_row_28 (by decide) rfl (fun z9 => absurd z9 hs) (fun _ => ?_)
  refine s_bipush (v := (-3)) (q := 33) d_M_row_31 rfl kb_m3 ?_
  exact g_iret d_M_row_33 rfl rfl rfl rfl
theorem t_M_row_F {X : RAM} {t j : Nat} {k g v : Int32} (ht : t < 2) (hj : j < 8) (hr : RowOK k g v) (hs : X 134 t = 0) (hz : X 123 (8 * t + j) = nI 12) : CG l D ac b y_M_row c_M_row 7 (some .int) 3 63 [.ref 122, .int (nI t), .int (nI j), .int k, .int g, .int v] X (some (.int (-4))) (X) := by
  refine Ct_of false (by decide) (fun h => by cases h) (Nat.le_of_ble_eq_true rfl) ?_
  show V l D ac b "SpanStoreModel" c_M_row 7 (some .int) false 3 63 0 0 ((some (.int (-4))), 144, mk (X)) 0 0 0 [(0, .ref 122), (1, .int (nI t)), (2, .int (nI j)), (3, .int k), (4, .int g), (5, .int v)] [] 144 (mk X)
  refine s_iload_n (q := 1) d_M_row_0 rfl rfl ?_
  refine s_iload_n (q := 2) d_M_row_1 rfl rfl ?_
  refine g_callS (q := 5) d_M_row_2 rfl ml_M_82 mx_M_isBlock ms_M_isBlock t_M_isBlock rfl rfl (Nat.le_of_ble_eq_true rfl) (by decide) ?_
  refine s_if_eq (tgt := 19) (q := 8) d_M_row_5 (by decide) rfl (fun z9 => absurd z9 (bI_dn.mpr ⟨inT ht, inB hj⟩)) (fun _ => ?_)
  refine s_iload_n (q := 9) d_M_row_8 rfl rfl ?_
  refine s_iload (q := 11) d_M_row_9 rfl rfl ?_
  refine s_iload (q := 13) d_M_row_11 rfl rfl ?_
  refine g_callS (q := 16) d_M_row_13 rfl ml_M_86 mx_M_isRow ms_M_isRow t_M_isRow rfl rfl (Nat.le_of_ble_eq_true rfl) (by decide) ?_
  refine s_if_ne (tgt := 22) (q := 19) d_M_row_16 (by decide) rfl (fun _ => ?_) (fun z9 => absurd z9 (bI_dn.mpr hr))
  refine s_aload_n (q := 23) d_M_row_22 rfl rfl (Or.inr ⟨_, rfl⟩) ?_
  refine g_getr (q := 26) d_M_row_23 rfl fl_M_44 skM rfl ?_
  refine s_iload_n (q := 27) d_M_row_26 rfl rfl ?_
  refine g_zald (q := 28) d_M_row_27 rfl sm_11 (by omega) rfl ht ?_
  refine s_if_eq (tgt := 34) (q := 31) d_M_row_28 (by decide) rfl (fun _ => ?_) (fun z9 => absurd hs z9)
  refine s_bipush (v := 8) (q := 36) d_M_row_34 rfl kb_8 ?_
  refine s_iload_n (q := 37) d_M_row_36 rfl rfl ?_
  refine s_imul (q := 38) d_M_row_37 rfl ?_
  refine s_iload_n (q := 39) d_M_row_38 rfl rfl ?_
  refine s_iadd (q := 40) d_M_row_39 rfl ?_
  rw [ix8m]
  refine s_istore (q := 42) d_M_row_40 rfl (by decide) ?_
  refine s_aload_n (q := 43) d_M_row_42 rfl rfl (Or.inr ⟨_, rfl⟩) ?_
  refine g_getr (q := 46) d_M_row_43 rfl fl_M_7 skM rfl ?_
  refine s_iload (q := 48) d_M_row_46 rfl rfl ?_
  refine g_ialv (v := nI 12) (q := 49) d_M_row_48 rfl sm_0 (by omega) rfl (by omega) hz ?_
  refine s_bipush (v := 12) (q := 51) d_M_row_49 rfl kb_12 ?_
  refine s_icmp_ne (tgt := 57) (q := 54) d_M_row_51 (by decide) rfl (fun z9 => absurd rfl z9) (fun _ => ?_)
  refine s_bipush (v := (-4)) (q := 56) d_M_row_54 rfl kb_m4 ?_
  exact g_iret d_M_row_56 rfl rfl rfl rfl
theorem t_M_row_D {X : RAM} {t j n : Nat} {k g v : Int32} (ht : t < 2) (hj : j < 8) (hr : RowOK k g v) (hs : X 134 t = 0) (hz : X 123 (8 * t + j) = nI n) (hn : n < 12) : CG l D ac b y_M_row c_M_row 7 (some .int) 3 63 [.ref 122, .int (nI t), .int (nI j), .int k, .int g, .int v] X (some (.int (nI n))) (mlX X (8 * t + j) n k g v) := by
  refine Ct_of false (by decide) (fun h => by cases h) (Nat.le_of_ble_eq_true rfl) ?_
  show V l D ac b "SpanStoreModel" c_M_row 7 (some .int) false 3 63 0 0 ((some (.int (nI n))), 144, mk (mlX X (8 * t + j) n k g v)) 0 0 0 [(0, .ref 122), (1, .int (nI t)), (2, .int (nI j)), (3, .int k), (4, .int g), (5, .int v)] [] 144 (mk X)
  refine s_iload_n (q := 1) d_M_row_0 rfl rfl ?_
  refine s_iload_n (q := 2) d_M_row_1 rfl rfl ?_
  refine g_callS (q := 5) d_M_row_2 rfl ml_M_82 mx_M_isBlock ms_M_isBlock t_M_isBlock rfl rfl (Nat.le_of_ble_eq_true rfl) (by decide) ?_
  refine s_if_eq (tgt := 19) (q := 8) d_M_row_5 (by decide) rfl (fun z9 => absurd z9 (bI_dn.mpr ⟨inT ht, inB hj⟩)) (fun _ => ?_)
  refine s_iload_n (q := 9) d_M_row_8 rfl rfl ?_
  refine s_iload (q := 11) d_M_row_9 rfl rfl ?_
  refine s_iload (q := 13) d_M_row_11 rfl rfl ?_
  refine g_callS (q := 16) d_M_row_13 rfl ml_M_86 mx_M_isRow ms_M_isRow t_M_isRow rfl rfl (Nat.le_of_ble_eq_true rfl) (by decide) ?_
  refine s_if_ne (tgt := 22) (q := 19) d_M_row_16 (by decide) rfl (fun _ => ?_) (fun z9 => absurd z9 (bI_dn.mpr hr))
  refine s_aload_n (q := 23) d_M_row_22 rfl rfl (Or.inr ⟨_, rfl⟩) ?_
  refine g_getr (q := 26) d_M_row_23 rfl fl_M_44 skM rfl ?_
  refine s_iload_n (q := 27) d_M_row_26 rfl rfl ?_
  refine g_zald (q := 28) d_M_row_27 rfl sm_11 (by omega) rfl ht ?_
  refine s_if_eq (tgt := 34) (q := 31) d_M_row_28 (by decide) rfl (fun _ => ?_) (fun z9 => absurd hs z9)
  refine s_bipush (v := 8) (q := 36) d_M_row_34 rfl kb_8 ?_
  refine s_iload_n (q := 37) d_M_row_36 rfl rfl ?_
  refine s_imul (q := 38) d_M_row_37 rfl ?_
  refine s_iload_n (q := 39) d_M_row_38 rfl rfl ?_
  refine s_iadd (q := 40) d_M_row_39 rfl ?_
  rw [ix8m]
  refine s_istore (q := 42) d_M_row_40 rfl (by decide) ?_
  refine s_aload_n (q := 43) d_M_row_42 rfl rfl (Or.inr ⟨_, rfl⟩) ?_
  refine g_getr (q := 46) d_M_row_43 rfl fl_M_7 skM rfl ?_
  refine s_iload (q := 48) d_M_row_46 rfl rfl ?_
  refine g_ialv (v := nI n) (q := 49) d_M_row_48 rfl sm_0 (by omega) rfl (by omega) hz ?_
  refine s_bipush (v := 12) (q := 51) d_M_row_49 rfl kb_12 ?_
  refine s_icmp_ne (tgt := 57) (q := 54) d_M_row_51 (by decide) rfl (fun _ => ?_) (fun z9 => absurd z9 (fun z => by have := (nI_eq (a := n) (b := 12) (by omega) (by decide)).mp z; omega))
  refine s_aload_n (q := 58) d_M_row_57 rfl rfl (Or.inr ⟨_, rfl⟩) ?_
  refine s_iload (q := 60) d_M_row_58 rfl rfl ?_
  refine s_iload_n (q := 61) d_M_row_60 rfl rfl ?_
  refine s_iload (q := 63) d_M_row_61 rfl rfl ?_
  refine s_iload (q := 65) d_M_row_63 rfl rfl ?_
  refine g_callV (q := 68) d_M_row_65 rfl ml_M_89 mx_M_lays mv_M_lays (t_M_lays (by omega) hz hn) skM rfl rfl (Nat.le_of_ble_eq_true rfl) (by decide) ?_
  refine s_aload_n (q := 69) d_M_row_68 rfl rfl (Or.inr ⟨_, rfl⟩) ?_
  refine g_getr (q := 72) d_M_row_69 rfl fl_M_7 skM rfl ?_
  refine s_iload (q := 74) d_M_row_72 rfl rfl ?_
  refine g_ialv (v := nI (n + 1)) (q := 75) d_M_row_74 rfl sm_0 (by omega) rfl (by omega) (by simp [mlX, up2, upd]) ?_
  refine s_iconst (v := 1) (q := 76) d_M_row_75 rfl ki_1 ?_
  refine s_isub (q := 77) d_M_row_76 rfl ?_
  exact g_iret d_M_row_77 rfl rfl (nI_pred n) rfl
theorem t_M_meets {X : RAM} {z : Int32} : CG l D ac b y_M_meets c_M_meets 2 (some .int) 0 0 [.ref 122, .int z] X (some (.int (-10 - z))) (up2 X 122 22 z) := by
  refine Ct_of false (by decide) (fun h => by cases h) (Nat.le_of_ble_eq_true rfl) ?_
  show V l D ac b "SpanStoreModel" c_M_meets 2 (some .int) false 0 0 0 0 ((some (.int (-10 - z))), 144, mk (up2 X 122 22 z)) 0 0 0 [(0, .ref 122), (1, .int z)] [] 144 (mk X)
  refine s_aload_n (q := 1) d_M_meets_0 rfl rfl (Or.inr ⟨_, rfl⟩) ?_
  refine s_iload_n (q := 2) d_M_meets_1 rfl rfl ?_
  refine g_puti (q := 5) d_M_meets_2 rfl fl_M_179 rfl (okV_int _) skM rfl ?_
  refine s_bipush (v := (-10)) (q := 7) d_M_meets_5 rfl kb_m10 ?_
  refine s_iload_n (q := 8) d_M_meets_7 rfl rfl ?_
  refine s_isub (q := 9) d_M_meets_8 rfl ?_
  exact g_iret d_M_meets_9 rfl rfl rfl rfl
theorem t_M_load_T {X : RAM} {x y k g v n : Int32} (hx : x < 0 ∨ 2 ≤ x) : CG l D ac b y_M_load c_M_load 9 (some .int) 3 63 [.ref 122, .int x, .int y, .int k, .int g, .int v, .int n] X (some (.int (-2))) (X) := by
  refine Ct_of false (by decide) (fun h => by cases h) (Nat.le_of_ble_eq_true rfl) ?_
  show V l D ac b "SpanStoreModel" c_M_load 9 (some .int) false 3 63 0 0 ((some (.int (-2))), 144, mk (X)) 0 0 0 [(0, .ref 122), (1, .int x), (2, .int y), (3, .int k), (4, .int g), (5, .int v), (6, .int n)] [] 144 (mk X)
  refine s_iload_n (q := 1) d_M_load_0 rfl rfl ?_
  refine s_iload_n (q := 2) d_M_load_1 rfl rfl ?_
  refine g_callS (q := 5) d_M_load_2 rfl ml_M_82 mx_M_isBlock ms_M_isBlock t_M_isBlock rfl rfl (Nat.le_of_ble_eq_true rfl) (by decide) ?_
  refine s_if_eq (tgt := 42) (q := 8) d_M_load_5 (by decide) rfl (fun _ => ?_) (fun z9 => absurd (bI_d.mpr (fun z => niT hx z.1)) z9)
  refine s_bipush (v := (-2)) (q := 44) d_M_load_42 rfl kb_m2 ?_
  exact g_iret d_M_load_44 rfl rfl rfl rfl
theorem t_M_load_B {X : RAM} {t : Nat} {y k g v n : Int32} (ht : t < 2) (hy : y < 0 ∨ 8 ≤ y) : CG l D ac b y_M_load c_M_load 9 (some .int) 3 63 [.ref 122, .int (nI t), .int y, .int k, .int g, .int v, .int n] X (some (.int (-2))) (X) := by
  refine Ct_of false (by decide) (fun h => by cases h) (Nat.le_of_ble_eq_true rfl) ?_
  show V l D ac b "SpanStoreModel" c_M_load 9 (some .int) false 3 63 0 0 ((some (.int (-2))), 144, mk (X)) 0 0 0 [(0, .ref 122), (1, .int (nI t)), (2, .int y), (3, .int k), (4, .int g), (5, .int v), (6, .int n)] [] 144 (mk X)
  refine s_iload_n (q := 1) d_M_load_0 rfl rfl ?_
  refine s_iload_n (q := 2) d_M_load_1 rfl rfl ?_
  refine g_callS (q := 5) d_M_load_2 rfl ml_M_82 mx_M_isBlock ms_M_isBlock t_M_isBlock rfl rfl (Nat.le_of_ble_eq_true rfl) (by decide) ?_
  refine s_if_eq (tgt := 42) (q := 8) d_M_load_5 (by decide) rfl (fun _ => ?_) (fun z9 => absurd (bI_d.mpr (fun z => niB hy z.2)) z9)
  refine s_bipush (v := (-2)) (q := 44) d_M_load_42 rfl kb_m2 ?_
  exact g_iret d_M_load_44 rfl rfl rfl rfl
theorem t_M_load_K {X : RAM} {t j : Nat} {k g v n : Int32} (ht : t < 2) (hj : j < 8) (hz : k < 0 ∨ 4 ≤ k) : CG l D ac b y_M_load c_M_load 9 (some .int) 3 63 [.ref 122, .int (nI t), .int (nI j), .int k, .int g, .int v, .int n] X (some (.int (-2))) (X) := by
  refine Ct_of false (by decide) (fun h => by cases h) (Nat.le_of_ble_eq_true rfl) ?_
  show V l D ac b "SpanStoreModel" c_M_load 9 (some .int) false 3 63 0 0 ((some (.int (-2))), 144, mk (X)) 0 0 0 [(0, .ref 122), (1, .int (nI t)), (2, .int (nI j)), (3, .int k), (4, .int g), (5, .int v), (6, .int n)] [] 144 (mk X)
  refine s_iload_n (q := 1) d_M_load_0 rfl rfl ?_
  refine s_iload_n (q := 2) d_M_load_1 rfl rfl ?_
  refine g_callS (q := 5) d_M_load_2 rfl ml_M_82 mx_M_isBlock ms_M_isBlock t_M_isBlock rfl rfl (Nat.le_of_ble_eq_true rfl) (by decide) ?_
  refine s_if_eq (tgt := 42) (q := 8) d_M_load_5 (by decide) rfl (fun z9 => absurd z9 (bI_dn.mpr ⟨inT ht, inB hj⟩)) (fun _ => ?_)
  refine s_iload_n (q := 9) d_M_load_8 rfl rfl ?_
  refine g_callS (q := 12) d_M_load_9 rfl ml_M_93 mx_M_isSheet ms_M_isSheet t_M_isSheet rfl rfl (Nat.le_of_ble_eq_true rfl) (by decide) ?_
  refine s_if_eq (tgt := 42) (q := 15) d_M_load_12 (by decide) rfl (fun _ => ?_) (fun z9 => absurd (bI_d.mpr (niS hz)) z9)
  refine s_bipush (v := (-2)) (q := 44) d_M_load_42 rfl kb_m2 ?_
  exact g_iret d_M_load_44 rfl rfl rfl rfl
theorem t_M_load_G {X : RAM} {t j k : Nat} {g v n : Int32} (ht : t < 2) (hj : j < 8) (hk : k < 4) (hz : g < 0 ∨ 4 ≤ g) : CG l D ac b y_M_load c_M_load 9 (some .int) 3 63 [.ref 122, .int (nI t), .int (nI j), .int (nI k), .int g, .int v, .int n] X (some (.int (-2))) (X) := by
  refine Ct_of false (by decide) (fun h => by cases h) (Nat.le_of_ble_eq_true rfl) ?_
  show V l D ac b "SpanStoreModel" c_M_load 9 (some .int) false 3 63 0 0 ((some (.int (-2))), 144, mk (X)) 0 0 0 [(0, .ref 122), (1, .int (nI t)), (2, .int (nI j)), (3, .int (nI k)), (4, .int g), (5, .int v), (6, .int n)] [] 144 (mk X)
  refine s_iload_n (q := 1) d_M_load_0 rfl rfl ?_
  refine s_iload_n (q := 2) d_M_load_1 rfl rfl ?_
  refine g_callS (q := 5) d_M_load_2 rfl ml_M_82 mx_M_isBlock ms_M_isBlock t_M_isBlock rfl rfl (Nat.le_of_ble_eq_true rfl) (by decide) ?_
  refine s_if_eq (tgt := 42) (q := 8) d_M_load_5 (by decide) rfl (fun z9 => absurd z9 (bI_dn.mpr ⟨inT ht, inB hj⟩)) (fun _ => ?_)
  refine s_iload_n (q := 9) d_M_load_8 rfl rfl ?_
  refine g_callS (q := 12) d_M_load_9 rfl ml_M_93 mx_M_isSheet ms_M_isSheet t_M_isSheet rfl rfl (Nat.le_of_ble_eq_true rfl) (by decide) ?_
  refine s_if_eq (tgt := 42) (q := 15) d_M_load_12 (by decide) rfl (fun z9 => absurd z9 (bI_dn.mpr (inS hk))) (fun _ => ?_)
  refine s_iload (q := 17) d_M_load_15 rfl rfl ?_
  refine g_callS (q := 20) d_M_load_17 rfl ml_M_93 mx_M_isSheet ms_M_isSheet t_M_isSheet rfl rfl (Nat.le_of_ble_eq_true rfl) (by decide) ?_
  refine s_if_eq (tgt := 42) (q := 23) d_M_load_20 (by decide) rfl (fun _ => ?_) (fun z9 => absurd (bI_d.mpr (niS hz)) z9)
  refine s_bipush (v := (-2)) (q := 44) d_M_load_42 rfl kb_m2 ?_
  exact g_iret d_M_load_44 rfl rfl rfl rfl
theorem t_M_load_V {X : RAM} {t j k g : Nat} {v n : Int32} (ht : t < 2) (hj : j < 8) (hk : k < 4) (hg : g < 4) (hz : v < 0 ∨ 4 ≤ v) : CG l D ac b y_M_load c_M_load 9 (some .int) 3 63 [.ref 122, .int (nI t), .int (nI j), .int (nI k), .int (nI g), .int v, .int n] X (some (.int (-2))) (X) := by
  refine Ct_of false (by decide) (fun h => by cases h) (Nat.le_of_ble_eq_true rfl) ?_
  show V l D ac b "SpanStoreModel" c_M_load 9 (some .int) false 3 63 0 0 ((some (.int (-2))), 144, mk (X)) 0 0 0 [(0, .ref 122), (1, .int (nI t)), (2, .int (nI j)), (3, .int (nI k)), (4, .int (nI g)), (5, .int v), (6, .int n)] [] 144 (mk X)
  refine s_iload_n (q := 1) d_M_load_0 rfl rfl ?_
  refine s_iload_n (q := 2) d_M_load_1 rfl rfl ?_
  refine g_callS (q := 5) d_M_load_2 rfl ml_M_82 mx_M_isBlock ms_M_isBlock t_M_isBlock rfl rfl (Nat.le_of_ble_eq_true rfl) (by decide) ?_
  refine s_if_eq (tgt := 42) (q := 8) d_M_load_5 (by decide) rfl (fun z9 => absurd z9 (bI_dn.mpr ⟨inT ht, inB hj⟩)) (fun _ => ?_)
  refine s_iload_n (q := 9) d_M_load_8 rfl rfl ?_
  refine g_callS (q := 12) d_M_load_9 rfl ml_M_93 mx_M_isSheet ms_M_isSheet t_M_isSheet rfl rfl (Nat.le_of_ble_eq_true rfl) (by decide) ?_
  refine s_if_eq (tgt := 42) (q := 15) d_M_load_12 (by decide) rfl (fun z9 => absurd z9 (bI_dn.mpr (inS hk))) (fun _ => ?_)
  refine s_iload (q := 17) d_M_load_15 rfl rfl ?_
  refine g_callS (q := 20) d_M_load_17 rfl ml_M_93 mx_M_isSheet ms_M_isSheet t_M_isSheet rfl rfl (Nat.le_of_ble_eq_true rfl) (by decide) ?_
  refine s_if_eq (tgt := 42) (q := 23) d_M_load_20 (by decide) rfl (fun z9 => absurd z9 (bI_dn.mpr (inS hg))) (fun _ => ?_)
  refine s_iload (q := 25) d_M_load_23 rfl rfl ?_
  refine g_callS (q := 28) d_M_load_25 rfl ml_M_93 mx_M_isSheet ms_M_isSheet t_M_isSheet rfl rfl (Nat.le_of_ble_eq_true rfl) (by decide) ?_
  refine s_if_eq (tgt := 42) (q := 31) d_M_load_28 (by decide) rfl (fun _ => ?_) (fun z9 => absurd (bI_d.mpr (niS hz)) z9)
  refine s_bipush (v := (-2)) (q := 44) d_M_load_42 rfl kb_m2 ?_
  exact g_iret d_M_load_44 rfl rfl rfl rfl
theorem t_M_load_N {X : RAM} {t j k g v : Nat} {n : Int32} (ht : t < 2) (hj : j < 8) (hk : k < 4) (hg : g < 4) (hv : v < 4) (hn : n < 1 ∨ 12 < n) : CG l D ac b y_M_load c_M_load 9 (some .int) 3 63 [.ref 122, .int (nI t), .int (nI j), .int (nI k), .int (nI g), .int (nI v), .int n] X (some (.int (-2))) (X) := by
  refine Ct_of false (by decide) (fun h => by cases h) (Nat.le_of_ble_eq_true rfl) ?_
  show V l D ac b "SpanStoreModel" c_M_load 9 (some .int) false 3 63 0 0 ((some (.int (-2))), 144, mk (X)) 0 0 0 [(0, .ref 122), (1, .int (nI t)), (2, .int (nI j)), (3, .int (nI k)), (4, .int (nI g)), (5, .int (nI v)), (6, .int n)] [] 144 (mk X)
  refine s_iload_n (q := 1) d_M_load_0 rfl rfl ?_
  refine s_iload_n (q := 2) d_M_load_1 rfl rfl ?_
  refine g_callS (q := 5) d_M_load_2 rfl ml_M_82 mx_M_isBlock ms_M_isBlock t_M_isBlock rfl rfl (Nat.le_of_ble_eq_true rfl) (by decide) ?_
  refine s_if_eq (tgt := 42) (q := 8) d_M_load_5 (by decide) rfl (fun z9 => absurd z9 (bI_dn.mpr ⟨inT ht, inB hj⟩)) (fun _ => ?_)
  refine s_iload_n (q := 9) d_M_load_8 rfl rfl ?_
  refine g_callS (q := 12) d_M_load_9 rfl ml_M_93 mx_M_isSheet ms_M_isSheet t_M_isSheet rfl rfl (Nat.le_of_ble_eq_true rfl) (by decide) ?_
  refine s_if_eq (tgt := 42) (q := 15) d_M_load_12 (by decide) rfl (fun z9 => absurd z9 (bI_dn.mpr (inS hk))) (fun _ => ?_)
  refine s_iload (q := 17) d_M_load_15 rfl rfl ?_
  refine g_callS (q := 20) d_M_load_17 rfl ml_M_93 mx_M_isSheet ms_M_isSheet t_M_isSheet rfl rfl (Nat.le_of_ble_eq_true rfl) (by decide) ?_
  refine s_if_eq (tgt := 42) (q := 23) d_M_load_20 (by decide) rfl (fun z9 => absurd z9 (bI_dn.mpr (inS hg))) (fun _ => ?_)
  refine s_iload (q := 25) d_M_load_23 rfl rfl ?_
  refine g_callS (q := 28) d_M_load_25 rfl ml_M_93 mx_M_isSheet ms_M_isSheet t_M_isSheet rfl rfl (Nat.le_of_ble_eq_true rfl) (by decide) ?_
  refine s_if_eq (tgt := 42) (q := 31) d_M_load_28 (by decide) rfl (fun z9 => absurd z9 (bI_dn.mpr (inS hv))) (fun _ => ?_)
  refine s_iload (q := 33) d_M_load_31 rfl rfl ?_
  refine s_iconst (v := 1) (q := 34) d_M_load_33 rfl ki_1 ?_
  refine s_bipush (v := 12) (q := 36) d_M_load_34 rfl kb_12 ?_
  refine g_callS (q := 39) d_M_load_36 rfl ml_M_74 mx_M_in ms_M_in t_M_in rfl rfl (Nat.le_of_ble_eq_true rfl) (by decide) ?_
  refine s_if_ne (tgt := 45) (q := 42) d_M_load_39 (by decide) rfl (fun z9 => absurd (bI_d.mpr (fun z => hn.elim (fun q => absurd z.1 (i_nle.mpr q)) (fun q => absurd z.2 (i_nle.mpr q)))) z9) (fun _ => ?_)
  refine s_bipush (v := (-2)) (q := 44) d_M_load_42 rfl kb_m2 ?_
  exact g_iret d_M_load_44 rfl rfl rfl rfl
theorem t_M_load_S {X : RAM} {t j k g v m : Nat} (ht : t < 2) (hj : j < 8) (hk : k < 4) (hg : g < 4) (hv : v < 4) (hm1 : 1 ≤ m) (hm : m ≤ 12) (hs : ¬ X 134 t = 0) : CG l D ac b y_M_load c_M_load 9 (some .int) 3 63 [.ref 122, .int (nI t), .int (nI j), .int (nI k), .int (nI g), .int (nI v), .int (nI m)] X (some (.int (-3))) (X) := by
  refine Ct_of false (by decide) (fun h => by cases h) (Nat.le_of_ble_eq_true rfl) ?_
  show V l D ac b "SpanStoreModel" c_M_load 9 (some .int) false 3 63 0 0 ((some (.int (-3))), 144, mk (X)) 0 0 0 [(0, .ref 122), (1, .int (nI t)), (2, .int (nI j)), (3, .int (nI k)), (4, .int (nI g)), (5, .int (nI v)), (6, .int (nI m))] [] 144 (mk X)
  refine s_iload_n (q := 1) d_M_load_0 rfl rfl ?_
  refine s_iload_n (q := 2) d_M_load_1 rfl rfl ?_
  refine g_callS (q := 5) d_M_load_2 rfl ml_M_82 mx_M_isBlock ms_M_isBlock t_M_isBlock rfl rfl (Nat.le_of_ble_eq_true rfl) (by decide) ?_
  refine s_if_eq (tgt := 42) (q := 8) d_M_load_5 (by decide) rfl (fun z9 => absurd z9 (bI_dn.mpr ⟨inT ht, inB hj⟩)) (fun _ => ?_)
  refine s_iload_n (q := 9) d_M_load_8 rfl rfl ?_
  refine g_callS (q := 12) d_M_load_9 rfl ml_M_93 mx_M_isSheet ms_M_isSheet t_M_isSheet rfl rfl (Nat.le_of_ble_eq_true rfl) (by decide) ?_
  refine s_if_eq (tgt := 42) (q := 15) d_M_load_12 (by decide) rfl (fun z9 => absurd z9 (bI_dn.mpr (inS hk))) (fun _ => ?_)
  refine s_iload (q := 17) d_M_load_15 rfl rfl ?_
  refine g_callS (q := 20) d_M_load_17 rfl ml_M_93 mx_M_isSheet ms_M_isSheet t_M_isSheet rfl rfl (Nat.le_of_ble_eq_true rfl) (by decide) ?_
  refine s_if_eq (tgt := 42) (q := 23) d_M_load_20 (by decide) rfl (fun z9 => absurd z9 (bI_dn.mpr (inS hg))) (fun _ => ?_)
  refine s_iload (q := 25) d_M_load_23 rfl rfl ?_
  refine g_callS (q := 28) d_M_load_25 rfl ml_M_93 mx_M_isSheet ms_M_isSheet t_M_isSheet rfl rfl (Nat.le_of_ble_eq_true rfl) (by decide) ?_
  refine s_if_eq (tgt := 42) (q := 31) d_M_load_28 (by decide) rfl (fun z9 => absurd z9 (bI_dn.mpr (inS hv))) (fun _ => ?_)
  refine s_iload (q := 33) d_M_load_31 rfl rfl ?_
  refine s_iconst (v := 1) (q := 34) d_M_load_33 rfl ki_1 ?_
  refine s_bipush (v := 12) (q := 36) d_M_load_34 rfl kb_12 ?_
  refine g_callS (q := 39) d_M_load_36 rfl ml_M_74 mx_M_in ms_M_in t_M_in rfl rfl (Nat.le_of_ble_eq_true rfl) (by decide) ?_
  refine s_if_ne (tgt := 45) (q := 42) d_M_load_39 (by decide) rfl (fun _ => ?_) (fun z9 => absurd z9 (bI_dn.mpr ⟨nI_le (a := 1) (b := m) hm1 (by omega), nI_le (a := m) (b := 12) hm (by decide)⟩))
  refine s_aload_n (q := 46) d_M_load_45 rfl rfl (Or.inr ⟨_, rfl⟩) ?_
  refine g_getr (q := 49) d_M_load_46 rfl fl_M_44 skM rfl ?_
  refine s_iload_n (q := 50) d_M_load_49 rfl rfl ?_
  refine g_zald (q := 51) d_M_load_50 rfl sm_11 (by omega) rfl ht ?_
  refine s_if_eq (tgt := 57) (q := 54) d_M_load_51 (by decide) rfl (fun z9 => absurd z9 hs) (fun _ => ?_)
  refine s_bipush (v := (-3)) (q := 56) d_M_load_54 rfl kb_m3 ?_
  exact g_iret d_M_load_56 rfl rfl rfl rfl
theorem t_M_load_F {X : RAM} {t j k g v m n : Nat} (ht : t < 2) (hj : j < 8) (hk : k < 4) (hg : g < 4) (hv : v < 4) (hm1 : 1 ≤ m) (hm : m ≤ 12) (hs : X 134 t = 0) (hz : X 123 (8 * t + j) = nI n) (hn : n ≤ 12) (hf : 12 < n + m) : CG l D ac b y_M_load c_M_load 9 (some .int) 3 63 [.ref 122, .int (nI t), .int (nI j), .int (nI k), .int (nI g), .int (nI v), .int (nI m)] X (some (.int (-4))) (X) := by
  refine Ct_of false (by decide) (fun h => by cases h) (Nat.le_of_ble_eq_true rfl) ?_
  show V l D ac b "SpanStoreModel" c_M_load 9 (some .int) false 3 63 0 0 ((some (.int (-4))), 144, mk (X)) 0 0 0 [(0, .ref 122), (1, .int (nI t)), (2, .int (nI j)), (3, .int (nI k)), (4, .int (nI g)), (5, .int (nI v)), (6, .int (nI m))] [] 144 (mk X)
  refine s_iload_n (q := 1) d_M_load_0 rfl rfl ?_
  refine s_iload_n (q := 2) d_M_load_1 rfl rfl ?_
  refine g_callS (q := 5) d_M_load_2 rfl ml_M_82 mx_M_isBlock ms_M_isBlock t_M_isBlock rfl rfl (Nat.le_of_ble_eq_true rfl) (by decide) ?_
  refine s_if_eq (tgt := 42) (q := 8) d_M_load_5 (by decide) rfl (fun z9 => absurd z9 (bI_dn.mpr ⟨inT ht, inB hj⟩)) (fun _ => ?_)
  refine s_iload_n (q := 9) d_M_load_8 rfl rfl ?_
  refine g_callS (q := 12) d_M_load_9 rfl ml_M_93 mx_M_isSheet ms_M_isSheet t_M_isSheet rfl rfl (Nat.le_of_ble_eq_true rfl) (by decide) ?_
  refine s_if_eq (tgt := 42) (q := 15) d_M_load_12 (by decide) rfl (fun z9 => absurd z9 (bI_dn.mpr (inS hk))) (fun _ => ?_)
  refine s_iload (q := 17) d_M_load_15 rfl rfl ?_
  refine g_callS (q := 20) d_M_load_17 rfl ml_M_93 mx_M_isSheet ms_M_isSheet t_M_isSheet rfl rfl (Nat.le_of_ble_eq_true rfl) (by decide) ?_
  refine s_if_eq (tgt := 42) (q := 23) d_M_load_20 (by decide) rfl (fun z9 => absurd z9 (bI_dn.mpr (inS hg))) (fun _ => ?_)
  refine s_iload (q := 25) d_M_load_23 rfl rfl ?_
  refine g_callS (q := 28) d_M_load_25 rfl ml_M_93 mx_M_isSheet ms_M_isSheet t_M_isSheet rfl rfl (Nat.le_of_ble_eq_true rfl) (by decide) ?_
  refine s_if_eq (tgt := 42) (q := 31) d_M_load_28 (by decide) rfl (fun z9 => absurd z9 (bI_dn.mpr (inS hv))) (fun _ => ?_)
  refine s_iload (q := 33) d_M_load_31 rfl rfl ?_
  refine s_iconst (v := 1) (q := 34) d_M_load_33 rfl ki_1 ?_
  refine s_bipush (v := 12) (q := 36) d_M_load_34 rfl kb_12 ?_
  refine g_callS (q := 39) d_M_load_36 rfl ml_M_74 mx_M_in ms_M_in t_M_in rfl rfl (Nat.le_of_ble_eq_true rfl) (by decide) ?_
  refine s_if_ne (tgt := 45) (q := 42) d_M_load_39 (by decide) rfl (fun _ => ?_) (fun z9 => absurd z9 (bI_dn.mpr ⟨nI_le (a := 1) (b := m) hm1 (by omega), nI_le (a := m) (b := 12) hm (by decide)⟩))
  refine s_aload_n (q := 46) d_M_load_45 rfl rfl (Or.inr ⟨_, rfl⟩) ?_
  refine g_getr (q := 49) d_M_load_46 rfl fl_M_44 skM rfl ?_
  refine s_iload_n (q := 50) d_M_load_49 rfl rfl ?_
  refine g_zald (q := 51) d_M_load_50 rfl sm_11 (by omega) rfl ht ?_
  refine s_if_eq (tgt := 57) (q := 54) d_M_load_51 (by decide) rfl (fun _ => ?_) (fun z9 => absurd hs z9)
  refine s_bipush (v := 8) (q := 59) d_M_load_57 rfl kb_8 ?_
  refine s_iload_n (q := 60) d_M_load_59 rfl rfl ?_
  refine s_imul (q := 61) d_M_load_60 rfl ?_
  refine s_iload_n (q := 62) d_M_load_61 rfl rfl ?_
  refine s_iadd (q := 63) d_M_load_62 rfl ?_
  rw [ix8m]
  refine s_istore (q := 65) d_M_load_63 rfl (by decide) ?_
  refine s_aload_n (q := 66) d_M_load_65 rfl rfl (Or.inr ⟨_, rfl⟩) ?_
  refine g_getr (q := 69) d_M_load_66 rfl fl_M_7 skM rfl ?_
  refine s_iload (q := 71) d_M_load_69 rfl rfl ?_
  refine g_ialv (v := nI n) (q := 72) d_M_load_71 rfl sm_0 (by omega) rfl (by omega) hz ?_
  refine s_iload (q := 74) d_M_load_72 rfl rfl ?_
  refine s_iadd (q := 75) d_M_load_74 rfl ?_
  rw [nI_add]
  refine s_bipush (v := 12) (q := 77) d_M_load_75 rfl kb_12 ?_
  refine s_icmp_le (tgt := 83) (q := 80) d_M_load_77 (by decide) rfl (fun z9 => absurd z9 (nI_ge (a := 12) (b := n + m) hf (by omega))) (fun _ => ?_)
  refine s_bipush (v := (-4)) (q := 82) d_M_load_80 rfl kb_m4 ?_
  exact g_iret d_M_load_82 rfl rfl rfl rfl
theorem t_M_load_L {X : RAM} {t j k g v m n : Nat} (ht : t < 2) (hj : j < 8) (hk : k < 4) (hg : g < 4) (hv : v < 4) (hm1 : 1 ≤ m) (hm : m ≤ 12) (hs : X 134 t = 0) (hz : X 123 (8 * t + j) = nI n) (hf : n + m ≤ 12) (hl : ¬ (¬ X 139 k = 0 ∧ ¬ X 139 g = 0 ∧ ¬ X 139 v = 0)) : CG l D ac b y_M_load c_M_load 9 (some .int) 3 63 [.ref 122, .int (nI t), .int (nI j), .int (nI k), .int (nI g), .int (nI v), .int (nI m)] X (some (.int (-11))) (up2 X 122 22 1) := by
  refine Ct_of false (by decide) (fun h => by cases h) (Nat.le_of_ble_eq_true rfl) ?_
  show V l D ac b "SpanStoreModel" c_M_load 9 (some .int) false 3 63 0 0 ((some (.int (-11))), 144, mk (up2 X 122 22 1)) 0 0 0 [(0, .ref 122), (1, .int (nI t)), (2, .int (nI j)), (3, .int (nI k)), (4, .int (nI g)), (5, .int (nI v)), (6, .int (nI m))] [] 144 (mk X)
  refine s_iload_n (q := 1) d_M_load_0 rfl rfl ?_
  refine s_iload_n (q := 2) d_M_load_1 rfl rfl ?_
  refine g_callS (q := 5) d_M_load_2 rfl ml_M_82 mx_M_isBlock ms_M_isBlock t_M_isBlock rfl rfl (Nat.le_of_ble_eq_true rfl) (by decide) ?_
  refine s_if_eq (tgt := 42) (q := 8) d_M_load_5 (by decide) rfl (fun z9 => absurd z9 (bI_dn.mpr ⟨inT ht, inB hj⟩)) (fun _ => ?_)
  refine s_iload_n (q := 9) d_M_load_8 rfl rfl ?_
  refine g_callS (q := 12) d_M_load_9 rfl ml_M_93 mx_M_isSheet ms_M_isSheet t_M_isSheet rfl rfl (Nat.le_of_ble_eq_true rfl) (by decide) ?_
  refine s_if_eq (tgt := 42) (q := 15) d_M_load_12 (by decide) rfl (fun z9 => absurd z9 (bI_dn.mpr (inS hk))) (fun _ => ?_)
  refine s_iload (q := 17) d_M_load_15 rfl rfl ?_
  refine g_callS (q := 20) d_M_load_17 rfl ml_M_93 mx_M_isSheet ms_M_isSheet t_M_isSheet rfl rfl (Nat.le_of_ble_eq_true rfl) (by decide) ?_
  refine s_if_eq (tgt := 42) (q := 23) d_M_load_20 (by decide) rfl (fun z9 => absurd z9 (bI_dn.mpr (inS hg))) (fun _ => ?_)
  refine s_iload (q := 25) d_M_load_23 rfl rfl ?_
  refine g_callS (q := 28) d_M_load_25 rfl ml_M_93 mx_M_isSheet ms_M_isSheet t_M_isSheet rfl rfl (Nat.le_of_ble_eq_true rfl) (by decide) ?_
  refine s_if_eq (tgt := 42) (q := 31) d_M_load_28 (by decide) rfl (fun z9 => absurd z9 (bI_dn.mpr (inS hv))) (fun _ => ?_)
  refine s_iload (q := 33) d_M_load_31 rfl rfl ?_
  refine s_iconst (v := 1) (q := 34) d_M_load_33 rfl ki_1 ?_
  refine s_bipush (v := 12) (q := 36) d_M_load_34 rfl kb_12 ?_
  refine g_callS (q := 39) d_M_load_36 rfl ml_M_74 mx_M_in ms_M_in t_M_in rfl rfl (Nat.le_of_ble_eq_true rfl) (by decide) ?_
  refine s_if_ne (tgt := 45) (q := 42) d_M_load_39 (by decide) rfl (fun _ => ?_) (fun z9 => absurd z9 (bI_dn.mpr ⟨nI_le (a := 1) (b := m) hm1 (by omega), nI_le (a := m) (b := 12) hm (by decide)⟩))
  refine s_aload_n (q := 46) d_M_load_45 rfl rfl (Or.inr ⟨_, rfl⟩) ?_
  refine g_getr (q := 49) d_M_load_46 rfl fl_M_44 skM rfl ?_
  refine s_iload_n (q := 50) d_M_load_49 rfl rfl ?_
  refine g_zald (q := 51) d_M_load_50 rfl sm_11 (by omega) rfl ht ?_
  refine s_if_eq (tgt := 57) (q := 54) d_M_load_51 (by decide) rfl (fun _ => ?_) (fun z9 => absurd hs z9)
  refine s_bipush (v := 8) (q := 59) d_M_load_57 rfl kb_8 ?_
  refine s_iload_n (q := 60) d_M_load_59 rfl rfl ?_
  refine s_imul (q := 61) d_M_load_60 rfl ?_
  refine s_iload_n (q := 62) d_M_load_61 rfl rfl ?_
  refine s_iadd (q := 63) d_M_load_62 rfl ?_
  rw [ix8m]
  refine s_istore (q := 65) d_M_load_63 rfl (by decide) ?_
  refine s_aload_n (q := 66) d_M_load_65 rfl rfl (Or.inr ⟨_, rfl⟩) ?_
  refine g_getr (q := 69) d_M_load_66 rfl fl_M_7 skM rfl ?_
  refine s_iload (q := 71) d_M_load_69 rfl rfl ?_
  refine g_ialv (v := nI n) (q := 72) d_M_load_71 rfl sm_0 (by omega) rfl (by omega) hz ?_
  refine s_iload (q := 74) d_M_load_72 rfl rfl ?_
  refine s_iadd (q := 75) d_M_load_74 rfl ?_
  rw [nI_add]
  refine s_bipush (v := 12) (q := 77) d_M_load_75 rfl kb_12 ?_
  refine s_icmp_le (tgt := 83) (q := 80) d_M_load_77 (by decide) rfl (fun _ => ?_) (fun z9 => absurd (nI_le (a := n + m) (b := 12) hf (by decide)) z9)
  refine s_aload_n (q := 84) d_M_load_83 rfl rfl (Or.inr ⟨_, rfl⟩) ?_
  refine g_getr (q := 87) d_M_load_84 rfl fl_M_59 skM rfl ?_
  refine s_iload_n (q := 88) d_M_load_87 rfl rfl ?_
  refine g_zald (q := 89) d_M_load_88 rfl sm_16 (by omega) rfl hk ?_
  refine s_if_eq (tgt := 112) (q := 92) d_M_load_89 (by decide) rfl (fun h_89 => ?_) (fun h_89 => ?_)
  · -- T 89
    refine s_aload_n (q := 113) d_M_load_112 rfl rfl (Or.inr ⟨_, rfl⟩) ?_
    refine s_iconst (v := 1) (q := 114) d_M_load_113 rfl ki_1 ?_
    refine g_callV (q := 117) d_M_load_114 rfl ml_M_96 mx_M_meets mv_M_meets t_M_meets skM rfl rfl (Nat.le_of_ble_eq_true rfl) (by decide) ?_
    exact g_iret d_M_load_117 rfl rfl (by decide) rfl
  · -- F 89
    refine s_aload_n (q := 93) d_M_load_92 rfl rfl (Or.inr ⟨_, rfl⟩) ?_
    refine g_getr (q := 96) d_M_load_93 rfl fl_M_59 skM rfl ?_
    refine s_iload (q := 98) d_M_load_96 rfl rfl ?_
    refine g_zald (q := 99) d_M_load_98 rfl sm_16 (by omega) rfl hg ?_
    refine s_if_eq (tgt := 112) (q := 102) d_M_load_99 (by decide) rfl (fun h_99 => ?_) (fun h_99 => ?_)
    · -- T 99
      refine s_aload_n (q := 113) d_M_load_112 rfl rfl (Or.inr ⟨_, rfl⟩) ?_
      refine s_iconst (v := 1) (q := 114) d_M_load_113 rfl ki_1 ?_
      refine g_callV (q := 117) d_M_load_114 rfl ml_M_96 mx_M_meets mv_M_meets t_M_meets skM rfl rfl (Nat.le_of_ble_eq_true rfl) (by decide) ?_
      exact g_iret d_M_load_117 rfl rfl (by decide) rfl
    · -- F 99
      refine s_aload_n (q := 103) d_M_load_102 rfl rfl (Or.inr ⟨_, rfl⟩) ?_
      refine g_getr (q := 106) d_M_load_103 rfl fl_M_59 skM rfl ?_
      refine s_iload (q := 108) d_M_load_106 rfl rfl ?_
      refine g_zald (q := 109) d_M_load_108 rfl sm_16 (by omega) rfl hv ?_
      refine s_if_ne (tgt := 118) (q := 112) d_M_load_109 (by decide) rfl (fun h_109 => ?_) (fun h_109 => ?_)
      · -- T 109
        exact absurd ⟨h_89, h_99, h_109⟩ hl --done
      · -- F 109
        refine s_aload_n (q := 113) d_M_load_112 rfl rfl (Or.inr ⟨_, rfl⟩) ?_
        refine s_iconst (v := 1) (q := 114) d_M_load_113 rfl ki_1 ?_
        refine g_callV (q := 117) d_M_load_114 rfl ml_M_96 mx_M_meets mv_M_meets t_M_meets skM rfl rfl (Nat.le_of_ble_eq_true rfl) (by decide) ?_
        exact g_iret d_M_load_117 rfl rfl (by decide) rfl
theorem t_M_load_I {X : RAM} {t j k g v m n n1 n2 n3 : Nat} (ht : t < 2) (hj : j < 8) (hk : k < 4) (hg : g < 4) (hv : v < 4) (hm1 : 1 ≤ m) (hm : m ≤ 12) (hs : X 134 t = 0) (hz : X 123 (8 * t + j) = nI n) (hf : n + m ≤ 12) (l1 : ¬ X 139 k = 0) (l2 : ¬ X 139 g = 0) (l3 : ¬ X 139 v = 0) (z1 : X 141 k = nI n1) (z2 : X 141 g = nI n2) (z3 : X 141 v = nI n3) (m1 : n1 ≤ 40) (m2 : n2 ≤ 40) (m3 : n3 ≤ 40) (hi : n1 < m ∨ n2 < m ∨ n3 < m) : CG l D ac b y_M_load c_M_load 9 (some .int) 3 63 [.ref 122, .int (nI t), .int (nI j), .int (nI k), .int (nI g), .int (nI v), .int (nI m)] X (some (.int (-12))) (up2 X 122 22 2) := by
  refine Ct_of false (by decide) (fun h => by cases h) (Nat.le_of_ble_eq_true rfl) ?_
  show V l D ac b "SpanStoreModel" c_M_load 9 (some .int) false 3 63 0 0 ((some (.int (-12))), 144, mk (up2 X 122 22 2)) 0 0 0 [(0, .ref 122), (1, .int (nI t)), (2, .int (nI j)), (3, .int (nI k)), (4, .int (nI g)), (5, .int (nI v)), (6, .int (nI m))] [] 144 (mk X)
  refine s_iload_n (q := 1) d_M_load_0 rfl rfl ?_
  refine s_iload_n (q := 2) d_M_load_1 rfl rfl ?_
  refine g_callS (q := 5) d_M_load_2 rfl ml_M_82 mx_M_isBlock ms_M_isBlock t_M_isBlock rfl rfl (Nat.le_of_ble_eq_true rfl) (by decide) ?_
  refine s_if_eq (tgt := 42) (q := 8) d_M_load_5 (by decide) rfl (fun z9 => absurd z9 (bI_dn.mpr ⟨inT ht, inB hj⟩)) (fun _ => ?_)
  refine s_iload_n (q := 9) d_M_load_8 rfl rfl ?_
  refine g_callS (q := 12) d_M_load_9 rfl ml_M_93 mx_M_isSheet ms_M_isSheet t_M_isSheet rfl rfl (Nat.le_of_ble_eq_true rfl) (by decide) ?_
  refine s_if_eq (tgt := 42) (q := 15) d_M_load_12 (by decide) rfl (fun z9 => absurd z9 (bI_dn.mpr (inS hk))) (fun _ => ?_)
  refine s_iload (q := 17) d_M_load_15 rfl rfl ?_
  refine g_callS (q := 20) d_M_load_17 rfl ml_M_93 mx_M_isSheet ms_M_isSheet t_M_isSheet rfl rfl (Nat.le_of_ble_eq_true rfl) (by decide) ?_
  refine s_if_eq (tgt := 42) (q := 23) d_M_load_20 (by decide) rfl (fun z9 => absurd z9 (bI_dn.mpr (inS hg))) (fun _ => ?_)
  refine s_iload (q := 25) d_M_load_23 rfl rfl ?_
  refine g_callS (q := 28) d_M_load_25 rfl ml_M_93 mx_M_isSheet ms_M_isSheet t_M_isSheet rfl rfl (Nat.le_of_ble_eq_true rfl) (by decide) ?_
  refine s_if_eq (tgt := 42) (q := 31) d_M_load_28 (by decide) rfl (fun z9 => absurd z9 (bI_dn.mpr (inS hv))) (fun _ => ?_)
  refine s_iload (q := 33) d_M_load_31 rfl rfl ?_
  refine s_iconst (v := 1) (q := 34) d_M_load_33 rfl ki_1 ?_
  refine s_bipush (v := 12) (q := 36) d_M_load_34 rfl kb_12 ?_
  refine g_callS (q := 39) d_M_load_36 rfl ml_M_74 mx_M_in ms_M_in t_M_in rfl rfl (Nat.le_of_ble_eq_true rfl) (by decide) ?_
  refine s_if_ne (tgt := 45) (q := 42) d_M_load_39 (by decide) rfl (fun _ => ?_) (fun z9 => absurd z9 (bI_dn.mpr ⟨nI_le (a := 1) (b := m) hm1 (by omega), nI_le (a := m) (b := 12) hm (by decide)⟩))
  refine s_aload_n (q := 46) d_M_load_45 rfl rfl (Or.inr ⟨_, rfl⟩) ?_
  refine g_getr (q := 49) d_M_load_46 rfl fl_M_44 skM rfl ?_
  refine s_iload_n (q := 50) d_M_load_49 rfl rfl ?_
  refine g_zald (q := 51) d_M_load_50 rfl sm_11 (by omega) rfl ht ?_
  refine s_if_eq (tgt := 57) (q := 54) d_M_load_51 (by decide) rfl (fun _ => ?_) (fun z9 => absurd hs z9)
  refine s_bipush (v := 8) (q := 59) d_M_load_57 rfl kb_8 ?_
  refine s_iload_n (q := 60) d_M_load_59 rfl rfl ?_
  refine s_imul (q := 61) d_M_load_60 rfl ?_
  refine s_iload_n (q := 62) d_M_load_61 rfl rfl ?_
  refine s_iadd (q := 63) d_M_load_62 rfl ?_
  rw [ix8m]
  refine s_istore (q := 65) d_M_load_63 rfl (by decide) ?_
  refine s_aload_n (q := 66) d_M_load_65 rfl rfl (Or.inr ⟨_, rfl⟩) ?_
  refine g_getr (q := 69) d_M_load_66 rfl fl_M_7 skM rfl ?_
  refine s_iload (q := 71) d_M_load_69 rfl rfl ?_
  refine g_ialv (v := nI n) (q := 72) d_M_load_71 rfl sm_0 (by omega) rfl (by omega) hz ?_
  refine s_iload (q := 74) d_M_load_72 rfl rfl ?_
  refine s_iadd (q := 75) d_M_load_74 rfl ?_
  rw [nI_add]
  refine s_bipush (v := 12) (q := 77) d_M_load_75 rfl kb_12 ?_
  refine s_icmp_le (tgt := 83) (q := 80) d_M_load_77 (by decide) rfl (fun _ => ?_) (fun z9 => absurd (nI_le (a := n + m) (b := 12) hf (by decide)) z9)
  refine s_aload_n (q := 84) d_M_load_83 rfl rfl (Or.inr ⟨_, rfl⟩) ?_
  refine g_getr (q := 87) d_M_load_84 rfl fl_M_59 skM rfl ?_
  refine s_iload_n (q := 88) d_M_load_87 rfl rfl ?_
  refine g_zald (q := 89) d_M_load_88 rfl sm_16 (by omega) rfl hk ?_
  refine s_if_eq (tgt := 112) (q := 92) d_M_load_89 (by decide) rfl (fun z9 => absurd z9 l1) (fun _ => ?_)
  refine s_aload_n (q := 93) d_M_load_92 rfl rfl (Or.inr ⟨_, rfl⟩) ?_
  refine g_getr (q := 96) d_M_load_93 rfl fl_M_59 skM rfl ?_
  refine s_iload (q := 98) d_M_load_96 rfl rfl ?_
  refine g_zald (q := 99) d_M_load_98 rfl sm_16 (by omega) rfl hg ?_
  refine s_if_eq (tgt := 112) (q := 102) d_M_load_99 (by decide) rfl (fun z9 => absurd z9 l2) (fun _ => ?_)
  refine s_aload_n (q := 103) d_M_load_102 rfl rfl (Or.inr ⟨_, rfl⟩) ?_
  refine g_getr (q := 106) d_M_load_103 rfl fl_M_59 skM rfl ?_
  refine s_iload (q := 108) d_M_load_106 rfl rfl ?_
  refine g_zald (q := 109) d_M_load_108 rfl sm_16 (by omega) rfl hv ?_
  refine s_if_ne (tgt := 118) (q := 112) d_M_load_109 (by decide) rfl (fun _ => ?_) (fun z9 => absurd z9 l3)
  refine s_aload_n (q := 119) d_M_load_118 rfl rfl (Or.inr ⟨_, rfl⟩) ?_
  refine g_getr (q := 122) d_M_load_119 rfl fl_M_65 skM rfl ?_
  refine s_iload_n (q := 123) d_M_load_122 rfl rfl ?_
  refine g_ialv (v := nI n1) (q := 124) d_M_load_123 rfl sm_18 (by omega) rfl hk z1 ?_
  refine s_iload (q := 126) d_M_load_124 rfl rfl ?_
  refine s_icmp_lt (tgt := 153) (q := 129) d_M_load_126 (by decide) rfl (fun h_126 => ?_) (fun h_126 => ?_)
  · -- T 126
    refine s_aload_n (q := 154) d_M_load_153 rfl rfl (Or.inr ⟨_, rfl⟩) ?_
    refine s_iconst (v := 2) (q := 155) d_M_load_154 rfl ki_2 ?_
    refine g_callV (q := 158) d_M_load_155 rfl ml_M_96 mx_M_meets mv_M_meets t_M_meets skM rfl rfl (Nat.le_of_ble_eq_true rfl) (by decide) ?_
    exact g_iret d_M_load_158 rfl rfl (by decide) rfl
  · -- F 126
    refine s_aload_n (q := 130) d_M_load_129 rfl rfl (Or.inr ⟨_, rfl⟩) ?_
    refine g_getr (q := 133) d_M_load_130 rfl fl_M_65 skM rfl ?_
    refine s_iload (q := 135) d_M_load_133 rfl rfl ?_
    refine g_ialv (v := nI n2) (q := 136) d_M_load_135 rfl sm_18 (by omega) rfl hg z2 ?_
    refine s_iload (q := 138) d_M_load_136 rfl rfl ?_
    refine s_icmp_lt (tgt := 153) (q := 141) d_M_load_138 (by decide) rfl (fun h_138 => ?_) (fun h_138 => ?_)
    · -- T 138
      refine s_aload_n (q := 154) d_M_load_153 rfl rfl (Or.inr ⟨_, rfl⟩) ?_
      refine s_iconst (v := 2) (q := 155) d_M_load_154 rfl ki_2 ?_
      refine g_callV (q := 158) d_M_load_155 rfl ml_M_96 mx_M_meets mv_M_meets t_M_meets skM rfl rfl (Nat.le_of_ble_eq_true rfl) (by decide) ?_
      exact g_iret d_M_load_158 rfl rfl (by decide) rfl
    · -- F 138
      refine s_aload_n (q := 142) d_M_load_141 rfl rfl (Or.inr ⟨_, rfl⟩) ?_
      refine g_getr (q := 145) d_M_load_142 rfl fl_M_65 skM rfl ?_
      refine s_iload (q := 147) d_M_load_145 rfl rfl ?_
      refine g_ialv (v := nI n3) (q := 148) d_M_load_147 rfl sm_18 (by omega) rfl hv z3 ?_
      refine s_iload (q := 150) d_M_load_148 rfl rfl ?_
      refine s_icmp_ge (tgt := 159) (q := 153) d_M_load_150 (by decide) rfl (fun h_150 => ?_) (fun h_150 => ?_)
      · -- T 150
        rcases hi with q | q | q
        · exact absurd (nI_lt q (by omega)) h_126
        · exact absurd (nI_lt q (by omega)) h_138
        · exact absurd h_150 (nI_ge q (by omega)) --done
      · -- F 150
        refine s_aload_n (q := 154) d_M_load_153 rfl rfl (Or.inr ⟨_, rfl⟩) ?_
        refine s_iconst (v := 2) (q := 155) d_M_load_154 rfl ki_2 ?_
        refine g_callV (q := 158) d_M_load_155 rfl ml_M_96 mx_M_meets mv_M_meets t_M_meets skM rfl rfl (Nat.le_of_ble_eq_true rfl) (by decide) ?_
        exact g_iret d_M_load_158 rfl rfl (by decide) rfl
abbrev itM (X : RAM) (k g v i : Nat) : Prop := RowOK (X 142 (40 * k + i)) (X 142 (40 * g + i)) (X 142 (40 * v + i))
theorem lp_Mload1 {X : RAM} {t j k g v m : Nat} {r : Option Value} {XR : RAM} (ht : t < 2) (hj : j < 8) (hk : k < 4) (hg : g < 4) (hv : v < 4) (hm1 : 1 ≤ m) (hm : m ≤ 12) (hall : ∀ i, i < m → itM X k g v i) (hex : V l D ac b "SpanStoreModel" c_M_load 9 (some .int) false 3 63 0 0 (r, 144, mk XR) 0 0 222 [(0, .ref 122), (3, .int (nI k)), (4, .int (nI g)), (5, .int (nI v)), (6, .int (nI m)), (7, .int (nI (8 * t + j)))] [] 144 (mk X)) : ∀ i, i ≤ m → V l D ac b "SpanStoreModel" c_M_load 9 (some .int) false 3 63 0 0 (r, 144, mk XR) 0 0 162 [(0, .ref 122), (3, .int (nI k)), (4, .int (nI g)), (5, .int (nI v)), (6, .int (nI m)), (7, .int (nI (8 * t + j))), (8, .int (nI i))] [] 144 (mk X) := by
  refine nat_down ?_ (fun i hi ih => ?_)
  · skip
    refine s_iload (q := 164) d_M_load_162 rfl rfl ?_
    refine s_iload (q := 166) d_M_load_164 rfl rfl ?_
    refine s_icmp_ge (tgt := 222) (q := 169) d_M_load_166 (by decide) rfl (fun _ => ?_) (fun z9 => absurd (nI_le (Nat.le_refl m) (by omega)) z9)
    exact s_lv (lv' := [(0, .ref 122), (3, .int (nI k)), (4, .int (nI g)), (5, .int (nI v)), (6, .int (nI m)), (7, .int (nI (8 * t + j)))]) ⟨rfl, rfl, rfl, rfl, rfl, rfl, trivial⟩ hex
  · skip
    refine s_iload (q := 164) d_M_load_162 rfl rfl ?_
    refine s_iload (q := 166) d_M_load_164 rfl rfl ?_
    refine s_icmp_ge (tgt := 222) (q := 169) d_M_load_166 (by decide) rfl (fun z9 => absurd z9 (nI_ge hi (by omega))) (fun _ => ?_)
    refine s_aload_n (q := 170) d_M_load_169 rfl rfl (Or.inr ⟨_, rfl⟩) ?_
    refine g_getr (q := 173) d_M_load_170 rfl fl_M_68 skM rfl ?_
    refine s_bipush (v := 40) (q := 175) d_M_load_173 rfl kb_40 ?_
    refine s_iload_n (q := 176) d_M_load_175 rfl rfl ?_
    refine s_imul (q := 177) d_M_load_176 rfl ?_
    refine s_iload (q := 179) d_M_load_177 rfl rfl ?_
    refine s_iadd (q := 180) d_M_load_179 rfl ?_
    refine g_iald (q := 181) d_M_load_180 rfl sm_19 (by omega) (ix40 _ _) (by omega) ?_
    refine s_aload_n (q := 182) d_M_load_181 rfl rfl (Or.inr ⟨_, rfl⟩) ?_
    refine g_getr (q := 185) d_M_load_182 rfl fl_M_68 skM rfl ?_
    refine s_bipush (v := 40) (q := 187) d_M_load_185 rfl kb_40 ?_
    refine s_iload (q := 189) d_M_load_187 rfl rfl ?_
    refine s_imul (q := 190) d_M_load_189 rfl ?_
    refine s_iload (q := 192) d_M_load_190 rfl rfl ?_
    refine s_iadd (q := 193) d_M_load_192 rfl ?_
    refine g_iald (q := 194) d_M_load_193 rfl sm_19 (by omega) (ix40 _ _) (by omega) ?_
    refine s_aload_n (q := 195) d_M_load_194 rfl rfl (Or.inr ⟨_, rfl⟩) ?_
    refine g_getr (q := 198) d_M_load_195 rfl fl_M_68 skM rfl ?_
    refine s_bipush (v := 40) (q := 200) d_M_load_198 rfl kb_40 ?_
    refine s_iload (q := 202) d_M_load_200 rfl rfl ?_
    refine s_imul (q := 203) d_M_load_202 rfl ?_
    refine s_iload (q := 205) d_M_load_203 rfl rfl ?_
    refine s_iadd (q := 206) d_M_load_205 rfl ?_
    refine g_iald (q := 207) d_M_load_206 rfl sm_19 (by omega) (ix40 _ _) (by omega) ?_
    refine g_callS (q := 210) d_M_load_207 rfl ml_M_86 mx_M_isRow ms_M_isRow t_M_isRow rfl rfl (Nat.le_of_ble_eq_true rfl) (by decide) ?_
    refine s_if_ne (tgt := 216) (q := 213) d_M_load_210 (by decide) rfl (fun _ => ?_) (fun z9 => absurd z9 (bI_dn.mpr (hall i hi)))
    refine s_iinc (q := 219) d_M_load_216 rfl rfl (by first | exact inc1 _ | rfl) (by decide) ?_
    refine s_goto (tgt := 162) d_M_load_219 (by decide) ?_
    exact s_lv (lv' := [(0, .ref 122), (3, .int (nI k)), (4, .int (nI g)), (5, .int (nI v)), (6, .int (nI m)), (7, .int (nI (8 * t + j))), (8, .int (nI (i + 1)))]) ⟨rfl, rfl, rfl, rfl, rfl, rfl, rfl, trivial⟩ ih
theorem lp_Mload1b {X : RAM} {t j k g v m : Nat} (ht : t < 2) (hj : j < 8) (hk : k < 4) (hg : g < 4) (hv : v < 4) (hm1 : 1 ≤ m) (hm : m ≤ 12) (k0 : Nat) (hk0 : k0 < m) (hbad : ¬ itM X k g v k0) (hall : ∀ i, i < k0 → itM X k g v i) : ∀ i, i ≤ k0 → V l D ac b "SpanStoreModel" c_M_load 9 (some .int) false 3 63 0 0 (some (.int (-2)), 144, mk X) 0 0 162 [(0, .ref 122), (3, .int (nI k)), (4, .int (nI g)), (5, .int (nI v)), (6, .int (nI m)), (7, .int (nI (8 * t + j))), (8, .int (nI i))] [] 144 (mk X) := by
  refine nat_down ?_ (fun i hi ih => ?_)
  · skip
    refine s_iload (q := 164) d_M_load_162 rfl rfl ?_
    refine s_iload (q := 166) d_M_load_164 rfl rfl ?_
    refine s_icmp_ge (tgt := 222) (q := 169) d_M_load_166 (by decide) rfl (fun z9 => absurd z9 (nI_ge hk0 (by omega))) (fun _ => ?_)
    refine s_aload_n (q := 170) d_M_load_169 rfl rfl (Or.inr ⟨_, rfl⟩) ?_
    refine g_getr (q := 173) d_M_load_170 rfl fl_M_68 skM rfl ?_
    refine s_bipush (v := 40) (q := 175) d_M_load_173 rfl kb_40 ?_
    refine s_iload_n (q := 176) d_M_load_175 rfl rfl ?_
    refine s_imul (q := 177) d_M_load_176 rfl ?_
    refine s_iload (q := 179) d_M_load_177 rfl rfl ?_
    refine s_iadd (q := 180) d_M_load_179 rfl ?_
    refine g_iald (q := 181) d_M_load_180 rfl sm_19 (by omega) (ix40 _ _) (by omega) ?_
    refine s_aload_n (q := 182) d_M_load_181 rfl rfl (Or.inr ⟨_, rfl⟩) ?_
    refine g_getr (q := 185) d_M_load_182 rfl fl_M_68 skM rfl ?_
    refine s_bipush (v := 40) (q := 187) d_M_load_185 rfl kb_40 ?_
    refine s_iload (q := 189) d_M_load_187 rfl rfl ?_
    refine s_imul (q := 190) d_M_load_189 rfl ?_
    refine s_iload (q := 192) d_M_load_190 rfl rfl ?_
    refine s_iadd (q := 193) d_M_load_192 rfl ?_
    refine g_iald (q := 194) d_M_load_193 rfl sm_19 (by omega) (ix40 _ _) (by omega) ?_
    refine s_aload_n (q := 195) d_M_load_194 rfl rfl (Or.inr ⟨_, rfl⟩) ?_
    refine g_getr (q := 198) d_M_load_195 rfl fl_M_68 skM rfl ?_
    refine s_bipush (v := 40) (q := 200) d_M_load_198 rfl kb_40 ?_
    refine s_iload (q := 202) d_M_load_200 rfl rfl ?_
    refine s_imul (q := 203) d_M_load_202 rfl ?_
    refine s_iload (q := 205) d_M_load_203 rfl rfl ?_
    refine s_iadd (q := 206) d_M_load_205 rfl ?_
    refine g_iald (q := 207) d_M_load_206 rfl sm_19 (by omega) (ix40 _ _) (by omega) ?_
    refine g_callS (q := 210) d_M_load_207 rfl ml_M_86 mx_M_isRow ms_M_isRow t_M_isRow rfl rfl (Nat.le_of_ble_eq_true rfl) (by decide) ?_
    refine s_if_ne (tgt := 216) (q := 213) d_M_load_210 (by decide) rfl (fun z9 => absurd (bI_d.mpr hbad) z9) (fun _ => ?_)
    refine s_bipush (v := (-2)) (q := 215) d_M_load_213 rfl kb_m2 ?_
    exact g_iret d_M_load_215 rfl rfl rfl rfl
  · skip
    refine s_iload (q := 164) d_M_load_162 rfl rfl ?_
    refine s_iload (q := 166) d_M_load_164 rfl rfl ?_
    refine s_icmp_ge (tgt := 222) (q := 169) d_M_load_166 (by decide) rfl (fun z9 => absurd z9 (nI_ge (Nat.lt_trans hi hk0) (by omega))) (fun _ => ?_)
    refine s_aload_n (q := 170) d_M_load_169 rfl rfl (Or.inr ⟨_, rfl⟩) ?_
    refine g_getr (q := 173) d_M_load_170 rfl fl_M_68 skM rfl ?_
    refine s_bipush (v := 40) (q := 175) d_M_load_173 rfl kb_40 ?_
    refine s_iload_n (q := 176) d_M_load_175 rfl rfl ?_
    refine s_imul (q := 177) d_M_load_176 rfl ?_
    refine s_iload (q := 179) d_M_load_177 rfl rfl ?_
    refine s_iadd (q := 180) d_M_load_179 rfl ?_
    refine g_iald (q := 181) d_M_load_180 rfl sm_19 (by omega) (ix40 _ _) (by omega) ?_
    refine s_aload_n (q := 182) d_M_load_181 rfl rfl (Or.inr ⟨_, rfl⟩) ?_
    refine g_getr (q := 185) d_M_load_182 rfl fl_M_68 skM rfl ?_
    refine s_bipush (v := 40) (q := 187) d_M_load_185 rfl kb_40 ?_
    refine s_iload (q := 189) d_M_load_187 rfl rfl ?_
    refine s_imul (q := 190) d_M_load_189 rfl ?_
    refine s_iload (q := 192) d_M_load_190 rfl rfl ?_
    refine s_iadd (q := 193) d_M_load_192 rfl ?_
    refine g_iald (q := 194) d_M_load_193 rfl sm_19 (by omega) (ix40 _ _) (by omega) ?_
    refine s_aload_n (q := 195) d_M_load_194 rfl rfl (Or.inr ⟨_, rfl⟩) ?_
    refine g_getr (q := 198) d_M_load_195 rfl fl_M_68 skM rfl ?_
    refine s_bipush (v := 40) (q := 200) d_M_load_198 rfl kb_40 ?_
    refine s_iload (q := 202) d_M_load_200 rfl rfl ?_
    refine s_imul (q := 203) d_M_load_202 rfl ?_
    refine s_iload (q := 205) d_M_load_203 rfl rfl ?_
    refine s_iadd (q := 206) d_M_load_205 rfl ?_
    refine g_iald (q := 207) d_M_load_206 rfl sm_19 (by omega) (ix40 _ _) (by omega) ?_
    refine g_callS (q := 210) d_M_load_207 rfl ml_M_86 mx_M_isRow ms_M_isRow t_M_isRow rfl rfl (Nat.le_of_ble_eq_true rfl) (by decide) ?_
    refine s_if_ne (tgt := 216) (q := 213) d_M_load_210 (by decide) rfl (fun _ => ?_) (fun z9 => absurd z9 (bI_dn.mpr (hall i hi)))
    refine s_iinc (q := 219) d_M_load_216 rfl rfl (by first | exact inc1 _ | rfl) (by decide) ?_
    refine s_goto (tgt := 162) d_M_load_219 (by decide) ?_
    exact s_lv (lv' := [(0, .ref 122), (3, .int (nI k)), (4, .int (nI g)), (5, .int (nI v)), (6, .int (nI m)), (7, .int (nI (8 * t + j))), (8, .int (nI (i + 1)))]) ⟨rfl, rfl, rfl, rfl, rfl, rfl, rfl, trivial⟩ ih
theorem t_M_load_R {X : RAM} {t j k g v m n n1 n2 n3 : Nat} (ht : t < 2) (hj : j < 8) (hk : k < 4) (hg : g < 4) (hv : v < 4) (hm1 : 1 ≤ m) (hm : m ≤ 12) (hs : X 134 t = 0) (hz : X 123 (8 * t + j) = nI n) (hf : n + m ≤ 12) (l1 : ¬ X 139 k = 0) (l2 : ¬ X 139 g = 0) (l3 : ¬ X 139 v = 0) (z1 : X 141 k = nI n1) (z2 : X 141 g = nI n2) (z3 : X 141 v = nI n3) (m1 : n1 ≤ 40) (m2 : n2 ≤ 40) (m3 : n3 ≤ 40) (i1 : m ≤ n1) (i2 : m ≤ n2) (i3 : m ≤ n3) (k0 : Nat) (hk0 : k0 < m) (hbad : ¬ itM X k g v k0) (hall : ∀ i, i < k0 → itM X k g v i) : CG l D ac b y_M_load c_M_load 9 (some .int) 3 63 [.ref 122, .int (nI t), .int (nI j), .int (nI k), .int (nI g), .int (nI v), .int (nI m)] X (some (.int (-2))) (X) := by
  refine Ct_of false (by decide) (fun h => by cases h) (Nat.le_of_ble_eq_true rfl) ?_
  show V l D ac b "SpanStoreModel" c_M_load 9 (some .int) false 3 63 0 0 ((some (.int (-2))), 144, mk (X)) 0 0 0 [(0, .ref 122), (1, .int (nI t)), (2, .int (nI j)), (3, .int (nI k)), (4, .int (nI g)), (5, .int (nI v)), (6, .int (nI m))] [] 144 (mk X)
  refine s_iload_n (q := 1) d_M_load_0 rfl rfl ?_
  refine s_iload_n (q := 2) d_M_load_1 rfl rfl ?_
  refine g_callS (q := 5) d_M_load_2 rfl ml_M_82 mx_M_isBlock ms_M_isBlock t_M_isBlock rfl rfl (Nat.le_of_ble_eq_true rfl) (by decide) ?_
  refine s_if_eq (tgt := 42) (q := 8) d_M_load_5 (by decide) rfl (fun z9 => absurd z9 (bI_dn.mpr ⟨inT ht, inB hj⟩)) (fun _ => ?_)
  refine s_iload_n (q := 9) d_M_load_8 rfl rfl ?_
  refine g_callS (q := 12) d_M_load_9 rfl ml_M_93 mx_M_isSheet ms_M_isSheet t_M_isSheet rfl rfl (Nat.le_of_ble_eq_true rfl) (by decide) ?_
  refine s_if_eq (tgt := 42) (q := 15) d_M_load_12 (by decide) rfl (fun z9 => absurd z9 (bI_dn.mpr (inS hk))) (fun _ => ?_)
  refine s_iload (q := 17) d_M_load_15 rfl rfl ?_
  refine g_callS (q := 20) d_M_load_17 rfl ml_M_93 mx_M_isSheet ms_M_isSheet t_M_isSheet rfl rfl (Nat.le_of_ble_eq_true rfl) (by decide) ?_
  refine s_if_eq (tgt := 42) (q := 23) d_M_load_20 (by decide) rfl (fun z9 => absurd z9 (bI_dn.mpr (inS hg))) (fun _ => ?_)
  refine s_iload (q := 25) d_M_load_23 rfl rfl ?_
  refine g_callS (q := 28) d_M_load_25 rfl ml_M_93 mx_M_isSheet ms_M_isSheet t_M_isSheet rfl rfl (Nat.le_of_ble_eq_true rfl) (by decide) ?_
  refine s_if_eq (tgt := 42) (q := 31) d_M_load_28 (by decide) rfl (fun z9 => absurd z9 (bI_dn.mpr (inS hv))) (fun _ => ?_)
  refine s_iload (q := 33) d_M_load_31 rfl rfl ?_
  refine s_iconst (v := 1) (q := 34) d_M_load_33 rfl ki_1 ?_
  refine s_bipush (v := 12) (q := 36) d_M_load_34 rfl kb_12 ?_
  refine g_callS (q := 39) d_M_load_36 rfl ml_M_74 mx_M_in ms_M_in t_M_in rfl rfl (Nat.le_of_ble_eq_true rfl) (by decide) ?_
  refine s_if_ne (tgt := 45) (q := 42) d_M_load_39 (by decide) rfl (fun _ => ?_) (fun z9 => absurd z9 (bI_dn.mpr ⟨nI_le (a := 1) (b := m) hm1 (by omega), nI_le (a := m) (b := 12) hm (by decide)⟩))
  refine s_aload_n (q := 46) d_M_load_45 rfl rfl (Or.inr ⟨_, rfl⟩) ?_
  refine g_getr (q := 49) d_M_load_46 rfl fl_M_44 skM rfl ?_
  refine s_iload_n (q := 50) d_M_load_49 rfl rfl ?_
  refine g_zald (q := 51) d_M_load_50 rfl sm_11 (by omega) rfl ht ?_
  refine s_if_eq (tgt := 57) (q := 54) d_M_load_51 (by decide) rfl (fun _ => ?_) (fun z9 => absurd hs z9)
  refine s_bipush (v := 8) (q := 59) d_M_load_57 rfl kb_8 ?_
  refine s_iload_n (q := 60) d_M_load_59 rfl rfl ?_
  refine s_imul (q := 61) d_M_load_60 rfl ?_
  refine s_iload_n (q := 62) d_M_load_61 rfl rfl ?_
  refine s_iadd (q := 63) d_M_load_62 rfl ?_
  rw [ix8m]
  refine s_istore (q := 65) d_M_load_63 rfl (by decide) ?_
  refine s_aload_n (q := 66) d_M_load_65 rfl rfl (Or.inr ⟨_, rfl⟩) ?_
  refine g_getr (q := 69) d_M_load_66 rfl fl_M_7 skM rfl ?_
  refine s_iload (q := 71) d_M_load_69 rfl rfl ?_
  refine g_ialv (v := nI n) (q := 72) d_M_load_71 rfl sm_0 (by omega) rfl (by omega) hz ?_
  refine s_iload (q := 74) d_M_load_72 rfl rfl ?_
  refine s_iadd (q := 75) d_M_load_74 rfl ?_
  rw [nI_add]
  refine s_bipush (v := 12) (q := 77) d_M_load_75 rfl kb_12 ?_
  refine s_icmp_le (tgt := 83) (q := 80) d_M_load_77 (by decide) rfl (fun _ => ?_) (fun z9 => absurd (nI_le (a := n + m) (b := 12) hf (by decide)) z9)
  refine s_aload_n (q := 84) d_M_load_83 rfl rfl (Or.inr ⟨_, rfl⟩) ?_
  refine g_getr (q := 87) d_M_load_84 rfl fl_M_59 skM rfl ?_
  refine s_iload_n (q := 88) d_M_load_87 rfl rfl ?_
  refine g_zald (q := 89) d_M_load_88 rfl sm_16 (by omega) rfl hk ?_
  refine s_if_eq (tgt := 112) (q := 92) d_M_load_89 (by decide) rfl (fun z9 => absurd z9 l1) (fun _ => ?_)
  refine s_aload_n (q := 93) d_M_load_92 rfl rfl (Or.inr ⟨_, rfl⟩) ?_
  refine g_getr (q := 96) d_M_load_93 rfl fl_M_59 skM rfl ?_
  refine s_iload (q := 98) d_M_load_96 rfl rfl ?_
  refine g_zald (q := 99) d_M_load_98 rfl sm_16 (by omega) rfl hg ?_
  refine s_if_eq (tgt := 112) (q := 102) d_M_load_99 (by decide) rfl (fun z9 => absurd z9 l2) (fun _ => ?_)
  refine s_aload_n (q := 103) d_M_load_102 rfl rfl (Or.inr ⟨_, rfl⟩) ?_
  refine g_getr (q := 106) d_M_load_103 rfl fl_M_59 skM rfl ?_
  refine s_iload (q := 108) d_M_load_106 rfl rfl ?_
  refine g_zald (q := 109) d_M_load_108 rfl sm_16 (by omega) rfl hv ?_
  refine s_if_ne (tgt := 118) (q := 112) d_M_load_109 (by decide) rfl (fun _ => ?_) (fun z9 => absurd z9 l3)
  refine s_aload_n (q := 119) d_M_load_118 rfl rfl (Or.inr ⟨_, rfl⟩) ?_
  refine g_getr (q := 122) d_M_load_119 rfl fl_M_65 skM rfl ?_
  refine s_iload_n (q := 123) d_M_load_122 rfl rfl ?_
  refine g_ialv (v := nI n1) (q := 124) d_M_load_123 rfl sm_18 (by omega) rfl hk z1 ?_
  refine s_iload (q := 126) d_M_load_124 rfl rfl ?_
  refine s_icmp_lt (tgt := 153) (q := 129) d_M_load_126 (by decide) rfl (fun z9 => absurd z9 (nI_nlt i1 (by omega))) (fun _ => ?_)
  refine s_aload_n (q := 130) d_M_load_129 rfl rfl (Or.inr ⟨_, rfl⟩) ?_
  refine g_getr (q := 133) d_M_load_130 rfl fl_M_65 skM rfl ?_
  refine s_iload (q := 135) d_M_load_133 rfl rfl ?_
  refine g_ialv (v := nI n2) (q := 136) d_M_load_135 rfl sm_18 (by omega) rfl hg z2 ?_
  refine s_iload (q := 138) d_M_load_136 rfl rfl ?_
  refine s_icmp_lt (tgt := 153) (q := 141) d_M_load_138 (by decide) rfl (fun z9 => absurd z9 (nI_nlt i2 (by omega))) (fun _ => ?_)
  refine s_aload_n (q := 142) d_M_load_141 rfl rfl (Or.inr ⟨_, rfl⟩) ?_
  refine g_getr (q := 145) d_M_load_142 rfl fl_M_65 skM rfl ?_
  refine s_iload (q := 147) d_M_load_145 rfl rfl ?_
  refine g_ialv (v := nI n3) (q := 148) d_M_load_147 rfl sm_18 (by omega) rfl hv z3 ?_
  refine s_iload (q := 150) d_M_load_148 rfl rfl ?_
  refine s_icmp_ge (tgt := 159) (q := 153) d_M_load_150 (by decide) rfl (fun _ => ?_) (fun z9 => absurd (nI_le i3 (by omega)) z9)
  refine s_iconst (v := 0) (q := 160) d_M_load_159 rfl ki_0 ?_
  refine s_istore (q := 162) d_M_load_160 rfl (by decide) ?_
  exact s_lv (lv' := [(0, .ref 122), (3, .int (nI k)), (4, .int (nI g)), (5, .int (nI v)), (6, .int (nI m)), (7, .int (nI (8 * t + j))), (8, .int (nI 0))]) ⟨rfl, rfl, rfl, rfl, rfl, rfl, rfl, trivial⟩ (lp_Mload1b ht hj hk hg hv hm1 hm k0 hk0 hbad hall 0 (Nat.zero_le _))
def mdS (X : RAM) (B k g v n : Nat) : Nat → RAM
  | 0 => X
  | i + 1 => mlX (mdS X B k g v n i) B (n + i) (X 142 (40 * k + i)) (X 142 (40 * g + i)) (X 142 (40 * v + i))
theorem mlX_ne {X : RAM} {B n a : Nat} {k g v : Int32} (h : a < 123 ∨ 127 < a) : mlX X B n k g v a = X a := by
  unfold mlX
  rw [up2_ne (by omega), up2_ne (by omega), up2_ne (by omega), up2_ne (by omega), up2_ne (by omega)]
theorem mdS_ne {X : RAM} {B k g v n a : Nat} (h : a < 123 ∨ 127 < a) (i : Nat) : mdS X B k g v n i a = X a := by
  induction i with
  | zero => rfl
  | succ i ih => exact (mlX_ne h).trans ih
theorem mdS_z {X : RAM} {B k g v n : Nat} (hz : X 123 B = nI n) (i : Nat) : mdS X B k g v n i 123 B = nI (n + i) := by
  cases i with
  | zero => exact hz
  | succ i => simp [mdS, mlX, up2, upd, Nat.add_assoc]
theorem lp_Mload2 {X : RAM} {t j k g v m n : Nat} (ht : t < 2) (hj : j < 8) (hk : k < 4) (hg : g < 4) (hv : v < 4) (hm1 : 1 ≤ m) (hm : m ≤ 12) (hz : X 123 (8 * t + j) = nI n) (hf : n + m ≤ 12) : ∀ i, i ≤ m → V l D ac b "SpanStoreModel" c_M_load 9 (some .int) false 3 63 0 0 (some (.int (nI (n + m))), 144, mk (mdS X (8 * t + j) k g v n m)) 0 0 225 [(0, .ref 122), (3, .int (nI k)), (4, .int (nI g)), (5, .int (nI v)), (6, .int (nI m)), (7, .int (nI (8 * t + j))), (8, .int (nI i))] [] 144 (mk (mdS X (8 * t + j) k g v n i)) := by
  refine nat_down ?_ (fun i hi ih => ?_)
  · skip
    refine s_iload (q := 227) d_M_load_225 rfl rfl ?_
    refine s_iload (q := 229) d_M_load_227 rfl rfl ?_
    refine s_icmp_ge (tgt := 282) (q := 232) d_M_load_229 (by decide) rfl (fun _ => ?_) (fun z9 => absurd (nI_le (Nat.le_refl m) (by omega)) z9)
    refine s_aload_n (q := 283) d_M_load_282 rfl rfl (Or.inr ⟨_, rfl⟩) ?_
    refine g_getr (q := 286) d_M_load_283 rfl fl_M_7 skM rfl ?_
    refine s_iload (q := 288) d_M_load_286 rfl rfl ?_
    refine g_ialv (v := nI (n + m)) (q := 289) d_M_load_288 rfl sm_0 (by omega) rfl (by omega) (mdS_z hz m) ?_
    exact g_iret d_M_load_289 rfl rfl rfl rfl
  · skip
    refine s_iload (q := 227) d_M_load_225 rfl rfl ?_
    refine s_iload (q := 229) d_M_load_227 rfl rfl ?_
    refine s_icmp_ge (tgt := 282) (q := 232) d_M_load_229 (by decide) rfl (fun z9 => absurd z9 (nI_ge hi (by omega))) (fun _ => ?_)
    refine s_aload_n (q := 233) d_M_load_232 rfl rfl (Or.inr ⟨_, rfl⟩) ?_
    refine s_iload (q := 235) d_M_load_233 rfl rfl ?_
    refine s_aload_n (q := 236) d_M_load_235 rfl rfl (Or.inr ⟨_, rfl⟩) ?_
    refine g_getr (q := 239) d_M_load_236 rfl fl_M_68 skM rfl ?_
    refine s_bipush (v := 40) (q := 241) d_M_load_239 rfl kb_40 ?_
    refine s_iload_n (q := 242) d_M_load_241 rfl rfl ?_
    refine s_imul (q := 243) d_M_load_242 rfl ?_
    refine s_iload (q := 245) d_M_load_243 rfl rfl ?_
    refine s_iadd (q := 246) d_M_load_245 rfl ?_
    refine g_ialv (v := X 142 (40 * k + i)) (q := 247) d_M_load_246 rfl sm_19 (by omega) (ix40 _ _) (by omega) (by rw [mdS_ne (by decide)]) ?_
    refine s_aload_n (q := 248) d_M_load_247 rfl rfl (Or.inr ⟨_, rfl⟩) ?_
    refine g_getr (q := 251) d_M_load_248 rfl fl_M_68 skM rfl ?_
    refine s_bipush (v := 40) (q := 253) d_M_load_251 rfl kb_40 ?_
    refine s_iload (q := 255) d_M_load_253 rfl rfl ?_
    refine s_imul (q := 256) d_M_load_255 rfl ?_
    refine s_iload (q := 258) d_M_load_256 rfl rfl ?_
    refine s_iadd (q := 259) d_M_load_258 rfl ?_
    refine g_ialv (v := X 142 (40 * g + i)) (q := 260) d_M_load_259 rfl sm_19 (by omega) (ix40 _ _) (by omega) (by rw [mdS_ne (by decide)]) ?_
    refine s_aload_n (q := 261) d_M_load_260 rfl rfl (Or.inr ⟨_, rfl⟩) ?_
    refine g_getr (q := 264) d_M_load_261 rfl fl_M_68 skM rfl ?_
    refine s_bipush (v := 40) (q := 266) d_M_load_264 rfl kb_40 ?_
    refine s_iload (q := 268) d_M_load_266 rfl rfl ?_
    refine s_imul (q := 269) d_M_load_268 rfl ?_
    refine s_iload (q := 271) d_M_load_269 rfl rfl ?_
    refine s_iadd (q := 272) d_M_load_271 rfl ?_
    refine g_ialv (v := X 142 (40 * v + i)) (q := 273) d_M_load_272 rfl sm_19 (by omega) (ix40 _ _) (by omega) (by rw [mdS_ne (by decide)]) ?_
    refine g_callV (q := 276) d_M_load_273 rfl ml_M_89 mx_M_lays mv_M_lays (t_M_lays (by omega) (mdS_z hz i) (by omega)) skM rfl rfl (Nat.le_of_ble_eq_true rfl) (by decide) ?_
    refine s_iinc (q := 279) d_M_load_276 rfl rfl (by first | exact inc1 _ | rfl) (by decide) ?_
    refine s_goto (tgt := 225) d_M_load_279 (by decide) ?_
    exact s_lv (lv' := [(0, .ref 122), (3, .int (nI k)), (4, .int (nI g)), (5, .int (nI v)), (6, .int (nI m)), (7, .int (nI (8 * t + j))), (8, .int (nI (i + 1)))]) ⟨rfl, rfl, rfl, rfl, rfl, rfl, rfl, trivial⟩ ih
theorem lp_Mload3 {X : RAM} {t j k g v m n : Nat} (ht : t < 2) (hj : j < 8) (hk : k < 4) (hg : g < 4) (hv : v < 4) (hm1 : 1 ≤ m) (hm : m ≤ 12) (hz : X 123 (8 * t + j) = nI n) (hf : n + m ≤ 12) : V l D ac b "SpanStoreModel" c_M_load 9 (some .int) false 3 63 0 0 (some (.int (nI (n + m))), 144, mk (mdS X (8 * t + j) k g v n m)) 0 0 222 [(0, .ref 122), (3, .int (nI k)), (4, .int (nI g)), (5, .int (nI v)), (6, .int (nI m)), (7, .int (nI (8 * t + j)))] [] 144 (mk X) := by
  refine s_iconst (v := 0) (q := 223) d_M_load_222 rfl ki_0 ?_
  refine s_istore (q := 225) d_M_load_223 rfl (by decide) ?_
  exact s_lv (lv' := [(0, .ref 122), (3, .int (nI k)), (4, .int (nI g)), (5, .int (nI v)), (6, .int (nI m)), (7, .int (nI (8 * t + j))), (8, .int (nI 0))]) ⟨rfl, rfl, rfl, rfl, rfl, rfl, rfl, trivial⟩ (lp_Mload2 ht hj hk hg hv hm1 hm hz hf 0 (Nat.zero_le _))
theorem t_M_load_D {X : RAM} {t j k g v m n n1 n2 n3 : Nat} (ht : t < 2) (hj : j < 8) (hk : k < 4) (hg : g < 4) (hv : v < 4) (hm1 : 1 ≤ m) (hm : m ≤ 12) (hs : X 134 t = 0) (hz : X 123 (8 * t + j) = nI n) (hf : n + m ≤ 12) (l1 : ¬ X 139 k = 0) (l2 : ¬ X 139 g = 0) (l3 : ¬ X 139 v = 0) (z1 : X 141 k = nI n1) (z2 : X 141 g = nI n2) (z3 : X 141 v = nI n3) (m1 : n1 ≤ 40) (m2 : n2 ≤ 40) (m3 : n3 ≤ 40) (i1 : m ≤ n1) (i2 : m ≤ n2) (i3 : m ≤ n3) (hall : ∀ i, i < m → itM X k g v i) : CG l D ac b y_M_load c_M_load 9 (some .int) 3 63 [.ref 122, .int (nI t), .int (nI j), .int (nI k), .int (nI g), .int (nI v), .int (nI m)] X (some (.int (nI (n + m)))) (mdS X (8 * t + j) k g v n m) := by
  refine Ct_of false (by decide) (fun h => by cases h) (Nat.le_of_ble_eq_true rfl) ?_
  show V l D ac b "SpanStoreModel" c_M_load 9 (some .int) false 3 63 0 0 ((some (.int (nI (n + m)))), 144, mk (mdS X (8 * t + j) k g v n m)) 0 0 0 [(0, .ref 122), (1, .int (nI t)), (2, .int (nI j)), (3, .int (nI k)), (4, .int (nI g)), (5, .int (nI v)), (6, .int (nI m))] [] 144 (mk X)
  refine s_iload_n (q := 1) d_M_load_0 rfl rfl ?_
  refine s_iload_n (q := 2) d_M_load_1 rfl rfl ?_
  refine g_callS (q := 5) d_M_load_2 rfl ml_M_82 mx_M_isBlock ms_M_isBlock t_M_isBlock rfl rfl (Nat.le_of_ble_eq_true rfl) (by decide) ?_
  refine s_if_eq (tgt := 42) (q := 8) d_M_load_5 (by decide) rfl (fun z9 => absurd z9 (bI_dn.mpr ⟨inT ht, inB hj⟩)) (fun _ => ?_)
  refine s_iload_n (q := 9) d_M_load_8 rfl rfl ?_
  refine g_callS (q := 12) d_M_load_9 rfl ml_M_93 mx_M_isSheet ms_M_isSheet t_M_isSheet rfl rfl (Nat.le_of_ble_eq_true rfl) (by decide) ?_
  refine s_if_eq (tgt := 42) (q := 15) d_M_load_12 (by decide) rfl (fun z9 => absurd z9 (bI_dn.mpr (inS hk))) (fun _ => ?_)
  refine s_iload (q := 17) d_M_load_15 rfl rfl ?_
  refine g_callS (q := 20) d_M_load_17 rfl ml_M_93 mx_M_isSheet ms_M_isSheet t_M_isSheet rfl rfl (Nat.le_of_ble_eq_true rfl) (by decide) ?_
  refine s_if_eq (tgt := 42) (q := 23) d_M_load_20 (by decide) rfl (fun z9 => absurd z9 (bI_dn.mpr (inS hg))) (fun _ => ?_)
  refine s_iload (q := 25) d_M_load_23 rfl rfl ?_
  refine g_callS (q := 28) d_M_load_25 rfl ml_M_93 mx_M_isSheet ms_M_isSheet t_M_isSheet rfl rfl (Nat.le_of_ble_eq_true rfl) (by decide) ?_
  refine s_if_eq (tgt := 42) (q := 31) d_M_load_28 (by decide) rfl (fun z9 => absurd z9 (bI_dn.mpr (inS hv))) (fun _ => ?_)
  refine s_iload (q := 33) d_M_load_31 rfl rfl ?_
  refine s_iconst (v := 1) (q := 34) d_M_load_33 rfl ki_1 ?_
  refine s_bipush (v := 12) (q := 36) d_M_load_34 rfl kb_12 ?_
  refine g_callS (q := 39) d_M_load_36 rfl ml_M_74 mx_M_in ms_M_in t_M_in rfl rfl (Nat.le_of_ble_eq_true rfl) (by decide) ?_
  refine s_if_ne (tgt := 45) (q := 42) d_M_load_39 (by decide) rfl (fun _ => ?_) (fun z9 => absurd z9 (bI_dn.mpr ⟨nI_le (a := 1) (b := m) hm1 (by omega), nI_le (a := m) (b := 12) hm (by decide)⟩))
  refine s_aload_n (q := 46) d_M_load_45 rfl rfl (Or.inr ⟨_, rfl⟩) ?_
  refine g_getr (q := 49) d_M_load_46 rfl fl_M_44 skM rfl ?_
  refine s_iload_n (q := 50) d_M_load_49 rfl rfl ?_
  refine g_zald (q := 51) d_M_load_50 rfl sm_11 (by omega) rfl ht ?_
  refine s_if_eq (tgt := 57) (q := 54) d_M_load_51 (by decide) rfl (fun _ => ?_) (fun z9 => absurd hs z9)
  refine s_bipush (v := 8) (q := 59) d_M_load_57 rfl kb_8 ?_
  refine s_iload_n (q := 60) d_M_load_59 rfl rfl ?_
  refine s_imul (q := 61) d_M_load_60 rfl ?_
  refine s_iload_n (q := 62) d_M_load_61 rfl rfl ?_
  refine s_iadd (q := 63) d_M_load_62 rfl ?_
  rw [ix8m]
  refine s_istore (q := 65) d_M_load_63 rfl (by decide) ?_
  refine s_aload_n (q := 66) d_M_load_65 rfl rfl (Or.inr ⟨_, rfl⟩) ?_
  refine g_getr (q := 69) d_M_load_66 rfl fl_M_7 skM rfl ?_
  refine s_iload (q := 71) d_M_load_69 rfl rfl ?_
  refine g_ialv (v := nI n) (q := 72) d_M_load_71 rfl sm_0 (by omega) rfl (by omega) hz ?_
  refine s_iload (q := 74) d_M_load_72 rfl rfl ?_
  refine s_iadd (q := 75) d_M_load_74 rfl ?_
  rw [nI_add]
  refine s_bipush (v := 12) (q := 77) d_M_load_75 rfl kb_12 ?_
  refine s_icmp_le (tgt := 83) (q := 80) d_M_load_77 (by decide) rfl (fun _ => ?_) (fun z9 => absurd (nI_le (a := n + m) (b := 12) hf (by decide)) z9)
  refine s_aload_n (q := 84) d_M_load_83 rfl rfl (Or.inr ⟨_, rfl⟩) ?_
  refine g_getr (q := 87) d_M_load_84 rfl fl_M_59 skM rfl ?_
  refine s_iload_n (q := 88) d_M_load_87 rfl rfl ?_
  refine g_zald (q := 89) d_M_load_88 rfl sm_16 (by omega) rfl hk ?_
  refine s_if_eq (tgt := 112) (q := 92) d_M_load_89 (by decide) rfl (fun z9 => absurd z9 l1) (fun _ => ?_)
  refine s_aload_n (q := 93) d_M_load_92 rfl rfl (Or.inr ⟨_, rfl⟩) ?_
  refine g_getr (q := 96) d_M_load_93 rfl fl_M_59 skM rfl ?_
  refine s_iload (q := 98) d_M_load_96 rfl rfl ?_
  refine g_zald (q := 99) d_M_load_98 rfl sm_16 (by omega) rfl hg ?_
  refine s_if_eq (tgt := 112) (q := 102) d_M_load_99 (by decide) rfl (fun z9 => absurd z9 l2) (fun _ => ?_)
  refine s_aload_n (q := 103) d_M_load_102 rfl rfl (Or.inr ⟨_, rfl⟩) ?_
  refine g_getr (q := 106) d_M_load_103 rfl fl_M_59 skM rfl ?_
  refine s_iload (q := 108) d_M_load_106 rfl rfl ?_
  refine g_zald (q := 109) d_M_load_108 rfl sm_16 (by omega) rfl hv ?_
  refine s_if_ne (tgt := 118) (q := 112) d_M_load_109 (by decide) rfl (fun _ => ?_) (fun z9 => absurd z9 l3)
  refine s_aload_n (q := 119) d_M_load_118 rfl rfl (Or.inr ⟨_, rfl⟩) ?_
  refine g_getr (q := 122) d_M_load_119 rfl fl_M_65 skM rfl ?_
  refine s_iload_n (q := 123) d_M_load_122 rfl rfl ?_
  refine g_ialv (v := nI n1) (q := 124) d_M_load_123 rfl sm_18 (by omega) rfl hk z1 ?_
  refine s_iload (q := 126) d_M_load_124 rfl rfl ?_
  refine s_icmp_lt (tgt := 153) (q := 129) d_M_load_126 (by decide) rfl (fun z9 => absurd z9 (nI_nlt i1 (by omega))) (fun _ => ?_)
  refine s_aload_n (q := 130) d_M_load_129 rfl rfl (Or.inr ⟨_, rfl⟩) ?_
  refine g_getr (q := 133) d_M_load_130 rfl fl_M_65 skM rfl ?_
  refine s_iload (q := 135) d_M_load_133 rfl rfl ?_
  refine g_ialv (v := nI n2) (q := 136) d_M_load_135 rfl sm_18 (by omega) rfl hg z2 ?_
  refine s_iload (q := 138) d_M_load_136 rfl rfl ?_
  refine s_icmp_lt (tgt := 153) (q := 141) d_M_load_138 (by decide) rfl (fun z9 => absurd z9 (nI_nlt i2 (by omega))) (fun _ => ?_)
  refine s_aload_n (q := 142) d_M_load_141 rfl rfl (Or.inr ⟨_, rfl⟩) ?_
  refine g_getr (q := 145) d_M_load_142 rfl fl_M_65 skM rfl ?_
  refine s_iload (q := 147) d_M_load_145 rfl rfl ?_
  refine g_ialv (v := nI n3) (q := 148) d_M_load_147 rfl sm_18 (by omega) rfl hv z3 ?_
  refine s_iload (q := 150) d_M_load_148 rfl rfl ?_
  refine s_icmp_ge (tgt := 159) (q := 153) d_M_load_150 (by decide) rfl (fun _ => ?_) (fun z9 => absurd (nI_le i3 (by omega)) z9)
  refine s_iconst (v := 0) (q := 160) d_M_load_159 rfl ki_0 ?_
  refine s_istore (q := 162) d_M_load_160 rfl (by decide) ?_
  exact s_lv (lv' := [(0, .ref 122), (3, .int (nI k)), (4, .int (nI g)), (5, .int (nI v)), (6, .int (nI m)), (7, .int (nI (8 * t + j))), (8, .int (nI 0))]) ⟨rfl, rfl, rfl, rfl, rfl, rfl, rfl, trivial⟩ (lp_Mload1 ht hj hk hg hv hm1 hm hall (lp_Mload3 ht hj hk hg hv hm1 hm hz hf) 0 (Nat.zero_le _))
theorem t_M_keeper_T {X : RAM} {x kd a c : Int32} (hx : x < 0 ∨ 2 ≤ x) : CG l D ac b y_M_keeper c_M_keeper 7 (some .int) 2 42 [.ref 122, .int x, .int kd, .int a, .int c] X (some (.int (-2))) (X) := by
  by_cases k0 : kd = 0
  · subst k0
    refine Ct_of false (by decide) (fun h => by cases h) (Nat.le_of_ble_eq_true rfl) ?_
    show V l D ac b "SpanStoreModel" c_M_keeper 7 (some .int) false 2 42 0 0 ((some (.int (-2))), 144, mk (X)) 0 0 0 [(0, .ref 122), (1, .int x), (2, .int 0), (3, .int a), (4, .int c)] [] 144 (mk X)
    refine s_iload_n (q := 1) d_M_keeper_0 rfl rfl ?_
    refine s_tsIn (tgt := 28) d_M_keeper_1 (by decide) (by decide) rfl (by decide) ?_
    refine s_iload_n (q := 29) d_M_keeper_28 rfl rfl ?_
    refine s_iconst (v := 1) (q := 30) d_M_keeper_29 rfl ki_1 ?_
    refine s_bipush (v := 12) (q := 32) d_M_keeper_30 rfl kb_12 ?_
    refine g_callS (q := 35) d_M_keeper_32 rfl ml_M_74 mx_M_in ms_M_in t_M_in rfl rfl (Nat.le_of_ble_eq_true rfl) (by decide) ?_
    refine s_if_eq (tgt := 47) (q := 38) d_M_keeper_35 (by decide) rfl (fun h_35 => ?_) (fun h_35 => ?_)
    · -- T 35
      rw [bI_d] at h_35
      refine s_iconst (v := 0) (q := 48) d_M_keeper_47 rfl ki_0 ?_
      refine s_istore (q := 50) d_M_keeper_48 rfl (by decide) ?_
      refine s_goto (tgt := 113) d_M_keeper_50 (by decide) ?_
      refine s_iload_n (q := 114) d_M_keeper_113 rfl rfl ?_
      refine g_callS (q := 117) d_M_keeper_114 rfl ml_M_78 mx_M_isTable ms_M_isTable t_M_isTable rfl rfl (Nat.le_of_ble_eq_true rfl) (by decide) ?_
      refine s_if_eq (tgt := 125) (q := 120) d_M_keeper_117 (by decide) rfl (fun _ => ?_) (fun z9 => absurd (bI_d.mpr (niT hx)) z9)
      refine s_bipush (v := (-2)) (q := 127) d_M_keeper_125 rfl kb_m2 ?_
      exact g_iret d_M_keeper_127 rfl rfl rfl rfl
    · -- F 35
      rw [bI_dn] at h_35
      refine s_iload (q := 40) d_M_keeper_38 rfl rfl ?_
      refine s_if_ne (tgt := 47) (q := 43) d_M_keeper_40 (by decide) rfl (fun h_40 => ?_) (fun h_40 => ?_)
      · -- T 40
        refine s_iconst (v := 0) (q := 48) d_M_keeper_47 rfl ki_0 ?_
        refine s_istore (q := 50) d_M_keeper_48 rfl (by decide) ?_
        refine s_goto (tgt := 113) d_M_keeper_50 (by decide) ?_
        refine s_iload_n (q := 114) d_M_keeper_113 rfl rfl ?_
        refine g_callS (q := 117) d_M_keeper_114 rfl ml_M_78 mx_M_isTable ms_M_isTable t_M_isTable rfl rfl (Nat.le_of_ble_eq_true rfl) (by decide) ?_
        refine s_if_eq (tgt := 125) (q := 120) d_M_keeper_117 (by decide) rfl (fun _ => ?_) (fun z9 => absurd (bI_d.mpr (niT hx)) z9)
        refine s_bipush (v := (-2)) (q := 127) d_M_keeper_125 rfl kb_m2 ?_
        exact g_iret d_M_keeper_127 rfl rfl rfl rfl
      · -- F 40
        refine s_iconst (v := 1) (q := 44) d_M_keeper_43 rfl ki_1 ?_
        refine s_goto (tgt := 48) d_M_keeper_44 (by decide) ?_
        refine s_istore (q := 50) d_M_keeper_48 rfl (by decide) ?_
        refine s_goto (tgt := 113) d_M_keeper_50 (by decide) ?_
        refine s_iload_n (q := 114) d_M_keeper_113 rfl rfl ?_
        refine g_callS (q := 117) d_M_keeper_114 rfl ml_M_78 mx_M_isTable ms_M_isTable t_M_isTable rfl rfl (Nat.le_of_ble_eq_true rfl) (by decide) ?_
        refine s_if_eq (tgt := 125) (q := 120) d_M_keeper_117 (by decide) rfl (fun _ => ?_) (fun z9 => absurd (bI_d.mpr (niT hx)) z9)
        refine s_bipush (v := (-2)) (q := 127) d_M_keeper_125 rfl kb_m2 ?_
        exact g_iret d_M_keeper_127 rfl rfl rfl rfl
  by_cases k1 : kd = 1
  · subst k1
    refine Ct_of false (by decide) (fun h => by cases h) (Nat.le_of_ble_eq_true rfl) ?_
    show V l D ac b "SpanStoreModel" c_M_keeper 7 (some .int) false 2 42 0 0 ((some (.int (-2))), 144, mk (X)) 0 0 0 [(0, .ref 122), (1, .int x), (2, .int 1), (3, .int a), (4, .int c)] [] 144 (mk X)
    refine s_iload_n (q := 1) d_M_keeper_0 rfl rfl ?_
    refine s_tsIn (tgt := 28) d_M_keeper_1 (by decide) (by decide) rfl (by decide) ?_
    refine s_iload_n (q := 29) d_M_keeper_28 rfl rfl ?_
    refine s_iconst (v := 1) (q := 30) d_M_keeper_29 rfl ki_1 ?_
    refine s_bipush (v := 12) (q := 32) d_M_keeper_30 rfl kb_12 ?_
    refine g_callS (q := 35) d_M_keeper_32 rfl ml_M_74 mx_M_in ms_M_in t_M_in rfl rfl (Nat.le_of_ble_eq_true rfl) (by decide) ?_
    refine s_if_eq (tgt := 47) (q := 38) d_M_keeper_35 (by decide) rfl (fun h_35 => ?_) (fun h_35 => ?_)
    · -- T 35
      rw [bI_d] at h_35
      refine s_iconst (v := 0) (q := 48) d_M_keeper_47 rfl ki_0 ?_
      refine s_istore (q := 50) d_M_keeper_48 rfl (by decide) ?_
      refine s_goto (tgt := 113) d_M_keeper_50 (by decide) ?_
      refine s_iload_n (q := 114) d_M_keeper_113 rfl rfl ?_
      refine g_callS (q := 117) d_M_keeper_114 rfl ml_M_78 mx_M_isTable ms_M_isTable t_M_isTable rfl rfl (Nat.le_of_ble_eq_true rfl) (by decide) ?_
      refine s_if_eq (tgt := 125) (q := 120) d_M_keeper_117 (by decide) rfl (fun _ => ?_) (fun z9 => absurd (bI_d.mpr (niT hx)) z9)
      refine s_bipush (v := (-2)) (q := 127) d_M_keeper_125 rfl kb_m2 ?_
      exact g_iret d_M_keeper_127 rfl rfl rfl rfl
    · -- F 35
      rw [bI_dn] at h_35
      refine s_iload (q := 40) d_M_keeper_38 rfl rfl ?_
      refine s_if_ne (tgt := 47) (q := 43) d_M_keeper_40 (by decide) rfl (fun h_40 => ?_) (fun h_40 => ?_)
      · -- T 40
        refine s_iconst (v := 0) (q := 48) d_M_keeper_47 rfl ki_0 ?_
        refine s_istore (q := 50) d_M_keeper_48 rfl (by decide) ?_
        refine s_goto (tgt := 113) d_M_keeper_50 (by decide) ?_
        refine s_iload_n (q := 114) d_M_keeper_113 rfl rfl ?_
        refine g_callS (q := 117) d_M_keeper_114 rfl ml_M_78 mx_M_isTable ms_M_isTable t_M_isTable rfl rfl (Nat.le_of_ble_eq_true rfl) (by decide) ?_
        refine s_if_eq (tgt := 125) (q := 120) d_M_keeper_117 (by decide) rfl (fun _ => ?_) (fun z9 => absurd (bI_d.mpr (niT hx)) z9)
        refine s_bipush (v := (-2)) (q := 127) d_M_keeper_125 rfl kb_m2 ?_
        exact g_iret d_M_keeper_127 rfl rfl rfl rfl
      · -- F 40
        refine s_iconst (v := 1) (q := 44) d_M_keeper_43 rfl ki_1 ?_
        refine s_goto (tgt := 48) d_M_keeper_44 (by decide) ?_
        refine s_istore (q := 50) d_M_keeper_48 rfl (by decide) ?_
        refine s_goto (tgt := 113) d_M_keeper_50 (by decide) ?_
        refine s_iload_n (q := 114) d_M_keeper_113 rfl rfl ?_
        refine g_callS (q := 117) d_M_keeper_114 rfl ml_M_78 mx_M_isTable ms_M_isTable t_M_isTable rfl rfl (Nat.le_of_ble_eq_true rfl) (by decide) ?_
        refine s_if_eq (tgt := 125) (q := 120) d_M_keeper_117 (by decide) rfl (fun _ => ?_) (fun z9 => absurd (bI_d.mpr (niT hx)) z9)
        refine s_bipush (v := (-2)) (q := 127) d_M_keeper_125 rfl kb_m2 ?_
        exact g_iret d_M_keeper_127 rfl rfl rfl rfl
  by_cases k2 : kd = 2
  · subst k2
    refine Ct_of false (by decide) (fun h => by cases h) (Nat.le_of_ble_eq_true rfl) ?_
    show V l D ac b "SpanStoreModel" c_M_keeper 7 (some .int) false 2 42 0 0 ((some (.int (-2))), 144, mk (X)) 0 0 0 [(0, .ref 122), (1, .int x), (2, .int 2), (3, .int a), (4, .int c)] [] 144 (mk X)
    refine s_iload_n (q := 1) d_M_keeper_0 rfl rfl ?_
    refine s_tsIn (tgt := 53) d_M_keeper_1 (by decide) (by decide) rfl (by decide) ?_
    refine s_iload_n (q := 54) d_M_keeper_53 rfl rfl ?_
    refine s_iconst (v := 1) (q := 55) d_M_keeper_54 rfl ki_1 ?_
    refine s_bipush (v := 100) (q := 57) d_M_keeper_55 rfl kb_100 ?_
    refine g_callS (q := 60) d_M_keeper_57 rfl ml_M_74 mx_M_in ms_M_in t_M_in rfl rfl (Nat.le_of_ble_eq_true rfl) (by decide) ?_
    refine s_if_eq (tgt := 79) (q := 63) d_M_keeper_60 (by decide) rfl (fun h_60 => ?_) (fun h_60 => ?_)
    · -- T 60
      rw [bI_d] at h_60
      refine s_iconst (v := 0) (q := 80) d_M_keeper_79 rfl ki_0 ?_
      refine s_istore (q := 82) d_M_keeper_80 rfl (by decide) ?_
      refine s_goto (tgt := 113) d_M_keeper_82 (by decide) ?_
      refine s_iload_n (q := 114) d_M_keeper_113 rfl rfl ?_
      refine g_callS (q := 117) d_M_keeper_114 rfl ml_M_78 mx_M_isTable ms_M_isTable t_M_isTable rfl rfl (Nat.le_of_ble_eq_true rfl) (by decide) ?_
      refine s_if_eq (tgt := 125) (q := 120) d_M_keeper_117 (by decide) rfl (fun _ => ?_) (fun z9 => absurd (bI_d.mpr (niT hx)) z9)
      refine s_bipush (v := (-2)) (q := 127) d_M_keeper_125 rfl kb_m2 ?_
      exact g_iret d_M_keeper_127 rfl rfl rfl rfl
    · -- F 60
      rw [bI_dn] at h_60
      refine s_iload (q := 65) d_M_keeper_63 rfl rfl ?_
      refine s_iconst (v := 0) (q := 66) d_M_keeper_65 rfl ki_0 ?_
      refine s_iload_n (q := 67) d_M_keeper_66 rfl rfl ?_
      refine s_iconst (v := 1) (q := 68) d_M_keeper_67 rfl ki_1 ?_
      refine s_isub (q := 69) d_M_keeper_68 rfl ?_
      refine g_callS (q := 72) d_M_keeper_69 rfl ml_M_74 mx_M_in ms_M_in t_M_in rfl rfl (Nat.le_of_ble_eq_true rfl) (by decide) ?_
      refine s_if_eq (tgt := 79) (q := 75) d_M_keeper_72 (by decide) rfl (fun h_72 => ?_) (fun h_72 => ?_)
      · -- T 72
        rw [bI_d] at h_72
        refine s_iconst (v := 0) (q := 80) d_M_keeper_79 rfl ki_0 ?_
        refine s_istore (q := 82) d_M_keeper_80 rfl (by decide) ?_
        refine s_goto (tgt := 113) d_M_keeper_82 (by decide) ?_
        refine s_iload_n (q := 114) d_M_keeper_113 rfl rfl ?_
        refine g_callS (q := 117) d_M_keeper_114 rfl ml_M_78 mx_M_isTable ms_M_isTable t_M_isTable rfl rfl (Nat.le_of_ble_eq_true rfl) (by decide) ?_
        refine s_if_eq (tgt := 125) (q := 120) d_M_keeper_117 (by decide) rfl (fun _ => ?_) (fun z9 => absurd (bI_d.mpr (niT hx)) z9)
        refine s_bipush (v := (-2)) (q := 127) d_M_keeper_125 rfl kb_m2 ?_
        exact g_iret d_M_keeper_127 rfl rfl rfl rfl
      · -- F 72
        rw [bI_dn] at h_72
        refine s_iconst (v := 1) (q := 76) d_M_keeper_75 rfl ki_1 ?_
        refine s_goto (tgt := 80) d_M_keeper_76 (by decide) ?_
        refine s_istore (q := 82) d_M_keeper_80 rfl (by decide) ?_
        refine s_goto (tgt := 113) d_M_keeper_82 (by decide) ?_
        refine s_iload_n (q := 114) d_M_keeper_113 rfl rfl ?_
        refine g_callS (q := 117) d_M_keeper_114 rfl ml_M_78 mx_M_isTable ms_M_isTable t_M_isTable rfl rfl (Nat.le_of_ble_eq_true rfl) (by decide) ?_
        refine s_if_eq (tgt := 125) (q := 120) d_M_keeper_117 (by decide) rfl (fun _ => ?_) (fun z9 => absurd (bI_d.mpr (niT hx)) z9)
        refine s_bipush (v := (-2)) (q := 127) d_M_keeper_125 rfl kb_m2 ?_
        exact g_iret d_M_keeper_127 rfl rfl rfl rfl
  by_cases k3 : kd = 3
  · subst k3
    refine Ct_of false (by decide) (fun h => by cases h) (Nat.le_of_ble_eq_true rfl) ?_
    show V l D ac b "SpanStoreModel" c_M_keeper 7 (some .int) false 2 42 0 0 ((some (.int (-2))), 144, mk (X)) 0 0 0 [(0, .ref 122), (1, .int x), (2, .int 3), (3, .int a), (4, .int c)] [] 144 (mk X)
    refine s_iload_n (q := 1) d_M_keeper_0 rfl rfl ?_
    refine s_tsOut (tgt := 85) d_M_keeper_1 (by decide) (by decide) ?_
    refine s_iload_n (q := 86) d_M_keeper_85 rfl rfl ?_
    refine s_iconst (v := 3) (q := 87) d_M_keeper_86 rfl ki_3 ?_
    refine s_icmp_ne (tgt := 110) (q := 90) d_M_keeper_87 (by decide) rfl (fun z9 => absurd rfl z9) (fun _ => ?_)
    refine s_iload_n (q := 91) d_M_keeper_90 rfl rfl ?_
    refine s_iconst (v := 1) (q := 92) d_M_keeper_91 rfl ki_1 ?_
    refine s_sipush (v := 1000) (q := 95) d_M_keeper_92 rfl kh_1000 ?_
    refine g_callS (q := 98) d_M_keeper_95 rfl ml_M_74 mx_M_in ms_M_in t_M_in rfl rfl (Nat.le_of_ble_eq_true rfl) (by decide) ?_
    refine s_if_eq (tgt := 110) (q := 101) d_M_keeper_98 (by decide) rfl (fun h_98 => ?_) (fun h_98 => ?_)
    · -- T 98
      rw [bI_d] at h_98
      refine s_iconst (v := 0) (q := 111) d_M_keeper_110 rfl ki_0 ?_
      refine s_istore (q := 113) d_M_keeper_111 rfl (by decide) ?_
      refine s_iload_n (q := 114) d_M_keeper_113 rfl rfl ?_
      refine g_callS (q := 117) d_M_keeper_114 rfl ml_M_78 mx_M_isTable ms_M_isTable t_M_isTable rfl rfl (Nat.le_of_ble_eq_true rfl) (by decide) ?_
      refine s_if_eq (tgt := 125) (q := 120) d_M_keeper_117 (by decide) rfl (fun _ => ?_) (fun z9 => absurd (bI_d.mpr (niT hx)) z9)
      refine s_bipush (v := (-2)) (q := 127) d_M_keeper_125 rfl kb_m2 ?_
      exact g_iret d_M_keeper_127 rfl rfl rfl rfl
    · -- F 98
      rw [bI_dn] at h_98
      refine s_iload (q := 103) d_M_keeper_101 rfl rfl ?_
      refine s_if_ne (tgt := 110) (q := 106) d_M_keeper_103 (by decide) rfl (fun h_103 => ?_) (fun h_103 => ?_)
      · -- T 103
        refine s_iconst (v := 0) (q := 111) d_M_keeper_110 rfl ki_0 ?_
        refine s_istore (q := 113) d_M_keeper_111 rfl (by decide) ?_
        refine s_iload_n (q := 114) d_M_keeper_113 rfl rfl ?_
        refine g_callS (q := 117) d_M_keeper_114 rfl ml_M_78 mx_M_isTable ms_M_isTable t_M_isTable rfl rfl (Nat.le_of_ble_eq_true rfl) (by decide) ?_
        refine s_if_eq (tgt := 125) (q := 120) d_M_keeper_117 (by decide) rfl (fun _ => ?_) (fun z9 => absurd (bI_d.mpr (niT hx)) z9)
        refine s_bipush (v := (-2)) (q := 127) d_M_keeper_125 rfl kb_m2 ?_
        exact g_iret d_M_keeper_127 rfl rfl rfl rfl
      · -- F 103
        refine s_iconst (v := 1) (q := 107) d_M_keeper_106 rfl ki_1 ?_
        refine s_goto (tgt := 111) d_M_keeper_107 (by decide) ?_
        refine s_istore (q := 113) d_M_keeper_111 rfl (by decide) ?_
        refine s_iload_n (q := 114) d_M_keeper_113 rfl rfl ?_
        refine g_callS (q := 117) d_M_keeper_114 rfl ml_M_78 mx_M_isTable ms_M_isTable t_M_isTable rfl rfl (Nat.le_of_ble_eq_true rfl) (by decide) ?_
        refine s_if_eq (tgt := 125) (q := 120) d_M_keeper_117 (by decide) rfl (fun _ => ?_) (fun z9 => absurd (bI_d.mpr (niT hx)) z9)
        refine s_bipush (v := (-2)) (q := 127) d_M_keeper_125 rfl kb_m2 ?_
        exact g_iret d_M_keeper_127 rfl rfl rfl rfl
  · skip
    refine Ct_of false (by decide) (fun h => by cases h) (Nat.le_of_ble_eq_true rfl) ?_
    show V l D ac b "SpanStoreModel" c_M_keeper 7 (some .int) false 2 42 0 0 ((some (.int (-2))), 144, mk (X)) 0 0 0 [(0, .ref 122), (1, .int x), (2, .int kd), (3, .int a), (4, .int c)] [] 144 (mk X)
    refine s_iload_n (q := 1) d_M_keeper_0 rfl rfl ?_
    refine s_tsOut (tgt := 85) d_M_keeper_1 (by rw [i_eq, tI_0] at k0; rw [i_eq, tI_1] at k1; rw [i_eq, tI_2] at k2; omega) (by decide) ?_
    refine s_iload_n (q := 86) d_M_keeper_85 rfl rfl ?_
    refine s_iconst (v := 3) (q := 87) d_M_keeper_86 rfl ki_3 ?_
    refine s_icmp_ne (tgt := 110) (q := 90) d_M_keeper_87 (by decide) rfl (fun _ => ?_) (fun z9 => absurd z9 k3)
    refine s_iconst (v := 0) (q := 111) d_M_keeper_110 rfl ki_0 ?_
    refine s_istore (q := 113) d_M_keeper_111 rfl (by decide) ?_
    refine s_iload_n (q := 114) d_M_keeper_113 rfl rfl ?_
    refine g_callS (q := 117) d_M_keeper_114 rfl ml_M_78 mx_M_isTable ms_M_isTable t_M_isTable rfl rfl (Nat.le_of_ble_eq_true rfl) (by decide) ?_
    refine s_if_eq (tgt := 125) (q := 120) d_M_keeper_117 (by decide) rfl (fun _ => ?_) (fun z9 => absurd (bI_d.mpr (niT hx)) z9)
    refine s_bipush (v := (-2)) (q := 127) d_M_keeper_125 rfl kb_m2 ?_
    exact g_iret d_M_keeper_127 rfl rfl rfl rfl
theorem sub1 {a c : Int32} (h : 1 ≤ a) : c ≤ a - 1 ↔ c < a := by
  have h0 : ¬ a < 0 := by simp only [i_le, i_lt, tI_0, tI_1] at *; omega
  obtain ⟨j, hj, rfl⟩ := nI_of h0
  have h1 : 1 ≤ j := (nI_leI (a := 1) (b := j) (by decide) hj).mp h
  rw [show nI j - 1 = nI (j - 1) from pk_sub (a := j) (b := 1) h1, i_le, i_lt, nI_toInt (by omega), nI_toInt hj]
  omega
def mkpX (X : RAM) (t m : Nat) (kd a c : Int32) : RAM := up2 (up2 (up2 (up2 X 136 (4 * t + m) kd) 137 (4 * t + m) a) 138 (4 * t + m) c) 135 t (nI (m + 1))
theorem t_M_keeper_K {X : RAM} {t m : Nat} {kd a c : Int32} (ht : t < 2) (hk : ¬ KeepOK kd a c) : CG l D ac b y_M_keeper c_M_keeper 7 (some .int) 2 42 [.ref 122, .int (nI t), .int kd, .int a, .int c] X (some (.int (-2))) (X) := by
  by_cases k0 : kd = 0
  · subst k0
    refine Ct_of false (by decide) (fun h => by cases h) (Nat.le_of_ble_eq_true rfl) ?_
    show V l D ac b "SpanStoreModel" c_M_keeper 7 (some .int) false 2 42 0 0 ((some (.int (-2))), 144, mk (X)) 0 0 0 [(0, .ref 122), (1, .int (nI t)), (2, .int 0), (3, .int a), (4, .int c)] [] 144 (mk X)
    refine s_iload_n (q := 1) d_M_keeper_0 rfl rfl ?_
    refine s_tsIn (tgt := 28) d_M_keeper_1 (by decide) (by decide) rfl (by decide) ?_
    refine s_iload_n (q := 29) d_M_keeper_28 rfl rfl ?_
    refine s_iconst (v := 1) (q := 30) d_M_keeper_29 rfl ki_1 ?_
    refine s_bipush (v := 12) (q := 32) d_M_keeper_30 rfl kb_12 ?_
    refine g_callS (q := 35) d_M_keeper_32 rfl ml_M_74 mx_M_in ms_M_in t_M_in rfl rfl (Nat.le_of_ble_eq_true rfl) (by decide) ?_
    refine s_if_eq (tgt := 47) (q := 38) d_M_keeper_35 (by decide) rfl (fun h_35 => ?_) (fun h_35 => ?_)
    · -- T 35
      rw [bI_d] at h_35
      refine s_iconst (v := 0) (q := 48) d_M_keeper_47 rfl ki_0 ?_
      refine s_istore (q := 50) d_M_keeper_48 rfl (by decide) ?_
      refine s_goto (tgt := 113) d_M_keeper_50 (by decide) ?_
      refine s_iload_n (q := 114) d_M_keeper_113 rfl rfl ?_
      refine g_callS (q := 117) d_M_keeper_114 rfl ml_M_78 mx_M_isTable ms_M_isTable t_M_isTable rfl rfl (Nat.le_of_ble_eq_true rfl) (by decide) ?_
      refine s_if_eq (tgt := 125) (q := 120) d_M_keeper_117 (by decide) rfl (fun z9 => absurd z9 (bI_dn.mpr (inT ht))) (fun _ => ?_)
      refine s_iload (q := 122) d_M_keeper_120 rfl rfl ?_
      refine s_if_ne (tgt := 128) (q := 125) d_M_keeper_122 (by decide) rfl (fun z9 => absurd (by decide) z9) (fun _ => ?_)
      refine s_bipush (v := (-2)) (q := 127) d_M_keeper_125 rfl kb_m2 ?_
      exact g_iret d_M_keeper_127 rfl rfl rfl rfl
    · -- F 35
      rw [bI_dn] at h_35
      refine s_iload (q := 40) d_M_keeper_38 rfl rfl ?_
      refine s_if_ne (tgt := 47) (q := 43) d_M_keeper_40 (by decide) rfl (fun h_40 => ?_) (fun h_40 => ?_)
      · -- T 40
        refine s_iconst (v := 0) (q := 48) d_M_keeper_47 rfl ki_0 ?_
        refine s_istore (q := 50) d_M_keeper_48 rfl (by decide) ?_
        refine s_goto (tgt := 113) d_M_keeper_50 (by decide) ?_
        refine s_iload_n (q := 114) d_M_keeper_113 rfl rfl ?_
        refine g_callS (q := 117) d_M_keeper_114 rfl ml_M_78 mx_M_isTable ms_M_isTable t_M_isTable rfl rfl (Nat.le_of_ble_eq_true rfl) (by decide) ?_
        refine s_if_eq (tgt := 125) (q := 120) d_M_keeper_117 (by decide) rfl (fun z9 => absurd z9 (bI_dn.mpr (inT ht))) (fun _ => ?_)
        refine s_iload (q := 122) d_M_keeper_120 rfl rfl ?_
        refine s_if_ne (tgt := 128) (q := 125) d_M_keeper_122 (by decide) rfl (fun z9 => absurd (by decide) z9) (fun _ => ?_)
        refine s_bipush (v := (-2)) (q := 127) d_M_keeper_125 rfl kb_m2 ?_
        exact g_iret d_M_keeper_127 rfl rfl rfl rfl
      · -- F 40
        refine s_iconst (v := 1) (q := 44) d_M_keeper_43 rfl ki_1 ?_
        refine s_goto (tgt := 48) d_M_keeper_44 (by decide) ?_
        refine s_istore (q := 50) d_M_keeper_48 rfl (by decide) ?_
        refine s_goto (tgt := 113) d_M_keeper_50 (by decide) ?_
        refine s_iload_n (q := 114) d_M_keeper_113 rfl rfl ?_
        refine g_callS (q := 117) d_M_keeper_114 rfl ml_M_78 mx_M_isTable ms_M_isTable t_M_isTable rfl rfl (Nat.le_of_ble_eq_true rfl) (by decide) ?_
        refine s_if_eq (tgt := 125) (q := 120) d_M_keeper_117 (by decide) rfl (fun z9 => absurd z9 (bI_dn.mpr (inT ht))) (fun _ => ?_)
        refine s_iload (q := 122) d_M_keeper_120 rfl rfl ?_
        refine s_if_ne (tgt := 128) (q := 125) d_M_keeper_122 (by decide) rfl (fun _ => ?_) (fun z9 => absurd z9 (by decide))
        exact absurd (KeepOK_0.mpr (by (try simp only [bI_d, bI_dn, strV, remI] at *); simp only [i_le, i_lt, i_eq, tI_0, tI_1, tI_2, tI_3, tI_4, tI_7, tI_8, tI_10, tI_12, tI_13, tI_14, tI_40, tI_99, tI_100, tI_1000, tI_m1000, tI_m1, tI_mil] at *; omega)) hk
  by_cases k1 : kd = 1
  · subst k1
    refine Ct_of false (by decide) (fun h => by cases h) (Nat.le_of_ble_eq_true rfl) ?_
    show V l D ac b "SpanStoreModel" c_M_keeper 7 (some .int) false 2 42 0 0 ((some (.int (-2))), 144, mk (X)) 0 0 0 [(0, .ref 122), (1, .int (nI t)), (2, .int 1), (3, .int a), (4, .int c)] [] 144 (mk X)
    refine s_iload_n (q := 1) d_M_keeper_0 rfl rfl ?_
    refine s_tsIn (tgt := 28) d_M_keeper_1 (by decide) (by decide) rfl (by decide) ?_
    refine s_iload_n (q := 29) d_M_keeper_28 rfl rfl ?_
    refine s_iconst (v := 1) (q := 30) d_M_keeper_29 rfl ki_1 ?_
    refine s_bipush (v := 12) (q := 32) d_M_keeper_30 rfl kb_12 ?_
    refine g_callS (q := 35) d_M_keeper_32 rfl ml_M_74 mx_M_in ms_M_in t_M_in rfl rfl (Nat.le_of_ble_eq_true rfl) (by decide) ?_
    refine s_if_eq (tgt := 47) (q := 38) d_M_keeper_35 (by decide) rfl (fun h_35 => ?_) (fun h_35 => ?_)
    · -- T 35
      rw [bI_d] at h_35
      refine s_iconst (v := 0) (q := 48) d_M_keeper_47 rfl ki_0 ?_
      refine s_istore (q := 50) d_M_keeper_48 rfl (by decide) ?_
      refine s_goto (tgt := 113) d_M_keeper_50 (by decide) ?_
      refine s_iload_n (q := 114) d_M_keeper_113 rfl rfl ?_
      refine g_callS (q := 117) d_M_keeper_114 rfl ml_M_78 mx_M_isTable ms_M_isTable t_M_isTable rfl rfl (Nat.le_of_ble_eq_true rfl) (by decide) ?_
      refine s_if_eq (tgt := 125) (q := 120) d_M_keeper_117 (by decide) rfl (fun z9 => absurd z9 (bI_dn.mpr (inT ht))) (fun _ => ?_)
      refine s_iload (q := 122) d_M_keeper_120 rfl rfl ?_
      refine s_if_ne (tgt := 128) (q := 125) d_M_keeper_122 (by decide) rfl (fun z9 => absurd (by decide) z9) (fun _ => ?_)
      refine s_bipush (v := (-2)) (q := 127) d_M_keeper_125 rfl kb_m2 ?_
      exact g_iret d_M_keeper_127 rfl rfl rfl rfl
    · -- F 35
      rw [bI_dn] at h_35
      refine s_iload (q := 40) d_M_keeper_38 rfl rfl ?_
      refine s_if_ne (tgt := 47) (q := 43) d_M_keeper_40 (by decide) rfl (fun h_40 => ?_) (fun h_40 => ?_)
      · -- T 40
        refine s_iconst (v := 0) (q := 48) d_M_keeper_47 rfl ki_0 ?_
        refine s_istore (q := 50) d_M_keeper_48 rfl (by decide) ?_
        refine s_goto (tgt := 113) d_M_keeper_50 (by decide) ?_
        refine s_iload_n (q := 114) d_M_keeper_113 rfl rfl ?_
        refine g_callS (q := 117) d_M_keeper_114 rfl ml_M_78 mx_M_isTable ms_M_isTable t_M_isTable rfl rfl (Nat.le_of_ble_eq_true rfl) (by decide) ?_
        refine s_if_eq (tgt := 125) (q := 120) d_M_keeper_117 (by decide) rfl (fun z9 => absurd z9 (bI_dn.mpr (inT ht))) (fun _ => ?_)
        refine s_iload (q := 122) d_M_keeper_120 rfl rfl ?_
        refine s_if_ne (tgt := 128) (q := 125) d_M_keeper_122 (by decide) rfl (fun z9 => absurd (by decide) z9) (fun _ => ?_)
        refine s_bipush (v := (-2)) (q := 127) d_M_keeper_125 rfl kb_m2 ?_
        exact g_iret d_M_keeper_127 rfl rfl rfl rfl
      · -- F 40
        refine s_iconst (v := 1) (q := 44) d_M_keeper_43 rfl ki_1 ?_
        refine s_goto (tgt := 48) d_M_keeper_44 (by decide) ?_
        refine s_istore (q := 50) d_M_keeper_48 rfl (by decide) ?_
        refine s_goto (tgt := 113) d_M_keeper_50 (by decide) ?_
        refine s_iload_n (q := 114) d_M_keeper_113 rfl rfl ?_
        refine g_callS (q := 117) d_M_keeper_114 rfl ml_M_78 mx_M_isTable ms_M_isTable t_M_isTable rfl rfl (Nat.le_of_ble_eq_true rfl) (by decide) ?_
        refine s_if_eq (tgt := 125) (q := 120) d_M_keeper_117 (by decide) rfl (fun z9 => absurd z9 (bI_dn.mpr (inT ht))) (fun _ => ?_)
        refine s_iload (q := 122) d_M_keeper_120 rfl rfl ?_
        refine s_if_ne (tgt := 128) (q := 125) d_M_keeper_122 (by decide) rfl (fun _ => ?_) (fun z9 => absurd z9 (by decide))
        exact absurd (KeepOK_1.mpr (by (try simp only [bI_d, bI_dn, strV, remI] at *); simp only [i_le, i_lt, i_eq, tI_0, tI_1, tI_2, tI_3, tI_4, tI_7, tI_8, tI_10, tI_12, tI_13, tI_14, tI_40, tI_99, tI_100, tI_1000, tI_m1000, tI_m1, tI_mil] at *; omega)) hk
  by_cases k2 : kd = 2
  · subst k2
    refine Ct_of false (by decide) (fun h => by cases h) (Nat.le_of_ble_eq_true rfl) ?_
    show V l D ac b "SpanStoreModel" c_M_keeper 7 (some .int) false 2 42 0 0 ((some (.int (-2))), 144, mk (X)) 0 0 0 [(0, .ref 122), (1, .int (nI t)), (2, .int 2), (3, .int a), (4, .int c)] [] 144 (mk X)
    refine s_iload_n (q := 1) d_M_keeper_0 rfl rfl ?_
    refine s_tsIn (tgt := 53) d_M_keeper_1 (by decide) (by decide) rfl (by decide) ?_
    refine s_iload_n (q := 54) d_M_keeper_53 rfl rfl ?_
    refine s_iconst (v := 1) (q := 55) d_M_keeper_54 rfl ki_1 ?_
    refine s_bipush (v := 100) (q := 57) d_M_keeper_55 rfl kb_100 ?_
    refine g_callS (q := 60) d_M_keeper_57 rfl ml_M_74 mx_M_in ms_M_in t_M_in rfl rfl (Nat.le_of_ble_eq_true rfl) (by decide) ?_
    refine s_if_eq (tgt := 79) (q := 63) d_M_keeper_60 (by decide) rfl (fun h_60 => ?_) (fun h_60 => ?_)
    · -- T 60
      rw [bI_d] at h_60
      refine s_iconst (v := 0) (q := 80) d_M_keeper_79 rfl ki_0 ?_
      refine s_istore (q := 82) d_M_keeper_80 rfl (by decide) ?_
      refine s_goto (tgt := 113) d_M_keeper_82 (by decide) ?_
      refine s_iload_n (q := 114) d_M_keeper_113 rfl rfl ?_
      refine g_callS (q := 117) d_M_keeper_114 rfl ml_M_78 mx_M_isTable ms_M_isTable t_M_isTable rfl rfl (Nat.le_of_ble_eq_true rfl) (by decide) ?_
      refine s_if_eq (tgt := 125) (q := 120) d_M_keeper_117 (by decide) rfl (fun z9 => absurd z9 (bI_dn.mpr (inT ht))) (fun _ => ?_)
      refine s_iload (q := 122) d_M_keeper_120 rfl rfl ?_
      refine s_if_ne (tgt := 128) (q := 125) d_M_keeper_122 (by decide) rfl (fun z9 => absurd (by decide) z9) (fun _ => ?_)
      refine s_bipush (v := (-2)) (q := 127) d_M_keeper_125 rfl kb_m2 ?_
      exact g_iret d_M_keeper_127 rfl rfl rfl rfl
    · -- F 60
      rw [bI_dn] at h_60
      refine s_iload (q := 65) d_M_keeper_63 rfl rfl ?_
      refine s_iconst (v := 0) (q := 66) d_M_keeper_65 rfl ki_0 ?_
      refine s_iload_n (q := 67) d_M_keeper_66 rfl rfl ?_
      refine s_iconst (v := 1) (q := 68) d_M_keeper_67 rfl ki_1 ?_
      refine s_isub (q := 69) d_M_keeper_68 rfl ?_
      refine g_callS (q := 72) d_M_keeper_69 rfl ml_M_74 mx_M_in ms_M_in t_M_in rfl rfl (Nat.le_of_ble_eq_true rfl) (by decide) ?_
      refine s_if_eq (tgt := 79) (q := 75) d_M_keeper_72 (by decide) rfl (fun h_72 => ?_) (fun h_72 => ?_)
      · -- T 72
        rw [bI_d] at h_72
        refine s_iconst (v := 0) (q := 80) d_M_keeper_79 rfl ki_0 ?_
        refine s_istore (q := 82) d_M_keeper_80 rfl (by decide) ?_
        refine s_goto (tgt := 113) d_M_keeper_82 (by decide) ?_
        refine s_iload_n (q := 114) d_M_keeper_113 rfl rfl ?_
        refine g_callS (q := 117) d_M_keeper_114 rfl ml_M_78 mx_M_isTable ms_M_isTable t_M_isTable rfl rfl (Nat.le_of_ble_eq_true rfl) (by decide) ?_
        refine s_if_eq (tgt := 125) (q := 120) d_M_keeper_117 (by decide) rfl (fun z9 => absurd z9 (bI_dn.mpr (inT ht))) (fun _ => ?_)
        refine s_iload (q := 122) d_M_keeper_120 rfl rfl ?_
        refine s_if_ne (tgt := 128) (q := 125) d_M_keeper_122 (by decide) rfl (fun z9 => absurd (by decide) z9) (fun _ => ?_)
        refine s_bipush (v := (-2)) (q := 127) d_M_keeper_125 rfl kb_m2 ?_
        exact g_iret d_M_keeper_127 rfl rfl rfl rfl
      · -- F 72
        rw [bI_dn] at h_72
        refine s_iconst (v := 1) (q := 76) d_M_keeper_75 rfl ki_1 ?_
        refine s_goto (tgt := 80) d_M_keeper_76 (by decide) ?_
        refine s_istore (q := 82) d_M_keeper_80 rfl (by decide) ?_
        refine s_goto (tgt := 113) d_M_keeper_82 (by decide) ?_
        refine s_iload_n (q := 114) d_M_keeper_113 rfl rfl ?_
        refine g_callS (q := 117) d_M_keeper_114 rfl ml_M_78 mx_M_isTable ms_M_isTable t_M_isTable rfl rfl (Nat.le_of_ble_eq_true rfl) (by decide) ?_
        refine s_if_eq (tgt := 125) (q := 120) d_M_keeper_117 (by decide) rfl (fun z9 => absurd z9 (bI_dn.mpr (inT ht))) (fun _ => ?_)
        refine s_iload (q := 122) d_M_keeper_120 rfl rfl ?_
        refine s_if_ne (tgt := 128) (q := 125) d_M_keeper_122 (by decide) rfl (fun _ => ?_) (fun z9 => absurd z9 (by decide))
        exact absurd (KeepOK_2.mpr (by rw [sub1 (by first | exact h_60.1)] at h_72; (try simp only [bI_d, bI_dn, strV, remI] at *); simp only [i_le, i_lt, i_eq, tI_0, tI_1, tI_2, tI_3, tI_4, tI_7, tI_8, tI_10, tI_12, tI_13, tI_14, tI_40, tI_99, tI_100, tI_1000, tI_m1000, tI_m1, tI_mil] at *; omega)) hk
  by_cases k3 : kd = 3
  · subst k3
    refine Ct_of false (by decide) (fun h => by cases h) (Nat.le_of_ble_eq_true rfl) ?_
    show V l D ac b "SpanStoreModel" c_M_keeper 7 (some .int) false 2 42 0 0 ((some (.int (-2))), 144, mk (X)) 0 0 0 [(0, .ref 122), (1, .int (nI t)), (2, .int 3), (3, .int a), (4, .int c)] [] 144 (mk X)
    refine s_iload_n (q := 1) d_M_keeper_0 rfl rfl ?_
    refine s_tsOut (tgt := 85) d_M_keeper_1 (by decide) (by decide) ?_
    refine s_iload_n (q := 86) d_M_keeper_85 rfl rfl ?_
    refine s_iconst (v := 3) (q := 87) d_M_keeper_86 rfl ki_3 ?_
    refine s_icmp_ne (tgt := 110) (q := 90) d_M_keeper_87 (by decide) rfl (fun z9 => absurd rfl z9) (fun _ => ?_)
    refine s_iload_n (q := 91) d_M_keeper_90 rfl rfl ?_
    refine s_iconst (v := 1) (q := 92) d_M_keeper_91 rfl ki_1 ?_
    refine s_sipush (v := 1000) (q := 95) d_M_keeper_92 rfl kh_1000 ?_
    refine g_callS (q := 98) d_M_keeper_95 rfl ml_M_74 mx_M_in ms_M_in t_M_in rfl rfl (Nat.le_of_ble_eq_true rfl) (by decide) ?_
    refine s_if_eq (tgt := 110) (q := 101) d_M_keeper_98 (by decide) rfl (fun h_98 => ?_) (fun h_98 => ?_)
    · -- T 98
      rw [bI_d] at h_98
      refine s_iconst (v := 0) (q := 111) d_M_keeper_110 rfl ki_0 ?_
      refine s_istore (q := 113) d_M_keeper_111 rfl (by decide) ?_
      refine s_iload_n (q := 114) d_M_keeper_113 rfl rfl ?_
      refine g_callS (q := 117) d_M_keeper_114 rfl ml_M_78 mx_M_isTable ms_M_isTable t_M_isTable rfl rfl (Nat.le_of_ble_eq_true rfl) (by decide) ?_
      refine s_if_eq (tgt := 125) (q := 120) d_M_keeper_117 (by decide) rfl (fun z9 => absurd z9 (bI_dn.mpr (inT ht))) (fun _ => ?_)
      refine s_iload (q := 122) d_M_keeper_120 rfl rfl ?_
      refine s_if_ne (tgt := 128) (q := 125) d_M_keeper_122 (by decide) rfl (fun z9 => absurd (by decide) z9) (fun _ => ?_)
      refine s_bipush (v := (-2)) (q := 127) d_M_keeper_125 rfl kb_m2 ?_
      exact g_iret d_M_keeper_127 rfl rfl rfl rfl
    · -- F 98
      rw [bI_dn] at h_98
      refine s_iload (q := 103) d_M_keeper_101 rfl rfl ?_
      refine s_if_ne (tgt := 110) (q := 106) d_M_keeper_103 (by decide) rfl (fun h_103 => ?_) (fun h_103 => ?_)
      · -- T 103
        refine s_iconst (v := 0) (q := 111) d_M_keeper_110 rfl ki_0 ?_
        refine s_istore (q := 113) d_M_keeper_111 rfl (by decide) ?_
        refine s_iload_n (q := 114) d_M_keeper_113 rfl rfl ?_
        refine g_callS (q := 117) d_M_keeper_114 rfl ml_M_78 mx_M_isTable ms_M_isTable t_M_isTable rfl rfl (Nat.le_of_ble_eq_true rfl) (by decide) ?_
        refine s_if_eq (tgt := 125) (q := 120) d_M_keeper_117 (by decide) rfl (fun z9 => absurd z9 (bI_dn.mpr (inT ht))) (fun _ => ?_)
        refine s_iload (q := 122) d_M_keeper_120 rfl rfl ?_
        refine s_if_ne (tgt := 128) (q := 125) d_M_keeper_122 (by decide) rfl (fun z9 => absurd (by decide) z9) (fun _ => ?_)
        refine s_bipush (v := (-2)) (q := 127) d_M_keeper_125 rfl kb_m2 ?_
        exact g_iret d_M_keeper_127 rfl rfl rfl rfl
      · -- F 103
        refine s_iconst (v := 1) (q := 107) d_M_keeper_106 rfl ki_1 ?_
        refine s_goto (tgt := 111) d_M_keeper_107 (by decide) ?_
        refine s_istore (q := 113) d_M_keeper_111 rfl (by decide) ?_
        refine s_iload_n (q := 114) d_M_keeper_113 rfl rfl ?_
        refine g_callS (q := 117) d_M_keeper_114 rfl ml_M_78 mx_M_isTable ms_M_isTable t_M_isTable rfl rfl (Nat.le_of_ble_eq_true rfl) (by decide) ?_
        refine s_if_eq (tgt := 125) (q := 120) d_M_keeper_117 (by decide) rfl (fun z9 => absurd z9 (bI_dn.mpr (inT ht))) (fun _ => ?_)
        refine s_iload (q := 122) d_M_keeper_120 rfl rfl ?_
        refine s_if_ne (tgt := 128) (q := 125) d_M_keeper_122 (by decide) rfl (fun _ => ?_) (fun z9 => absurd z9 (by decide))
        exact absurd (KeepOK_3.mpr (by (try simp only [bI_d, bI_dn, strV, remI] at *); simp only [i_le, i_lt, i_eq, tI_0, tI_1, tI_2, tI_3, tI_4, tI_7, tI_8, tI_10, tI_12, tI_13, tI_14, tI_40, tI_99, tI_100, tI_1000, tI_m1000, tI_m1, tI_mil] at *; omega)) hk
  · skip
    refine Ct_of false (by decide) (fun h => by cases h) (Nat.le_of_ble_eq_true rfl) ?_
    show V l D ac b "SpanStoreModel" c_M_keeper 7 (some .int) false 2 42 0 0 ((some (.int (-2))), 144, mk (X)) 0 0 0 [(0, .ref 122), (1, .int (nI t)), (2, .int kd), (3, .int a), (4, .int c)] [] 144 (mk X)
    refine s_iload_n (q := 1) d_M_keeper_0 rfl rfl ?_
    refine s_tsOut (tgt := 85) d_M_keeper_1 (by rw [i_eq, tI_0] at k0; rw [i_eq, tI_1] at k1; rw [i_eq, tI_2] at k2; omega) (by decide) ?_
    refine s_iload_n (q := 86) d_M_keeper_85 rfl rfl ?_
    refine s_iconst (v := 3) (q := 87) d_M_keeper_86 rfl ki_3 ?_
    refine s_icmp_ne (tgt := 110) (q := 90) d_M_keeper_87 (by decide) rfl (fun _ => ?_) (fun z9 => absurd z9 k3)
    refine s_iconst (v := 0) (q := 111) d_M_keeper_110 rfl ki_0 ?_
    refine s_istore (q := 113) d_M_keeper_111 rfl (by decide) ?_
    refine s_iload_n (q := 114) d_M_keeper_113 rfl rfl ?_
    refine g_callS (q := 117) d_M_keeper_114 rfl ml_M_78 mx_M_isTable ms_M_isTable t_M_isTable rfl rfl (Nat.le_of_ble_eq_true rfl) (by decide) ?_
    refine s_if_eq (tgt := 125) (q := 120) d_M_keeper_117 (by decide) rfl (fun z9 => absurd z9 (bI_dn.mpr (inT ht))) (fun _ => ?_)
    refine s_iload (q := 122) d_M_keeper_120 rfl rfl ?_
    refine s_if_ne (tgt := 128) (q := 125) d_M_keeper_122 (by decide) rfl (fun z9 => absurd (by decide) z9) (fun _ => ?_)
    refine s_bipush (v := (-2)) (q := 127) d_M_keeper_125 rfl kb_m2 ?_
    exact g_iret d_M_keeper_127 rfl rfl rfl rfl
theorem t_M_keeper_S {X : RAM} {t m : Nat} {kd a c : Int32} (ht : t < 2) (hk : KeepOK kd a c) (hs : ¬ X 134 t = 0) : CG l D ac b y_M_keeper c_M_keeper 7 (some .int) 2 42 [.ref 122, .int (nI t), .int kd, .int a, .int c] X (some (.int (-3))) (X) := by
  by_cases k0 : kd = 0
  · subst k0
    refine Ct_of false (by decide) (fun h => by cases h) (Nat.le_of_ble_eq_true rfl) ?_
    show V l D ac b "SpanStoreModel" c_M_keeper 7 (some .int) false 2 42 0 0 ((some (.int (-3))), 144, mk (X)) 0 0 0 [(0, .ref 122), (1, .int (nI t)), (2, .int 0), (3, .int a), (4, .int c)] [] 144 (mk X)
    refine s_iload_n (q := 1) d_M_keeper_0 rfl rfl ?_
    refine s_tsIn (tgt := 28) d_M_keeper_1 (by decide) (by decide) rfl (by decide) ?_
    refine s_iload_n (q := 29) d_M_keeper_28 rfl rfl ?_
    refine s_iconst (v := 1) (q := 30) d_M_keeper_29 rfl ki_1 ?_
    refine s_bipush (v := 12) (q := 32) d_M_keeper_30 rfl kb_12 ?_
    refine g_callS (q := 35) d_M_keeper_32 rfl ml_M_74 mx_M_in ms_M_in t_M_in rfl rfl (Nat.le_of_ble_eq_true rfl) (by decide) ?_
    refine s_if_eq (tgt := 47) (q := 38) d_M_keeper_35 (by decide) rfl (fun h_35 => ?_) (fun h_35 => ?_)
    · -- T 35
      rw [bI_d] at h_35
      refine s_iconst (v := 0) (q := 48) d_M_keeper_47 rfl ki_0 ?_
      refine s_istore (q := 50) d_M_keeper_48 rfl (by decide) ?_
      refine s_goto (tgt := 113) d_M_keeper_50 (by decide) ?_
      refine s_iload_n (q := 114) d_M_keeper_113 rfl rfl ?_
      refine g_callS (q := 117) d_M_keeper_114 rfl ml_M_78 mx_M_isTable ms_M_isTable t_M_isTable rfl rfl (Nat.le_of_ble_eq_true rfl) (by decide) ?_
      refine s_if_eq (tgt := 125) (q := 120) d_M_keeper_117 (by decide) rfl (fun z9 => absurd z9 (bI_dn.mpr (inT ht))) (fun _ => ?_)
      refine s_iload (q := 122) d_M_keeper_120 rfl rfl ?_
      refine s_if_ne (tgt := 128) (q := 125) d_M_keeper_122 (by decide) rfl (fun z9 => absurd (by decide) z9) (fun _ => ?_)
      exfalso; have hk := KeepOK_0.mp hk; (try simp only [bI_d, bI_dn, strV, remI] at *); simp only [i_le, i_lt, i_eq, tI_0, tI_1, tI_2, tI_3, tI_4, tI_7, tI_8, tI_10, tI_12, tI_13, tI_14, tI_40, tI_99, tI_100, tI_1000, tI_m1000, tI_m1, tI_mil] at *; omega
    · -- F 35
      rw [bI_dn] at h_35
      refine s_iload (q := 40) d_M_keeper_38 rfl rfl ?_
      refine s_if_ne (tgt := 47) (q := 43) d_M_keeper_40 (by decide) rfl (fun h_40 => ?_) (fun h_40 => ?_)
      · -- T 40
        refine s_iconst (v := 0) (q := 48) d_M_keeper_47 rfl ki_0 ?_
        refine s_istore (q := 50) d_M_keeper_48 rfl (by decide) ?_
        refine s_goto (tgt := 113) d_M_keeper_50 (by decide) ?_
        refine s_iload_n (q := 114) d_M_keeper_113 rfl rfl ?_
        refine g_callS (q := 117) d_M_keeper_114 rfl ml_M_78 mx_M_isTable ms_M_isTable t_M_isTable rfl rfl (Nat.le_of_ble_eq_true rfl) (by decide) ?_
        refine s_if_eq (tgt := 125) (q := 120) d_M_keeper_117 (by decide) rfl (fun z9 => absurd z9 (bI_dn.mpr (inT ht))) (fun _ => ?_)
        refine s_iload (q := 122) d_M_keeper_120 rfl rfl ?_
        refine s_if_ne (tgt := 128) (q := 125) d_M_keeper_122 (by decide) rfl (fun z9 => absurd (by decide) z9) (fun _ => ?_)
        exfalso; have hk := KeepOK_0.mp hk; (try simp only [bI_d, bI_dn, strV, remI] at *); simp only [i_le, i_lt, i_eq, tI_0, tI_1, tI_2, tI_3, tI_4, tI_7, tI_8, tI_10, tI_12, tI_13, tI_14, tI_40, tI_99, tI_100, tI_1000, tI_m1000, tI_m1, tI_mil] at *; omega
      · -- F 40
        refine s_iconst (v := 1) (q := 44) d_M_keeper_43 rfl ki_1 ?_
        refine s_goto (tgt := 48) d_M_keeper_44 (by decide) ?_
        refine s_istore (q := 50) d_M_keeper_48 rfl (by decide) ?_
        refine s_goto (tgt := 113) d_M_keeper_50 (by decide) ?_
        refine s_iload_n (q := 114) d_M_keeper_113 rfl rfl ?_
        refine g_callS (q := 117) d_M_keeper_114 rfl ml_M_78 mx_M_isTable ms_M_isTable t_M_isTable rfl rfl (Nat.le_of_ble_eq_true rfl) (by decide) ?_
        refine s_if_eq (tgt := 125) (q := 120) d_M_keeper_117 (by decide) rfl (fun z9 => absurd z9 (bI_dn.mpr (inT ht))) (fun _ => ?_)
        refine s_iload (q := 122) d_M_keeper_120 rfl rfl ?_
        refine s_if_ne (tgt := 128) (q := 125) d_M_keeper_122 (by decide) rfl (fun _ => ?_) (fun z9 => absurd z9 (by decide))
        refine s_aload_n (q := 129) d_M_keeper_128 rfl rfl (Or.inr ⟨_, rfl⟩) ?_
        refine g_getr (q := 132) d_M_keeper_129 rfl fl_M_44 skM rfl ?_
        refine s_iload_n (q := 133) d_M_keeper_132 rfl rfl ?_
        refine g_zald (q := 134) d_M_keeper_133 rfl sm_11 (by omega) rfl ht ?_
        refine s_if_eq (tgt := 140) (q := 137) d_M_keeper_134 (by decide) rfl (fun z9 => absurd z9 hs) (fun _ => ?_)
        refine s_bipush (v := (-3)) (q := 139) d_M_keeper_137 rfl kb_m3 ?_
        exact g_iret d_M_keeper_139 rfl rfl rfl rfl
  by_cases k1 : kd = 1
  · subst k1
    refine Ct_of false (by decide) (fun h => by cases h) (Nat.le_of_ble_eq_true rfl) ?_
    show V l D ac b "SpanStoreModel" c_M_keeper 7 (some .int) false 2 42 0 0 ((some (.int (-3))), 144, mk (X)) 0 0 0 [(0, .ref 122), (1, .int (nI t)), (2, .int 1), (3, .int a), (4, .int c)] [] 144 (mk X)
    refine s_iload_n (q := 1) d_M_keeper_0 rfl rfl ?_
    refine s_tsIn (tgt := 28) d_M_keeper_1 (by decide) (by decide) rfl (by decide) ?_
    refine s_iload_n (q := 29) d_M_keeper_28 rfl rfl ?_
    refine s_iconst (v := 1) (q := 30) d_M_keeper_29 rfl ki_1 ?_
    refine s_bipush (v := 12) (q := 32) d_M_keeper_30 rfl kb_12 ?_
    refine g_callS (q := 35) d_M_keeper_32 rfl ml_M_74 mx_M_in ms_M_in t_M_in rfl rfl (Nat.le_of_ble_eq_true rfl) (by decide) ?_
    refine s_if_eq (tgt := 47) (q := 38) d_M_keeper_35 (by decide) rfl (fun h_35 => ?_) (fun h_35 => ?_)
    · -- T 35
      rw [bI_d] at h_35
      refine s_iconst (v := 0) (q := 48) d_M_keeper_47 rfl ki_0 ?_
      refine s_istore (q := 50) d_M_keeper_48 rfl (by decide) ?_
      refine s_goto (tgt := 113) d_M_keeper_50 (by decide) ?_
      refine s_iload_n (q := 114) d_M_keeper_113 rfl rfl ?_
      refine g_callS (q := 117) d_M_keeper_114 rfl ml_M_78 mx_M_isTable ms_M_isTable t_M_isTable rfl rfl (Nat.le_of_ble_eq_true rfl) (by decide) ?_
      refine s_if_eq (tgt := 125) (q := 120) d_M_keeper_117 (by decide) rfl (fun z9 => absurd z9 (bI_dn.mpr (inT ht))) (fun _ => ?_)
      refine s_iload (q := 122) d_M_keeper_120 rfl rfl ?_
      refine s_if_ne (tgt := 128) (q := 125) d_M_keeper_122 (by decide) rfl (fun z9 => absurd (by decide) z9) (fun _ => ?_)
      exfalso; have hk := KeepOK_1.mp hk; (try simp only [bI_d, bI_dn, strV, remI] at *); simp only [i_le, i_lt, i_eq, tI_0, tI_1, tI_2, tI_3, tI_4, tI_7, tI_8, tI_10, tI_12, tI_13, tI_14, tI_40, tI_99, tI_100, tI_1000, tI_m1000, tI_m1, tI_mil] at *; omega
    · -- F 35
      rw [bI_dn] at h_35
      refine s_iload (q := 40) d_M_keeper_38 rfl rfl ?_
      refine s_if_ne (tgt := 47) (q := 43) d_M_keeper_40 (by decide) rfl (fun h_40 => ?_) (fun h_40 => ?_)
      · -- T 40
        refine s_iconst (v := 0) (q := 48) d_M_keeper_47 rfl ki_0 ?_
        refine s_istore (q := 50) d_M_keeper_48 rfl (by decide) ?_
        refine s_goto (tgt := 113) d_M_keeper_50 (by decide) ?_
        refine s_iload_n (q := 114) d_M_keeper_113 rfl rfl ?_
        refine g_callS (q := 117) d_M_keeper_114 rfl ml_M_78 mx_M_isTable ms_M_isTable t_M_isTable rfl rfl (Nat.le_of_ble_eq_true rfl) (by decide) ?_
        refine s_if_eq (tgt := 125) (q := 120) d_M_keeper_117 (by decide) rfl (fun z9 => absurd z9 (bI_dn.mpr (inT ht))) (fun _ => ?_)
        refine s_iload (q := 122) d_M_keeper_120 rfl rfl ?_
        refine s_if_ne (tgt := 128) (q := 125) d_M_keeper_122 (by decide) rfl (fun z9 => absurd (by decide) z9) (fun _ => ?_)
        exfalso; have hk := KeepOK_1.mp hk; (try simp only [bI_d, bI_dn, strV, remI] at *); simp only [i_le, i_lt, i_eq, tI_0, tI_1, tI_2, tI_3, tI_4, tI_7, tI_8, tI_10, tI_12, tI_13, tI_14, tI_40, tI_99, tI_100, tI_1000, tI_m1000, tI_m1, tI_mil] at *; omega
      · -- F 40
        refine s_iconst (v := 1) (q := 44) d_M_keeper_43 rfl ki_1 ?_
        refine s_goto (tgt := 48) d_M_keeper_44 (by decide) ?_
        refine s_istore (q := 50) d_M_keeper_48 rfl (by decide) ?_
        refine s_goto (tgt := 113) d_M_keeper_50 (by decide) ?_
        refine s_iload_n (q := 114) d_M_keeper_113 rfl rfl ?_
        refine g_callS (q := 117) d_M_keeper_114 rfl ml_M_78 mx_M_isTable ms_M_isTable t_M_isTable rfl rfl (Nat.le_of_ble_eq_true rfl) (by decide) ?_
        refine s_if_eq (tgt := 125) (q := 120) d_M_keeper_117 (by decide) rfl (fun z9 => absurd z9 (bI_dn.mpr (inT ht))) (fun _ => ?_)
        refine s_iload (q := 122) d_M_keeper_120 rfl rfl ?_
        refine s_if_ne (tgt := 128) (q := 125) d_M_keeper_122 (by decide) rfl (fun _ => ?_) (fun z9 => absurd z9 (by decide))
        refine s_aload_n (q := 129) d_M_keeper_128 rfl rfl (Or.inr ⟨_, rfl⟩) ?_
        refine g_getr (q := 132) d_M_keeper_129 rfl fl_M_44 skM rfl ?_
        refine s_iload_n (q := 133) d_M_keeper_132 rfl rfl ?_
        refine g_zald (q := 134) d_M_keeper_133 rfl sm_11 (by omega) rfl ht ?_
        refine s_if_eq (tgt := 140) (q := 137) d_M_keeper_134 (by decide) rfl (fun z9 => absurd z9 hs) (fun _ => ?_)
        refine s_bipush (v := (-3)) (q := 139) d_M_keeper_137 rfl kb_m3 ?_
        exact g_iret d_M_keeper_139 rfl rfl rfl rfl
  by_cases k2 : kd = 2
  · subst k2
    refine Ct_of false (by decide) (fun h => by cases h) (Nat.le_of_ble_eq_true rfl) ?_
    show V l D ac b "SpanStoreModel" c_M_keeper 7 (some .int) false 2 42 0 0 ((some (.int (-3))), 144, mk (X)) 0 0 0 [(0, .ref 122), (1, .int (nI t)), (2, .int 2), (3, .int a), (4, .int c)] [] 144 (mk X)
    refine s_iload_n (q := 1) d_M_keeper_0 rfl rfl ?_
    refine s_tsIn (tgt := 53) d_M_keeper_1 (by decide) (by decide) rfl (by decide) ?_
    refine s_iload_n (q := 54) d_M_keeper_53 rfl rfl ?_
    refine s_iconst (v := 1) (q := 55) d_M_keeper_54 rfl ki_1 ?_
    refine s_bipush (v := 100) (q := 57) d_M_keeper_55 rfl kb_100 ?_
    refine g_callS (q := 60) d_M_keeper_57 rfl ml_M_74 mx_M_in ms_M_in t_M_in rfl rfl (Nat.le_of_ble_eq_true rfl) (by decide) ?_
    refine s_if_eq (tgt := 79) (q := 63) d_M_keeper_60 (by decide) rfl (fun h_60 => ?_) (fun h_60 => ?_)
    · -- T 60
      rw [bI_d] at h_60
      refine s_iconst (v := 0) (q := 80) d_M_keeper_79 rfl ki_0 ?_
      refine s_istore (q := 82) d_M_keeper_80 rfl (by decide) ?_
      refine s_goto (tgt := 113) d_M_keeper_82 (by decide) ?_
      refine s_iload_n (q := 114) d_M_keeper_113 rfl rfl ?_
      refine g_callS (q := 117) d_M_keeper_114 rfl ml_M_78 mx_M_isTable ms_M_isTable t_M_isTable rfl rfl (Nat.le_of_ble_eq_true rfl) (by decide) ?_
      refine s_if_eq (tgt := 125) (q := 120) d_M_keeper_117 (by decide) rfl (fun z9 => absurd z9 (bI_dn.mpr (inT ht))) (fun _ => ?_)
      refine s_iload (q := 122) d_M_keeper_120 rfl rfl ?_
      refine s_if_ne (tgt := 128) (q := 125) d_M_keeper_122 (by decide) rfl (fun z9 => absurd (by decide) z9) (fun _ => ?_)
      exfalso; have hk := KeepOK_2.mp hk; first | (rw [sub1 hk.1.1] at h_72; (try simp only [bI_d, bI_dn, strV, remI] at *); simp only [i_le, i_lt, i_eq, tI_0, tI_1, tI_2, tI_3, tI_4, tI_7, tI_8, tI_10, tI_12, tI_13, tI_14, tI_40, tI_99, tI_100, tI_1000, tI_m1000, tI_m1, tI_mil] at *; omega) | ((try simp only [bI_d, bI_dn, strV, remI] at *); simp only [i_le, i_lt, i_eq, tI_0, tI_1, tI_2, tI_3, tI_4, tI_7, tI_8, tI_10, tI_12, tI_13, tI_14, tI_40, tI_99, tI_100, tI_1000, tI_m1000, tI_m1, tI_mil] at *; omega)
    · -- F 60
      rw [bI_dn] at h_60
      refine s_iload (q := 65) d_M_keeper_63 rfl rfl ?_
      refine s_iconst (v := 0) (q := 66) d_M_keeper_65 rfl ki_0 ?_
      refine s_iload_n (q := 67) d_M_keeper_66 rfl rfl ?_
      refine s_iconst (v := 1) (q := 68) d_M_keeper_67 rfl ki_1 ?_
      refine s_isub (q := 69) d_M_keeper_68 rfl ?_
      refine g_callS (q := 72) d_M_keeper_69 rfl ml_M_74 mx_M_in ms_M_in t_M_in rfl rfl (Nat.le_of_ble_eq_true rfl) (by decide) ?_
      refine s_if_eq (tgt := 79) (q := 75) d_M_keeper_72 (by decide) rfl (fun h_72 => ?_) (fun h_72 => ?_)
      · -- T 72
        rw [bI_d] at h_72
        refine s_iconst (v := 0) (q := 80) d_M_keeper_79 rfl ki_0 ?_
        refine s_istore (q := 82) d_M_keeper_80 rfl (by decide) ?_
        refine s_goto (tgt := 113) d_M_keeper_82 (by decide) ?_
        refine s_iload_n (q := 114) d_M_keeper_113 rfl rfl ?_
        refine g_callS (q := 117) d_M_keeper_114 rfl ml_M_78 mx_M_isTable ms_M_isTable t_M_isTable rfl rfl (Nat.le_of_ble_eq_true rfl) (by decide) ?_
        refine s_if_eq (tgt := 125) (q := 120) d_M_keeper_117 (by decide) rfl (fun z9 => absurd z9 (bI_dn.mpr (inT ht))) (fun _ => ?_)
        refine s_iload (q := 122) d_M_keeper_120 rfl rfl ?_
        refine s_if_ne (tgt := 128) (q := 125) d_M_keeper_122 (by decide) rfl (fun z9 => absurd (by decide) z9) (fun _ => ?_)
        exfalso; have hk := KeepOK_2.mp hk; first | (rw [sub1 hk.1.1] at h_72; (try simp only [bI_d, bI_dn, strV, remI] at *); simp only [i_le, i_lt, i_eq, tI_0, tI_1, tI_2, tI_3, tI_4, tI_7, tI_8, tI_10, tI_12, tI_13, tI_14, tI_40, tI_99, tI_100, tI_1000, tI_m1000, tI_m1, tI_mil] at *; omega) | ((try simp only [bI_d, bI_dn, strV, remI] at *); simp only [i_le, i_lt, i_eq, tI_0, tI_1, tI_2, tI_3, tI_4, tI_7, tI_8, tI_10, tI_12, tI_13, tI_14, tI_40, tI_99, tI_100, tI_1000, tI_m1000, tI_m1, tI_mil] at *; omega)
      · -- F 72
        rw [bI_dn] at h_72
        refine s_iconst (v := 1) (q := 76) d_M_keeper_75 rfl ki_1 ?_
        refine s_goto (tgt := 80) d_M_keeper_76 (by decide) ?_
        refine s_istore (q := 82) d_M_keeper_80 rfl (by decide) ?_
        refine s_goto (tgt := 113) d_M_keeper_82 (by decide) ?_
        refine s_iload_n (q := 114) d_M_keeper_113 rfl rfl ?_
        refine g_callS (q := 117) d_M_keeper_114 rfl ml_M_78 mx_M_isTable ms_M_isTable t_M_isTable rfl rfl (Nat.le_of_ble_eq_true rfl) (by decide) ?_
        refine s_if_eq (tgt := 125) (q := 120) d_M_keeper_117 (by decide) rfl (fun z9 => absurd z9 (bI_dn.mpr (inT ht))) (fun _ => ?_)
        refine s_iload (q := 122) d_M_keeper_120 rfl rfl ?_
        refine s_if_ne (tgt := 128) (q := 125) d_M_keeper_122 (by decide) rfl (fun _ => ?_) (fun z9 => absurd z9 (by decide))
        refine s_aload_n (q := 129) d_M_keeper_128 rfl rfl (Or.inr ⟨_, rfl⟩) ?_
        refine g_getr (q := 132) d_M_keeper_129 rfl fl_M_44 skM rfl ?_
        refine s_iload_n (q := 133) d_M_keeper_132 rfl rfl ?_
        refine g_zald (q := 134) d_M_keeper_133 rfl sm_11 (by omega) rfl ht ?_
        refine s_if_eq (tgt := 140) (q := 137) d_M_keeper_134 (by decide) rfl (fun z9 => absurd z9 hs) (fun _ => ?_)
        refine s_bipush (v := (-3)) (q := 139) d_M_keeper_137 rfl kb_m3 ?_
        exact g_iret d_M_keeper_139 rfl rfl rfl rfl
  by_cases k3 : kd = 3
  · subst k3
    refine Ct_of false (by decide) (fun h => by cases h) (Nat.le_of_ble_eq_true rfl) ?_
    show V l D ac b "SpanStoreModel" c_M_keeper 7 (some .int) false 2 42 0 0 ((some (.int (-3))), 144, mk (X)) 0 0 0 [(0, .ref 122), (1, .int (nI t)), (2, .int 3), (3, .int a), (4, .int c)] [] 144 (mk X)
    refine s_iload_n (q := 1) d_M_keeper_0 rfl rfl ?_
    refine s_tsOut (tgt := 85) d_M_keeper_1 (by decide) (by decide) ?_
    refine s_iload_n (q := 86) d_M_keeper_85 rfl rfl ?_
    refine s_iconst (v := 3) (q := 87) d_M_keeper_86 rfl ki_3 ?_
    refine s_icmp_ne (tgt := 110) (q := 90) d_M_keeper_87 (by decide) rfl (fun z9 => absurd rfl z9) (fun _ => ?_)
    refine s_iload_n (q := 91) d_M_keeper_90 rfl rfl ?_
    refine s_iconst (v := 1) (q := 92) d_M_keeper_91 rfl ki_1 ?_
    refine s_sipush (v := 1000) (q := 95) d_M_keeper_92 rfl kh_1000 ?_
    refine g_callS (q := 98) d_M_keeper_95 rfl ml_M_74 mx_M_in ms_M_in t_M_in rfl rfl (Nat.le_of_ble_eq_true rfl) (by decide) ?_
    refine s_if_eq (tgt := 110) (q := 101) d_M_keeper_98 (by decide) rfl (fun h_98 => ?_) (fun h_98 => ?_)
    · -- T 98
      rw [bI_d] at h_98
      refine s_iconst (v := 0) (q := 111) d_M_keeper_110 rfl ki_0 ?_
      refine s_istore (q := 113) d_M_keeper_111 rfl (by decide) ?_
      refine s_iload_n (q := 114) d_M_keeper_113 rfl rfl ?_
      refine g_callS (q := 117) d_M_keeper_114 rfl ml_M_78 mx_M_isTable ms_M_isTable t_M_isTable rfl rfl (Nat.le_of_ble_eq_true rfl) (by decide) ?_
      refine s_if_eq (tgt := 125) (q := 120) d_M_keeper_117 (by decide) rfl (fun z9 => absurd z9 (bI_dn.mpr (inT ht))) (fun _ => ?_)
      refine s_iload (q := 122) d_M_keeper_120 rfl rfl ?_
      refine s_if_ne (tgt := 128) (q := 125) d_M_keeper_122 (by decide) rfl (fun z9 => absurd (by decide) z9) (fun _ => ?_)
      exfalso; have hk := KeepOK_3.mp hk; (try simp only [bI_d, bI_dn, strV, remI] at *); simp only [i_le, i_lt, i_eq, tI_0, tI_1, tI_2, tI_3, tI_4, tI_7, tI_8, tI_10, tI_12, tI_13, tI_14, tI_40, tI_99, tI_100, tI_1000, tI_m1000, tI_m1, tI_mil] at *; omega
    · -- F 98
      rw [bI_dn] at h_98
      refine s_iload (q := 103) d_M_keeper_101 rfl rfl ?_
      refine s_if_ne (tgt := 110) (q := 106) d_M_keeper_103 (by decide) rfl (fun h_103 => ?_) (fun h_103 => ?_)
      · -- T 103
        refine s_iconst (v := 0) (q := 111) d_M_keeper_110 rfl ki_0 ?_
        refine s_istore (q := 113) d_M_keeper_111 rfl (by decide) ?_
        refine s_iload_n (q := 114) d_M_keeper_113 rfl rfl ?_
        refine g_callS (q := 117) d_M_keeper_114 rfl ml_M_78 mx_M_isTable ms_M_isTable t_M_isTable rfl rfl (Nat.le_of_ble_eq_true rfl) (by decide) ?_
        refine s_if_eq (tgt := 125) (q := 120) d_M_keeper_117 (by decide) rfl (fun z9 => absurd z9 (bI_dn.mpr (inT ht))) (fun _ => ?_)
        refine s_iload (q := 122) d_M_keeper_120 rfl rfl ?_
        refine s_if_ne (tgt := 128) (q := 125) d_M_keeper_122 (by decide) rfl (fun z9 => absurd (by decide) z9) (fun _ => ?_)
        exfalso; have hk := KeepOK_3.mp hk; (try simp only [bI_d, bI_dn, strV, remI] at *); simp only [i_le, i_lt, i_eq, tI_0, tI_1, tI_2, tI_3, tI_4, tI_7, tI_8, tI_10, tI_12, tI_13, tI_14, tI_40, tI_99, tI_100, tI_1000, tI_m1000, tI_m1, tI_mil] at *; omega
      · -- F 103
        refine s_iconst (v := 1) (q := 107) d_M_keeper_106 rfl ki_1 ?_
        refine s_goto (tgt := 111) d_M_keeper_107 (by decide) ?_
        refine s_istore (q := 113) d_M_keeper_111 rfl (by decide) ?_
        refine s_iload_n (q := 114) d_M_keeper_113 rfl rfl ?_
        refine g_callS (q := 117) d_M_keeper_114 rfl ml_M_78 mx_M_isTable ms_M_isTable t_M_isTable rfl rfl (Nat.le_of_ble_eq_true rfl) (by decide) ?_
        refine s_if_eq (tgt := 125) (q := 120) d_M_keeper_117 (by decide) rfl (fun z9 => absurd z9 (bI_dn.mpr (inT ht))) (fun _ => ?_)
        refine s_iload (q := 122) d_M_keeper_120 rfl rfl ?_
        refine s_if_ne (tgt := 128) (q := 125) d_M_keeper_122 (by decide) rfl (fun _ => ?_) (fun z9 => absurd z9 (by decide))
        refine s_aload_n (q := 129) d_M_keeper_128 rfl rfl (Or.inr ⟨_, rfl⟩) ?_
        refine g_getr (q := 132) d_M_keeper_129 rfl fl_M_44 skM rfl ?_
        refine s_iload_n (q := 133) d_M_keeper_132 rfl rfl ?_
        refine g_zald (q := 134) d_M_keeper_133 rfl sm_11 (by omega) rfl ht ?_
        refine s_if_eq (tgt := 140) (q := 137) d_M_keeper_134 (by decide) rfl (fun z9 => absurd z9 hs) (fun _ => ?_)
        refine s_bipush (v := (-3)) (q := 139) d_M_keeper_137 rfl kb_m3 ?_
        exact g_iret d_M_keeper_139 rfl rfl rfl rfl
  · skip
    refine Ct_of false (by decide) (fun h => by cases h) (Nat.le_of_ble_eq_true rfl) ?_
    show V l D ac b "SpanStoreModel" c_M_keeper 7 (some .int) false 2 42 0 0 ((some (.int (-3))), 144, mk (X)) 0 0 0 [(0, .ref 122), (1, .int (nI t)), (2, .int kd), (3, .int a), (4, .int c)] [] 144 (mk X)
    refine s_iload_n (q := 1) d_M_keeper_0 rfl rfl ?_
    refine s_tsOut (tgt := 85) d_M_keeper_1 (by rw [i_eq, tI_0] at k0; rw [i_eq, tI_1] at k1; rw [i_eq, tI_2] at k2; omega) (by decide) ?_
    refine s_iload_n (q := 86) d_M_keeper_85 rfl rfl ?_
    refine s_iconst (v := 3) (q := 87) d_M_keeper_86 rfl ki_3 ?_
    refine s_icmp_ne (tgt := 110) (q := 90) d_M_keeper_87 (by decide) rfl (fun _ => ?_) (fun z9 => absurd z9 k3)
    refine s_iconst (v := 0) (q := 111) d_M_keeper_110 rfl ki_0 ?_
    refine s_istore (q := 113) d_M_keeper_111 rfl (by decide) ?_
    refine s_iload_n (q := 114) d_M_keeper_113 rfl rfl ?_
    refine g_callS (q := 117) d_M_keeper_114 rfl ml_M_78 mx_M_isTable ms_M_isTable t_M_isTable rfl rfl (Nat.le_of_ble_eq_true rfl) (by decide) ?_
    refine s_if_eq (tgt := 125) (q := 120) d_M_keeper_117 (by decide) rfl (fun z9 => absurd z9 (bI_dn.mpr (inT ht))) (fun _ => ?_)
    refine s_iload (q := 122) d_M_keeper_120 rfl rfl ?_
    refine s_if_ne (tgt := 128) (q := 125) d_M_keeper_122 (by decide) rfl (fun z9 => absurd (by decide) z9) (fun _ => ?_)
    exfalso; simp [KeepOK, k0, k1, k2, k3] at hk
theorem t_M_keeper_F {X : RAM} {t m : Nat} {kd a c : Int32} (ht : t < 2) (hk : KeepOK kd a c) (hs : X 134 t = 0) (hm : X 135 t = nI 4) : CG l D ac b y_M_keeper c_M_keeper 7 (some .int) 2 42 [.ref 122, .int (nI t), .int kd, .int a, .int c] X (some (.int (-4))) (X) := by
  by_cases k0 : kd = 0
  · subst k0
    refine Ct_of false (by decide) (fun h => by cases h) (Nat.le_of_ble_eq_true rfl) ?_
    show V l D ac b "SpanStoreModel" c_M_keeper 7 (some .int) false 2 42 0 0 ((some (.int (-4))), 144, mk (X)) 0 0 0 [(0, .ref 122), (1, .int (nI t)), (2, .int 0), (3, .int a), (4, .int c)] [] 144 (mk X)
    refine s_iload_n (q := 1) d_M_keeper_0 rfl rfl ?_
    refine s_tsIn (tgt := 28) d_M_keeper_1 (by decide) (by decide) rfl (by decide) ?_
    refine s_iload_n (q := 29) d_M_keeper_28 rfl rfl ?_
    refine s_iconst (v := 1) (q := 30) d_M_keeper_29 rfl ki_1 ?_
    refine s_bipush (v := 12) (q := 32) d_M_keeper_30 rfl kb_12 ?_
    refine g_callS (q := 35) d_M_keeper_32 rfl ml_M_74 mx_M_in ms_M_in t_M_in rfl rfl (Nat.le_of_ble_eq_true rfl) (by decide) ?_
    refine s_if_eq (tgt := 47) (q := 38) d_M_keeper_35 (by decide) rfl (fun h_35 => ?_) (fun h_35 => ?_)
    · -- T 35
      rw [bI_d] at h_35
      refine s_iconst (v := 0) (q := 48) d_M_keeper_47 rfl ki_0 ?_
      refine s_istore (q := 50) d_M_keeper_48 rfl (by decide) ?_
      refine s_goto (tgt := 113) d_M_keeper_50 (by decide) ?_
      refine s_iload_n (q := 114) d_M_keeper_113 rfl rfl ?_
      refine g_callS (q := 117) d_M_keeper_114 rfl ml_M_78 mx_M_isTable ms_M_isTable t_M_isTable rfl rfl (Nat.le_of_ble_eq_true rfl) (by decide) ?_
      refine s_if_eq (tgt := 125) (q := 120) d_M_keeper_117 (by decide) rfl (fun z9 => absurd z9 (bI_dn.mpr (inT ht))) (fun _ => ?_)
      refine s_iload (q := 122) d_M_keeper_120 rfl rfl ?_
      refine s_if_ne (tgt := 128) (q := 125) d_M_keeper_122 (by decide) rfl (fun z9 => absurd (by decide) z9) (fun _ => ?_)
      exfalso; have hk := KeepOK_0.mp hk; (try simp only [bI_d, bI_dn, strV, remI] at *); simp only [i_le, i_lt, i_eq, tI_0, tI_1, tI_2, tI_3, tI_4, tI_7, tI_8, tI_10, tI_12, tI_13, tI_14, tI_40, tI_99, tI_100, tI_1000, tI_m1000, tI_m1, tI_mil] at *; omega
    · -- F 35
      rw [bI_dn] at h_35
      refine s_iload (q := 40) d_M_keeper_38 rfl rfl ?_
      refine s_if_ne (tgt := 47) (q := 43) d_M_keeper_40 (by decide) rfl (fun h_40 => ?_) (fun h_40 => ?_)
      · -- T 40
        refine s_iconst (v := 0) (q := 48) d_M_keeper_47 rfl ki_0 ?_
        refine s_istore (q := 50) d_M_keeper_48 rfl (by decide) ?_
        refine s_goto (tgt := 113) d_M_keeper_50 (by decide) ?_
        refine s_iload_n (q := 114) d_M_keeper_113 rfl rfl ?_
        refine g_callS (q := 117) d_M_keeper_114 rfl ml_M_78 mx_M_isTable ms_M_isTable t_M_isTable rfl rfl (Nat.le_of_ble_eq_true rfl) (by decide) ?_
        refine s_if_eq (tgt := 125) (q := 120) d_M_keeper_117 (by decide) rfl (fun z9 => absurd z9 (bI_dn.mpr (inT ht))) (fun _ => ?_)
        refine s_iload (q := 122) d_M_keeper_120 rfl rfl ?_
        refine s_if_ne (tgt := 128) (q := 125) d_M_keeper_122 (by decide) rfl (fun z9 => absurd (by decide) z9) (fun _ => ?_)
        exfalso; have hk := KeepOK_0.mp hk; (try simp only [bI_d, bI_dn, strV, remI] at *); simp only [i_le, i_lt, i_eq, tI_0, tI_1, tI_2, tI_3, tI_4, tI_7, tI_8, tI_10, tI_12, tI_13, tI_14, tI_40, tI_99, tI_100, tI_1000, tI_m1000, tI_m1, tI_mil] at *; omega
      · -- F 40
        refine s_iconst (v := 1) (q := 44) d_M_keeper_43 rfl ki_1 ?_
        refine s_goto (tgt := 48) d_M_keeper_44 (by decide) ?_
        refine s_istore (q := 50) d_M_keeper_48 rfl (by decide) ?_
        refine s_goto (tgt := 113) d_M_keeper_50 (by decide) ?_
        refine s_iload_n (q := 114) d_M_keeper_113 rfl rfl ?_
        refine g_callS (q := 117) d_M_keeper_114 rfl ml_M_78 mx_M_isTable ms_M_isTable t_M_isTable rfl rfl (Nat.le_of_ble_eq_true rfl) (by decide) ?_
        refine s_if_eq (tgt := 125) (q := 120) d_M_keeper_117 (by decide) rfl (fun z9 => absurd z9 (bI_dn.mpr (inT ht))) (fun _ => ?_)
        refine s_iload (q := 122) d_M_keeper_120 rfl rfl ?_
        refine s_if_ne (tgt := 128) (q := 125) d_M_keeper_122 (by decide) rfl (fun _ => ?_) (fun z9 => absurd z9 (by decide))
        refine s_aload_n (q := 129) d_M_keeper_128 rfl rfl (Or.inr ⟨_, rfl⟩) ?_
        refine g_getr (q := 132) d_M_keeper_129 rfl fl_M_44 skM rfl ?_
        refine s_iload_n (q := 133) d_M_keeper_132 rfl rfl ?_
        refine g_zald (q := 134) d_M_keeper_133 rfl sm_11 (by omega) rfl ht ?_
        refine s_if_eq (tgt := 140) (q := 137) d_M_keeper_134 (by decide) rfl (fun _ => ?_) (fun z9 => absurd hs z9)
        refine s_aload_n (q := 141) d_M_keeper_140 rfl rfl (Or.inr ⟨_, rfl⟩) ?_
        refine g_getr (q := 144) d_M_keeper_141 rfl fl_M_47 skM rfl ?_
        refine s_iload_n (q := 145) d_M_keeper_144 rfl rfl ?_
        refine g_ialv (v := nI 4) (q := 146) d_M_keeper_145 rfl sm_12 (by omega) rfl ht hm ?_
        refine s_iconst (v := 4) (q := 147) d_M_keeper_146 rfl ki_4 ?_
        refine s_icmp_ne (tgt := 153) (q := 150) d_M_keeper_147 (by decide) rfl (fun z9 => absurd rfl z9) (fun _ => ?_)
        refine s_bipush (v := (-4)) (q := 152) d_M_keeper_150 rfl kb_m4 ?_
        exact g_iret d_M_keeper_152 rfl rfl rfl rfl
  by_cases k1 : kd = 1
  · subst k1
    refine Ct_of false (by decide) (fun h => by cases h) (Nat.le_of_ble_eq_true rfl) ?_
    show V l D ac b "SpanStoreModel" c_M_keeper 7 (some .int) false 2 42 0 0 ((some (.int (-4))), 144, mk (X)) 0 0 0 [(0, .ref 122), (1, .int (nI t)), (2, .int 1), (3, .int a), (4, .int c)] [] 144 (mk X)
    refine s_iload_n (q := 1) d_M_keeper_0 rfl rfl ?_
    refine s_tsIn (tgt := 28) d_M_keeper_1 (by decide) (by decide) rfl (by decide) ?_
    refine s_iload_n (q := 29) d_M_keeper_28 rfl rfl ?_
    refine s_iconst (v := 1) (q := 30) d_M_keeper_29 rfl ki_1 ?_
    refine s_bipush (v := 12) (q := 32) d_M_keeper_30 rfl kb_12 ?_
    refine g_callS (q := 35) d_M_keeper_32 rfl ml_M_74 mx_M_in ms_M_in t_M_in rfl rfl (Nat.le_of_ble_eq_true rfl) (by decide) ?_
    refine s_if_eq (tgt := 47) (q := 38) d_M_keeper_35 (by decide) rfl (fun h_35 => ?_) (fun h_35 => ?_)
    · -- T 35
      rw [bI_d] at h_35
      refine s_iconst (v := 0) (q := 48) d_M_keeper_47 rfl ki_0 ?_
      refine s_istore (q := 50) d_M_keeper_48 rfl (by decide) ?_
      refine s_goto (tgt := 113) d_M_keeper_50 (by decide) ?_
      refine s_iload_n (q := 114) d_M_keeper_113 rfl rfl ?_
      refine g_callS (q := 117) d_M_keeper_114 rfl ml_M_78 mx_M_isTable ms_M_isTable t_M_isTable rfl rfl (Nat.le_of_ble_eq_true rfl) (by decide) ?_
      refine s_if_eq (tgt := 125) (q := 120) d_M_keeper_117 (by decide) rfl (fun z9 => absurd z9 (bI_dn.mpr (inT ht))) (fun _ => ?_)
      refine s_iload (q := 122) d_M_keeper_120 rfl rfl ?_
      refine s_if_ne (tgt := 128) (q := 125) d_M_keeper_122 (by decide) rfl (fun z9 => absurd (by decide) z9) (fun _ => ?_)
      exfalso; have hk := KeepOK_1.mp hk; (try simp only [bI_d, bI_dn, strV, remI] at *); simp only [i_le, i_lt, i_eq, tI_0, tI_1, tI_2, tI_3, tI_4, tI_7, tI_8, tI_10, tI_12, tI_13, tI_14, tI_40, tI_99, tI_100, tI_1000, tI_m1000, tI_m1, tI_mil] at *; omega
    · -- F 35
      rw [bI_dn] at h_35
      refine s_iload (q := 40) d_M_keeper_38 rfl rfl ?_
      refine s_if_ne (tgt := 47) (q := 43) d_M_keeper_40 (by decide) rfl (fun h_40 => ?_) (fun h_40 => ?_)
      · -- T 40
        refine s_iconst (v := 0) (q := 48) d_M_keeper_47 rfl ki_0 ?_
        refine s_istore (q := 50) d_M_keeper_48 rfl (by decide) ?_
        refine s_goto (tgt := 113) d_M_keeper_50 (by decide) ?_
        refine s_iload_n (q := 114) d_M_keeper_113 rfl rfl ?_
        refine g_callS (q := 117) d_M_keeper_114 rfl ml_M_78 mx_M_isTable ms_M_isTable t_M_isTable rfl rfl (Nat.le_of_ble_eq_true rfl) (by decide) ?_
        refine s_if_eq (tgt := 125) (q := 120) d_M_keeper_117 (by decide) rfl (fun z9 => absurd z9 (bI_dn.mpr (inT ht))) (fun _ => ?_)
        refine s_iload (q := 122) d_M_keeper_120 rfl rfl ?_
        refine s_if_ne (tgt := 128) (q := 125) d_M_keeper_122 (by decide) rfl (fun z9 => absurd (by decide) z9) (fun _ => ?_)
        exfalso; have hk := KeepOK_1.mp hk; (try simp only [bI_d, bI_dn, strV, remI] at *); simp only [i_le, i_lt, i_eq, tI_0, tI_1, tI_2, tI_3, tI_4, tI_7, tI_8, tI_10, tI_12, tI_13, tI_14, tI_40, tI_99, tI_100, tI_1000, tI_m1000, tI_m1, tI_mil] at *; omega
      · -- F 40
        refine s_iconst (v := 1) (q := 44) d_M_keeper_43 rfl ki_1 ?_
        refine s_goto (tgt := 48) d_M_keeper_44 (by decide) ?_
        refine s_istore (q := 50) d_M_keeper_48 rfl (by decide) ?_
        refine s_goto (tgt := 113) d_M_keeper_50 (by decide) ?_
        refine s_iload_n (q := 114) d_M_keeper_113 rfl rfl ?_
        refine g_callS (q := 117) d_M_keeper_114 rfl ml_M_78 mx_M_isTable ms_M_isTable t_M_isTable rfl rfl (Nat.le_of_ble_eq_true rfl) (by decide) ?_
        refine s_if_eq (tgt := 125) (q := 120) d_M_keeper_117 (by decide) rfl (fun z9 => absurd z9 (bI_dn.mpr (inT ht))) (fun _ => ?_)
        refine s_iload (q := 122) d_M_keeper_120 rfl rfl ?_
        refine s_if_ne (tgt := 128) (q := 125) d_M_keeper_122 (by decide) rfl (fun _ => ?_) (fun z9 => absurd z9 (by decide))
        refine s_aload_n (q := 129) d_M_keeper_128 rfl rfl (Or.inr ⟨_, rfl⟩) ?_
        refine g_getr (q := 132) d_M_keeper_129 rfl fl_M_44 skM rfl ?_
        refine s_iload_n (q := 133) d_M_keeper_132 rfl rfl ?_
        refine g_zald (q := 134) d_M_keeper_133 rfl sm_11 (by omega) rfl ht ?_
        refine s_if_eq (tgt := 140) (q := 137) d_M_keeper_134 (by decide) rfl (fun _ => ?_) (fun z9 => absurd hs z9)
        refine s_aload_n (q := 141) d_M_keeper_140 rfl rfl (Or.inr ⟨_, rfl⟩) ?_
        refine g_getr (q := 144) d_M_keeper_141 rfl fl_M_47 skM rfl ?_
        refine s_iload_n (q := 145) d_M_keeper_144 rfl rfl ?_
        refine g_ialv (v := nI 4) (q := 146) d_M_keeper_145 rfl sm_12 (by omega) rfl ht hm ?_
        refine s_iconst (v := 4) (q := 147) d_M_keeper_146 rfl ki_4 ?_
        refine s_icmp_ne (tgt := 153) (q := 150) d_M_keeper_147 (by decide) rfl (fun z9 => absurd rfl z9) (fun _ => ?_)
        refine s_bipush (v := (-4)) (q := 152) d_M_keeper_150 rfl kb_m4 ?_
        exact g_iret d_M_keeper_152 rfl rfl rfl rfl
  by_cases k2 : kd = 2
  · subst k2
    refine Ct_of false (by decide) (fun h => by cases h) (Nat.le_of_ble_eq_true rfl) ?_
    show V l D ac b "SpanStoreModel" c_M_keeper 7 (some .int) false 2 42 0 0 ((some (.int (-4))), 144, mk (X)) 0 0 0 [(0, .ref 122), (1, .int (nI t)), (2, .int 2), (3, .int a), (4, .int c)] [] 144 (mk X)
    refine s_iload_n (q := 1) d_M_keeper_0 rfl rfl ?_
    refine s_tsIn (tgt := 53) d_M_keeper_1 (by decide) (by decide) rfl (by decide) ?_
    refine s_iload_n (q := 54) d_M_keeper_53 rfl rfl ?_
    refine s_iconst (v := 1) (q := 55) d_M_keeper_54 rfl ki_1 ?_
    refine s_bipush (v := 100) (q := 57) d_M_keeper_55 rfl kb_100 ?_
    refine g_callS (q := 60) d_M_keeper_57 rfl ml_M_74 mx_M_in ms_M_in t_M_in rfl rfl (Nat.le_of_ble_eq_true rfl) (by decide) ?_
    refine s_if_eq (tgt := 79) (q := 63) d_M_keeper_60 (by decide) rfl (fun h_60 => ?_) (fun h_60 => ?_)
    · -- T 60
      rw [bI_d] at h_60
      refine s_iconst (v := 0) (q := 80) d_M_keeper_79 rfl ki_0 ?_
      refine s_istore (q := 82) d_M_keeper_80 rfl (by decide) ?_
      refine s_goto (tgt := 113) d_M_keeper_82 (by decide) ?_
      refine s_iload_n (q := 114) d_M_keeper_113 rfl rfl ?_
      refine g_callS (q := 117) d_M_keeper_114 rfl ml_M_78 mx_M_isTable ms_M_isTable t_M_isTable rfl rfl (Nat.le_of_ble_eq_true rfl) (by decide) ?_
      refine s_if_eq (tgt := 125) (q := 120) d_M_keeper_117 (by decide) rfl (fun z9 => absurd z9 (bI_dn.mpr (inT ht))) (fun _ => ?_)
      refine s_iload (q := 122) d_M_keeper_120 rfl rfl ?_
      refine s_if_ne (tgt := 128) (q := 125) d_M_keeper_122 (by decide) rfl (fun z9 => absurd (by decide) z9) (fun _ => ?_)
      exfalso; have hk := KeepOK_2.mp hk; first | (rw [sub1 hk.1.1] at h_72; (try simp only [bI_d, bI_dn, strV, remI] at *); simp only [i_le, i_lt, i_eq, tI_0, tI_1, tI_2, tI_3, tI_4, tI_7, tI_8, tI_10, tI_12, tI_13, tI_14, tI_40, tI_99, tI_100, tI_1000, tI_m1000, tI_m1, tI_mil] at *; omega) | ((try simp only [bI_d, bI_dn, strV, remI] at *); simp only [i_le, i_lt, i_eq, tI_0, tI_1, tI_2, tI_3, tI_4, tI_7, tI_8, tI_10, tI_12, tI_13, tI_14, tI_40, tI_99, tI_100, tI_1000, tI_m1000, tI_m1, tI_mil] at *; omega)
    · -- F 60
      rw [bI_dn] at h_60
      refine s_iload (q := 65) d_M_keeper_63 rfl rfl ?_
      refine s_iconst (v := 0) (q := 66) d_M_keeper_65 rfl ki_0 ?_
      refine s_iload_n (q := 67) d_M_keeper_66 rfl rfl ?_
      refine s_iconst (v := 1) (q := 68) d_M_keeper_67 rfl ki_1 ?_
      refine s_isub (q := 69) d_M_keeper_68 rfl ?_
      refine g_callS (q := 72) d_M_keeper_69 rfl ml_M_74 mx_M_in ms_M_in t_M_in rfl rfl (Nat.le_of_ble_eq_true rfl) (by decide) ?_
      refine s_if_eq (tgt := 79) (q := 75) d_M_keeper_72 (by decide) rfl (fun h_72 => ?_) (fun h_72 => ?_)
      · -- T 72
        rw [bI_d] at h_72
        refine s_iconst (v := 0) (q := 80) d_M_keeper_79 rfl ki_0 ?_
        refine s_istore (q := 82) d_M_keeper_80 rfl (by decide) ?_
        refine s_goto (tgt := 113) d_M_keeper_82 (by decide) ?_
        refine s_iload_n (q := 114) d_M_keeper_113 rfl rfl ?_
        refine g_callS (q := 117) d_M_keeper_114 rfl ml_M_78 mx_M_isTable ms_M_isTable t_M_isTable rfl rfl (Nat.le_of_ble_eq_true rfl) (by decide) ?_
        refine s_if_eq (tgt := 125) (q := 120) d_M_keeper_117 (by decide) rfl (fun z9 => absurd z9 (bI_dn.mpr (inT ht))) (fun _ => ?_)
        refine s_iload (q := 122) d_M_keeper_120 rfl rfl ?_
        refine s_if_ne (tgt := 128) (q := 125) d_M_keeper_122 (by decide) rfl (fun z9 => absurd (by decide) z9) (fun _ => ?_)
        exfalso; have hk := KeepOK_2.mp hk; first | (rw [sub1 hk.1.1] at h_72; (try simp only [bI_d, bI_dn, strV, remI] at *); simp only [i_le, i_lt, i_eq, tI_0, tI_1, tI_2, tI_3, tI_4, tI_7, tI_8, tI_10, tI_12, tI_13, tI_14, tI_40, tI_99, tI_100, tI_1000, tI_m1000, tI_m1, tI_mil] at *; omega) | ((try simp only [bI_d, bI_dn, strV, remI] at *); simp only [i_le, i_lt, i_eq, tI_0, tI_1, tI_2, tI_3, tI_4, tI_7, tI_8, tI_10, tI_12, tI_13, tI_14, tI_40, tI_99, tI_100, tI_1000, tI_m1000, tI_m1, tI_mil] at *; omega)
      · -- F 72
        rw [bI_dn] at h_72
        refine s_iconst (v := 1) (q := 76) d_M_keeper_75 rfl ki_1 ?_
        refine s_goto (tgt := 80) d_M_keeper_76 (by decide) ?_
        refine s_istore (q := 82) d_M_keeper_80 rfl (by decide) ?_
        refine s_goto (tgt := 113) d_M_keeper_82 (by decide) ?_
        refine s_iload_n (q := 114) d_M_keeper_113 rfl rfl ?_
        refine g_callS (q := 117) d_M_keeper_114 rfl ml_M_78 mx_M_isTable ms_M_isTable t_M_isTable rfl rfl (Nat.le_of_ble_eq_true rfl) (by decide) ?_
        refine s_if_eq (tgt := 125) (q := 120) d_M_keeper_117 (by decide) rfl (fun z9 => absurd z9 (bI_dn.mpr (inT ht))) (fun _ => ?_)
        refine s_iload (q := 122) d_M_keeper_120 rfl rfl ?_
        refine s_if_ne (tgt := 128) (q := 125) d_M_keeper_122 (by decide) rfl (fun _ => ?_) (fun z9 => absurd z9 (by decide))
        refine s_aload_n (q := 129) d_M_keeper_128 rfl rfl (Or.inr ⟨_, rfl⟩) ?_
        refine g_getr (q := 132) d_M_keeper_129 rfl fl_M_44 skM rfl ?_
        refine s_iload_n (q := 133) d_M_keeper_132 rfl rfl ?_
        refine g_zald (q := 134) d_M_keeper_133 rfl sm_11 (by omega) rfl ht ?_
        refine s_if_eq (tgt := 140) (q := 137) d_M_keeper_134 (by decide) rfl (fun _ => ?_) (fun z9 => absurd hs z9)
        refine s_aload_n (q := 141) d_M_keeper_140 rfl rfl (Or.inr ⟨_, rfl⟩) ?_
        refine g_getr (q := 144) d_M_keeper_141 rfl fl_M_47 skM rfl ?_
        refine s_iload_n (q := 145) d_M_keeper_144 rfl rfl ?_
        refine g_ialv (v := nI 4) (q := 146) d_M_keeper_145 rfl sm_12 (by omega) rfl ht hm ?_
        refine s_iconst (v := 4) (q := 147) d_M_keeper_146 rfl ki_4 ?_
        refine s_icmp_ne (tgt := 153) (q := 150) d_M_keeper_147 (by decide) rfl (fun z9 => absurd rfl z9) (fun _ => ?_)
        refine s_bipush (v := (-4)) (q := 152) d_M_keeper_150 rfl kb_m4 ?_
        exact g_iret d_M_keeper_152 rfl rfl rfl rfl
  by_cases k3 : kd = 3
  · subst k3
    refine Ct_of false (by decide) (fun h => by cases h) (Nat.le_of_ble_eq_true rfl) ?_
    show V l D ac b "SpanStoreModel" c_M_keeper 7 (some .int) false 2 42 0 0 ((some (.int (-4))), 144, mk (X)) 0 0 0 [(0, .ref 122), (1, .int (nI t)), (2, .int 3), (3, .int a), (4, .int c)] [] 144 (mk X)
    refine s_iload_n (q := 1) d_M_keeper_0 rfl rfl ?_
    refine s_tsOut (tgt := 85) d_M_keeper_1 (by decide) (by decide) ?_
    refine s_iload_n (q := 86) d_M_keeper_85 rfl rfl ?_
    refine s_iconst (v := 3) (q := 87) d_M_keeper_86 rfl ki_3 ?_
    refine s_icmp_ne (tgt := 110) (q := 90) d_M_keeper_87 (by decide) rfl (fun z9 => absurd rfl z9) (fun _ => ?_)
    refine s_iload_n (q := 91) d_M_keeper_90 rfl rfl ?_
    refine s_iconst (v := 1) (q := 92) d_M_keeper_91 rfl ki_1 ?_
    refine s_sipush (v := 1000) (q := 95) d_M_keeper_92 rfl kh_1000 ?_
    refine g_callS (q := 98) d_M_keeper_95 rfl ml_M_74 mx_M_in ms_M_in t_M_in rfl rfl (Nat.le_of_ble_eq_true rfl) (by decide) ?_
    refine s_if_eq (tgt := 110) (q := 101) d_M_keeper_98 (by decide) rfl (fun h_98 => ?_) (fun h_98 => ?_)
    · -- T 98
      rw [bI_d] at h_98
      refine s_iconst (v := 0) (q := 111) d_M_keeper_110 rfl ki_0 ?_
      refine s_istore (q := 113) d_M_keeper_111 rfl (by decide) ?_
      refine s_iload_n (q := 114) d_M_keeper_113 rfl rfl ?_
      refine g_callS (q := 117) d_M_keeper_114 rfl ml_M_78 mx_M_isTable ms_M_isTable t_M_isTable rfl rfl (Nat.le_of_ble_eq_true rfl) (by decide) ?_
      refine s_if_eq (tgt := 125) (q := 120) d_M_keeper_117 (by decide) rfl (fun z9 => absurd z9 (bI_dn.mpr (inT ht))) (fun _ => ?_)
      refine s_iload (q := 122) d_M_keeper_120 rfl rfl ?_
      refine s_if_ne (tgt := 128) (q := 125) d_M_keeper_122 (by decide) rfl (fun z9 => absurd (by decide) z9) (fun _ => ?_)
      exfalso; have hk := KeepOK_3.mp hk; (try simp only [bI_d, bI_dn, strV, remI] at *); simp only [i_le, i_lt, i_eq, tI_0, tI_1, tI_2, tI_3, tI_4, tI_7, tI_8, tI_10, tI_12, tI_13, tI_14, tI_40, tI_99, tI_100, tI_1000, tI_m1000, tI_m1, tI_mil] at *; omega
    · -- F 98
      rw [bI_dn] at h_98
      refine s_iload (q := 103) d_M_keeper_101 rfl rfl ?_
      refine s_if_ne (tgt := 110) (q := 106) d_M_keeper_103 (by decide) rfl (fun h_103 => ?_) (fun h_103 => ?_)
      · -- T 103
        refine s_iconst (v := 0) (q := 111) d_M_keeper_110 rfl ki_0 ?_
        refine s_istore (q := 113) d_M_keeper_111 rfl (by decide) ?_
        refine s_iload_n (q := 114) d_M_keeper_113 rfl rfl ?_
        refine g_callS (q := 117) d_M_keeper_114 rfl ml_M_78 mx_M_isTable ms_M_isTable t_M_isTable rfl rfl (Nat.le_of_ble_eq_true rfl) (by decide) ?_
        refine s_if_eq (tgt := 125) (q := 120) d_M_keeper_117 (by decide) rfl (fun z9 => absurd z9 (bI_dn.mpr (inT ht))) (fun _ => ?_)
        refine s_iload (q := 122) d_M_keeper_120 rfl rfl ?_
        refine s_if_ne (tgt := 128) (q := 125) d_M_keeper_122 (by decide) rfl (fun z9 => absurd (by decide) z9) (fun _ => ?_)
        exfalso; have hk := KeepOK_3.mp hk; (try simp only [bI_d, bI_dn, strV, remI] at *); simp only [i_le, i_lt, i_eq, tI_0, tI_1, tI_2, tI_3, tI_4, tI_7, tI_8, tI_10, tI_12, tI_13, tI_14, tI_40, tI_99, tI_100, tI_1000, tI_m1000, tI_m1, tI_mil] at *; omega
      · -- F 103
        refine s_iconst (v := 1) (q := 107) d_M_keeper_106 rfl ki_1 ?_
        refine s_goto (tgt := 111) d_M_keeper_107 (by decide) ?_
        refine s_istore (q := 113) d_M_keeper_111 rfl (by decide) ?_
        refine s_iload_n (q := 114) d_M_keeper_113 rfl rfl ?_
        refine g_callS (q := 117) d_M_keeper_114 rfl ml_M_78 mx_M_isTable ms_M_isTable t_M_isTable rfl rfl (Nat.le_of_ble_eq_true rfl) (by decide) ?_
        refine s_if_eq (tgt := 125) (q := 120) d_M_keeper_117 (by decide) rfl (fun z9 => absurd z9 (bI_dn.mpr (inT ht))) (fun _ => ?_)
        refine s_iload (q := 122) d_M_keeper_120 rfl rfl ?_
        refine s_if_ne (tgt := 128) (q := 125) d_M_keeper_122 (by decide) rfl (fun _ => ?_) (fun z9 => absurd z9 (by decide))
        refine s_aload_n (q := 129) d_M_keeper_128 rfl rfl (Or.inr ⟨_, rfl⟩) ?_
        refine g_getr (q := 132) d_M_keeper_129 rfl fl_M_44 skM rfl ?_
        refine s_iload_n (q := 133) d_M_keeper_132 rfl rfl ?_
        refine g_zald (q := 134) d_M_keeper_133 rfl sm_11 (by omega) rfl ht ?_
        refine s_if_eq (tgt := 140) (q := 137) d_M_keeper_134 (by decide) rfl (fun _ => ?_) (fun z9 => absurd hs z9)
        refine s_aload_n (q := 141) d_M_keeper_140 rfl rfl (Or.inr ⟨_, rfl⟩) ?_
        refine g_getr (q := 144) d_M_keeper_141 rfl fl_M_47 skM rfl ?_
        refine s_iload_n (q := 145) d_M_keeper_144 rfl rfl ?_
        refine g_ialv (v := nI 4) (q := 146) d_M_keeper_145 rfl sm_12 (by omega) rfl ht hm ?_
        refine s_iconst (v := 4) (q := 147) d_M_keeper_146 rfl ki_4 ?_
        refine s_icmp_ne (tgt := 153) (q := 150) d_M_keeper_147 (by decide) rfl (fun z9 => absurd rfl z9) (fun _ => ?_)
        refine s_bipush (v := (-4)) (q := 152) d_M_keeper_150 rfl kb_m4 ?_
        exact g_iret d_M_keeper_152 rfl rfl rfl rfl
  · skip
    refine Ct_of false (by decide) (fun h => by cases h) (Nat.le_of_ble_eq_true rfl) ?_
    show V l D ac b "SpanStoreModel" c_M_keeper 7 (some .int) false 2 42 0 0 ((some (.int (-4))), 144, mk (X)) 0 0 0 [(0, .ref 122), (1, .int (nI t)), (2, .int kd), (3, .int a), (4, .int c)] [] 144 (mk X)
    refine s_iload_n (q := 1) d_M_keeper_0 rfl rfl ?_
    refine s_tsOut (tgt := 85) d_M_keeper_1 (by rw [i_eq, tI_0] at k0; rw [i_eq, tI_1] at k1; rw [i_eq, tI_2] at k2; omega) (by decide) ?_
    refine s_iload_n (q := 86) d_M_keeper_85 rfl rfl ?_
    refine s_iconst (v := 3) (q := 87) d_M_keeper_86 rfl ki_3 ?_
    refine s_icmp_ne (tgt := 110) (q := 90) d_M_keeper_87 (by decide) rfl (fun _ => ?_) (fun z9 => absurd z9 k3)
    refine s_iconst (v := 0) (q := 111) d_M_keeper_110 rfl ki_0 ?_
    refine s_istore (q := 113) d_M_keeper_111 rfl (by decide) ?_
    refine s_iload_n (q := 114) d_M_keeper_113 rfl rfl ?_
    refine g_callS (q := 117) d_M_keeper_114 rfl ml_M_78 mx_M_isTable ms_M_isTable t_M_isTable rfl rfl (Nat.le_of_ble_eq_true rfl) (by decide) ?_
    refine s_if_eq (tgt := 125) (q := 120) d_M_keeper_117 (by decide) rfl (fun z9 => absurd z9 (bI_dn.mpr (inT ht))) (fun _ => ?_)
    refine s_iload (q := 122) d_M_keeper_120 rfl rfl ?_
    refine s_if_ne (tgt := 128) (q := 125) d_M_keeper_122 (by decide) rfl (fun z9 => absurd (by decide) z9) (fun _ => ?_)
    exfalso; simp [KeepOK, k0, k1, k2, k3] at hk
theorem t_M_keeper_D {X : RAM} {t m : Nat} {kd a c : Int32} (ht : t < 2) (hk : KeepOK kd a c) (hs : X 134 t = 0) (hm : X 135 t = nI m) (hm4 : m < 4) : CG l D ac b y_M_keeper c_M_keeper 7 (some .int) 2 42 [.ref 122, .int (nI t), .int kd, .int a, .int c] X (some (.int (nI (m + 1)))) (mkpX X t m kd a c) := by
  by_cases k0 : kd = 0
  · subst k0
    refine Ct_of false (by decide) (fun h => by cases h) (Nat.le_of_ble_eq_true rfl) ?_
    show V l D ac b "SpanStoreModel" c_M_keeper 7 (some .int) false 2 42 0 0 ((some (.int (nI (m + 1)))), 144, mk (mkpX X t m 0 a c)) 0 0 0 [(0, .ref 122), (1, .int (nI t)), (2, .int 0), (3, .int a), (4, .int c)] [] 144 (mk X)
    refine s_iload_n (q := 1) d_M_keeper_0 rfl rfl ?_
    refine s_tsIn (tgt := 28) d_M_keeper_1 (by decide) (by decide) rfl (by decide) ?_
    refine s_iload_n (q := 29) d_M_keeper_28 rfl rfl ?_
    refine s_iconst (v := 1) (q := 30) d_M_keeper_29 rfl ki_1 ?_
    refine s_bipush (v := 12) (q := 32) d_M_keeper_30 rfl kb_12 ?_
    refine g_callS (q := 35) d_M_keeper_32 rfl ml_M_74 mx_M_in ms_M_in t_M_in rfl rfl (Nat.le_of_ble_eq_true rfl) (by decide) ?_
    refine s_if_eq (tgt := 47) (q := 38) d_M_keeper_35 (by decide) rfl (fun h_35 => ?_) (fun h_35 => ?_)
    · -- T 35
      rw [bI_d] at h_35
      refine s_iconst (v := 0) (q := 48) d_M_keeper_47 rfl ki_0 ?_
      refine s_istore (q := 50) d_M_keeper_48 rfl (by decide) ?_
      refine s_goto (tgt := 113) d_M_keeper_50 (by decide) ?_
      refine s_iload_n (q := 114) d_M_keeper_113 rfl rfl ?_
      refine g_callS (q := 117) d_M_keeper_114 rfl ml_M_78 mx_M_isTable ms_M_isTable t_M_isTable rfl rfl (Nat.le_of_ble_eq_true rfl) (by decide) ?_
      refine s_if_eq (tgt := 125) (q := 120) d_M_keeper_117 (by decide) rfl (fun z9 => absurd z9 (bI_dn.mpr (inT ht))) (fun _ => ?_)
      refine s_iload (q := 122) d_M_keeper_120 rfl rfl ?_
      refine s_if_ne (tgt := 128) (q := 125) d_M_keeper_122 (by decide) rfl (fun z9 => absurd (by decide) z9) (fun _ => ?_)
      exfalso; have hk := KeepOK_0.mp hk; (try simp only [bI_d, bI_dn, strV, remI] at *); simp only [i_le, i_lt, i_eq, tI_0, tI_1, tI_2, tI_3, tI_4, tI_7, tI_8, tI_10, tI_12, tI_13, tI_14, tI_40, tI_99, tI_100, tI_1000, tI_m1000, tI_m1, tI_mil] at *; omega
    · -- F 35
      rw [bI_dn] at h_35
      refine s_iload (q := 40) d_M_keeper_38 rfl rfl ?_
      refine s_if_ne (tgt := 47) (q := 43) d_M_keeper_40 (by decide) rfl (fun h_40 => ?_) (fun h_40 => ?_)
      · -- T 40
        refine s_iconst (v := 0) (q := 48) d_M_keeper_47 rfl ki_0 ?_
        refine s_istore (q := 50) d_M_keeper_48 rfl (by decide) ?_
        refine s_goto (tgt := 113) d_M_keeper_50 (by decide) ?_
        refine s_iload_n (q := 114) d_M_keeper_113 rfl rfl ?_
        refine g_callS (q := 117) d_M_keeper_114 rfl ml_M_78 mx_M_isTable ms_M_isTable t_M_isTable rfl rfl (Nat.le_of_ble_eq_true rfl) (by decide) ?_
        refine s_if_eq (tgt := 125) (q := 120) d_M_keeper_117 (by decide) rfl (fun z9 => absurd z9 (bI_dn.mpr (inT ht))) (fun _ => ?_)
        refine s_iload (q := 122) d_M_keeper_120 rfl rfl ?_
        refine s_if_ne (tgt := 128) (q := 125) d_M_keeper_122 (by decide) rfl (fun z9 => absurd (by decide) z9) (fun _ => ?_)
        exfalso; have hk := KeepOK_0.mp hk; (try simp only [bI_d, bI_dn, strV, remI] at *); simp only [i_le, i_lt, i_eq, tI_0, tI_1, tI_2, tI_3, tI_4, tI_7, tI_8, tI_10, tI_12, tI_13, tI_14, tI_40, tI_99, tI_100, tI_1000, tI_m1000, tI_m1, tI_mil] at *; omega
      · -- F 40
        refine s_iconst (v := 1) (q := 44) d_M_keeper_43 rfl ki_1 ?_
        refine s_goto (tgt := 48) d_M_keeper_44 (by decide) ?_
        refine s_istore (q := 50) d_M_keeper_48 rfl (by decide) ?_
        refine s_goto (tgt := 113) d_M_keeper_50 (by decide) ?_
        refine s_iload_n (q := 114) d_M_keeper_113 rfl rfl ?_
        refine g_callS (q := 117) d_M_keeper_114 rfl ml_M_78 mx_M_isTable ms_M_isTable t_M_isTable rfl rfl (Nat.le_of_ble_eq_true rfl) (by decide) ?_
        refine s_if_eq (tgt := 125) (q := 120) d_M_keeper_117 (by decide) rfl (fun z9 => absurd z9 (bI_dn.mpr (inT ht))) (fun _ => ?_)
        refine s_iload (q := 122) d_M_keeper_120 rfl rfl ?_
        refine s_if_ne (tgt := 128) (q := 125) d_M_keeper_122 (by decide) rfl (fun _ => ?_) (fun z9 => absurd z9 (by decide))
        refine s_aload_n (q := 129) d_M_keeper_128 rfl rfl (Or.inr ⟨_, rfl⟩) ?_
        refine g_getr (q := 132) d_M_keeper_129 rfl fl_M_44 skM rfl ?_
        refine s_iload_n (q := 133) d_M_keeper_132 rfl rfl ?_
        refine g_zald (q := 134) d_M_keeper_133 rfl sm_11 (by omega) rfl ht ?_
        refine s_if_eq (tgt := 140) (q := 137) d_M_keeper_134 (by decide) rfl (fun _ => ?_) (fun z9 => absurd hs z9)
        refine s_aload_n (q := 141) d_M_keeper_140 rfl rfl (Or.inr ⟨_, rfl⟩) ?_
        refine g_getr (q := 144) d_M_keeper_141 rfl fl_M_47 skM rfl ?_
        refine s_iload_n (q := 145) d_M_keeper_144 rfl rfl ?_
        refine g_ialv (v := nI m) (q := 146) d_M_keeper_145 rfl sm_12 (by omega) rfl ht hm ?_
        refine s_iconst (v := 4) (q := 147) d_M_keeper_146 rfl ki_4 ?_
        refine s_icmp_ne (tgt := 153) (q := 150) d_M_keeper_147 (by decide) rfl (fun _ => ?_) (fun z9 => absurd z9 (fun z => by have := (nI_eq (a := m) (b := 4) (by omega) (by decide)).mp z; omega))
        refine s_iconst (v := 4) (q := 154) d_M_keeper_153 rfl ki_4 ?_
        refine s_iload_n (q := 155) d_M_keeper_154 rfl rfl ?_
        refine s_imul (q := 156) d_M_keeper_155 rfl ?_
        refine s_aload_n (q := 157) d_M_keeper_156 rfl rfl (Or.inr ⟨_, rfl⟩) ?_
        refine g_getr (q := 160) d_M_keeper_157 rfl fl_M_47 skM rfl ?_
        refine s_iload_n (q := 161) d_M_keeper_160 rfl rfl ?_
        refine g_ialv (v := nI m) (q := 162) d_M_keeper_161 rfl sm_12 (by omega) rfl ht hm ?_
        refine s_iadd (q := 163) d_M_keeper_162 rfl ?_
        rw [ix4m]
        refine s_istore (q := 165) d_M_keeper_163 rfl (by decide) ?_
        refine s_aload_n (q := 166) d_M_keeper_165 rfl rfl (Or.inr ⟨_, rfl⟩) ?_
        refine g_getr (q := 169) d_M_keeper_166 rfl fl_M_50 skM rfl ?_
        refine s_iload (q := 171) d_M_keeper_169 rfl rfl ?_
        refine s_iload_n (q := 172) d_M_keeper_171 rfl rfl ?_
        refine g_iast (q := 173) d_M_keeper_172 rfl sm_13 (by omega) rfl (by omega) ?_
        refine s_aload_n (q := 174) d_M_keeper_173 rfl rfl (Or.inr ⟨_, rfl⟩) ?_
        refine g_getr (q := 177) d_M_keeper_174 rfl fl_M_53 skM rfl ?_
        refine s_iload (q := 179) d_M_keeper_177 rfl rfl ?_
        refine s_iload_n (q := 180) d_M_keeper_179 rfl rfl ?_
        refine g_iast (q := 181) d_M_keeper_180 rfl sm_14 (by omega) rfl (by omega) ?_
        refine s_aload_n (q := 182) d_M_keeper_181 rfl rfl (Or.inr ⟨_, rfl⟩) ?_
        refine g_getr (q := 185) d_M_keeper_182 rfl fl_M_56 skM rfl ?_
        refine s_iload (q := 187) d_M_keeper_185 rfl rfl ?_
        refine s_iload (q := 189) d_M_keeper_187 rfl rfl ?_
        refine g_iast (q := 190) d_M_keeper_189 rfl sm_15 (by omega) rfl (by omega) ?_
        refine s_aload_n (q := 191) d_M_keeper_190 rfl rfl (Or.inr ⟨_, rfl⟩) ?_
        refine g_getr (q := 194) d_M_keeper_191 rfl fl_M_47 skM rfl ?_
        refine s_iload_n (q := 195) d_M_keeper_194 rfl rfl ?_
        refine s_dup2 (q := 196) d_M_keeper_195 rfl rfl rfl ?_
        refine g_ialv (v := nI m) (q := 197) d_M_keeper_196 rfl sm_12 (by omega) rfl ht (by simp [up2, upd, hm]) ?_
        refine s_iconst (v := 1) (q := 198) d_M_keeper_197 rfl ki_1 ?_
        refine s_iadd (q := 199) d_M_keeper_198 rfl ?_
        rw [nI_s]
        refine g_iast (q := 200) d_M_keeper_199 rfl sm_12 (by omega) rfl ht ?_
        refine s_aload_n (q := 201) d_M_keeper_200 rfl rfl (Or.inr ⟨_, rfl⟩) ?_
        refine g_getr (q := 204) d_M_keeper_201 rfl fl_M_47 skM rfl ?_
        refine s_iload_n (q := 205) d_M_keeper_204 rfl rfl ?_
        refine g_ialv (v := nI (m + 1)) (q := 206) d_M_keeper_205 rfl sm_12 (by omega) rfl ht (by simp [up2, upd]) ?_
        exact g_iret d_M_keeper_206 rfl rfl rfl rfl
  by_cases k1 : kd = 1
  · subst k1
    refine Ct_of false (by decide) (fun h => by cases h) (Nat.le_of_ble_eq_true rfl) ?_
    show V l D ac b "SpanStoreModel" c_M_keeper 7 (some .int) false 2 42 0 0 ((some (.int (nI (m + 1)))), 144, mk (mkpX X t m 1 a c)) 0 0 0 [(0, .ref 122), (1, .int (nI t)), (2, .int 1), (3, .int a), (4, .int c)] [] 144 (mk X)
    refine s_iload_n (q := 1) d_M_keeper_0 rfl rfl ?_
    refine s_tsIn (tgt := 28) d_M_keeper_1 (by decide) (by decide) rfl (by decide) ?_
    refine s_iload_n (q := 29) d_M_keeper_28 rfl rfl ?_
    refine s_iconst (v := 1) (q := 30) d_M_keeper_29 rfl ki_1 ?_
    refine s_bipush (v := 12) (q := 32) d_M_keeper_30 rfl kb_12 ?_
    refine g_callS (q := 35) d_M_keeper_32 rfl ml_M_74 mx_M_in ms_M_in t_M_in rfl rfl (Nat.le_of_ble_eq_true rfl) (by decide) ?_
    refine s_if_eq (tgt := 47) (q := 38) d_M_keeper_35 (by decide) rfl (fun h_35 => ?_) (fun h_35 => ?_)
    · -- T 35
      rw [bI_d] at h_35
      refine s_iconst (v := 0) (q := 48) d_M_keeper_47 rfl ki_0 ?_
      refine s_istore (q := 50) d_M_keeper_48 rfl (by decide) ?_
      refine s_goto (tgt := 113) d_M_keeper_50 (by decide) ?_
      refine s_iload_n (q := 114) d_M_keeper_113 rfl rfl ?_
      refine g_callS (q := 117) d_M_keeper_114 rfl ml_M_78 mx_M_isTable ms_M_isTable t_M_isTable rfl rfl (Nat.le_of_ble_eq_true rfl) (by decide) ?_
      refine s_if_eq (tgt := 125) (q := 120) d_M_keeper_117 (by decide) rfl (fun z9 => absurd z9 (bI_dn.mpr (inT ht))) (fun _ => ?_)
      refine s_iload (q := 122) d_M_keeper_120 rfl rfl ?_
      refine s_if_ne (tgt := 128) (q := 125) d_M_keeper_122 (by decide) rfl (fun z9 => absurd (by decide) z9) (fun _ => ?_)
      exfalso; have hk := KeepOK_1.mp hk; (try simp only [bI_d, bI_dn, strV, remI] at *); simp only [i_le, i_lt, i_eq, tI_0, tI_1, tI_2, tI_3, tI_4, tI_7, tI_8, tI_10, tI_12, tI_13, tI_14, tI_40, tI_99, tI_100, tI_1000, tI_m1000, tI_m1, tI_mil] at *; omega
    · -- F 35
      rw [bI_dn] at h_35
      refine s_iload (q := 40) d_M_keeper_38 rfl rfl ?_
      refine s_if_ne (tgt := 47) (q := 43) d_M_keeper_40 (by decide) rfl (fun h_40 => ?_) (fun h_40 => ?_)
      · -- T 40
        refine s_iconst (v := 0) (q := 48) d_M_keeper_47 rfl ki_0 ?_
        refine s_istore (q := 50) d_M_keeper_48 rfl (by decide) ?_
        refine s_goto (tgt := 113) d_M_keeper_50 (by decide) ?_
        refine s_iload_n (q := 114) d_M_keeper_113 rfl rfl ?_
        refine g_callS (q := 117) d_M_keeper_114 rfl ml_M_78 mx_M_isTable ms_M_isTable t_M_isTable rfl rfl (Nat.le_of_ble_eq_true rfl) (by decide) ?_
        refine s_if_eq (tgt := 125) (q := 120) d_M_keeper_117 (by decide) rfl (fun z9 => absurd z9 (bI_dn.mpr (inT ht))) (fun _ => ?_)
        refine s_iload (q := 122) d_M_keeper_120 rfl rfl ?_
        refine s_if_ne (tgt := 128) (q := 125) d_M_keeper_122 (by decide) rfl (fun z9 => absurd (by decide) z9) (fun _ => ?_)
        exfalso; have hk := KeepOK_1.mp hk; (try simp only [bI_d, bI_dn, strV, remI] at *); simp only [i_le, i_lt, i_eq, tI_0, tI_1, tI_2, tI_3, tI_4, tI_7, tI_8, tI_10, tI_12, tI_13, tI_14, tI_40, tI_99, tI_100, tI_1000, tI_m1000, tI_m1, tI_mil] at *; omega
      · -- F 40
        refine s_iconst (v := 1) (q := 44) d_M_keeper_43 rfl ki_1 ?_
        refine s_goto (tgt := 48) d_M_keeper_44 (by decide) ?_
        refine s_istore (q := 50) d_M_keeper_48 rfl (by decide) ?_
        refine s_goto (tgt := 113) d_M_keeper_50 (by decide) ?_
        refine s_iload_n (q := 114) d_M_keeper_113 rfl rfl ?_
        refine g_callS (q := 117) d_M_keeper_114 rfl ml_M_78 mx_M_isTable ms_M_isTable t_M_isTable rfl rfl (Nat.le_of_ble_eq_true rfl) (by decide) ?_
        refine s_if_eq (tgt := 125) (q := 120) d_M_keeper_117 (by decide) rfl (fun z9 => absurd z9 (bI_dn.mpr (inT ht))) (fun _ => ?_)
        refine s_iload (q := 122) d_M_keeper_120 rfl rfl ?_
        refine s_if_ne (tgt := 128) (q := 125) d_M_keeper_122 (by decide) rfl (fun _ => ?_) (fun z9 => absurd z9 (by decide))
        refine s_aload_n (q := 129) d_M_keeper_128 rfl rfl (Or.inr ⟨_, rfl⟩) ?_
        refine g_getr (q := 132) d_M_keeper_129 rfl fl_M_44 skM rfl ?_
        refine s_iload_n (q := 133) d_M_keeper_132 rfl rfl ?_
        refine g_zald (q := 134) d_M_keeper_133 rfl sm_11 (by omega) rfl ht ?_
        refine s_if_eq (tgt := 140) (q := 137) d_M_keeper_134 (by decide) rfl (fun _ => ?_) (fun z9 => absurd hs z9)
        refine s_aload_n (q := 141) d_M_keeper_140 rfl rfl (Or.inr ⟨_, rfl⟩) ?_
        refine g_getr (q := 144) d_M_keeper_141 rfl fl_M_47 skM rfl ?_
        refine s_iload_n (q := 145) d_M_keeper_144 rfl rfl ?_
        refine g_ialv (v := nI m) (q := 146) d_M_keeper_145 rfl sm_12 (by omega) rfl ht hm ?_
        refine s_iconst (v := 4) (q := 147) d_M_keeper_146 rfl ki_4 ?_
        refine s_icmp_ne (tgt := 153) (q := 150) d_M_keeper_147 (by decide) rfl (fun _ => ?_) (fun z9 => absurd z9 (fun z => by have := (nI_eq (a := m) (b := 4) (by omega) (by decide)).mp z; omega))
        refine s_iconst (v := 4) (q := 154) d_M_keeper_153 rfl ki_4 ?_
        refine s_iload_n (q := 155) d_M_keeper_154 rfl rfl ?_
        refine s_imul (q := 156) d_M_keeper_155 rfl ?_
        refine s_aload_n (q := 157) d_M_keeper_156 rfl rfl (Or.inr ⟨_, rfl⟩) ?_
        refine g_getr (q := 160) d_M_keeper_157 rfl fl_M_47 skM rfl ?_
        refine s_iload_n (q := 161) d_M_keeper_160 rfl rfl ?_
        refine g_ialv (v := nI m) (q := 162) d_M_keeper_161 rfl sm_12 (by omega) rfl ht hm ?_
        refine s_iadd (q := 163) d_M_keeper_162 rfl ?_
        rw [ix4m]
        refine s_istore (q := 165) d_M_keeper_163 rfl (by decide) ?_
        refine s_aload_n (q := 166) d_M_keeper_165 rfl rfl (Or.inr ⟨_, rfl⟩) ?_
        refine g_getr (q := 169) d_M_keeper_166 rfl fl_M_50 skM rfl ?_
        refine s_iload (q := 171) d_M_keeper_169 rfl rfl ?_
        refine s_iload_n (q := 172) d_M_keeper_171 rfl rfl ?_
        refine g_iast (q := 173) d_M_keeper_172 rfl sm_13 (by omega) rfl (by omega) ?_
        refine s_aload_n (q := 174) d_M_keeper_173 rfl rfl (Or.inr ⟨_, rfl⟩) ?_
        refine g_getr (q := 177) d_M_keeper_174 rfl fl_M_53 skM rfl ?_
        refine s_iload (q := 179) d_M_keeper_177 rfl rfl ?_
        refine s_iload_n (q := 180) d_M_keeper_179 rfl rfl ?_
        refine g_iast (q := 181) d_M_keeper_180 rfl sm_14 (by omega) rfl (by omega) ?_
        refine s_aload_n (q := 182) d_M_keeper_181 rfl rfl (Or.inr ⟨_, rfl⟩) ?_
        refine g_getr (q := 185) d_M_keeper_182 rfl fl_M_56 skM rfl ?_
        refine s_iload (q := 187) d_M_keeper_185 rfl rfl ?_
        refine s_iload (q := 189) d_M_keeper_187 rfl rfl ?_
        refine g_iast (q := 190) d_M_keeper_189 rfl sm_15 (by omega) rfl (by omega) ?_
        refine s_aload_n (q := 191) d_M_keeper_190 rfl rfl (Or.inr ⟨_, rfl⟩) ?_
        refine g_getr (q := 194) d_M_keeper_191 rfl fl_M_47 skM rfl ?_
        refine s_iload_n (q := 195) d_M_keeper_194 rfl rfl ?_
        refine s_dup2 (q := 196) d_M_keeper_195 rfl rfl rfl ?_
        refine g_ialv (v := nI m) (q := 197) d_M_keeper_196 rfl sm_12 (by omega) rfl ht (by simp [up2, upd, hm]) ?_
        refine s_iconst (v := 1) (q := 198) d_M_keeper_197 rfl ki_1 ?_
        refine s_iadd (q := 199) d_M_keeper_198 rfl ?_
        rw [nI_s]
        refine g_iast (q := 200) d_M_keeper_199 rfl sm_12 (by omega) rfl ht ?_
        refine s_aload_n (q := 201) d_M_keeper_200 rfl rfl (Or.inr ⟨_, rfl⟩) ?_
        refine g_getr (q := 204) d_M_keeper_201 rfl fl_M_47 skM rfl ?_
        refine s_iload_n (q := 205) d_M_keeper_204 rfl rfl ?_
        refine g_ialv (v := nI (m + 1)) (q := 206) d_M_keeper_205 rfl sm_12 (by omega) rfl ht (by simp [up2, upd]) ?_
        exact g_iret d_M_keeper_206 rfl rfl rfl rfl
  by_cases k2 : kd = 2
  · subst k2
    refine Ct_of false (by decide) (fun h => by cases h) (Nat.le_of_ble_eq_true rfl) ?_
    show V l D ac b "SpanStoreModel" c_M_keeper 7 (some .int) false 2 42 0 0 ((some (.int (nI (m + 1)))), 144, mk (mkpX X t m 2 a c)) 0 0 0 [(0, .ref 122), (1, .int (nI t)), (2, .int 2), (3, .int a), (4, .int c)] [] 144 (mk X)
    refine s_iload_n (q := 1) d_M_keeper_0 rfl rfl ?_
    refine s_tsIn (tgt := 53) d_M_keeper_1 (by decide) (by decide) rfl (by decide) ?_
    refine s_iload_n (q := 54) d_M_keeper_53 rfl rfl ?_
    refine s_iconst (v := 1) (q := 55) d_M_keeper_54 rfl ki_1 ?_
    refine s_bipush (v := 100) (q := 57) d_M_keeper_55 rfl kb_100 ?_
    refine g_callS (q := 60) d_M_keeper_57 rfl ml_M_74 mx_M_in ms_M_in t_M_in rfl rfl (Nat.le_of_ble_eq_true rfl) (by decide) ?_
    refine s_if_eq (tgt := 79) (q := 63) d_M_keeper_60 (by decide) rfl (fun h_60 => ?_) (fun h_60 => ?_)
    · -- T 60
      rw [bI_d] at h_60
      refine s_iconst (v := 0) (q := 80) d_M_keeper_79 rfl ki_0 ?_
      refine s_istore (q := 82) d_M_keeper_80 rfl (by decide) ?_
      refine s_goto (tgt := 113) d_M_keeper_82 (by decide) ?_
      refine s_iload_n (q := 114) d_M_keeper_113 rfl rfl ?_
      refine g_callS (q := 117) d_M_keeper_114 rfl ml_M_78 mx_M_isTable ms_M_isTable t_M_isTable rfl rfl (Nat.le_of_ble_eq_true rfl) (by decide) ?_
      refine s_if_eq (tgt := 125) (q := 120) d_M_keeper_117 (by decide) rfl (fun z9 => absurd z9 (bI_dn.mpr (inT ht))) (fun _ => ?_)
      refine s_iload (q := 122) d_M_keeper_120 rfl rfl ?_
      refine s_if_ne (tgt := 128) (q := 125) d_M_keeper_122 (by decide) rfl (fun z9 => absurd (by decide) z9) (fun _ => ?_)
      exfalso; have hk := KeepOK_2.mp hk; first | (rw [sub1 hk.1.1] at h_72; (try simp only [bI_d, bI_dn, strV, remI] at *); simp only [i_le, i_lt, i_eq, tI_0, tI_1, tI_2, tI_3, tI_4, tI_7, tI_8, tI_10, tI_12, tI_13, tI_14, tI_40, tI_99, tI_100, tI_1000, tI_m1000, tI_m1, tI_mil] at *; omega) | ((try simp only [bI_d, bI_dn, strV, remI] at *); simp only [i_le, i_lt, i_eq, tI_0, tI_1, tI_2, tI_3, tI_4, tI_7, tI_8, tI_10, tI_12, tI_13, tI_14, tI_40, tI_99, tI_100, tI_1000, tI_m1000, tI_m1, tI_mil] at *; omega)
    · -- F 60
      rw [bI_dn] at h_60
      refine s_iload (q := 65) d_M_keeper_63 rfl rfl ?_
      refine s_iconst (v := 0) (q := 66) d_M_keeper_65 rfl ki_0 ?_
      refine s_iload_n (q := 67) d_M_keeper_66 rfl rfl ?_
      refine s_iconst (v := 1) (q := 68) d_M_keeper_67 rfl ki_1 ?_
      refine s_isub (q := 69) d_M_keeper_68 rfl ?_
      refine g_callS (q := 72) d_M_keeper_69 rfl ml_M_74 mx_M_in ms_M_in t_M_in rfl rfl (Nat.le_of_ble_eq_true rfl) (by decide) ?_
      refine s_if_eq (tgt := 79) (q := 75) d_M_keeper_72 (by decide) rfl (fun h_72 => ?_) (fun h_72 => ?_)
      · -- T 72
        rw [bI_d] at h_72
        refine s_iconst (v := 0) (q := 80) d_M_keeper_79 rfl ki_0 ?_
        refine s_istore (q := 82) d_M_keeper_80 rfl (by decide) ?_
        refine s_goto (tgt := 113) d_M_keeper_82 (by decide) ?_
        refine s_iload_n (q := 114) d_M_keeper_113 rfl rfl ?_
        refine g_callS (q := 117) d_M_keeper_114 rfl ml_M_78 mx_M_isTable ms_M_isTable t_M_isTable rfl rfl (Nat.le_of_ble_eq_true rfl) (by decide) ?_
        refine s_if_eq (tgt := 125) (q := 120) d_M_keeper_117 (by decide) rfl (fun z9 => absurd z9 (bI_dn.mpr (inT ht))) (fun _ => ?_)
        refine s_iload (q := 122) d_M_keeper_120 rfl rfl ?_
        refine s_if_ne (tgt := 128) (q := 125) d_M_keeper_122 (by decide) rfl (fun z9 => absurd (by decide) z9) (fun _ => ?_)
        exfalso; have hk := KeepOK_2.mp hk; first | (rw [sub1 hk.1.1] at h_72; (try simp only [bI_d, bI_dn, strV, remI] at *); simp only [i_le, i_lt, i_eq, tI_0, tI_1, tI_2, tI_3, tI_4, tI_7, tI_8, tI_10, tI_12, tI_13, tI_14, tI_40, tI_99, tI_100, tI_1000, tI_m1000, tI_m1, tI_mil] at *; omega) | ((try simp only [bI_d, bI_dn, strV, remI] at *); simp only [i_le, i_lt, i_eq, tI_0, tI_1, tI_2, tI_3, tI_4, tI_7, tI_8, tI_10, tI_12, tI_13, tI_14, tI_40, tI_99, tI_100, tI_1000, tI_m1000, tI_m1, tI_mil] at *; omega)
      · -- F 72
        rw [bI_dn] at h_72
        refine s_iconst (v := 1) (q := 76) d_M_keeper_75 rfl ki_1 ?_
        refine s_goto (tgt := 80) d_M_keeper_76 (by decide) ?_
        refine s_istore (q := 82) d_M_keeper_80 rfl (by decide) ?_
        refine s_goto (tgt := 113) d_M_keeper_82 (by decide) ?_
        refine s_iload_n (q := 114) d_M_keeper_113 rfl rfl ?_
        refine g_callS (q := 117) d_M_keeper_114 rfl ml_M_78 mx_M_isTable ms_M_isTable t_M_isTable rfl rfl (Nat.le_of_ble_eq_true rfl) (by decide) ?_
        refine s_if_eq (tgt := 125) (q := 120) d_M_keeper_117 (by decide) rfl (fun z9 => absurd z9 (bI_dn.mpr (inT ht))) (fun _ => ?_)
        refine s_iload (q := 122) d_M_keeper_120 rfl rfl ?_
        refine s_if_ne (tgt := 128) (q := 125) d_M_keeper_122 (by decide) rfl (fun _ => ?_) (fun z9 => absurd z9 (by decide))
        refine s_aload_n (q := 129) d_M_keeper_128 rfl rfl (Or.inr ⟨_, rfl⟩) ?_
        refine g_getr (q := 132) d_M_keeper_129 rfl fl_M_44 skM rfl ?_
        refine s_iload_n (q := 133) d_M_keeper_132 rfl rfl ?_
        refine g_zald (q := 134) d_M_keeper_133 rfl sm_11 (by omega) rfl ht ?_
        refine s_if_eq (tgt := 140) (q := 137) d_M_keeper_134 (by decide) rfl (fun _ => ?_) (fun z9 => absurd hs z9)
        refine s_aload_n (q := 141) d_M_keeper_140 rfl rfl (Or.inr ⟨_, rfl⟩) ?_
        refine g_getr (q := 144) d_M_keeper_141 rfl fl_M_47 skM rfl ?_
        refine s_iload_n (q := 145) d_M_keeper_144 rfl rfl ?_
        refine g_ialv (v := nI m) (q := 146) d_M_keeper_145 rfl sm_12 (by omega) rfl ht hm ?_
        refine s_iconst (v := 4) (q := 147) d_M_keeper_146 rfl ki_4 ?_
        refine s_icmp_ne (tgt := 153) (q := 150) d_M_keeper_147 (by decide) rfl (fun _ => ?_) (fun z9 => absurd z9 (fun z => by have := (nI_eq (a := m) (b := 4) (by omega) (by decide)).mp z; omega))
        refine s_iconst (v := 4) (q := 154) d_M_keeper_153 rfl ki_4 ?_
        refine s_iload_n (q := 155) d_M_keeper_154 rfl rfl ?_
        refine s_imul (q := 156) d_M_keeper_155 rfl ?_
        refine s_aload_n (q := 157) d_M_keeper_156 rfl rfl (Or.inr ⟨_, rfl⟩) ?_
        refine g_getr (q := 160) d_M_keeper_157 rfl fl_M_47 skM rfl ?_
        refine s_iload_n (q := 161) d_M_keeper_160 rfl rfl ?_
        refine g_ialv (v := nI m) (q := 162) d_M_keeper_161 rfl sm_12 (by omega) rfl ht hm ?_
        refine s_iadd (q := 163) d_M_keeper_162 rfl ?_
        rw [ix4m]
        refine s_istore (q := 165) d_M_keeper_163 rfl (by decide) ?_
        refine s_aload_n (q := 166) d_M_keeper_165 rfl rfl (Or.inr ⟨_, rfl⟩) ?_
        refine g_getr (q := 169) d_M_keeper_166 rfl fl_M_50 skM rfl ?_
        refine s_iload (q := 171) d_M_keeper_169 rfl rfl ?_
        refine s_iload_n (q := 172) d_M_keeper_171 rfl rfl ?_
        refine g_iast (q := 173) d_M_keeper_172 rfl sm_13 (by omega) rfl (by omega) ?_
        refine s_aload_n (q := 174) d_M_keeper_173 rfl rfl (Or.inr ⟨_, rfl⟩) ?_
        refine g_getr (q := 177) d_M_keeper_174 rfl fl_M_53 skM rfl ?_
        refine s_iload (q := 179) d_M_keeper_177 rfl rfl ?_
        refine s_iload_n (q := 180) d_M_keeper_179 rfl rfl ?_
        refine g_iast (q := 181) d_M_keeper_180 rfl sm_14 (by omega) rfl (by omega) ?_
        refine s_aload_n (q := 182) d_M_keeper_181 rfl rfl (Or.inr ⟨_, rfl⟩) ?_
        refine g_getr (q := 185) d_M_keeper_182 rfl fl_M_56 skM rfl ?_
        refine s_iload (q := 187) d_M_keeper_185 rfl rfl ?_
        refine s_iload (q := 189) d_M_keeper_187 rfl rfl ?_
        refine g_iast (q := 190) d_M_keeper_189 rfl sm_15 (by omega) rfl (by omega) ?_
        refine s_aload_n (q := 191) d_M_keeper_190 rfl rfl (Or.inr ⟨_, rfl⟩) ?_
        refine g_getr (q := 194) d_M_keeper_191 rfl fl_M_47 skM rfl ?_
        refine s_iload_n (q := 195) d_M_keeper_194 rfl rfl ?_
        refine s_dup2 (q := 196) d_M_keeper_195 rfl rfl rfl ?_
        refine g_ialv (v := nI m) (q := 197) d_M_keeper_196 rfl sm_12 (by omega) rfl ht (by simp [up2, upd, hm]) ?_
        refine s_iconst (v := 1) (q := 198) d_M_keeper_197 rfl ki_1 ?_
        refine s_iadd (q := 199) d_M_keeper_198 rfl ?_
        rw [nI_s]
        refine g_iast (q := 200) d_M_keeper_199 rfl sm_12 (by omega) rfl ht ?_
        refine s_aload_n (q := 201) d_M_keeper_200 rfl rfl (Or.inr ⟨_, rfl⟩) ?_
        refine g_getr (q := 204) d_M_keeper_201 rfl fl_M_47 skM rfl ?_
        refine s_iload_n (q := 205) d_M_keeper_204 rfl rfl ?_
        refine g_ialv (v := nI (m + 1)) (q := 206) d_M_keeper_205 rfl sm_12 (by omega) rfl ht (by simp [up2, upd]) ?_
        exact g_iret d_M_keeper_206 rfl rfl rfl rfl
  by_cases k3 : kd = 3
  · subst k3
    refine Ct_of false (by decide) (fun h => by cases h) (Nat.le_of_ble_eq_true rfl) ?_
    show V l D ac b "SpanStoreModel" c_M_keeper 7 (some .int) false 2 42 0 0 ((some (.int (nI (m + 1)))), 144, mk (mkpX X t m 3 a c)) 0 0 0 [(0, .ref 122), (1, .int (nI t)), (2, .int 3), (3, .int a), (4, .int c)] [] 144 (mk X)
    refine s_iload_n (q := 1) d_M_keeper_0 rfl rfl ?_
    refine s_tsOut (tgt := 85) d_M_keeper_1 (by decide) (by decide) ?_
    refine s_iload_n (q := 86) d_M_keeper_85 rfl rfl ?_
    refine s_iconst (v := 3) (q := 87) d_M_keeper_86 rfl ki_3 ?_
    refine s_icmp_ne (tgt := 110) (q := 90) d_M_keeper_87 (by decide) rfl (fun z9 => absurd rfl z9) (fun _ => ?_)
    refine s_iload_n (q := 91) d_M_keeper_90 rfl rfl ?_
    refine s_iconst (v := 1) (q := 92) d_M_keeper_91 rfl ki_1 ?_
    refine s_sipush (v := 1000) (q := 95) d_M_keeper_92 rfl kh_1000 ?_
    refine g_callS (q := 98) d_M_keeper_95 rfl ml_M_74 mx_M_in ms_M_in t_M_in rfl rfl (Nat.le_of_ble_eq_true rfl) (by decide) ?_
    refine s_if_eq (tgt := 110) (q := 101) d_M_keeper_98 (by decide) rfl (fun h_98 => ?_) (fun h_98 => ?_)
    · -- T 98
      rw [bI_d] at h_98
      refine s_iconst (v := 0) (q := 111) d_M_keeper_110 rfl ki_0 ?_
      refine s_istore (q := 113) d_M_keeper_111 rfl (by decide) ?_
      refine s_iload_n (q := 114) d_M_keeper_113 rfl rfl ?_
      refine g_callS (q := 117) d_M_keeper_114 rfl ml_M_78 mx_M_isTable ms_M_isTable t_M_isTable rfl rfl (Nat.le_of_ble_eq_true rfl) (by decide) ?_
      refine s_if_eq (tgt := 125) (q := 120) d_M_keeper_117 (by decide) rfl (fun z9 => absurd z9 (bI_dn.mpr (inT ht))) (fun _ => ?_)
      refine s_iload (q := 122) d_M_keeper_120 rfl rfl ?_
      refine s_if_ne (tgt := 128) (q := 125) d_M_keeper_122 (by decide) rfl (fun z9 => absurd (by decide) z9) (fun _ => ?_)
      exfalso; have hk := KeepOK_3.mp hk; (try simp only [bI_d, bI_dn, strV, remI] at *); simp only [i_le, i_lt, i_eq, tI_0, tI_1, tI_2, tI_3, tI_4, tI_7, tI_8, tI_10, tI_12, tI_13, tI_14, tI_40, tI_99, tI_100, tI_1000, tI_m1000, tI_m1, tI_mil] at *; omega
    · -- F 98
      rw [bI_dn] at h_98
      refine s_iload (q := 103) d_M_keeper_101 rfl rfl ?_
      refine s_if_ne (tgt := 110) (q := 106) d_M_keeper_103 (by decide) rfl (fun h_103 => ?_) (fun h_103 => ?_)
      · -- T 103
        refine s_iconst (v := 0) (q := 111) d_M_keeper_110 rfl ki_0 ?_
        refine s_istore (q := 113) d_M_keeper_111 rfl (by decide) ?_
        refine s_iload_n (q := 114) d_M_keeper_113 rfl rfl ?_
        refine g_callS (q := 117) d_M_keeper_114 rfl ml_M_78 mx_M_isTable ms_M_isTable t_M_isTable rfl rfl (Nat.le_of_ble_eq_true rfl) (by decide) ?_
        refine s_if_eq (tgt := 125) (q := 120) d_M_keeper_117 (by decide) rfl (fun z9 => absurd z9 (bI_dn.mpr (inT ht))) (fun _ => ?_)
        refine s_iload (q := 122) d_M_keeper_120 rfl rfl ?_
        refine s_if_ne (tgt := 128) (q := 125) d_M_keeper_122 (by decide) rfl (fun z9 => absurd (by decide) z9) (fun _ => ?_)
        exfalso; have hk := KeepOK_3.mp hk; (try simp only [bI_d, bI_dn, strV, remI] at *); simp only [i_le, i_lt, i_eq, tI_0, tI_1, tI_2, tI_3, tI_4, tI_7, tI_8, tI_10, tI_12, tI_13, tI_14, tI_40, tI_99, tI_100, tI_1000, tI_m1000, tI_m1, tI_mil] at *; omega
      · -- F 103
        refine s_iconst (v := 1) (q := 107) d_M_keeper_106 rfl ki_1 ?_
        refine s_goto (tgt := 111) d_M_keeper_107 (by decide) ?_
        refine s_istore (q := 113) d_M_keeper_111 rfl (by decide) ?_
        refine s_iload_n (q := 114) d_M_keeper_113 rfl rfl ?_
        refine g_callS (q := 117) d_M_keeper_114 rfl ml_M_78 mx_M_isTable ms_M_isTable t_M_isTable rfl rfl (Nat.le_of_ble_eq_true rfl) (by decide) ?_
        refine s_if_eq (tgt := 125) (q := 120) d_M_keeper_117 (by decide) rfl (fun z9 => absurd z9 (bI_dn.mpr (inT ht))) (fun _ => ?_)
        refine s_iload (q := 122) d_M_keeper_120 rfl rfl ?_
        refine s_if_ne (tgt := 128) (q := 125) d_M_keeper_122 (by decide) rfl (fun _ => ?_) (fun z9 => absurd z9 (by decide))
        refine s_aload_n (q := 129) d_M_keeper_128 rfl rfl (Or.inr ⟨_, rfl⟩) ?_
        refine g_getr (q := 132) d_M_keeper_129 rfl fl_M_44 skM rfl ?_
        refine s_iload_n (q := 133) d_M_keeper_132 rfl rfl ?_
        refine g_zald (q := 134) d_M_keeper_133 rfl sm_11 (by omega) rfl ht ?_
        refine s_if_eq (tgt := 140) (q := 137) d_M_keeper_134 (by decide) rfl (fun _ => ?_) (fun z9 => absurd hs z9)
        refine s_aload_n (q := 141) d_M_keeper_140 rfl rfl (Or.inr ⟨_, rfl⟩) ?_
        refine g_getr (q := 144) d_M_keeper_141 rfl fl_M_47 skM rfl ?_
        refine s_iload_n (q := 145) d_M_keeper_144 rfl rfl ?_
        refine g_ialv (v := nI m) (q := 146) d_M_keeper_145 rfl sm_12 (by omega) rfl ht hm ?_
        refine s_iconst (v := 4) (q := 147) d_M_keeper_146 rfl ki_4 ?_
        refine s_icmp_ne (tgt := 153) (q := 150) d_M_keeper_147 (by decide) rfl (fun _ => ?_) (fun z9 => absurd z9 (fun z => by have := (nI_eq (a := m) (b := 4) (by omega) (by decide)).mp z; omega))
        refine s_iconst (v := 4) (q := 154) d_M_keeper_153 rfl ki_4 ?_
        refine s_iload_n (q := 155) d_M_keeper_154 rfl rfl ?_
        refine s_imul (q := 156) d_M_keeper_155 rfl ?_
        refine s_aload_n (q := 157) d_M_keeper_156 rfl rfl (Or.inr ⟨_, rfl⟩) ?_
        refine g_getr (q := 160) d_M_keeper_157 rfl fl_M_47 skM rfl ?_
        refine s_iload_n (q := 161) d_M_keeper_160 rfl rfl ?_
        refine g_ialv (v := nI m) (q := 162) d_M_keeper_161 rfl sm_12 (by omega) rfl ht hm ?_
        refine s_iadd (q := 163) d_M_keeper_162 rfl ?_
        rw [ix4m]
        refine s_istore (q := 165) d_M_keeper_163 rfl (by decide) ?_
        refine s_aload_n (q := 166) d_M_keeper_165 rfl rfl (Or.inr ⟨_, rfl⟩) ?_
        refine g_getr (q := 169) d_M_keeper_166 rfl fl_M_50 skM rfl ?_
        refine s_iload (q := 171) d_M_keeper_169 rfl rfl ?_
        refine s_iload_n (q := 172) d_M_keeper_171 rfl rfl ?_
        refine g_iast (q := 173) d_M_keeper_172 rfl sm_13 (by omega) rfl (by omega) ?_
        refine s_aload_n (q := 174) d_M_keeper_173 rfl rfl (Or.inr ⟨_, rfl⟩) ?_
        refine g_getr (q := 177) d_M_keeper_174 rfl fl_M_53 skM rfl ?_
        refine s_iload (q := 179) d_M_keeper_177 rfl rfl ?_
        refine s_iload_n (q := 180) d_M_keeper_179 rfl rfl ?_
        refine g_iast (q := 181) d_M_keeper_180 rfl sm_14 (by omega) rfl (by omega) ?_
        refine s_aload_n (q := 182) d_M_keeper_181 rfl rfl (Or.inr ⟨_, rfl⟩) ?_
        refine g_getr (q := 185) d_M_keeper_182 rfl fl_M_56 skM rfl ?_
        refine s_iload (q := 187) d_M_keeper_185 rfl rfl ?_
        refine s_iload (q := 189) d_M_keeper_187 rfl rfl ?_
        refine g_iast (q := 190) d_M_keeper_189 rfl sm_15 (by omega) rfl (by omega) ?_
        refine s_aload_n (q := 191) d_M_keeper_190 rfl rfl (Or.inr ⟨_, rfl⟩) ?_
        refine g_getr (q := 194) d_M_keeper_191 rfl fl_M_47 skM rfl ?_
        refine s_iload_n (q := 195) d_M_keeper_194 rfl rfl ?_
        refine s_dup2 (q := 196) d_M_keeper_195 rfl rfl rfl ?_
        refine g_ialv (v := nI m) (q := 197) d_M_keeper_196 rfl sm_12 (by omega) rfl ht (by simp [up2, upd, hm]) ?_
        refine s_iconst (v := 1) (q := 198) d_M_keeper_197 rfl ki_1 ?_
        refine s_iadd (q := 199) d_M_keeper_198 rfl ?_
        rw [nI_s]
        refine g_iast (q := 200) d_M_keeper_199 rfl sm_12 (by omega) rfl ht ?_
        refine s_aload_n (q := 201) d_M_keeper_200 rfl rfl (Or.inr ⟨_, rfl⟩) ?_
        refine g_getr (q := 204) d_M_keeper_201 rfl fl_M_47 skM rfl ?_
        refine s_iload_n (q := 205) d_M_keeper_204 rfl rfl ?_
        refine g_ialv (v := nI (m + 1)) (q := 206) d_M_keeper_205 rfl sm_12 (by omega) rfl ht (by simp [up2, upd]) ?_
        exact g_iret d_M_keeper_206 rfl rfl rfl rfl
  · skip
    refine Ct_of false (by decide) (fun h => by cases h) (Nat.le_of_ble_eq_true rfl) ?_
    show V l D ac b "SpanStoreModel" c_M_keeper 7 (some .int) false 2 42 0 0 ((some (.int (nI (m + 1)))), 144, mk (mkpX X t m kd a c)) 0 0 0 [(0, .ref 122), (1, .int (nI t)), (2, .int kd), (3, .int a), (4, .int c)] [] 144 (mk X)
    refine s_iload_n (q := 1) d_M_keeper_0 rfl rfl ?_
    refine s_tsOut (tgt := 85) d_M_keeper_1 (by rw [i_eq, tI_0] at k0; rw [i_eq, tI_1] at k1; rw [i_eq, tI_2] at k2; omega) (by decide) ?_
    refine s_iload_n (q := 86) d_M_keeper_85 rfl rfl ?_
    refine s_iconst (v := 3) (q := 87) d_M_keeper_86 rfl ki_3 ?_
    refine s_icmp_ne (tgt := 110) (q := 90) d_M_keeper_87 (by decide) rfl (fun _ => ?_) (fun z9 => absurd z9 k3)
    refine s_iconst (v := 0) (q := 111) d_M_keeper_110 rfl ki_0 ?_
    refine s_istore (q := 113) d_M_keeper_111 rfl (by decide) ?_
    refine s_iload_n (q := 114) d_M_keeper_113 rfl rfl ?_
    refine g_callS (q := 117) d_M_keeper_114 rfl ml_M_78 mx_M_isTable ms_M_isTable t_M_isTable rfl rfl (Nat.le_of_ble_eq_true rfl) (by decide) ?_
    refine s_if_eq (tgt := 125) (q := 120) d_M_keeper_117 (by decide) rfl (fun z9 => absurd z9 (bI_dn.mpr (inT ht))) (fun _ => ?_)
    refine s_iload (q := 122) d_M_keeper_120 rfl rfl ?_
    refine s_if_ne (tgt := 128) (q := 125) d_M_keeper_122 (by decide) rfl (fun z9 => absurd (by decide) z9) (fun _ => ?_)
    exfalso; simp [KeepOK, k0, k1, k2, k3] at hk
end P14
