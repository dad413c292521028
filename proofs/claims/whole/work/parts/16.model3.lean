section P16
variable {l : Launch} {D : va_G} {ac : Nat → ClassId} {b : Nat}
theorem rowin {r : Int32} {n : Nat} (hn : n ≤ 12) : (0 ≤ r ∧ r ≤ nI n - 1) ↔ (¬ r < 0 ∧ r < nI n) := by
  have h1 : (nI n - 1).toInt = (n : Int) - 1 := by
    rcases Nat.eq_zero_or_pos n with rfl | h
    · decide
    · rw [show nI n - 1 = nI (n - 1) from pk_sub (a := n) (b := 1) h, nI_toInt (by omega)]
      omega
  simp only [i_le, i_lt, tI_0, h1, nI_toInt (show n < 2 ^ 31 by omega)]
  omega
theorem t_M_isRowAt_T {X : RAM} {x y r : Int32} (hx : x < 0 ∨ 2 ≤ x) : CG l D ac b y_M_isRowAt c_M_isRowAt 4 (some .boolean) 3 63 [.ref 122, .int x, .int y, .int r] X (some (.int 0)) (X) := by
  refine Ct_of false (by decide) (fun h => by cases h) (Nat.le_of_ble_eq_true rfl) ?_
  show V l D ac b "SpanStoreModel" c_M_isRowAt 4 (some .boolean) false 3 63 0 0 ((some (.int 0)), 144, mk (X)) 0 0 0 [(0, .ref 122), (1, .int x), (2, .int y), (3, .int r)] [] 144 (mk X)
  refine s_iload_n (q := 1) d_M_isRowAt_0 rfl rfl ?_
  refine s_iload_n (q := 2) d_M_isRowAt_1 rfl rfl ?_
  refine g_callS (q := 5) d_M_isRowAt_2 rfl ml_M_82 mx_M_isBlock ms_M_isBlock t_M_isBlock rfl rfl (Nat.le_of_ble_eq_true rfl) (by decide) ?_
  refine s_if_eq (tgt := 33) (q := 8) d_M_isRowAt_5 (by decide) rfl (fun _ => ?_) (fun z9 => absurd (bI_d.mpr (fun z => niT hx z.1)) z9)
  refine s_iconst (v := 0) (q := 34) d_M_isRowAt_33 rfl ki_0 ?_
  exact g_iret d_M_isRowAt_34 rfl rfl rfl rfl
theorem t_M_isRowAt_B {X : RAM} {t : Nat} {y r : Int32} (ht : t < 2) (hy : y < 0 ∨ 8 ≤ y) : CG l D ac b y_M_isRowAt c_M_isRowAt 4 (some .boolean) 3 63 [.ref 122, .int (nI t), .int y, .int r] X (some (.int 0)) (X) := by
  refine Ct_of false (by decide) (fun h => by cases h) (Nat.le_of_ble_eq_true rfl) ?_
  show V l D ac b "SpanStoreModel" c_M_isRowAt 4 (some .boolean) false 3 63 0 0 ((some (.int 0)), 144, mk (X)) 0 0 0 [(0, .ref 122), (1, .int (nI t)), (2, .int y), (3, .int r)] [] 144 (mk X)
  refine s_iload_n (q := 1) d_M_isRowAt_0 rfl rfl ?_
  refine s_iload_n (q := 2) d_M_isRowAt_1 rfl rfl ?_
  refine g_callS (q := 5) d_M_isRowAt_2 rfl ml_M_82 mx_M_isBlock ms_M_isBlock t_M_isBlock rfl rfl (Nat.le_of_ble_eq_true rfl) (by decide) ?_
  refine s_if_eq (tgt := 33) (q := 8) d_M_isRowAt_5 (by decide) rfl (fun _ => ?_) (fun z9 => absurd (bI_d.mpr (fun z => niB hy z.2)) z9)
  refine s_iconst (v := 0) (q := 34) d_M_isRowAt_33 rfl ki_0 ?_
  exact g_iret d_M_isRowAt_34 rfl rfl rfl rfl
theorem t_M_isRowAt_R {X : RAM} {t j n : Nat} {r : Int32} (ht : t < 2) (hj : j < 8) (hz : X 123 (8 * t + j) = nI n) (hn : n ≤ 12) (hr : ¬ (¬ r < 0 ∧ r < nI n)) : CG l D ac b y_M_isRowAt c_M_isRowAt 4 (some .boolean) 3 63 [.ref 122, .int (nI t), .int (nI j), .int r] X (some (.int 0)) (X) := by
  refine Ct_of false (by decide) (fun h => by cases h) (Nat.le_of_ble_eq_true rfl) ?_
  show V l D ac b "SpanStoreModel" c_M_isRowAt 4 (some .boolean) false 3 63 0 0 ((some (.int 0)), 144, mk (X)) 0 0 0 [(0, .ref 122), (1, .int (nI t)), (2, .int (nI j)), (3, .int r)] [] 144 (mk X)
  refine s_iload_n (q := 1) d_M_isRowAt_0 rfl rfl ?_
  refine s_iload_n (q := 2) d_M_isRowAt_1 rfl rfl ?_
  refine g_callS (q := 5) d_M_isRowAt_2 rfl ml_M_82 mx_M_isBlock ms_M_isBlock t_M_isBlock rfl rfl (Nat.le_of_ble_eq_true rfl) (by decide) ?_
  refine s_if_eq (tgt := 33) (q := 8) d_M_isRowAt_5 (by decide) rfl (fun z9 => absurd z9 (bI_dn.mpr ⟨inT ht, inB hj⟩)) (fun _ => ?_)
  refine s_iload_n (q := 9) d_M_isRowAt_8 rfl rfl ?_
  refine s_iconst (v := 0) (q := 10) d_M_isRowAt_9 rfl ki_0 ?_
  refine s_aload_n (q := 11) d_M_isRowAt_10 rfl rfl (Or.inr ⟨_, rfl⟩) ?_
  refine g_getr (q := 14) d_M_isRowAt_11 rfl fl_M_7 skM rfl ?_
  refine s_bipush (v := 8) (q := 16) d_M_isRowAt_14 rfl kb_8 ?_
  refine s_iload_n (q := 17) d_M_isRowAt_16 rfl rfl ?_
  refine s_imul (q := 18) d_M_isRowAt_17 rfl ?_
  refine s_iload_n (q := 19) d_M_isRowAt_18 rfl rfl ?_
  refine s_iadd (q := 20) d_M_isRowAt_19 rfl ?_
  refine g_ialv (v := nI n) (q := 21) d_M_isRowAt_20 rfl sm_0 (by omega) (ix8m _ _) (by omega) hz ?_
  refine s_iconst (v := 1) (q := 22) d_M_isRowAt_21 rfl ki_1 ?_
  refine s_isub (q := 23) d_M_isRowAt_22 rfl ?_
  refine g_callS (q := 26) d_M_isRowAt_23 rfl ml_M_74 mx_M_in ms_M_in t_M_in rfl rfl (Nat.le_of_ble_eq_true rfl) (by decide) ?_
  refine s_if_eq (tgt := 33) (q := 29) d_M_isRowAt_26 (by decide) rfl (fun _ => ?_) (fun z9 => absurd (bI_d.mpr (fun z => hr ((rowin hn).mp z))) z9)
  refine s_iconst (v := 0) (q := 34) d_M_isRowAt_33 rfl ki_0 ?_
  exact g_iret d_M_isRowAt_34 rfl rfl rfl rfl
theorem t_M_isRowAt_D {X : RAM} {t j n : Nat} {r : Int32} (ht : t < 2) (hj : j < 8) (hz : X 123 (8 * t + j) = nI n) (hn : n ≤ 12) (hr : ¬ r < 0 ∧ r < nI n) : CG l D ac b y_M_isRowAt c_M_isRowAt 4 (some .boolean) 3 63 [.ref 122, .int (nI t), .int (nI j), .int r] X (some (.int 1)) (X) := by
  refine Ct_of false (by decide) (fun h => by cases h) (Nat.le_of_ble_eq_true rfl) ?_
  show V l D ac b "SpanStoreModel" c_M_isRowAt 4 (some .boolean) false 3 63 0 0 ((some (.int 1)), 144, mk (X)) 0 0 0 [(0, .ref 122), (1, .int (nI t)), (2, .int (nI j)), (3, .int r)] [] 144 (mk X)
  refine s_iload_n (q := 1) d_M_isRowAt_0 rfl rfl ?_
  refine s_iload_n (q := 2) d_M_isRowAt_1 rfl rfl ?_
  refine g_callS (q := 5) d_M_isRowAt_2 rfl ml_M_82 mx_M_isBlock ms_M_isBlock t_M_isBlock rfl rfl (Nat.le_of_ble_eq_true rfl) (by decide) ?_
  refine s_if_eq (tgt := 33) (q := 8) d_M_isRowAt_5 (by decide) rfl (fun z9 => absurd z9 (bI_dn.mpr ⟨inT ht, inB hj⟩)) (fun _ => ?_)
  refine s_iload_n (q := 9) d_M_isRowAt_8 rfl rfl ?_
  refine s_iconst (v := 0) (q := 10) d_M_isRowAt_9 rfl ki_0 ?_
  refine s_aload_n (q := 11) d_M_isRowAt_10 rfl rfl (Or.inr ⟨_, rfl⟩) ?_
  refine g_getr (q := 14) d_M_isRowAt_11 rfl fl_M_7 skM rfl ?_
  refine s_bipush (v := 8) (q := 16) d_M_isRowAt_14 rfl kb_8 ?_
  refine s_iload_n (q := 17) d_M_isRowAt_16 rfl rfl ?_
  refine s_imul (q := 18) d_M_isRowAt_17 rfl ?_
  refine s_iload_n (q := 19) d_M_isRowAt_18 rfl rfl ?_
  refine s_iadd (q := 20) d_M_isRowAt_19 rfl ?_
  refine g_ialv (v := nI n) (q := 21) d_M_isRowAt_20 rfl sm_0 (by omega) (ix8m _ _) (by omega) hz ?_
  refine s_iconst (v := 1) (q := 22) d_M_isRowAt_21 rfl ki_1 ?_
  refine s_isub (q := 23) d_M_isRowAt_22 rfl ?_
  refine g_callS (q := 26) d_M_isRowAt_23 rfl ml_M_74 mx_M_in ms_M_in t_M_in rfl rfl (Nat.le_of_ble_eq_true rfl) (by decide) ?_
  refine s_if_eq (tgt := 33) (q := 29) d_M_isRowAt_26 (by decide) rfl (fun z9 => absurd z9 (bI_dn.mpr ((rowin hn).mpr hr))) (fun _ => ?_)
  refine s_iconst (v := 1) (q := 30) d_M_isRowAt_29 rfl ki_1 ?_
  refine s_goto (tgt := 34) d_M_isRowAt_30 (by decide) ?_
  exact g_iret d_M_isRowAt_34 rfl rfl rfl rfl
theorem rk {k n : Nat} (hk : k < n) (hn : n ≤ 12) : ¬ nI k < 0 ∧ nI k < nI n := ⟨nI_pos (by omega), nI_lt hk (by omega)⟩
theorem t_M_change_T {X : RAM} {x y r v : Int32} (hx : x < 0 ∨ 2 ≤ x) : CG l D ac b y_M_change c_M_change 7 (some .int) 4 86 [.ref 122, .int x, .int y, .int r, .int v] X (some (.int (-2))) (X) := by
  refine Ct_of false (by decide) (fun h => by cases h) (Nat.le_of_ble_eq_true rfl) ?_
  show V l D ac b "SpanStoreModel" c_M_change 7 (some .int) false 4 86 0 0 ((some (.int (-2))), 144, mk (X)) 0 0 0 [(0, .ref 122), (1, .int x), (2, .int y), (3, .int r), (4, .int v)] [] 144 (mk X)
  refine s_aload_n (q := 1) d_M_change_0 rfl rfl (Or.inr ⟨_, rfl⟩) ?_
  refine s_iload_n (q := 2) d_M_change_1 rfl rfl ?_
  refine s_iload_n (q := 3) d_M_change_2 rfl rfl ?_
  refine s_iload_n (q := 4) d_M_change_3 rfl rfl ?_
  refine g_callV (q := 7) d_M_change_4 rfl ml_M_126 mx_M_isRowAt mv_M_isRowAt (t_M_isRowAt_T hx) skM rfl rfl (Nat.le_of_ble_eq_true rfl) (by decide) ?_
  refine s_if_eq (tgt := 24) (q := 10) d_M_change_7 (by decide) rfl (fun _ => ?_) (fun z9 => absurd rfl z9)
  refine s_bipush (v := (-2)) (q := 26) d_M_change_24 rfl kb_m2 ?_
  exact g_iret d_M_change_26 rfl rfl rfl rfl
theorem t_M_change_B {X : RAM} {t : Nat} {y r v : Int32} (ht : t < 2) (hy : y < 0 ∨ 8 ≤ y) : CG l D ac b y_M_change c_M_change 7 (some .int) 4 86 [.ref 122, .int (nI t), .int y, .int r, .int v] X (some (.int (-2))) (X) := by
  refine Ct_of false (by decide) (fun h => by cases h) (Nat.le_of_ble_eq_true rfl) ?_
  show V l D ac b "SpanStoreModel" c_M_change 7 (some .int) false 4 86 0 0 ((some (.int (-2))), 144, mk (X)) 0 0 0 [(0, .ref 122), (1, .int (nI t)), (2, .int y), (3, .int r), (4, .int v)] [] 144 (mk X)
  refine s_aload_n (q := 1) d_M_change_0 rfl rfl (Or.inr ⟨_, rfl⟩) ?_
  refine s_iload_n (q := 2) d_M_change_1 rfl rfl ?_
  refine s_iload_n (q := 3) d_M_change_2 rfl rfl ?_
  refine s_iload_n (q := 4) d_M_change_3 rfl rfl ?_
  refine g_callV (q := 7) d_M_change_4 rfl ml_M_126 mx_M_isRowAt mv_M_isRowAt (t_M_isRowAt_B ht hy) skM rfl rfl (Nat.le_of_ble_eq_true rfl) (by decide) ?_
  refine s_if_eq (tgt := 24) (q := 10) d_M_change_7 (by decide) rfl (fun _ => ?_) (fun z9 => absurd rfl z9)
  refine s_bipush (v := (-2)) (q := 26) d_M_change_24 rfl kb_m2 ?_
  exact g_iret d_M_change_26 rfl rfl rfl rfl
theorem t_M_change_R {X : RAM} {t j n : Nat} {r v : Int32} (ht : t < 2) (hj : j < 8) (hz : X 123 (8 * t + j) = nI n) (hn : n ≤ 12) (hr : ¬ (¬ r < 0 ∧ r < nI n)) : CG l D ac b y_M_change c_M_change 7 (some .int) 4 86 [.ref 122, .int (nI t), .int (nI j), .int r, .int v] X (some (.int (-2))) (X) := by
  refine Ct_of false (by decide) (fun h => by cases h) (Nat.le_of_ble_eq_true rfl) ?_
  show V l D ac b "SpanStoreModel" c_M_change 7 (some .int) false 4 86 0 0 ((some (.int (-2))), 144, mk (X)) 0 0 0 [(0, .ref 122), (1, .int (nI t)), (2, .int (nI j)), (3, .int r), (4, .int v)] [] 144 (mk X)
  refine s_aload_n (q := 1) d_M_change_0 rfl rfl (Or.inr ⟨_, rfl⟩) ?_
  refine s_iload_n (q := 2) d_M_change_1 rfl rfl ?_
  refine s_iload_n (q := 3) d_M_change_2 rfl rfl ?_
  refine s_iload_n (q := 4) d_M_change_3 rfl rfl ?_
  refine g_callV (q := 7) d_M_change_4 rfl ml_M_126 mx_M_isRowAt mv_M_isRowAt (t_M_isRowAt_R ht hj hz hn hr) skM rfl rfl (Nat.le_of_ble_eq_true rfl) (by decide) ?_
  refine s_if_eq (tgt := 24) (q := 10) d_M_change_7 (by decide) rfl (fun _ => ?_) (fun z9 => absurd rfl z9)
  refine s_bipush (v := (-2)) (q := 26) d_M_change_24 rfl kb_m2 ?_
  exact g_iret d_M_change_26 rfl rfl rfl rfl
theorem t_M_change_V {X : RAM} {t j n k : Nat} {v : Int32} (ht : t < 2) (hj : j < 8) (hz : X 123 (8 * t + j) = nI n) (hn : n ≤ 12) (hk : k < n) (hv : ¬ ValOK v) : CG l D ac b y_M_change c_M_change 7 (some .int) 4 86 [.ref 122, .int (nI t), .int (nI j), .int (nI k), .int v] X (some (.int (-2))) (X) := by
  refine Ct_of false (by decide) (fun h => by cases h) (Nat.le_of_ble_eq_true rfl) ?_
  show V l D ac b "SpanStoreModel" c_M_change 7 (some .int) false 4 86 0 0 ((some (.int (-2))), 144, mk (X)) 0 0 0 [(0, .ref 122), (1, .int (nI t)), (2, .int (nI j)), (3, .int (nI k)), (4, .int v)] [] 144 (mk X)
  refine s_aload_n (q := 1) d_M_change_0 rfl rfl (Or.inr ⟨_, rfl⟩) ?_
  refine s_iload_n (q := 2) d_M_change_1 rfl rfl ?_
  refine s_iload_n (q := 3) d_M_change_2 rfl rfl ?_
  refine s_iload_n (q := 4) d_M_change_3 rfl rfl ?_
  refine g_callV (q := 7) d_M_change_4 rfl ml_M_126 mx_M_isRowAt mv_M_isRowAt (t_M_isRowAt_D ht hj hz hn (rk hk hn)) skM rfl rfl (Nat.le_of_ble_eq_true rfl) (by decide) ?_
  refine s_if_eq (tgt := 24) (q := 10) d_M_change_7 (by decide) rfl (fun z9 => absurd z9 (by decide)) (fun _ => ?_)
  refine s_iload (q := 12) d_M_change_10 rfl rfl ?_
  refine s_sipush (v := (-1000)) (q := 15) d_M_change_12 rfl kh_m1000 ?_
  refine s_sipush (v := 1000) (q := 18) d_M_change_15 rfl kh_1000 ?_
  refine g_callS (q := 21) d_M_change_18 rfl ml_M_74 mx_M_in ms_M_in t_M_in rfl rfl (Nat.le_of_ble_eq_true rfl) (by decide) ?_
  refine s_if_ne (tgt := 27) (q := 24) d_M_change_21 (by decide) rfl (fun z9 => absurd (bI_d.mpr hv) z9) (fun _ => ?_)
  refine s_bipush (v := (-2)) (q := 26) d_M_change_24 rfl kb_m2 ?_
  exact g_iret d_M_change_26 rfl rfl rfl rfl
theorem t_M_change_S {X : RAM} {t j n k : Nat} {v : Int32} (ht : t < 2) (hj : j < 8) (hz : X 123 (8 * t + j) = nI n) (hn : n ≤ 12) (hk : k < n) (hv : ValOK v) (hs : X 134 t = 0) : CG l D ac b y_M_change c_M_change 7 (some .int) 4 86 [.ref 122, .int (nI t), .int (nI j), .int (nI k), .int v] X (some (.int (-3))) (X) := by
  refine Ct_of false (by decide) (fun h => by cases h) (Nat.le_of_ble_eq_true rfl) ?_
  show V l D ac b "SpanStoreModel" c_M_change 7 (some .int) false 4 86 0 0 ((some (.int (-3))), 144, mk (X)) 0 0 0 [(0, .ref 122), (1, .int (nI t)), (2, .int (nI j)), (3, .int (nI k)), (4, .int v)] [] 144 (mk X)
  refine s_aload_n (q := 1) d_M_change_0 rfl rfl (Or.inr ⟨_, rfl⟩) ?_
  refine s_iload_n (q := 2) d_M_change_1 rfl rfl ?_
  refine s_iload_n (q := 3) d_M_change_2 rfl rfl ?_
  refine s_iload_n (q := 4) d_M_change_3 rfl rfl ?_
  refine g_callV (q := 7) d_M_change_4 rfl ml_M_126 mx_M_isRowAt mv_M_isRowAt (t_M_isRowAt_D ht hj hz hn (rk hk hn)) skM rfl rfl (Nat.le_of_ble_eq_true rfl) (by decide) ?_
  refine s_if_eq (tgt := 24) (q := 10) d_M_change_7 (by decide) rfl (fun z9 => absurd z9 (by decide)) (fun _ => ?_)
  refine s_iload (q := 12) d_M_change_10 rfl rfl ?_
  refine s_sipush (v := (-1000)) (q := 15) d_M_change_12 rfl kh_m1000 ?_
  refine s_sipush (v := 1000) (q := 18) d_M_change_15 rfl kh_1000 ?_
  refine g_callS (q := 21) d_M_change_18 rfl ml_M_74 mx_M_in ms_M_in t_M_in rfl rfl (Nat.le_of_ble_eq_true rfl) (by decide) ?_
  refine s_if_ne (tgt := 27) (q := 24) d_M_change_21 (by decide) rfl (fun _ => ?_) (fun z9 => absurd z9 (bI_dn.mpr hv))
  refine s_aload_n (q := 28) d_M_change_27 rfl rfl (Or.inr ⟨_, rfl⟩) ?_
  refine g_getr (q := 31) d_M_change_28 rfl fl_M_44 skM rfl ?_
  refine s_iload_n (q := 32) d_M_change_31 rfl rfl ?_
  refine g_zald (q := 33) d_M_change_32 rfl sm_11 (by omega) rfl ht ?_
  refine s_if_ne (tgt := 39) (q := 36) d_M_change_33 (by decide) rfl (fun z9 => absurd hs z9) (fun _ => ?_)
  refine s_bipush (v := (-3)) (q := 38) d_M_change_36 rfl kb_m3 ?_
  exact g_iret d_M_change_38 rfl rfl rfl rfl
def tcV (X : RAM) (B r : Nat) : Int32 := X 133 B ||| (if X 127 r = 0 then 1 else 0)
theorem or01 {a b : Int32} (ha : a = 0 ∨ a = 1) (hb : b = 0 ∨ b = 1) : a ||| b = 0 ∨ a ||| b = 1 := by rcases ha with rfl | rfl <;> rcases hb with rfl | rfl <;> decide
def mchX (X : RAM) (B k : Nat) (v : Int32) : RAM := up2 (up2 (up2 X 133 B (tcV X B (12 * B + k))) 127 (12 * B + k) 1) 126 (12 * B + k) v
theorem t_M_change_D {X : RAM} {t j n k : Nat} {v : Int32} (ht : t < 2) (hj : j < 8) (hz : X 123 (8 * t + j) = nI n) (hn : n ≤ 12) (hk : k < n) (hv : ValOK v) (hs : ¬ X 134 t = 0) (htc : X 133 (8 * t + j) = 0 ∨ X 133 (8 * t + j) = 1) : CG l D ac b y_M_change c_M_change 7 (some .int) 4 86 [.ref 122, .int (nI t), .int (nI j), .int (nI k), .int v] X (some (.int 1)) (mchX X (8 * t + j) k v) := by
  refine Ct_of false (by decide) (fun h => by cases h) (Nat.le_of_ble_eq_true rfl) ?_
  show V l D ac b "SpanStoreModel" c_M_change 7 (some .int) false 4 86 0 0 ((some (.int 1)), 144, mk (mchX X (8 * t + j) k v)) 0 0 0 [(0, .ref 122), (1, .int (nI t)), (2, .int (nI j)), (3, .int (nI k)), (4, .int v)] [] 144 (mk X)
  refine s_aload_n (q := 1) d_M_change_0 rfl rfl (Or.inr ⟨_, rfl⟩) ?_
  refine s_iload_n (q := 2) d_M_change_1 rfl rfl ?_
  refine s_iload_n (q := 3) d_M_change_2 rfl rfl ?_
  refine s_iload_n (q := 4) d_M_change_3 rfl rfl ?_
  refine g_callV (q := 7) d_M_change_4 rfl ml_M_126 mx_M_isRowAt mv_M_isRowAt (t_M_isRowAt_D ht hj hz hn (rk hk hn)) skM rfl rfl (Nat.le_of_ble_eq_true rfl) (by decide) ?_
  refine s_if_eq (tgt := 24) (q := 10) d_M_change_7 (by decide) rfl (fun z9 => absurd z9 (by decide)) (fun _ => ?_)
  refine s_iload (q := 12) d_M_change_10 rfl rfl ?_
  refine s_sipush (v := (-1000)) (q := 15) d_M_change_12 rfl kh_m1000 ?_
  refine s_sipush (v := 1000) (q := 18) d_M_change_15 rfl kh_1000 ?_
  refine g_callS (q := 21) d_M_change_18 rfl ml_M_74 mx_M_in ms_M_in t_M_in rfl rfl (Nat.le_of_ble_eq_true rfl) (by decide) ?_
  refine s_if_ne (tgt := 27) (q := 24) d_M_change_21 (by decide) rfl (fun _ => ?_) (fun z9 => absurd z9 (bI_dn.mpr hv))
  refine s_aload_n (q := 28) d_M_change_27 rfl rfl (Or.inr ⟨_, rfl⟩) ?_
  refine g_getr (q := 31) d_M_change_28 rfl fl_M_44 skM rfl ?_
  refine s_iload_n (q := 32) d_M_change_31 rfl rfl ?_
  refine g_zald (q := 33) d_M_change_32 rfl sm_11 (by omega) rfl ht ?_
  refine s_if_ne (tgt := 39) (q := 36) d_M_change_33 (by decide) rfl (fun _ => ?_) (fun z9 => absurd z9 hs)
  refine s_bipush (v := 8) (q := 41) d_M_change_39 rfl kb_8 ?_
  refine s_iload_n (q := 42) d_M_change_41 rfl rfl ?_
  refine s_imul (q := 43) d_M_change_42 rfl ?_
  refine s_iload_n (q := 44) d_M_change_43 rfl rfl ?_
  refine s_iadd (q := 45) d_M_change_44 rfl ?_
  rw [ix8m]
  refine s_istore (q := 47) d_M_change_45 rfl (by decide) ?_
  refine s_bipush (v := 12) (q := 49) d_M_change_47 rfl kb_12 ?_
  refine s_iload (q := 51) d_M_change_49 rfl rfl ?_
  refine s_imul (q := 52) d_M_change_51 rfl ?_
  refine s_iload_n (q := 53) d_M_change_52 rfl rfl ?_
  refine s_iadd (q := 54) d_M_change_53 rfl ?_
  rw [ix12]
  refine s_istore (q := 56) d_M_change_54 rfl (by decide) ?_
  refine s_aload_n (q := 57) d_M_change_56 rfl rfl (Or.inr ⟨_, rfl⟩) ?_
  refine g_getr (q := 60) d_M_change_57 rfl fl_M_41 skM rfl ?_
  refine s_iload (q := 62) d_M_change_60 rfl rfl ?_
  refine s_dup2 (q := 63) d_M_change_62 rfl rfl rfl ?_
  refine g_zald (q := 64) d_M_change_63 rfl sm_10 (by omega) rfl (by omega) ?_
  refine s_aload_n (q := 65) d_M_change_64 rfl rfl (Or.inr ⟨_, rfl⟩) ?_
  refine g_getr (q := 68) d_M_change_65 rfl fl_M_22 skM rfl ?_
  refine s_iload (q := 70) d_M_change_68 rfl rfl ?_
  refine g_zald (q := 71) d_M_change_70 rfl sm_4 (by omega) rfl (by omega) ?_
  refine s_if_ne (tgt := 78) (q := 74) d_M_change_71 (by decide) rfl (fun h_71 => ?_) (fun h_71 => ?_)
  · -- T 71
    refine s_iconst (v := 0) (q := 79) d_M_change_78 rfl ki_0 ?_
    refine s_ior (q := 80) d_M_change_79 rfl ?_
    refine g_zast (q := 81) d_M_change_80 rfl sm_10 (by omega) rfl (by omega) (vb (or01 htc (by decide))) ?_
    refine s_aload_n (q := 82) d_M_change_81 rfl rfl (Or.inr ⟨_, rfl⟩) ?_
    refine g_getr (q := 85) d_M_change_82 rfl fl_M_22 skM rfl ?_
    refine s_iload (q := 87) d_M_change_85 rfl rfl ?_
    refine s_iconst (v := 1) (q := 88) d_M_change_87 rfl ki_1 ?_
    refine g_zast (q := 89) d_M_change_88 rfl sm_4 (by omega) rfl (by omega) rfl ?_
    refine s_aload_n (q := 90) d_M_change_89 rfl rfl (Or.inr ⟨_, rfl⟩) ?_
    refine g_getr (q := 93) d_M_change_90 rfl fl_M_19 skM rfl ?_
    refine s_iload (q := 95) d_M_change_93 rfl rfl ?_
    refine s_iload (q := 97) d_M_change_95 rfl rfl ?_
    refine g_iast (q := 98) d_M_change_97 rfl sm_3 (by omega) rfl (by omega) ?_
    refine s_iconst (v := 1) (q := 99) d_M_change_98 rfl ki_1 ?_
    exact g_iret d_M_change_99 rfl rfl rfl (by simp [mchX, tcV, h_71])
  · -- F 71
    refine s_iconst (v := 1) (q := 75) d_M_change_74 rfl ki_1 ?_
    refine s_goto (tgt := 79) d_M_change_75 (by decide) ?_
    refine s_ior (q := 80) d_M_change_79 rfl ?_
    refine g_zast (q := 81) d_M_change_80 rfl sm_10 (by omega) rfl (by omega) (vb (or01 htc (by decide))) ?_
    refine s_aload_n (q := 82) d_M_change_81 rfl rfl (Or.inr ⟨_, rfl⟩) ?_
    refine g_getr (q := 85) d_M_change_82 rfl fl_M_22 skM rfl ?_
    refine s_iload (q := 87) d_M_change_85 rfl rfl ?_
    refine s_iconst (v := 1) (q := 88) d_M_change_87 rfl ki_1 ?_
    refine g_zast (q := 89) d_M_change_88 rfl sm_4 (by omega) rfl (by omega) rfl ?_
    refine s_aload_n (q := 90) d_M_change_89 rfl rfl (Or.inr ⟨_, rfl⟩) ?_
    refine g_getr (q := 93) d_M_change_90 rfl fl_M_19 skM rfl ?_
    refine s_iload (q := 95) d_M_change_93 rfl rfl ?_
    refine s_iload (q := 97) d_M_change_95 rfl rfl ?_
    refine g_iast (q := 98) d_M_change_97 rfl sm_3 (by omega) rfl (by omega) ?_
    refine s_iconst (v := 1) (q := 99) d_M_change_98 rfl ki_1 ?_
    exact g_iret d_M_change_99 rfl rfl rfl (by simp [mchX, tcV, h_71])
theorem t_M_value_T {X : RAM} {x y r : Int32} (hx : x < 0 ∨ 2 ≤ x) : CG l D ac b y_M_value c_M_value 5 (some .int) 4 86 [.ref 122, .int x, .int y, .int r] X (some (.int (-2147483648))) (X) := by
  refine Ct_of false (by decide) (fun h => by cases h) (Nat.le_of_ble_eq_true rfl) ?_
  show V l D ac b "SpanStoreModel" c_M_value 5 (some .int) false 4 86 0 0 ((some (.int (-2147483648))), 144, mk (X)) 0 0 0 [(0, .ref 122), (1, .int x), (2, .int y), (3, .int r)] [] 144 (mk X)
  refine s_aload_n (q := 1) d_M_value_0 rfl rfl (Or.inr ⟨_, rfl⟩) ?_
  refine s_iload_n (q := 2) d_M_value_1 rfl rfl ?_
  refine s_iload_n (q := 3) d_M_value_2 rfl rfl ?_
  refine s_iload_n (q := 4) d_M_value_3 rfl rfl ?_
  refine g_callV (q := 7) d_M_value_4 rfl ml_M_126 mx_M_isRowAt mv_M_isRowAt (t_M_isRowAt_T hx) skM rfl rfl (Nat.le_of_ble_eq_true rfl) (by decide) ?_
  refine s_if_eq (tgt := 19) (q := 10) d_M_value_7 (by decide) rfl (fun _ => ?_) (fun z9 => absurd rfl z9)
  refine s_ldc (q := 21) d_M_value_19 rfl kc_M_129 ?_
  exact g_iret d_M_value_21 rfl rfl rfl rfl
theorem t_M_value_B {X : RAM} {t : Nat} {y r : Int32} (ht : t < 2) (hy : y < 0 ∨ 8 ≤ y) : CG l D ac b y_M_value c_M_value 5 (some .int) 4 86 [.ref 122, .int (nI t), .int y, .int r] X (some (.int (-2147483648))) (X) := by
  refine Ct_of false (by decide) (fun h => by cases h) (Nat.le_of_ble_eq_true rfl) ?_
  show V l D ac b "SpanStoreModel" c_M_value 5 (some .int) false 4 86 0 0 ((some (.int (-2147483648))), 144, mk (X)) 0 0 0 [(0, .ref 122), (1, .int (nI t)), (2, .int y), (3, .int r)] [] 144 (mk X)
  refine s_aload_n (q := 1) d_M_value_0 rfl rfl (Or.inr ⟨_, rfl⟩) ?_
  refine s_iload_n (q := 2) d_M_value_1 rfl rfl ?_
  refine s_iload_n (q := 3) d_M_value_2 rfl rfl ?_
  refine s_iload_n (q := 4) d_M_value_3 rfl rfl ?_
  refine g_callV (q := 7) d_M_value_4 rfl ml_M_126 mx_M_isRowAt mv_M_isRowAt (t_M_isRowAt_B ht hy) skM rfl rfl (Nat.le_of_ble_eq_true rfl) (by decide) ?_
  refine s_if_eq (tgt := 19) (q := 10) d_M_value_7 (by decide) rfl (fun _ => ?_) (fun z9 => absurd rfl z9)
  refine s_ldc (q := 21) d_M_value_19 rfl kc_M_129 ?_
  exact g_iret d_M_value_21 rfl rfl rfl rfl
theorem t_M_value_R {X : RAM} {t j n : Nat} {r : Int32} (ht : t < 2) (hj : j < 8) (hz : X 123 (8 * t + j) = nI n) (hn : n ≤ 12) (hr : ¬ (¬ r < 0 ∧ r < nI n)) : CG l D ac b y_M_value c_M_value 5 (some .int) 4 86 [.ref 122, .int (nI t), .int (nI j), .int r] X (some (.int (-2147483648))) (X) := by
  refine Ct_of false (by decide) (fun h => by cases h) (Nat.le_of_ble_eq_true rfl) ?_
  show V l D ac b "SpanStoreModel" c_M_value 5 (some .int) false 4 86 0 0 ((some (.int (-2147483648))), 144, mk (X)) 0 0 0 [(0, .ref 122), (1, .int (nI t)), (2, .int (nI j)), (3, .int r)] [] 144 (mk X)
  refine s_aload_n (q := 1) d_M_value_0 rfl rfl (Or.inr ⟨_, rfl⟩) ?_
  refine s_iload_n (q := 2) d_M_value_1 rfl rfl ?_
  refine s_iload_n (q := 3) d_M_value_2 rfl rfl ?_
  refine s_iload_n (q := 4) d_M_value_3 rfl rfl ?_
  refine g_callV (q := 7) d_M_value_4 rfl ml_M_126 mx_M_isRowAt mv_M_isRowAt (t_M_isRowAt_R ht hj hz hn hr) skM rfl rfl (Nat.le_of_ble_eq_true rfl) (by decide) ?_
  refine s_if_eq (tgt := 19) (q := 10) d_M_value_7 (by decide) rfl (fun _ => ?_) (fun z9 => absurd rfl z9)
  refine s_ldc (q := 21) d_M_value_19 rfl kc_M_129 ?_
  exact g_iret d_M_value_21 rfl rfl rfl rfl
theorem t_M_value_S {X : RAM} {t j n k : Nat} (ht : t < 2) (hj : j < 8) (hz : X 123 (8 * t + j) = nI n) (hn : n ≤ 12) (hk : k < n) (hs : X 134 t = 0) : CG l D ac b y_M_value c_M_value 5 (some .int) 4 86 [.ref 122, .int (nI t), .int (nI j), .int (nI k)] X (some (.int (-2147483648))) (X) := by
  refine Ct_of false (by decide) (fun h => by cases h) (Nat.le_of_ble_eq_true rfl) ?_
  show V l D ac b "SpanStoreModel" c_M_value 5 (some .int) false 4 86 0 0 ((some (.int (-2147483648))), 144, mk (X)) 0 0 0 [(0, .ref 122), (1, .int (nI t)), (2, .int (nI j)), (3, .int (nI k))] [] 144 (mk X)
  refine s_aload_n (q := 1) d_M_value_0 rfl rfl (Or.inr ⟨_, rfl⟩) ?_
  refine s_iload_n (q := 2) d_M_value_1 rfl rfl ?_
  refine s_iload_n (q := 3) d_M_value_2 rfl rfl ?_
  refine s_iload_n (q := 4) d_M_value_3 rfl rfl ?_
  refine g_callV (q := 7) d_M_value_4 rfl ml_M_126 mx_M_isRowAt mv_M_isRowAt (t_M_isRowAt_D ht hj hz hn (rk hk hn)) skM rfl rfl (Nat.le_of_ble_eq_true rfl) (by decide) ?_
  refine s_if_eq (tgt := 19) (q := 10) d_M_value_7 (by decide) rfl (fun z9 => absurd z9 (by decide)) (fun _ => ?_)
  refine s_aload_n (q := 11) d_M_value_10 rfl rfl (Or.inr ⟨_, rfl⟩) ?_
  refine g_getr (q := 14) d_M_value_11 rfl fl_M_44 skM rfl ?_
  refine s_iload_n (q := 15) d_M_value_14 rfl rfl ?_
  refine g_zald (q := 16) d_M_value_15 rfl sm_11 (by omega) rfl ht ?_
  refine s_if_ne (tgt := 22) (q := 19) d_M_value_16 (by decide) rfl (fun z9 => absurd hs z9) (fun _ => ?_)
  refine s_ldc (q := 21) d_M_value_19 rfl kc_M_129 ?_
  exact g_iret d_M_value_21 rfl rfl rfl rfl
theorem t_M_value_N {X : RAM} {t j n k : Nat} (ht : t < 2) (hj : j < 8) (hz : X 123 (8 * t + j) = nI n) (hn : n ≤ 12) (hk : k < n) (hs : ¬ X 134 t = 0) (hw : X 127 (12 * (8 * t + j) + k) = 0) : CG l D ac b y_M_value c_M_value 5 (some .int) 4 86 [.ref 122, .int (nI t), .int (nI j), .int (nI k)] X (some (.int (-2147483648))) (X) := by
  refine Ct_of false (by decide) (fun h => by cases h) (Nat.le_of_ble_eq_true rfl) ?_
  show V l D ac b "SpanStoreModel" c_M_value 5 (some .int) false 4 86 0 0 ((some (.int (-2147483648))), 144, mk (X)) 0 0 0 [(0, .ref 122), (1, .int (nI t)), (2, .int (nI j)), (3, .int (nI k))] [] 144 (mk X)
  refine s_aload_n (q := 1) d_M_value_0 rfl rfl (Or.inr ⟨_, rfl⟩) ?_
  refine s_iload_n (q := 2) d_M_value_1 rfl rfl ?_
  refine s_iload_n (q := 3) d_M_value_2 rfl rfl ?_
  refine s_iload_n (q := 4) d_M_value_3 rfl rfl ?_
  refine g_callV (q := 7) d_M_value_4 rfl ml_M_126 mx_M_isRowAt mv_M_isRowAt (t_M_isRowAt_D ht hj hz hn (rk hk hn)) skM rfl rfl (Nat.le_of_ble_eq_true rfl) (by decide) ?_
  refine s_if_eq (tgt := 19) (q := 10) d_M_value_7 (by decide) rfl (fun z9 => absurd z9 (by decide)) (fun _ => ?_)
  refine s_aload_n (q := 11) d_M_value_10 rfl rfl (Or.inr ⟨_, rfl⟩) ?_
  refine g_getr (q := 14) d_M_value_11 rfl fl_M_44 skM rfl ?_
  refine s_iload_n (q := 15) d_M_value_14 rfl rfl ?_
  refine g_zald (q := 16) d_M_value_15 rfl sm_11 (by omega) rfl ht ?_
  refine s_if_ne (tgt := 22) (q := 19) d_M_value_16 (by decide) rfl (fun _ => ?_) (fun z9 => absurd z9 hs)
  refine s_bipush (v := 12) (q := 24) d_M_value_22 rfl kb_12 ?_
  refine s_bipush (v := 8) (q := 26) d_M_value_24 rfl kb_8 ?_
  refine s_iload_n (q := 27) d_M_value_26 rfl rfl ?_
  refine s_imul (q := 28) d_M_value_27 rfl ?_
  refine s_iload_n (q := 29) d_M_value_28 rfl rfl ?_
  refine s_iadd (q := 30) d_M_value_29 rfl ?_
  rw [ix8m]
  refine s_imul (q := 31) d_M_value_30 rfl ?_
  refine s_iload_n (q := 32) d_M_value_31 rfl rfl ?_
  refine s_iadd (q := 33) d_M_value_32 rfl ?_
  rw [ix12]
  refine s_istore (q := 35) d_M_value_33 rfl (by decide) ?_
  refine s_aload_n (q := 36) d_M_value_35 rfl rfl (Or.inr ⟨_, rfl⟩) ?_
  refine g_getr (q := 39) d_M_value_36 rfl fl_M_22 skM rfl ?_
  refine s_iload (q := 41) d_M_value_39 rfl rfl ?_
  refine g_zald (q := 42) d_M_value_41 rfl sm_4 (by omega) rfl (by omega) ?_
  refine s_if_eq (tgt := 55) (q := 45) d_M_value_42 (by decide) rfl (fun _ => ?_) (fun z9 => absurd hw z9)
  refine s_ldc (q := 57) d_M_value_55 rfl kc_M_129 ?_
  exact g_iret d_M_value_57 rfl rfl rfl rfl
theorem t_M_value_D {X : RAM} {t j n k : Nat} (ht : t < 2) (hj : j < 8) (hz : X 123 (8 * t + j) = nI n) (hn : n ≤ 12) (hk : k < n) (hs : ¬ X 134 t = 0) (hw : ¬ X 127 (12 * (8 * t + j) + k) = 0) : CG l D ac b y_M_value c_M_value 5 (some .int) 4 86 [.ref 122, .int (nI t), .int (nI j), .int (nI k)] X (some (.int (X 126 (12 * (8 * t + j) + k)))) (X) := by
  refine Ct_of false (by decide) (fun h => by cases h) (Nat.le_of_ble_eq_true rfl) ?_
  show V l D ac b "SpanStoreModel" c_M_value 5 (some .int) false 4 86 0 0 ((some (.int (X 126 (12 * (8 * t + j) + k)))), 144, mk (X)) 0 0 0 [(0, .ref 122), (1, .int (nI t)), (2, .int (nI j)), (3, .int (nI k))] [] 144 (mk X)
  refine s_aload_n (q := 1) d_M_value_0 rfl rfl (Or.inr ⟨_, rfl⟩) ?_
  refine s_iload_n (q := 2) d_M_value_1 rfl rfl ?_
  refine s_iload_n (q := 3) d_M_value_2 rfl rfl ?_
  refine s_iload_n (q := 4) d_M_value_3 rfl rfl ?_
  refine g_callV (q := 7) d_M_value_4 rfl ml_M_126 mx_M_isRowAt mv_M_isRowAt (t_M_isRowAt_D ht hj hz hn (rk hk hn)) skM rfl rfl (Nat.le_of_ble_eq_true rfl) (by decide) ?_
  refine s_if_eq (tgt := 19) (q := 10) d_M_value_7 (by decide) rfl (fun z9 => absurd z9 (by decide)) (fun _ => ?_)
  refine s_aload_n (q := 11) d_M_value_10 rfl rfl (Or.inr ⟨_, rfl⟩) ?_
  refine g_getr (q := 14) d_M_value_11 rfl fl_M_44 skM rfl ?_
  refine s_iload_n (q := 15) d_M_value_14 rfl rfl ?_
  refine g_zald (q := 16) d_M_value_15 rfl sm_11 (by omega) rfl ht ?_
  refine s_if_ne (tgt := 22) (q := 19) d_M_value_16 (by decide) rfl (fun _ => ?_) (fun z9 => absurd z9 hs)
  refine s_bipush (v := 12) (q := 24) d_M_value_22 rfl kb_12 ?_
  refine s_bipush (v := 8) (q := 26) d_M_value_24 rfl kb_8 ?_
  refine s_iload_n (q := 27) d_M_value_26 rfl rfl ?_
  refine s_imul (q := 28) d_M_value_27 rfl ?_
  refine s_iload_n (q := 29) d_M_value_28 rfl rfl ?_
  refine s_iadd (q := 30) d_M_value_29 rfl ?_
  rw [ix8m]
  refine s_imul (q := 31) d_M_value_30 rfl ?_
  refine s_iload_n (q := 32) d_M_value_31 rfl rfl ?_
  refine s_iadd (q := 33) d_M_value_32 rfl ?_
  rw [ix12]
  refine s_istore (q := 35) d_M_value_33 rfl (by decide) ?_
  refine s_aload_n (q := 36) d_M_value_35 rfl rfl (Or.inr ⟨_, rfl⟩) ?_
  refine g_getr (q := 39) d_M_value_36 rfl fl_M_22 skM rfl ?_
  refine s_iload (q := 41) d_M_value_39 rfl rfl ?_
  refine g_zald (q := 42) d_M_value_41 rfl sm_4 (by omega) rfl (by omega) ?_
  refine s_if_eq (tgt := 55) (q := 45) d_M_value_42 (by decide) rfl (fun z9 => absurd z9 hw) (fun _ => ?_)
  refine s_aload_n (q := 46) d_M_value_45 rfl rfl (Or.inr ⟨_, rfl⟩) ?_
  refine g_getr (q := 49) d_M_value_46 rfl fl_M_19 skM rfl ?_
  refine s_iload (q := 51) d_M_value_49 rfl rfl ?_
  refine g_iald (q := 52) d_M_value_51 rfl sm_3 (by omega) rfl (by omega) ?_
  refine s_goto (tgt := 57) d_M_value_52 (by decide) ?_
  exact g_iret d_M_value_57 rfl rfl rfl rfl
def hvS (X : RAM) (t : Nat) : Nat → Int32
  | 0 => 1001
  | k + 1 => if X 136 (4 * t + k) = 3 ∧ X 137 (4 * t + k) < hvS X t k then X 137 (4 * t + k) else hvS X t k
theorem lp_heavy {X : RAM} {t c : Nat} (ht : t < 2) (hc : X 135 t = nI c) (hc4 : c ≤ 4) : ∀ i, i ≤ c → V l D ac b "SpanStoreModel" c_M_heavyOf 4 (some .int) false 0 0 0 0 ((some (.int (hvS X t c))), 144, mk X) 0 0 8 [(0, .ref 122), (1, .int (nI t)), (2, .int (hvS X t i)), (3, .int (nI (4 * t + i)))] [] 144 (mk X) := by
  refine nat_down ?_ (fun i hi ih => ?_)
  · skip
    refine s_iload_n (q := 9) d_M_heavyOf_8 rfl rfl ?_
    refine s_iconst (v := 4) (q := 10) d_M_heavyOf_9 rfl ki_4 ?_
    refine s_iload_n (q := 11) d_M_heavyOf_10 rfl rfl ?_
    refine s_imul (q := 12) d_M_heavyOf_11 rfl ?_
    refine s_aload_n (q := 13) d_M_heavyOf_12 rfl rfl (Or.inr ⟨_, rfl⟩) ?_
    refine g_getr (q := 16) d_M_heavyOf_13 rfl fl_M_47 skM rfl ?_
    refine s_iload_n (q := 17) d_M_heavyOf_16 rfl rfl ?_
    refine g_ialv (v := nI c) (q := 18) d_M_heavyOf_17 rfl sm_12 (by omega) rfl ht hc ?_
    refine s_iadd (q := 19) d_M_heavyOf_18 rfl ?_
    rw [ix4m]
    refine s_icmp_ge (tgt := 59) (q := 22) d_M_heavyOf_19 (by decide) rfl (fun _ => ?_) (fun z9 => absurd (nI_le (Nat.le_refl _) (by omega)) z9)
    refine s_iload_n (q := 60) d_M_heavyOf_59 rfl rfl ?_
    exact g_iret d_M_heavyOf_60 rfl rfl rfl rfl
  · skip
    refine s_iload_n (q := 9) d_M_heavyOf_8 rfl rfl ?_
    refine s_iconst (v := 4) (q := 10) d_M_heavyOf_9 rfl ki_4 ?_
    refine s_iload_n (q := 11) d_M_heavyOf_10 rfl rfl ?_
    refine s_imul (q := 12) d_M_heavyOf_11 rfl ?_
    refine s_aload_n (q := 13) d_M_heavyOf_12 rfl rfl (Or.inr ⟨_, rfl⟩) ?_
    refine g_getr (q := 16) d_M_heavyOf_13 rfl fl_M_47 skM rfl ?_
    refine s_iload_n (q := 17) d_M_heavyOf_16 rfl rfl ?_
    refine g_ialv (v := nI c) (q := 18) d_M_heavyOf_17 rfl sm_12 (by omega) rfl ht hc ?_
    refine s_iadd (q := 19) d_M_heavyOf_18 rfl ?_
    rw [ix4m]
    refine s_icmp_ge (tgt := 59) (q := 22) d_M_heavyOf_19 (by decide) rfl (fun z9 => absurd z9 (nI_ge (by omega) (by omega))) (fun _ => ?_)
    refine s_aload_n (q := 23) d_M_heavyOf_22 rfl rfl (Or.inr ⟨_, rfl⟩) ?_
    refine g_getr (q := 26) d_M_heavyOf_23 rfl fl_M_50 skM rfl ?_
    refine s_iload_n (q := 27) d_M_heavyOf_26 rfl rfl ?_
    refine g_iald (q := 28) d_M_heavyOf_27 rfl sm_13 (by omega) rfl (by omega) ?_
    refine s_iconst (v := 3) (q := 29) d_M_heavyOf_28 rfl ki_3 ?_
    refine s_icmp_ne (tgt := 51) (q := 32) d_M_heavyOf_29 (by decide) rfl (fun h_29 => ?_) (fun h_29 => ?_)
    · -- T 29
      rw [show hvS X t (i + 1) = hvS X t i from by simp [hvS, *]] at ih
      refine s_iload_n (q := 52) d_M_heavyOf_51 rfl rfl ?_
      refine s_istore_n (q := 53) d_M_heavyOf_52 rfl (by decide) ?_
      refine s_iinc (q := 56) d_M_heavyOf_53 rfl rfl (by first | exact inc1 _ | rfl) (by decide) ?_
      refine s_goto (tgt := 8) d_M_heavyOf_56 (by decide) ?_
      exact s_lv (lv' := [(0, .ref 122), (1, .int (nI t)), (2, .int _), (3, .int (nI (4 * t + (i + 1))))]) ⟨rfl, rfl, rfl, rfl, trivial⟩ ih
    · -- F 29
      refine s_aload_n (q := 33) d_M_heavyOf_32 rfl rfl (Or.inr ⟨_, rfl⟩) ?_
      refine g_getr (q := 36) d_M_heavyOf_33 rfl fl_M_53 skM rfl ?_
      refine s_iload_n (q := 37) d_M_heavyOf_36 rfl rfl ?_
      refine g_iald (q := 38) d_M_heavyOf_37 rfl sm_14 (by omega) rfl (by omega) ?_
      refine s_iload_n (q := 39) d_M_heavyOf_38 rfl rfl ?_
      refine s_icmp_ge (tgt := 51) (q := 42) d_M_heavyOf_39 (by decide) rfl (fun h_39 => ?_) (fun h_39 => ?_)
      · -- T 39
        have h39 := i_nlt.mpr h_39
        rw [show hvS X t (i + 1) = hvS X t i from by simp [hvS, *]] at ih
        refine s_iload_n (q := 52) d_M_heavyOf_51 rfl rfl ?_
        refine s_istore_n (q := 53) d_M_heavyOf_52 rfl (by decide) ?_
        refine s_iinc (q := 56) d_M_heavyOf_53 rfl rfl (by first | exact inc1 _ | rfl) (by decide) ?_
        refine s_goto (tgt := 8) d_M_heavyOf_56 (by decide) ?_
        exact s_lv (lv' := [(0, .ref 122), (1, .int (nI t)), (2, .int _), (3, .int (nI (4 * t + (i + 1))))]) ⟨rfl, rfl, rfl, rfl, trivial⟩ ih
      · -- F 39
        have h39 := i_nle.mp h_39
        rw [show hvS X t (i + 1) = X 137 (4 * t + i) from by simp [hvS, *]] at ih
        refine s_aload_n (q := 43) d_M_heavyOf_42 rfl rfl (Or.inr ⟨_, rfl⟩) ?_
        refine g_getr (q := 46) d_M_heavyOf_43 rfl fl_M_53 skM rfl ?_
        refine s_iload_n (q := 47) d_M_heavyOf_46 rfl rfl ?_
        refine g_iald (q := 48) d_M_heavyOf_47 rfl sm_14 (by omega) rfl (by omega) ?_
        refine s_goto (tgt := 52) d_M_heavyOf_48 (by decide) ?_
        refine s_istore_n (q := 53) d_M_heavyOf_52 rfl (by decide) ?_
        refine s_iinc (q := 56) d_M_heavyOf_53 rfl rfl (by first | exact inc1 _ | rfl) (by decide) ?_
        refine s_goto (tgt := 8) d_M_heavyOf_56 (by decide) ?_
        exact s_lv (lv' := [(0, .ref 122), (1, .int (nI t)), (2, .int _), (3, .int (nI (4 * t + (i + 1))))]) ⟨rfl, rfl, rfl, rfl, trivial⟩ ih
theorem t_M_heavyOf {X : RAM} {t c : Nat} (ht : t < 2) (hc : X 135 t = nI c) (hc4 : c ≤ 4) : CG l D ac b y_M_heavyOf c_M_heavyOf 4 (some .int) 0 0 [.ref 122, .int (nI t)] X (some (.int (hvS X t c))) (X) := by
  refine Ct_of false (by decide) (fun h => by cases h) (Nat.le_of_ble_eq_true rfl) ?_
  show V l D ac b "SpanStoreModel" c_M_heavyOf 4 (some .int) false 0 0 0 0 ((some (.int (hvS X t c))), 144, mk (X)) 0 0 0 [(0, .ref 122), (1, .int (nI t))] [] 144 (mk X)
  refine s_sipush (v := 1001) (q := 3) d_M_heavyOf_0 rfl kh_1001 ?_
  refine s_istore_n (q := 4) d_M_heavyOf_3 rfl (by decide) ?_
  refine s_iconst (v := 4) (q := 5) d_M_heavyOf_4 rfl ki_4 ?_
  refine s_iload_n (q := 6) d_M_heavyOf_5 rfl rfl ?_
  refine s_imul (q := 7) d_M_heavyOf_6 rfl ?_
  rw [m4]
  refine s_istore_n (q := 8) d_M_heavyOf_7 rfl (by decide) ?_
  exact s_lv (lv' := [(0, .ref 122), (1, .int (nI t)), (2, .int (hvS X t 0)), (3, .int (nI (4 * t + 0)))]) ⟨rfl, rfl, rfl, rfl, trivial⟩ (lp_heavy ht hc hc4 0 (Nat.zero_le c))
def mlo (X : RAM) (t B c : Nat) : Int32 := if X 130 B < 1 - hvS X t c then 1 - hvS X t c else X 130 B
def mhi (X : RAM) (t B c : Nat) : Int32 := if hvS X t c - 1 < X 131 B then hvS X t c - 1 else X 131 B
theorem t_M_lowOf {X : RAM} {t c B : Nat} (ht : t < 2) (hc : X 135 t = nI c) (hc4 : c ≤ 4) (hB : B < 16) : CG l D ac b y_M_lowOf c_M_lowOf 4 (some .int) 1 23 [.ref 122, .int (nI t), .int (nI B)] X (some (.int (mlo X t B c))) (X) := by
  refine Ct_of false (by decide) (fun h => by cases h) (Nat.le_of_ble_eq_true rfl) ?_
  show V l D ac b "SpanStoreModel" c_M_lowOf 4 (some .int) false 1 23 0 0 ((some (.int (mlo X t B c))), 144, mk (X)) 0 0 0 [(0, .ref 122), (1, .int (nI t)), (2, .int (nI B))] [] 144 (mk X)
  refine s_iconst (v := 1) (q := 1) d_M_lowOf_0 rfl ki_1 ?_
  refine s_aload_n (q := 2) d_M_lowOf_1 rfl rfl (Or.inr ⟨_, rfl⟩) ?_
  refine s_iload_n (q := 3) d_M_lowOf_2 rfl rfl ?_
  refine g_callV (q := 6) d_M_lowOf_3 rfl ml_M_130 mx_M_heavyOf mv_M_heavyOf (t_M_heavyOf ht hc hc4) skM rfl rfl (Nat.le_of_ble_eq_true rfl) (by decide) ?_
  refine s_isub (q := 7) d_M_lowOf_6 rfl ?_
  refine s_istore_n (q := 8) d_M_lowOf_7 rfl (by decide) ?_
  refine s_aload_n (q := 9) d_M_lowOf_8 rfl rfl (Or.inr ⟨_, rfl⟩) ?_
  refine g_getr (q := 12) d_M_lowOf_9 rfl fl_M_32 skM rfl ?_
  refine s_iload_n (q := 13) d_M_lowOf_12 rfl rfl ?_
  refine g_iald (q := 14) d_M_lowOf_13 rfl sm_7 (by omega) rfl hB ?_
  refine s_iload_n (q := 15) d_M_lowOf_14 rfl rfl ?_
  refine s_icmp_ge (tgt := 22) (q := 18) d_M_lowOf_15 (by decide) rfl (fun h_15 => ?_) (fun h_15 => ?_)
  · -- T 15
    refine s_aload_n (q := 23) d_M_lowOf_22 rfl rfl (Or.inr ⟨_, rfl⟩) ?_
    refine g_getr (q := 26) d_M_lowOf_23 rfl fl_M_32 skM rfl ?_
    refine s_iload_n (q := 27) d_M_lowOf_26 rfl rfl ?_
    refine g_iald (q := 28) d_M_lowOf_27 rfl sm_7 (by omega) rfl hB ?_
    exact g_iret d_M_lowOf_28 rfl rfl (by first | exact (if_neg (i_nlt.mpr h_15)).symm | exact (if_pos (i_nle.mp h_15)).symm) rfl
  · -- F 15
    refine s_iload_n (q := 19) d_M_lowOf_18 rfl rfl ?_
    refine s_goto (tgt := 28) d_M_lowOf_19 (by decide) ?_
    exact g_iret d_M_lowOf_28 rfl rfl (by first | exact (if_neg (i_nlt.mpr h_15)).symm | exact (if_pos (i_nle.mp h_15)).symm) rfl
theorem t_M_highOf {X : RAM} {t c B : Nat} (ht : t < 2) (hc : X 135 t = nI c) (hc4 : c ≤ 4) (hB : B < 16) : CG l D ac b y_M_highOf c_M_highOf 4 (some .int) 1 23 [.ref 122, .int (nI t), .int (nI B)] X (some (.int (mhi X t B c))) (X) := by
  refine Ct_of false (by decide) (fun h => by cases h) (Nat.le_of_ble_eq_true rfl) ?_
  show V l D ac b "SpanStoreModel" c_M_highOf 4 (some .int) false 1 23 0 0 ((some (.int (mhi X t B c))), 144, mk (X)) 0 0 0 [(0, .ref 122), (1, .int (nI t)), (2, .int (nI B))] [] 144 (mk X)
  refine s_aload_n (q := 1) d_M_highOf_0 rfl rfl (Or.inr ⟨_, rfl⟩) ?_
  refine s_iload_n (q := 2) d_M_highOf_1 rfl rfl ?_
  refine g_callV (q := 5) d_M_highOf_2 rfl ml_M_130 mx_M_heavyOf mv_M_heavyOf (t_M_heavyOf ht hc hc4) skM rfl rfl (Nat.le_of_ble_eq_true rfl) (by decide) ?_
  refine s_iconst (v := 1) (q := 6) d_M_highOf_5 rfl ki_1 ?_
  refine s_isub (q := 7) d_M_highOf_6 rfl ?_
  refine s_istore_n (q := 8) d_M_highOf_7 rfl (by decide) ?_
  refine s_aload_n (q := 9) d_M_highOf_8 rfl rfl (Or.inr ⟨_, rfl⟩) ?_
  refine g_getr (q := 12) d_M_highOf_9 rfl fl_M_35 skM rfl ?_
  refine s_iload_n (q := 13) d_M_highOf_12 rfl rfl ?_
  refine g_iald (q := 14) d_M_highOf_13 rfl sm_8 (by omega) rfl hB ?_
  refine s_iload_n (q := 15) d_M_highOf_14 rfl rfl ?_
  refine s_icmp_le (tgt := 22) (q := 18) d_M_highOf_15 (by decide) rfl (fun h_15 => ?_) (fun h_15 => ?_)
  · -- T 15
    refine s_aload_n (q := 23) d_M_highOf_22 rfl rfl (Or.inr ⟨_, rfl⟩) ?_
    refine g_getr (q := 26) d_M_highOf_23 rfl fl_M_35 skM rfl ?_
    refine s_iload_n (q := 27) d_M_highOf_26 rfl rfl ?_
    refine g_iald (q := 28) d_M_highOf_27 rfl sm_8 (by omega) rfl hB ?_
    exact g_iret d_M_highOf_28 rfl rfl (by first | exact (if_neg (i_nlt.mpr h_15)).symm | exact (if_pos (i_nle.mp h_15)).symm) rfl
  · -- F 15
    refine s_iload_n (q := 19) d_M_highOf_18 rfl rfl ?_
    refine s_goto (tgt := 28) d_M_highOf_19 (by decide) ?_
    exact g_iret d_M_highOf_28 rfl rfl (by first | exact (if_neg (i_nlt.mpr h_15)).symm | exact (if_pos (i_nle.mp h_15)).symm) rfl
def wkP (X : RAM) (B : Nat) (v : Int32) : Nat → Bool := fun i => decide (¬ X 128 (12 * B + i) = 0 ∧ X 129 (12 * B + i) = v)
def usV (X : RAM) (B : Nat) (v : Int32) (n : Nat) : Bool := decide (X 133 B = 0) && !anyB (wkP X B v) n
theorem usV_s {X : RAM} {B i : Nat} {v : Int32} : usV X B v (i + 1) = (usV X B v i && !wkP X B v i) := by
  unfold usV
  rw [anyB]
  cases decide (X 133 B = 0) <;> cases anyB (wkP X B v) i <;> cases wkP X B v i <;> rfl
theorem bI_and (p q : Bool) : bI p &&& bI q = bI (p && q) := by cases p <;> cases q <;> decide
theorem lp_unseen {X : RAM} {B n : Nat} {v : Int32} (hB : B < 16) (hz : X 123 B = nI n) (hn : n ≤ 12) : ∀ i, i ≤ n → V l D ac b "SpanStoreModel" c_M_isUnseen 5 (some .boolean) false 0 0 0 0 ((some (.int (bI (usV X B v n)))), 144, mk X) 0 0 18 [(0, .ref 122), (1, .int (nI B)), (2, .int v), (3, .int (bI (usV X B v i))), (4, .int (nI i))] [] 144 (mk X) := by
  refine nat_down ?_ (fun i hi ih => ?_)
  · skip
    refine s_iload (q := 20) d_M_isUnseen_18 rfl rfl ?_
    refine s_aload_n (q := 21) d_M_isUnseen_20 rfl rfl (Or.inr ⟨_, rfl⟩) ?_
    refine g_getr (q := 24) d_M_isUnseen_21 rfl fl_M_7 skM rfl ?_
    refine s_iload_n (q := 25) d_M_isUnseen_24 rfl rfl ?_
    refine g_ialv (v := nI n) (q := 26) d_M_isUnseen_25 rfl sm_0 (by omega) rfl hB hz ?_
    refine s_icmp_ge (tgt := 74) (q := 29) d_M_isUnseen_26 (by decide) rfl (fun _ => ?_) (fun z9 => absurd (nI_le (Nat.le_refl n) (by omega)) z9)
    refine s_iload_n (q := 75) d_M_isUnseen_74 rfl rfl ?_
    exact g_iret d_M_isUnseen_75 rfl (nbI _) rfl rfl
  · skip
    refine s_iload (q := 20) d_M_isUnseen_18 rfl rfl ?_
    refine s_aload_n (q := 21) d_M_isUnseen_20 rfl rfl (Or.inr ⟨_, rfl⟩) ?_
    refine g_getr (q := 24) d_M_isUnseen_21 rfl fl_M_7 skM rfl ?_
    refine s_iload_n (q := 25) d_M_isUnseen_24 rfl rfl ?_
    refine g_ialv (v := nI n) (q := 26) d_M_isUnseen_25 rfl sm_0 (by omega) rfl hB hz ?_
    refine s_icmp_ge (tgt := 74) (q := 29) d_M_isUnseen_26 (by decide) rfl (fun z9 => absurd z9 (nI_ge hi (by omega))) (fun _ => ?_)
    refine s_iload_n (q := 30) d_M_isUnseen_29 rfl rfl ?_
    refine s_aload_n (q := 31) d_M_isUnseen_30 rfl rfl (Or.inr ⟨_, rfl⟩) ?_
    refine g_getr (q := 34) d_M_isUnseen_31 rfl fl_M_26 skM rfl ?_
    refine s_bipush (v := 12) (q := 36) d_M_isUnseen_34 rfl kb_12 ?_
    refine s_iload_n (q := 37) d_M_isUnseen_36 rfl rfl ?_
    refine s_imul (q := 38) d_M_isUnseen_37 rfl ?_
    refine s_iload (q := 40) d_M_isUnseen_38 rfl rfl ?_
    refine s_iadd (q := 41) d_M_isUnseen_40 rfl ?_
    refine g_zald (q := 42) d_M_isUnseen_41 rfl sm_5 (by omega) (ix12 _ _) (by omega) ?_
    refine s_if_eq (tgt := 61) (q := 45) d_M_isUnseen_42 (by decide) rfl (fun h_42 => ?_) (fun h_42 => ?_)
    · -- T 42
      have hw : wkP X B v i = false := by simp [wkP, h_42]
      rw [usV_s, hw] at ih
      refine s_iconst (v := 1) (q := 62) d_M_isUnseen_61 rfl ki_1 ?_
      refine s_goto (tgt := 66) d_M_isUnseen_62 (by decide) ?_
      refine s_iand (q := 67) d_M_isUnseen_66 rfl ?_
      first | rw [show bI (usV X B v i) &&& 1 = bI (usV X B v i && !false) from bI_and _ true] | rw [show bI (usV X B v i) &&& 0 = bI (usV X B v i && !true) from bI_and _ false]
      refine s_istore_n (q := 68) d_M_isUnseen_67 rfl (by decide) ?_
      refine s_iinc (q := 71) d_M_isUnseen_68 rfl rfl (by first | exact inc1 _ | rfl) (by decide) ?_
      refine s_goto (tgt := 18) d_M_isUnseen_71 (by decide) ?_
      exact s_lv (lv' := [(0, .ref 122), (1, .int (nI B)), (2, .int v), (3, .int (bI _)), (4, .int (nI (i + 1)))]) ⟨rfl, rfl, rfl, rfl, rfl, trivial⟩ ih
    · -- F 42
      refine s_aload_n (q := 46) d_M_isUnseen_45 rfl rfl (Or.inr ⟨_, rfl⟩) ?_
      refine g_getr (q := 49) d_M_isUnseen_46 rfl fl_M_29 skM rfl ?_
      refine s_bipush (v := 12) (q := 51) d_M_isUnseen_49 rfl kb_12 ?_
      refine s_iload_n (q := 52) d_M_isUnseen_51 rfl rfl ?_
      refine s_imul (q := 53) d_M_isUnseen_52 rfl ?_
      refine s_iload (q := 55) d_M_isUnseen_53 rfl rfl ?_
      refine s_iadd (q := 56) d_M_isUnseen_55 rfl ?_
      refine g_iald (q := 57) d_M_isUnseen_56 rfl sm_6 (by omega) (ix12 _ _) (by omega) ?_
      refine s_iload_n (q := 58) d_M_isUnseen_57 rfl rfl ?_
      refine s_icmp_eq (tgt := 65) (q := 61) d_M_isUnseen_58 (by decide) rfl (fun h_58 => ?_) (fun h_58 => ?_)
      · -- T 58
        have hw : wkP X B v i = true := by simp [wkP, h_42, h_58]
        rw [usV_s, hw] at ih
        refine s_iconst (v := 0) (q := 66) d_M_isUnseen_65 rfl ki_0 ?_
        refine s_iand (q := 67) d_M_isUnseen_66 rfl ?_
        first | rw [show bI (usV X B v i) &&& 1 = bI (usV X B v i && !false) from bI_and _ true] | rw [show bI (usV X B v i) &&& 0 = bI (usV X B v i && !true) from bI_and _ false]
        refine s_istore_n (q := 68) d_M_isUnseen_67 rfl (by decide) ?_
        refine s_iinc (q := 71) d_M_isUnseen_68 rfl rfl (by first | exact inc1 _ | rfl) (by decide) ?_
        refine s_goto (tgt := 18) d_M_isUnseen_71 (by decide) ?_
        exact s_lv (lv' := [(0, .ref 122), (1, .int (nI B)), (2, .int v), (3, .int (bI _)), (4, .int (nI (i + 1)))]) ⟨rfl, rfl, rfl, rfl, rfl, trivial⟩ ih
      · -- F 58
        have hw : wkP X B v i = false := by simp [wkP, h_58]
        rw [usV_s, hw] at ih
        refine s_iconst (v := 1) (q := 62) d_M_isUnseen_61 rfl ki_1 ?_
        refine s_goto (tgt := 66) d_M_isUnseen_62 (by decide) ?_
        refine s_iand (q := 67) d_M_isUnseen_66 rfl ?_
        first | rw [show bI (usV X B v i) &&& 1 = bI (usV X B v i && !false) from bI_and _ true] | rw [show bI (usV X B v i) &&& 0 = bI (usV X B v i && !true) from bI_and _ false]
        refine s_istore_n (q := 68) d_M_isUnseen_67 rfl (by decide) ?_
        refine s_iinc (q := 71) d_M_isUnseen_68 rfl rfl (by first | exact inc1 _ | rfl) (by decide) ?_
        refine s_goto (tgt := 18) d_M_isUnseen_71 (by decide) ?_
        exact s_lv (lv' := [(0, .ref 122), (1, .int (nI B)), (2, .int v), (3, .int (bI _)), (4, .int (nI (i + 1)))]) ⟨rfl, rfl, rfl, rfl, rfl, trivial⟩ ih
theorem us0 {X : RAM} {B : Nat} {v : Int32} : bI (usV X B v 0) = bI (decide (X 133 B = 0)) := by unfold usV; rw [anyB]; cases decide (X 133 B = 0) <;> rfl
theorem t_M_isUnseen {X : RAM} {B n : Nat} {v : Int32} (hB : B < 16) (hz : X 123 B = nI n) (hn : n ≤ 12) : CG l D ac b y_M_isUnseen c_M_isUnseen 5 (some .boolean) 0 0 [.ref 122, .int (nI B), .int v] X (some (.int (bI (usV X B v n)))) (X) := by
  refine Ct_of false (by decide) (fun h => by cases h) (Nat.le_of_ble_eq_true rfl) ?_
  show V l D ac b "SpanStoreModel" c_M_isUnseen 5 (some .boolean) false 0 0 0 0 ((some (.int (bI (usV X B v n)))), 144, mk (X)) 0 0 0 [(0, .ref 122), (1, .int (nI B)), (2, .int v)] [] 144 (mk X)
  refine s_aload_n (q := 1) d_M_isUnseen_0 rfl rfl (Or.inr ⟨_, rfl⟩) ?_
  refine g_getr (q := 4) d_M_isUnseen_1 rfl fl_M_41 skM rfl ?_
  refine s_iload_n (q := 5) d_M_isUnseen_4 rfl rfl ?_
  refine g_zald (q := 6) d_M_isUnseen_5 rfl sm_10 (by omega) rfl hB ?_
  refine s_if_ne (tgt := 13) (q := 9) d_M_isUnseen_6 (by decide) rfl (fun h_6 => ?_) (fun h_6 => ?_)
  · -- T 6
    have h0 := lp_unseen (l := l) (D := D) (ac := ac) (b := b) (v := v) hB hz hn 0 (Nat.zero_le n)
    rw [us0, ← bI_is0 h_6] at h0
    refine s_iconst (v := 0) (q := 14) d_M_isUnseen_13 rfl ki_0 ?_
    refine s_istore_n (q := 15) d_M_isUnseen_14 rfl (by decide) ?_
    refine s_iconst (v := 0) (q := 16) d_M_isUnseen_15 rfl ki_0 ?_
    refine s_istore (q := 18) d_M_isUnseen_16 rfl (by decide) ?_
    exact s_lv (lv' := [(0, .ref 122), (1, .int (nI B)), (2, .int v), (3, .int _), (4, .int (nI 0))]) ⟨rfl, rfl, rfl, rfl, rfl, trivial⟩ h0
  · -- F 6
    have h0 := lp_unseen (l := l) (D := D) (ac := ac) (b := b) (v := v) hB hz hn 0 (Nat.zero_le n)
    rw [us0, ← bI_is1 h_6] at h0
    refine s_iconst (v := 1) (q := 10) d_M_isUnseen_9 rfl ki_1 ?_
    refine s_goto (tgt := 14) d_M_isUnseen_10 (by decide) ?_
    refine s_istore_n (q := 15) d_M_isUnseen_14 rfl (by decide) ?_
    refine s_iconst (v := 0) (q := 16) d_M_isUnseen_15 rfl ki_0 ?_
    refine s_istore (q := 18) d_M_isUnseen_16 rfl (by decide) ?_
    exact s_lv (lv' := [(0, .ref 122), (1, .int (nI B)), (2, .int v), (3, .int _), (4, .int (nI 0))]) ⟨rfl, rfl, rfl, rfl, rfl, trivial⟩ h0
def molP (X : RAM) (t B c n : Nat) : Bool := decide (mlo X t B c = X 130 B) && usV X B (X 130 B) n
def mogP (X : RAM) (t B c n : Nat) : Bool := decide (mhi X t B c = X 131 B) && usV X B (X 131 B) n
theorem t_M_owesLeast {X : RAM} {t c B n : Nat} (ht : t < 2) (hc : X 135 t = nI c) (hc4 : c ≤ 4) (hB : B < 16) (hz : X 123 B = nI n) (hn : n ≤ 12) : CG l D ac b y_M_owesLeast c_M_owesLeast 3 (some .boolean) 2 46 [.ref 122, .int (nI t), .int (nI B)] X (some (.int (bI (molP X t B c n)))) (X) := by
  refine Ct_of false (by decide) (fun h => by cases h) (Nat.le_of_ble_eq_true rfl) ?_
  show V l D ac b "SpanStoreModel" c_M_owesLeast 3 (some .boolean) false 2 46 0 0 ((some (.int (bI (molP X t B c n)))), 144, mk (X)) 0 0 0 [(0, .ref 122), (1, .int (nI t)), (2, .int (nI B))] [] 144 (mk X)
  refine s_aload_n (q := 1) d_M_owesLeast_0 rfl rfl (Or.inr ⟨_, rfl⟩) ?_
  refine s_iload_n (q := 2) d_M_owesLeast_1 rfl rfl ?_
  refine s_iload_n (q := 3) d_M_owesLeast_2 rfl rfl ?_
  refine g_callV (q := 6) d_M_owesLeast_3 rfl ml_M_133 mx_M_lowOf mv_M_lowOf (t_M_lowOf ht hc hc4 hB) skM rfl rfl (Nat.le_of_ble_eq_true rfl) (by decide) ?_
  refine s_aload_n (q := 7) d_M_owesLeast_6 rfl rfl (Or.inr ⟨_, rfl⟩) ?_
  refine g_getr (q := 10) d_M_owesLeast_7 rfl fl_M_32 skM rfl ?_
  refine s_iload_n (q := 11) d_M_owesLeast_10 rfl rfl ?_
  refine g_iald (q := 12) d_M_owesLeast_11 rfl sm_7 (by omega) rfl hB ?_
  refine s_icmp_ne (tgt := 33) (q := 15) d_M_owesLeast_12 (by decide) rfl (fun h_12 => ?_) (fun h_12 => ?_)
  · -- T 12
    refine s_iconst (v := 0) (q := 34) d_M_owesLeast_33 rfl ki_0 ?_
    exact g_iret d_M_owesLeast_34 rfl rfl (by simp [molP, bI, *]) rfl
  · -- F 12
    refine s_aload_n (q := 16) d_M_owesLeast_15 rfl rfl (Or.inr ⟨_, rfl⟩) ?_
    refine s_iload_n (q := 17) d_M_owesLeast_16 rfl rfl ?_
    refine s_aload_n (q := 18) d_M_owesLeast_17 rfl rfl (Or.inr ⟨_, rfl⟩) ?_
    refine g_getr (q := 21) d_M_owesLeast_18 rfl fl_M_32 skM rfl ?_
    refine s_iload_n (q := 22) d_M_owesLeast_21 rfl rfl ?_
    refine g_iald (q := 23) d_M_owesLeast_22 rfl sm_7 (by omega) rfl hB ?_
    refine g_callV (q := 26) d_M_owesLeast_23 rfl ml_M_137 mx_M_isUnseen mv_M_isUnseen (t_M_isUnseen hB hz hn) skM rfl rfl (Nat.le_of_ble_eq_true rfl) (by decide) ?_
    refine s_if_eq (tgt := 33) (q := 29) d_M_owesLeast_26 (by decide) rfl (fun h_26 => ?_) (fun h_26 => ?_)
    · -- T 26
      rw [bI_0] at h_26
      refine s_iconst (v := 0) (q := 34) d_M_owesLeast_33 rfl ki_0 ?_
      exact g_iret d_M_owesLeast_34 rfl rfl (by simp [molP, bI, *]) rfl
    · -- F 26
      rw [bI_n0] at h_26
      refine s_iconst (v := 1) (q := 30) d_M_owesLeast_29 rfl ki_1 ?_
      refine s_goto (tgt := 34) d_M_owesLeast_30 (by decide) ?_
      exact g_iret d_M_owesLeast_34 rfl rfl (by simp [molP, bI, *]) rfl
theorem t_M_owesGreatest {X : RAM} {t c B n : Nat} (ht : t < 2) (hc : X 135 t = nI c) (hc4 : c ≤ 4) (hB : B < 16) (hz : X 123 B = nI n) (hn : n ≤ 12) : CG l D ac b y_M_owesGreatest c_M_owesGreatest 3 (some .boolean) 2 46 [.ref 122, .int (nI t), .int (nI B)] X (some (.int (bI (mogP X t B c n)))) (X) := by
  refine Ct_of false (by decide) (fun h => by cases h) (Nat.le_of_ble_eq_true rfl) ?_
  show V l D ac b "SpanStoreModel" c_M_owesGreatest 3 (some .boolean) false 2 46 0 0 ((some (.int (bI (mogP X t B c n)))), 144, mk (X)) 0 0 0 [(0, .ref 122), (1, .int (nI t)), (2, .int (nI B))] [] 144 (mk X)
  refine s_aload_n (q := 1) d_M_owesGreatest_0 rfl rfl (Or.inr ⟨_, rfl⟩) ?_
  refine s_iload_n (q := 2) d_M_owesGreatest_1 rfl rfl ?_
  refine s_iload_n (q := 3) d_M_owesGreatest_2 rfl rfl ?_
  refine g_callV (q := 6) d_M_owesGreatest_3 rfl ml_M_140 mx_M_highOf mv_M_highOf (t_M_highOf ht hc hc4 hB) skM rfl rfl (Nat.le_of_ble_eq_true rfl) (by decide) ?_
  refine s_aload_n (q := 7) d_M_owesGreatest_6 rfl rfl (Or.inr ⟨_, rfl⟩) ?_
  refine g_getr (q := 10) d_M_owesGreatest_7 rfl fl_M_35 skM rfl ?_
  refine s_iload_n (q := 11) d_M_owesGreatest_10 rfl rfl ?_
  refine g_iald (q := 12) d_M_owesGreatest_11 rfl sm_8 (by omega) rfl hB ?_
  refine s_icmp_ne (tgt := 33) (q := 15) d_M_owesGreatest_12 (by decide) rfl (fun h_12 => ?_) (fun h_12 => ?_)
  · -- T 12
    refine s_iconst (v := 0) (q := 34) d_M_owesGreatest_33 rfl ki_0 ?_
    exact g_iret d_M_owesGreatest_34 rfl rfl (by simp [mogP, bI, *]) rfl
  · -- F 12
    refine s_aload_n (q := 16) d_M_owesGreatest_15 rfl rfl (Or.inr ⟨_, rfl⟩) ?_
    refine s_iload_n (q := 17) d_M_owesGreatest_16 rfl rfl ?_
    refine s_aload_n (q := 18) d_M_owesGreatest_17 rfl rfl (Or.inr ⟨_, rfl⟩) ?_
    refine g_getr (q := 21) d_M_owesGreatest_18 rfl fl_M_35 skM rfl ?_
    refine s_iload_n (q := 22) d_M_owesGreatest_21 rfl rfl ?_
    refine g_iald (q := 23) d_M_owesGreatest_22 rfl sm_8 (by omega) rfl hB ?_
    refine g_callV (q := 26) d_M_owesGreatest_23 rfl ml_M_137 mx_M_isUnseen mv_M_isUnseen (t_M_isUnseen hB hz hn) skM rfl rfl (Nat.le_of_ble_eq_true rfl) (by decide) ?_
    refine s_if_eq (tgt := 33) (q := 29) d_M_owesGreatest_26 (by decide) rfl (fun h_26 => ?_) (fun h_26 => ?_)
    · -- T 26
      rw [bI_0] at h_26
      refine s_iconst (v := 0) (q := 34) d_M_owesGreatest_33 rfl ki_0 ?_
      exact g_iret d_M_owesGreatest_34 rfl rfl (by simp [mogP, bI, *]) rfl
    · -- F 26
      rw [bI_n0] at h_26
      refine s_iconst (v := 1) (q := 30) d_M_owesGreatest_29 rfl ki_1 ?_
      refine s_goto (tgt := 34) d_M_owesGreatest_30 (by decide) ?_
      exact g_iret d_M_owesGreatest_34 rfl rfl (by simp [mogP, bI, *]) rfl
def maV (X : RAM) (t B c n w : Nat) : Int32 := match w with
  | 0 => X 123 B
  | 1 => X 130 B
  | 2 => X 131 B
  | 3 => nI (cntB (unP X B) n)
  | 4 => if cntB (unP X B) n = 0 then 0 else mlo X t B c
  | 5 => if cntB (unP X B) n = 0 then 0 else mhi X t B c
  | 6 => if cntB (unP X B) n = 0 then 0 else bI (molP X t B c n)
  | 7 => if cntB (unP X B) n = 0 then 0 else bI (mogP X t B c n)
  | w => X 132 (4 * B + (w - 10))
theorem unz {p : Nat → Bool} {n : Nat} (hn : n ≤ 12) : nI (cntB p n) ≤ 0 ↔ cntB p n = 0 := by
  have := cntB_le p n
  rw [show (0 : Int32) = nI 0 from rfl, nI_leI (by omega) (by decide)]
  omega
theorem t_M_about_T {X : RAM} {x y w : Int32} (hx : x < 0 ∨ 2 ≤ x) : CG l D ac b y_M_about c_M_about 6 (some .int) 3 68 [.ref 122, .int x, .int y, .int w] X (some (.int (-2147483648))) (X) := by
  refine Ct_of false (by decide) (fun h => by cases h) (Nat.le_of_ble_eq_true rfl) ?_
  show V l D ac b "SpanStoreModel" c_M_about 6 (some .int) false 3 68 0 0 ((some (.int (-2147483648))), 144, mk (X)) 0 0 0 [(0, .ref 122), (1, .int x), (2, .int y), (3, .int w)] [] 144 (mk X)
  refine s_iload_n (q := 1) d_M_about_0 rfl rfl ?_
  refine s_iload_n (q := 2) d_M_about_1 rfl rfl ?_
  refine g_callS (q := 5) d_M_about_2 rfl ml_M_82 mx_M_isBlock ms_M_isBlock t_M_isBlock rfl rfl (Nat.le_of_ble_eq_true rfl) (by decide) ?_
  refine s_if_eq (tgt := 17) (q := 8) d_M_about_5 (by decide) rfl (fun _ => ?_) (fun z9 => absurd (bI_d.mpr (fun z => niT hx z.1)) z9)
  refine s_ldc (q := 19) d_M_about_17 rfl kc_M_129 ?_
  exact g_iret d_M_about_19 rfl rfl rfl rfl
theorem t_M_about_B {X : RAM} {t : Nat} {y w : Int32} (ht : t < 2) (hy : y < 0 ∨ 8 ≤ y) : CG l D ac b y_M_about c_M_about 6 (some .int) 3 68 [.ref 122, .int (nI t), .int y, .int w] X (some (.int (-2147483648))) (X) := by
  refine Ct_of false (by decide) (fun h => by cases h) (Nat.le_of_ble_eq_true rfl) ?_
  show V l D ac b "SpanStoreModel" c_M_about 6 (some .int) false 3 68 0 0 ((some (.int (-2147483648))), 144, mk (X)) 0 0 0 [(0, .ref 122), (1, .int (nI t)), (2, .int y), (3, .int w)] [] 144 (mk X)
  refine s_iload_n (q := 1) d_M_about_0 rfl rfl ?_
  refine s_iload_n (q := 2) d_M_about_1 rfl rfl ?_
  refine g_callS (q := 5) d_M_about_2 rfl ml_M_82 mx_M_isBlock ms_M_isBlock t_M_isBlock rfl rfl (Nat.le_of_ble_eq_true rfl) (by decide) ?_
  refine s_if_eq (tgt := 17) (q := 8) d_M_about_5 (by decide) rfl (fun _ => ?_) (fun z9 => absurd (bI_d.mpr (fun z => niB hy z.2)) z9)
  refine s_ldc (q := 19) d_M_about_17 rfl kc_M_129 ?_
  exact g_iret d_M_about_19 rfl rfl rfl rfl
theorem t_M_about_S {X : RAM} {t j : Nat} {w : Int32} (ht : t < 2) (hj : j < 8) (hs : X 134 t = 0) : CG l D ac b y_M_about c_M_about 6 (some .int) 3 68 [.ref 122, .int (nI t), .int (nI j), .int w] X (some (.int (-2147483648))) (X) := by
  refine Ct_of false (by decide) (fun h => by cases h) (Nat.le_of_ble_eq_true rfl) ?_
  show V l D ac b "SpanStoreModel" c_M_about 6 (some .int) false 3 68 0 0 ((some (.int (-2147483648))), 144, mk (X)) 0 0 0 [(0, .ref 122), (1, .int (nI t)), (2, .int (nI j)), (3, .int w)] [] 144 (mk X)
  refine s_iload_n (q := 1) d_M_about_0 rfl rfl ?_
  refine s_iload_n (q := 2) d_M_about_1 rfl rfl ?_
  refine g_callS (q := 5) d_M_about_2 rfl ml_M_82 mx_M_isBlock ms_M_isBlock t_M_isBlock rfl rfl (Nat.le_of_ble_eq_true rfl) (by decide) ?_
  refine s_if_eq (tgt := 17) (q := 8) d_M_about_5 (by decide) rfl (fun z9 => absurd z9 (bI_dn.mpr ⟨inT ht, inB hj⟩)) (fun _ => ?_)
  refine s_aload_n (q := 9) d_M_about_8 rfl rfl (Or.inr ⟨_, rfl⟩) ?_
  refine g_getr (q := 12) d_M_about_9 rfl fl_M_44 skM rfl ?_
  refine s_iload_n (q := 13) d_M_about_12 rfl rfl ?_
  refine g_zald (q := 14) d_M_about_13 rfl sm_11 (by omega) rfl ht ?_
  refine s_if_ne (tgt := 20) (q := 17) d_M_about_14 (by decide) rfl (fun z9 => absurd hs z9) (fun _ => ?_)
  refine s_ldc (q := 19) d_M_about_17 rfl kc_M_129 ?_
  exact g_iret d_M_about_19 rfl rfl rfl rfl
theorem t_M_about_W {X : RAM} {t j c n : Nat} {w : Int32} (ht : t < 2) (hj : j < 8) (hs : ¬ X 134 t = 0) (hc : X 135 t = nI c) (hc4 : c ≤ 4) (hz : X 123 (8 * t + j) = nI n) (hn : n ≤ 12) (hw : ¬ ((0 ≤ w ∧ w ≤ 7) ∨ (10 ≤ w ∧ w < 14))) : CG l D ac b y_M_about c_M_about 6 (some .int) 3 68 [.ref 122, .int (nI t), .int (nI j), .int w] X (some (.int (-2147483648))) (X) := by
  refine Ct_of false (by decide) (fun h => by cases h) (Nat.le_of_ble_eq_true rfl) ?_
  show V l D ac b "SpanStoreModel" c_M_about 6 (some .int) false 3 68 0 0 ((some (.int (-2147483648))), 144, mk (X)) 0 0 0 [(0, .ref 122), (1, .int (nI t)), (2, .int (nI j)), (3, .int w)] [] 144 (mk X)
  refine s_iload_n (q := 1) d_M_about_0 rfl rfl ?_
  refine s_iload_n (q := 2) d_M_about_1 rfl rfl ?_
  refine g_callS (q := 5) d_M_about_2 rfl ml_M_82 mx_M_isBlock ms_M_isBlock t_M_isBlock rfl rfl (Nat.le_of_ble_eq_true rfl) (by decide) ?_
  refine s_if_eq (tgt := 17) (q := 8) d_M_about_5 (by decide) rfl (fun z9 => absurd z9 (bI_dn.mpr ⟨inT ht, inB hj⟩)) (fun _ => ?_)
  refine s_aload_n (q := 9) d_M_about_8 rfl rfl (Or.inr ⟨_, rfl⟩) ?_
  refine g_getr (q := 12) d_M_about_9 rfl fl_M_44 skM rfl ?_
  refine s_iload_n (q := 13) d_M_about_12 rfl rfl ?_
  refine g_zald (q := 14) d_M_about_13 rfl sm_11 (by omega) rfl ht ?_
  refine s_if_ne (tgt := 20) (q := 17) d_M_about_14 (by decide) rfl (fun _ => ?_) (fun z9 => absurd z9 hs)
  refine s_bipush (v := 8) (q := 22) d_M_about_20 rfl kb_8 ?_
  refine s_iload_n (q := 23) d_M_about_22 rfl rfl ?_
  refine s_imul (q := 24) d_M_about_23 rfl ?_
  refine s_iload_n (q := 25) d_M_about_24 rfl rfl ?_
  refine s_iadd (q := 26) d_M_about_25 rfl ?_
  rw [ix8m]
  refine s_istore (q := 28) d_M_about_26 rfl (by decide) ?_
  refine s_aload_n (q := 29) d_M_about_28 rfl rfl (Or.inr ⟨_, rfl⟩) ?_
  refine s_iload (q := 31) d_M_about_29 rfl rfl ?_
  refine g_callV (q := 34) d_M_about_31 rfl ml_M_116 mx_M_unknownOf mv_M_unknownOf (t_M_unknownOf (by omega) hz hn) skM rfl rfl (Nat.le_of_ble_eq_true rfl) (by decide) ?_
  refine s_if_le (tgt := 41) (q := 37) d_M_about_34 (by decide) rfl (fun h_34 => ?_) (fun h_34 => ?_)
  · -- T 34
    refine s_iconst (v := 0) (q := 42) d_M_about_41 rfl ki_0 ?_
    refine s_istore (q := 44) d_M_about_42 rfl (by decide) ?_
    refine s_iload_n (q := 45) d_M_about_44 rfl rfl ?_
    refine s_tsOut (tgt := 199) d_M_about_45 (by simp only [i_le, i_lt, tI_0, tI_7, tI_10, tI_14] at hw; omega) (by decide) ?_
    refine s_iload_n (q := 200) d_M_about_199 rfl rfl ?_
    refine s_bipush (v := 10) (q := 202) d_M_about_200 rfl kb_10 ?_
    refine s_bipush (v := 13) (q := 204) d_M_about_202 rfl kb_13 ?_
    refine g_callS (q := 207) d_M_about_204 rfl ml_M_74 mx_M_in ms_M_in t_M_in rfl rfl (Nat.le_of_ble_eq_true rfl) (by decide) ?_
    refine s_if_eq (tgt := 227) (q := 210) d_M_about_207 (by decide) rfl (fun _ => ?_) (fun z9 => absurd (bI_d.mpr (by simp only [i_le, i_lt, tI_0, tI_7, tI_10, tI_13, tI_14] at *; omega)) z9)
    refine s_ldc (q := 229) d_M_about_227 rfl kc_M_129 ?_
    exact g_iret d_M_about_229 rfl rfl rfl rfl
  · -- F 34
    refine s_iconst (v := 1) (q := 38) d_M_about_37 rfl ki_1 ?_
    refine s_goto (tgt := 42) d_M_about_38 (by decide) ?_
    refine s_istore (q := 44) d_M_about_42 rfl (by decide) ?_
    refine s_iload_n (q := 45) d_M_about_44 rfl rfl ?_
    refine s_tsOut (tgt := 199) d_M_about_45 (by simp only [i_le, i_lt, tI_0, tI_7, tI_10, tI_14] at hw; omega) (by decide) ?_
    refine s_iload_n (q := 200) d_M_about_199 rfl rfl ?_
    refine s_bipush (v := 10) (q := 202) d_M_about_200 rfl kb_10 ?_
    refine s_bipush (v := 13) (q := 204) d_M_about_202 rfl kb_13 ?_
    refine g_callS (q := 207) d_M_about_204 rfl ml_M_74 mx_M_in ms_M_in t_M_in rfl rfl (Nat.le_of_ble_eq_true rfl) (by decide) ?_
    refine s_if_eq (tgt := 227) (q := 210) d_M_about_207 (by decide) rfl (fun _ => ?_) (fun z9 => absurd (bI_d.mpr (by simp only [i_le, i_lt, tI_0, tI_7, tI_10, tI_13, tI_14] at *; omega)) z9)
    refine s_ldc (q := 229) d_M_about_227 rfl kc_M_129 ?_
    exact g_iret d_M_about_229 rfl rfl rfl rfl
theorem t_M_about_D {X : RAM} {w : Nat} {t j c n : Nat} (ht : t < 2) (hj : j < 8) (hs : ¬ X 134 t = 0) (hc : X 135 t = nI c) (hc4 : c ≤ 4) (hz : X 123 (8 * t + j) = nI n) (hn : n ≤ 12) (hw : w ≤ 7 ∨ 10 ≤ w ∧ w < 14) : CG l D ac b y_M_about c_M_about 6 (some .int) 3 68 [.ref 122, .int (nI t), .int (nI j), .int (nI w)] X (some (.int (maV X t (8 * t + j) c n w))) X := by
  rcases (show w = 0 ∨ w = 1 ∨ w = 2 ∨ w = 3 ∨ w = 4 ∨ w = 5 ∨ w = 6 ∨ w = 7 ∨ w = 10 ∨ w = 11 ∨ w = 12 ∨ w = 13 by omega) with rfl | rfl | rfl | rfl | rfl | rfl | rfl | rfl | rfl | rfl | rfl | rfl
  · skip
    refine Ct_of false (by decide) (fun h => by cases h) (Nat.le_of_ble_eq_true rfl) ?_
    show V l D ac b "SpanStoreModel" c_M_about 6 (some .int) false 3 68 0 0 ((some (.int (maV X t (8 * t + j) c n 0))), 144, mk X) 0 0 0 [(0, .ref 122), (1, .int (nI t)), (2, .int (nI j)), (3, .int (nI 0))] [] 144 (mk X)
    refine s_iload_n (q := 1) d_M_about_0 rfl rfl ?_
    refine s_iload_n (q := 2) d_M_about_1 rfl rfl ?_
    refine g_callS (q := 5) d_M_about_2 rfl ml_M_82 mx_M_isBlock ms_M_isBlock t_M_isBlock rfl rfl (Nat.le_of_ble_eq_true rfl) (by decide) ?_
    refine s_if_eq (tgt := 17) (q := 8) d_M_about_5 (by decide) rfl (fun z9 => absurd z9 (bI_dn.mpr ⟨inT ht, inB hj⟩)) (fun _ => ?_)
    refine s_aload_n (q := 9) d_M_about_8 rfl rfl (Or.inr ⟨_, rfl⟩) ?_
    refine g_getr (q := 12) d_M_about_9 rfl fl_M_44 skM rfl ?_
    refine s_iload_n (q := 13) d_M_about_12 rfl rfl ?_
    refine g_zald (q := 14) d_M_about_13 rfl sm_11 (by omega) rfl ht ?_
    refine s_if_ne (tgt := 20) (q := 17) d_M_about_14 (by decide) rfl (fun _ => ?_) (fun z9 => absurd z9 hs)
    refine s_bipush (v := 8) (q := 22) d_M_about_20 rfl kb_8 ?_
    refine s_iload_n (q := 23) d_M_about_22 rfl rfl ?_
    refine s_imul (q := 24) d_M_about_23 rfl ?_
    refine s_iload_n (q := 25) d_M_about_24 rfl rfl ?_
    refine s_iadd (q := 26) d_M_about_25 rfl ?_
    rw [ix8m]
    refine s_istore (q := 28) d_M_about_26 rfl (by decide) ?_
    refine s_aload_n (q := 29) d_M_about_28 rfl rfl (Or.inr ⟨_, rfl⟩) ?_
    refine s_iload (q := 31) d_M_about_29 rfl rfl ?_
    refine g_callV (q := 34) d_M_about_31 rfl ml_M_116 mx_M_unknownOf mv_M_unknownOf (t_M_unknownOf (by omega) hz hn) skM rfl rfl (Nat.le_of_ble_eq_true rfl) (by decide) ?_
    refine s_if_le (tgt := 41) (q := 37) d_M_about_34 (by decide) rfl (fun h_34 => ?_) (fun h_34 => ?_)
    · -- T 34
      rw [unz hn] at h_34
      refine s_iconst (v := 0) (q := 42) d_M_about_41 rfl ki_0 ?_
      refine s_istore (q := 44) d_M_about_42 rfl (by decide) ?_
      refine s_iload_n (q := 45) d_M_about_44 rfl rfl ?_
      refine s_tsIn (tgt := 92) d_M_about_45 (by decide) (by decide) rfl (by decide) ?_
      refine s_aload_n (q := 93) d_M_about_92 rfl rfl (Or.inr ⟨_, rfl⟩) ?_
      refine g_getr (q := 96) d_M_about_93 rfl fl_M_7 skM rfl ?_
      refine s_iload (q := 98) d_M_about_96 rfl rfl ?_
      refine g_iald (q := 99) d_M_about_98 rfl sm_0 (by omega) rfl (by omega) ?_
      exact g_iret d_M_about_99 rfl rfl rfl rfl
    · -- F 34
      rw [unz hn] at h_34
      refine s_iconst (v := 1) (q := 38) d_M_about_37 rfl ki_1 ?_
      refine s_goto (tgt := 42) d_M_about_38 (by decide) ?_
      refine s_istore (q := 44) d_M_about_42 rfl (by decide) ?_
      refine s_iload_n (q := 45) d_M_about_44 rfl rfl ?_
      refine s_tsIn (tgt := 92) d_M_about_45 (by decide) (by decide) rfl (by decide) ?_
      refine s_aload_n (q := 93) d_M_about_92 rfl rfl (Or.inr ⟨_, rfl⟩) ?_
      refine g_getr (q := 96) d_M_about_93 rfl fl_M_7 skM rfl ?_
      refine s_iload (q := 98) d_M_about_96 rfl rfl ?_
      refine g_iald (q := 99) d_M_about_98 rfl sm_0 (by omega) rfl (by omega) ?_
      exact g_iret d_M_about_99 rfl rfl rfl rfl
  · skip
    refine Ct_of false (by decide) (fun h => by cases h) (Nat.le_of_ble_eq_true rfl) ?_
    show V l D ac b "SpanStoreModel" c_M_about 6 (some .int) false 3 68 0 0 ((some (.int (maV X t (8 * t + j) c n 1))), 144, mk X) 0 0 0 [(0, .ref 122), (1, .int (nI t)), (2, .int (nI j)), (3, .int (nI 1))] [] 144 (mk X)
    refine s_iload_n (q := 1) d_M_about_0 rfl rfl ?_
    refine s_iload_n (q := 2) d_M_about_1 rfl rfl ?_
    refine g_callS (q := 5) d_M_about_2 rfl ml_M_82 mx_M_isBlock ms_M_isBlock t_M_isBlock rfl rfl (Nat.le_of_ble_eq_true rfl) (by decide) ?_
    refine s_if_eq (tgt := 17) (q := 8) d_M_about_5 (by decide) rfl (fun z9 => absurd z9 (bI_dn.mpr ⟨inT ht, inB hj⟩)) (fun _ => ?_)
    refine s_aload_n (q := 9) d_M_about_8 rfl rfl (Or.inr ⟨_, rfl⟩) ?_
    refine g_getr (q := 12) d_M_about_9 rfl fl_M_44 skM rfl ?_
    refine s_iload_n (q := 13) d_M_about_12 rfl rfl ?_
    refine g_zald (q := 14) d_M_about_13 rfl sm_11 (by omega) rfl ht ?_
    refine s_if_ne (tgt := 20) (q := 17) d_M_about_14 (by decide) rfl (fun _ => ?_) (fun z9 => absurd z9 hs)
    refine s_bipush (v := 8) (q := 22) d_M_about_20 rfl kb_8 ?_
    refine s_iload_n (q := 23) d_M_about_22 rfl rfl ?_
    refine s_imul (q := 24) d_M_about_23 rfl ?_
    refine s_iload_n (q := 25) d_M_about_24 rfl rfl ?_
    refine s_iadd (q := 26) d_M_about_25 rfl ?_
    rw [ix8m]
    refine s_istore (q := 28) d_M_about_26 rfl (by decide) ?_
    refine s_aload_n (q := 29) d_M_about_28 rfl rfl (Or.inr ⟨_, rfl⟩) ?_
    refine s_iload (q := 31) d_M_about_29 rfl rfl ?_
    refine g_callV (q := 34) d_M_about_31 rfl ml_M_116 mx_M_unknownOf mv_M_unknownOf (t_M_unknownOf (by omega) hz hn) skM rfl rfl (Nat.le_of_ble_eq_true rfl) (by decide) ?_
    refine s_if_le (tgt := 41) (q := 37) d_M_about_34 (by decide) rfl (fun h_34 => ?_) (fun h_34 => ?_)
    · -- T 34
      rw [unz hn] at h_34
      refine s_iconst (v := 0) (q := 42) d_M_about_41 rfl ki_0 ?_
      refine s_istore (q := 44) d_M_about_42 rfl (by decide) ?_
      refine s_iload_n (q := 45) d_M_about_44 rfl rfl ?_
      refine s_tsIn (tgt := 100) d_M_about_45 (by decide) (by decide) rfl (by decide) ?_
      refine s_aload_n (q := 101) d_M_about_100 rfl rfl (Or.inr ⟨_, rfl⟩) ?_
      refine g_getr (q := 104) d_M_about_101 rfl fl_M_32 skM rfl ?_
      refine s_iload (q := 106) d_M_about_104 rfl rfl ?_
      refine g_iald (q := 107) d_M_about_106 rfl sm_7 (by omega) rfl (by omega) ?_
      exact g_iret d_M_about_107 rfl rfl rfl rfl
    · -- F 34
      rw [unz hn] at h_34
      refine s_iconst (v := 1) (q := 38) d_M_about_37 rfl ki_1 ?_
      refine s_goto (tgt := 42) d_M_about_38 (by decide) ?_
      refine s_istore (q := 44) d_M_about_42 rfl (by decide) ?_
      refine s_iload_n (q := 45) d_M_about_44 rfl rfl ?_
      refine s_tsIn (tgt := 100) d_M_about_45 (by decide) (by decide) rfl (by decide) ?_
      refine s_aload_n (q := 101) d_M_about_100 rfl rfl (Or.inr ⟨_, rfl⟩) ?_
      refine g_getr (q := 104) d_M_about_101 rfl fl_M_32 skM rfl ?_
      refine s_iload (q := 106) d_M_about_104 rfl rfl ?_
      refine g_iald (q := 107) d_M_about_106 rfl sm_7 (by omega) rfl (by omega) ?_
      exact g_iret d_M_about_107 rfl rfl rfl rfl
  · skip
    refine Ct_of false (by decide) (fun h => by cases h) (Nat.le_of_ble_eq_true rfl) ?_
    show V l D ac b "SpanStoreModel" c_M_about 6 (some .int) false 3 68 0 0 ((some (.int (maV X t (8 * t + j) c n 2))), 144, mk X) 0 0 0 [(0, .ref 122), (1, .int (nI t)), (2, .int (nI j)), (3, .int (nI 2))] [] 144 (mk X)
    refine s_iload_n (q := 1) d_M_about_0 rfl rfl ?_
    refine s_iload_n (q := 2) d_M_about_1 rfl rfl ?_
    refine g_callS (q := 5) d_M_about_2 rfl ml_M_82 mx_M_isBlock ms_M_isBlock t_M_isBlock rfl rfl (Nat.le_of_ble_eq_true rfl) (by decide) ?_
    refine s_if_eq (tgt := 17) (q := 8) d_M_about_5 (by decide) rfl (fun z9 => absurd z9 (bI_dn.mpr ⟨inT ht, inB hj⟩)) (fun _ => ?_)
    refine s_aload_n (q := 9) d_M_about_8 rfl rfl (Or.inr ⟨_, rfl⟩) ?_
    refine g_getr (q := 12) d_M_about_9 rfl fl_M_44 skM rfl ?_
    refine s_iload_n (q := 13) d_M_about_12 rfl rfl ?_
    refine g_zald (q := 14) d_M_about_13 rfl sm_11 (by omega) rfl ht ?_
    refine s_if_ne (tgt := 20) (q := 17) d_M_about_14 (by decide) rfl (fun _ => ?_) (fun z9 => absurd z9 hs)
    refine s_bipush (v := 8) (q := 22) d_M_about_20 rfl kb_8 ?_
    refine s_iload_n (q := 23) d_M_about_22 rfl rfl ?_
    refine s_imul (q := 24) d_M_about_23 rfl ?_
    refine s_iload_n (q := 25) d_M_about_24 rfl rfl ?_
    refine s_iadd (q := 26) d_M_about_25 rfl ?_
    rw [ix8m]
    refine s_istore (q := 28) d_M_about_26 rfl (by decide) ?_
    refine s_aload_n (q := 29) d_M_about_28 rfl rfl (Or.inr ⟨_, rfl⟩) ?_
    refine s_iload (q := 31) d_M_about_29 rfl rfl ?_
    refine g_callV (q := 34) d_M_about_31 rfl ml_M_116 mx_M_unknownOf mv_M_unknownOf (t_M_unknownOf (by omega) hz hn) skM rfl rfl (Nat.le_of_ble_eq_true rfl) (by decide) ?_
    refine s_if_le (tgt := 41) (q := 37) d_M_about_34 (by decide) rfl (fun h_34 => ?_) (fun h_34 => ?_)
    · -- T 34
      rw [unz hn] at h_34
      refine s_iconst (v := 0) (q := 42) d_M_about_41 rfl ki_0 ?_
      refine s_istore (q := 44) d_M_about_42 rfl (by decide) ?_
      refine s_iload_n (q := 45) d_M_about_44 rfl rfl ?_
      refine s_tsIn (tgt := 108) d_M_about_45 (by decide) (by decide) rfl (by decide) ?_
      refine s_aload_n (q := 109) d_M_about_108 rfl rfl (Or.inr ⟨_, rfl⟩) ?_
      refine g_getr (q := 112) d_M_about_109 rfl fl_M_35 skM rfl ?_
      refine s_iload (q := 114) d_M_about_112 rfl rfl ?_
      refine g_iald (q := 115) d_M_about_114 rfl sm_8 (by omega) rfl (by omega) ?_
      exact g_iret d_M_about_115 rfl rfl rfl rfl
    · -- F 34
      rw [unz hn] at h_34
      refine s_iconst (v := 1) (q := 38) d_M_about_37 rfl ki_1 ?_
      refine s_goto (tgt := 42) d_M_about_38 (by decide) ?_
      refine s_istore (q := 44) d_M_about_42 rfl (by decide) ?_
      refine s_iload_n (q := 45) d_M_about_44 rfl rfl ?_
      refine s_tsIn (tgt := 108) d_M_about_45 (by decide) (by decide) rfl (by decide) ?_
      refine s_aload_n (q := 109) d_M_about_108 rfl rfl (Or.inr ⟨_, rfl⟩) ?_
      refine g_getr (q := 112) d_M_about_109 rfl fl_M_35 skM rfl ?_
      refine s_iload (q := 114) d_M_about_112 rfl rfl ?_
      refine g_iald (q := 115) d_M_about_114 rfl sm_8 (by omega) rfl (by omega) ?_
      exact g_iret d_M_about_115 rfl rfl rfl rfl
  · skip
    refine Ct_of false (by decide) (fun h => by cases h) (Nat.le_of_ble_eq_true rfl) ?_
    show V l D ac b "SpanStoreModel" c_M_about 6 (some .int) false 3 68 0 0 ((some (.int (maV X t (8 * t + j) c n 3))), 144, mk X) 0 0 0 [(0, .ref 122), (1, .int (nI t)), (2, .int (nI j)), (3, .int (nI 3))] [] 144 (mk X)
    refine s_iload_n (q := 1) d_M_about_0 rfl rfl ?_
    refine s_iload_n (q := 2) d_M_about_1 rfl rfl ?_
    refine g_callS (q := 5) d_M_about_2 rfl ml_M_82 mx_M_isBlock ms_M_isBlock t_M_isBlock rfl rfl (Nat.le_of_ble_eq_true rfl) (by decide) ?_
    refine s_if_eq (tgt := 17) (q := 8) d_M_about_5 (by decide) rfl (fun z9 => absurd z9 (bI_dn.mpr ⟨inT ht, inB hj⟩)) (fun _ => ?_)
    refine s_aload_n (q := 9) d_M_about_8 rfl rfl (Or.inr ⟨_, rfl⟩) ?_
    refine g_getr (q := 12) d_M_about_9 rfl fl_M_44 skM rfl ?_
    refine s_iload_n (q := 13) d_M_about_12 rfl rfl ?_
    refine g_zald (q := 14) d_M_about_13 rfl sm_11 (by omega) rfl ht ?_
    refine s_if_ne (tgt := 20) (q := 17) d_M_about_14 (by decide) rfl (fun _ => ?_) (fun z9 => absurd z9 hs)
    refine s_bipush (v := 8) (q := 22) d_M_about_20 rfl kb_8 ?_
    refine s_iload_n (q := 23) d_M_about_22 rfl rfl ?_
    refine s_imul (q := 24) d_M_about_23 rfl ?_
    refine s_iload_n (q := 25) d_M_about_24 rfl rfl ?_
    refine s_iadd (q := 26) d_M_about_25 rfl ?_
    rw [ix8m]
    refine s_istore (q := 28) d_M_about_26 rfl (by decide) ?_
    refine s_aload_n (q := 29) d_M_about_28 rfl rfl (Or.inr ⟨_, rfl⟩) ?_
    refine s_iload (q := 31) d_M_about_29 rfl rfl ?_
    refine g_callV (q := 34) d_M_about_31 rfl ml_M_116 mx_M_unknownOf mv_M_unknownOf (t_M_unknownOf (by omega) hz hn) skM rfl rfl (Nat.le_of_ble_eq_true rfl) (by decide) ?_
    refine s_if_le (tgt := 41) (q := 37) d_M_about_34 (by decide) rfl (fun h_34 => ?_) (fun h_34 => ?_)
    · -- T 34
      rw [unz hn] at h_34
      refine s_iconst (v := 0) (q := 42) d_M_about_41 rfl ki_0 ?_
      refine s_istore (q := 44) d_M_about_42 rfl (by decide) ?_
      refine s_iload_n (q := 45) d_M_about_44 rfl rfl ?_
      refine s_tsIn (tgt := 116) d_M_about_45 (by decide) (by decide) rfl (by decide) ?_
      refine s_aload_n (q := 117) d_M_about_116 rfl rfl (Or.inr ⟨_, rfl⟩) ?_
      refine s_iload (q := 119) d_M_about_117 rfl rfl ?_
      refine g_callV (q := 122) d_M_about_119 rfl ml_M_116 mx_M_unknownOf mv_M_unknownOf (t_M_unknownOf (by omega) hz hn) skM rfl rfl (Nat.le_of_ble_eq_true rfl) (by decide) ?_
      exact g_iret d_M_about_122 rfl rfl rfl rfl
    · -- F 34
      rw [unz hn] at h_34
      refine s_iconst (v := 1) (q := 38) d_M_about_37 rfl ki_1 ?_
      refine s_goto (tgt := 42) d_M_about_38 (by decide) ?_
      refine s_istore (q := 44) d_M_about_42 rfl (by decide) ?_
      refine s_iload_n (q := 45) d_M_about_44 rfl rfl ?_
      refine s_tsIn (tgt := 116) d_M_about_45 (by decide) (by decide) rfl (by decide) ?_
      refine s_aload_n (q := 117) d_M_about_116 rfl rfl (Or.inr ⟨_, rfl⟩) ?_
      refine s_iload (q := 119) d_M_about_117 rfl rfl ?_
      refine g_callV (q := 122) d_M_about_119 rfl ml_M_116 mx_M_unknownOf mv_M_unknownOf (t_M_unknownOf (by omega) hz hn) skM rfl rfl (Nat.le_of_ble_eq_true rfl) (by decide) ?_
      exact g_iret d_M_about_122 rfl rfl rfl rfl
  · skip
    refine Ct_of false (by decide) (fun h => by cases h) (Nat.le_of_ble_eq_true rfl) ?_
    show V l D ac b "SpanStoreModel" c_M_about 6 (some .int) false 3 68 0 0 ((some (.int (maV X t (8 * t + j) c n 4))), 144, mk X) 0 0 0 [(0, .ref 122), (1, .int (nI t)), (2, .int (nI j)), (3, .int (nI 4))] [] 144 (mk X)
    refine s_iload_n (q := 1) d_M_about_0 rfl rfl ?_
    refine s_iload_n (q := 2) d_M_about_1 rfl rfl ?_
    refine g_callS (q := 5) d_M_about_2 rfl ml_M_82 mx_M_isBlock ms_M_isBlock t_M_isBlock rfl rfl (Nat.le_of_ble_eq_true rfl) (by decide) ?_
    refine s_if_eq (tgt := 17) (q := 8) d_M_about_5 (by decide) rfl (fun z9 => absurd z9 (bI_dn.mpr ⟨inT ht, inB hj⟩)) (fun _ => ?_)
    refine s_aload_n (q := 9) d_M_about_8 rfl rfl (Or.inr ⟨_, rfl⟩) ?_
    refine g_getr (q := 12) d_M_about_9 rfl fl_M_44 skM rfl ?_
    refine s_iload_n (q := 13) d_M_about_12 rfl rfl ?_
    refine g_zald (q := 14) d_M_about_13 rfl sm_11 (by omega) rfl ht ?_
    refine s_if_ne (tgt := 20) (q := 17) d_M_about_14 (by decide) rfl (fun _ => ?_) (fun z9 => absurd z9 hs)
    refine s_bipush (v := 8) (q := 22) d_M_about_20 rfl kb_8 ?_
    refine s_iload_n (q := 23) d_M_about_22 rfl rfl ?_
    refine s_imul (q := 24) d_M_about_23 rfl ?_
    refine s_iload_n (q := 25) d_M_about_24 rfl rfl ?_
    refine s_iadd (q := 26) d_M_about_25 rfl ?_
    rw [ix8m]
    refine s_istore (q := 28) d_M_about_26 rfl (by decide) ?_
    refine s_aload_n (q := 29) d_M_about_28 rfl rfl (Or.inr ⟨_, rfl⟩) ?_
    refine s_iload (q := 31) d_M_about_29 rfl rfl ?_
    refine g_callV (q := 34) d_M_about_31 rfl ml_M_116 mx_M_unknownOf mv_M_unknownOf (t_M_unknownOf (by omega) hz hn) skM rfl rfl (Nat.le_of_ble_eq_true rfl) (by decide) ?_
    refine s_if_le (tgt := 41) (q := 37) d_M_about_34 (by decide) rfl (fun h_34 => ?_) (fun h_34 => ?_)
    · -- T 34
      rw [unz hn] at h_34
      refine s_iconst (v := 0) (q := 42) d_M_about_41 rfl ki_0 ?_
      refine s_istore (q := 44) d_M_about_42 rfl (by decide) ?_
      refine s_iload_n (q := 45) d_M_about_44 rfl rfl ?_
      refine s_tsIn (tgt := 123) d_M_about_45 (by decide) (by decide) rfl (by decide) ?_
      refine s_iload (q := 125) d_M_about_123 rfl rfl ?_
      refine s_if_eq (tgt := 138) (q := 128) d_M_about_125 (by decide) rfl (fun _ => ?_) (fun z9 => absurd (by decide) z9)
      refine s_iconst (v := 0) (q := 139) d_M_about_138 rfl ki_0 ?_
      exact g_iret d_M_about_139 rfl rfl (by simp [maV, h_34]) rfl
    · -- F 34
      rw [unz hn] at h_34
      refine s_iconst (v := 1) (q := 38) d_M_about_37 rfl ki_1 ?_
      refine s_goto (tgt := 42) d_M_about_38 (by decide) ?_
      refine s_istore (q := 44) d_M_about_42 rfl (by decide) ?_
      refine s_iload_n (q := 45) d_M_about_44 rfl rfl ?_
      refine s_tsIn (tgt := 123) d_M_about_45 (by decide) (by decide) rfl (by decide) ?_
      refine s_iload (q := 125) d_M_about_123 rfl rfl ?_
      refine s_if_eq (tgt := 138) (q := 128) d_M_about_125 (by decide) rfl (fun z9 => absurd z9 (by decide)) (fun _ => ?_)
      refine s_aload_n (q := 129) d_M_about_128 rfl rfl (Or.inr ⟨_, rfl⟩) ?_
      refine s_iload_n (q := 130) d_M_about_129 rfl rfl ?_
      refine s_iload (q := 132) d_M_about_130 rfl rfl ?_
      refine g_callV (q := 135) d_M_about_132 rfl ml_M_133 mx_M_lowOf mv_M_lowOf (t_M_lowOf ht hc hc4 (by omega)) skM rfl rfl (Nat.le_of_ble_eq_true rfl) (by decide) ?_
      refine s_goto (tgt := 139) d_M_about_135 (by decide) ?_
      exact g_iret d_M_about_139 rfl rfl (by simp [maV, h_34]) rfl
  · skip
    refine Ct_of false (by decide) (fun h => by cases h) (Nat.le_of_ble_eq_true rfl) ?_
    show V l D ac b "SpanStoreModel" c_M_about 6 (some .int) false 3 68 0 0 ((some (.int (maV X t (8 * t + j) c n 5))), 144, mk X) 0 0 0 [(0, .ref 122), (1, .int (nI t)), (2, .int (nI j)), (3, .int (nI 5))] [] 144 (mk X)
    refine s_iload_n (q := 1) d_M_about_0 rfl rfl ?_
    refine s_iload_n (q := 2) d_M_about_1 rfl rfl ?_
    refine g_callS (q := 5) d_M_about_2 rfl ml_M_82 mx_M_isBlock ms_M_isBlock t_M_isBlock rfl rfl (Nat.le_of_ble_eq_true rfl) (by decide) ?_
    refine s_if_eq (tgt := 17) (q := 8) d_M_about_5 (by decide) rfl (fun z9 => absurd z9 (bI_dn.mpr ⟨inT ht, inB hj⟩)) (fun _ => ?_)
    refine s_aload_n (q := 9) d_M_about_8 rfl rfl (Or.inr ⟨_, rfl⟩) ?_
    refine g_getr (q := 12) d_M_about_9 rfl fl_M_44 skM rfl ?_
    refine s_iload_n (q := 13) d_M_about_12 rfl rfl ?_
    refine g_zald (q := 14) d_M_about_13 rfl sm_11 (by omega) rfl ht ?_
    refine s_if_ne (tgt := 20) (q := 17) d_M_about_14 (by decide) rfl (fun _ => ?_) (fun z9 => absurd z9 hs)
    refine s_bipush (v := 8) (q := 22) d_M_about_20 rfl kb_8 ?_
    refine s_iload_n (q := 23) d_M_about_22 rfl rfl ?_
    refine s_imul (q := 24) d_M_about_23 rfl ?_
    refine s_iload_n (q := 25) d_M_about_24 rfl rfl ?_
    refine s_iadd (q := 26) d_M_about_25 rfl ?_
    rw [ix8m]
    refine s_istore (q := 28) d_M_about_26 rfl (by decide) ?_
    refine s_aload_n (q := 29) d_M_about_28 rfl rfl (Or.inr ⟨_, rfl⟩) ?_
    refine s_iload (q := 31) d_M_about_29 rfl rfl ?_
    refine g_callV (q := 34) d_M_about_31 rfl ml_M_116 mx_M_unknownOf mv_M_unknownOf (t_M_unknownOf (by omega) hz hn) skM rfl rfl (Nat.le_of_ble_eq_true rfl) (by decide) ?_
    refine s_if_le (tgt := 41) (q := 37) d_M_about_34 (by decide) rfl (fun h_34 => ?_) (fun h_34 => ?_)
    · -- T 34
      rw [unz hn] at h_34
      refine s_iconst (v := 0) (q := 42) d_M_about_41 rfl ki_0 ?_
      refine s_istore (q := 44) d_M_about_42 rfl (by decide) ?_
      refine s_iload_n (q := 45) d_M_about_44 rfl rfl ?_
      refine s_tsIn (tgt := 140) d_M_about_45 (by decide) (by decide) rfl (by decide) ?_
      refine s_iload (q := 142) d_M_about_140 rfl rfl ?_
      refine s_if_eq (tgt := 155) (q := 145) d_M_about_142 (by decide) rfl (fun _ => ?_) (fun z9 => absurd (by decide) z9)
      refine s_iconst (v := 0) (q := 156) d_M_about_155 rfl ki_0 ?_
      exact g_iret d_M_about_156 rfl rfl (by simp [maV, h_34]) rfl
    · -- F 34
      rw [unz hn] at h_34
      refine s_iconst (v := 1) (q := 38) d_M_about_37 rfl ki_1 ?_
      refine s_goto (tgt := 42) d_M_about_38 (by decide) ?_
      refine s_istore (q := 44) d_M_about_42 rfl (by decide) ?_
      refine s_iload_n (q := 45) d_M_about_44 rfl rfl ?_
      refine s_tsIn (tgt := 140) d_M_about_45 (by decide) (by decide) rfl (by decide) ?_
      refine s_iload (q := 142) d_M_about_140 rfl rfl ?_
      refine s_if_eq (tgt := 155) (q := 145) d_M_about_142 (by decide) rfl (fun z9 => absurd z9 (by decide)) (fun _ => ?_)
      refine s_aload_n (q := 146) d_M_about_145 rfl rfl (Or.inr ⟨_, rfl⟩) ?_
      refine s_iload_n (q := 147) d_M_about_146 rfl rfl ?_
      refine s_iload (q := 149) d_M_about_147 rfl rfl ?_
      refine g_callV (q := 152) d_M_about_149 rfl ml_M_140 mx_M_highOf mv_M_highOf (t_M_highOf ht hc hc4 (by omega)) skM rfl rfl (Nat.le_of_ble_eq_true rfl) (by decide) ?_
      refine s_goto (tgt := 156) d_M_about_152 (by decide) ?_
      exact g_iret d_M_about_156 rfl rfl (by simp [maV, h_34]) rfl
  · skip
    refine Ct_of false (by decide) (fun h => by cases h) (Nat.le_of_ble_eq_true rfl) ?_
    show V l D ac b "SpanStoreModel" c_M_about 6 (some .int) false 3 68 0 0 ((some (.int (maV X t (8 * t + j) c n 6))), 144, mk X) 0 0 0 [(0, .ref 122), (1, .int (nI t)), (2, .int (nI j)), (3, .int (nI 6))] [] 144 (mk X)
    refine s_iload_n (q := 1) d_M_about_0 rfl rfl ?_
    refine s_iload_n (q := 2) d_M_about_1 rfl rfl ?_
    refine g_callS (q := 5) d_M_about_2 rfl ml_M_82 mx_M_isBlock ms_M_isBlock t_M_isBlock rfl rfl (Nat.le_of_ble_eq_true rfl) (by decide) ?_
    refine s_if_eq (tgt := 17) (q := 8) d_M_about_5 (by decide) rfl (fun z9 => absurd z9 (bI_dn.mpr ⟨inT ht, inB hj⟩)) (fun _ => ?_)
    refine s_aload_n (q := 9) d_M_about_8 rfl rfl (Or.inr ⟨_, rfl⟩) ?_
    refine g_getr (q := 12) d_M_about_9 rfl fl_M_44 skM rfl ?_
    refine s_iload_n (q := 13) d_M_about_12 rfl rfl ?_
    refine g_zald (q := 14) d_M_about_13 rfl sm_11 (by omega) rfl ht ?_
    refine s_if_ne (tgt := 20) (q := 17) d_M_about_14 (by decide) rfl (fun _ => ?_) (fun z9 => absurd z9 hs)
    refine s_bipush (v := 8) (q := 22) d_M_about_20 rfl kb_8 ?_
    refine s_iload_n (q := 23) d_M_about_22 rfl rfl ?_
    refine s_imul (q := 24) d_M_about_23 rfl ?_
    refine s_iload_n (q := 25) d_M_about_24 rfl rfl ?_
    refine s_iadd (q := 26) d_M_about_25 rfl ?_
    rw [ix8m]
    refine s_istore (q := 28) d_M_about_26 rfl (by decide) ?_
    refine s_aload_n (q := 29) d_M_about_28 rfl rfl (Or.inr ⟨_, rfl⟩) ?_
    refine s_iload (q := 31) d_M_about_29 rfl rfl ?_
    refine g_callV (q := 34) d_M_about_31 rfl ml_M_116 mx_M_unknownOf mv_M_unknownOf (t_M_unknownOf (by omega) hz hn) skM rfl rfl (Nat.le_of_ble_eq_true rfl) (by decide) ?_
    refine s_if_le (tgt := 41) (q := 37) d_M_about_34 (by decide) rfl (fun h_34 => ?_) (fun h_34 => ?_)
    · -- T 34
      rw [unz hn] at h_34
      refine s_iconst (v := 0) (q := 42) d_M_about_41 rfl ki_0 ?_
      refine s_istore (q := 44) d_M_about_42 rfl (by decide) ?_
      refine s_iload_n (q := 45) d_M_about_44 rfl rfl ?_
      refine s_tsIn (tgt := 157) d_M_about_45 (by decide) (by decide) rfl (by decide) ?_
      refine s_iload (q := 159) d_M_about_157 rfl rfl ?_
      refine s_if_eq (tgt := 176) (q := 162) d_M_about_159 (by decide) rfl (fun _ => ?_) (fun z9 => absurd (by decide) z9)
      refine s_iconst (v := 0) (q := 177) d_M_about_176 rfl ki_0 ?_
      exact g_iret d_M_about_177 rfl rfl (by simp [maV, bI, *]) rfl
    · -- F 34
      rw [unz hn] at h_34
      refine s_iconst (v := 1) (q := 38) d_M_about_37 rfl ki_1 ?_
      refine s_goto (tgt := 42) d_M_about_38 (by decide) ?_
      refine s_istore (q := 44) d_M_about_42 rfl (by decide) ?_
      refine s_iload_n (q := 45) d_M_about_44 rfl rfl ?_
      refine s_tsIn (tgt := 157) d_M_about_45 (by decide) (by decide) rfl (by decide) ?_
      refine s_iload (q := 159) d_M_about_157 rfl rfl ?_
      refine s_if_eq (tgt := 176) (q := 162) d_M_about_159 (by decide) rfl (fun z9 => absurd z9 (by decide)) (fun _ => ?_)
      refine s_aload_n (q := 163) d_M_about_162 rfl rfl (Or.inr ⟨_, rfl⟩) ?_
      refine s_iload_n (q := 164) d_M_about_163 rfl rfl ?_
      refine s_iload (q := 166) d_M_about_164 rfl rfl ?_
      refine g_callV (q := 169) d_M_about_166 rfl ml_M_143 mx_M_owesLeast mv_M_owesLeast (t_M_owesLeast ht hc hc4 (by omega) hz hn) skM rfl rfl (Nat.le_of_ble_eq_true rfl) (by decide) ?_
      refine s_if_eq (tgt := 176) (q := 172) d_M_about_169 (by decide) rfl (fun h_169 => ?_) (fun h_169 => ?_)
      · -- T 169
        rw [bI_0] at h_169
        refine s_iconst (v := 0) (q := 177) d_M_about_176 rfl ki_0 ?_
        exact g_iret d_M_about_177 rfl rfl (by simp [maV, bI, *]) rfl
      · -- F 169
        rw [bI_n0] at h_169
        refine s_iconst (v := 1) (q := 173) d_M_about_172 rfl ki_1 ?_
        refine s_goto (tgt := 177) d_M_about_173 (by decide) ?_
        exact g_iret d_M_about_177 rfl rfl (by simp [maV, bI, *]) rfl
  · skip
    refine Ct_of false (by decide) (fun h => by cases h) (Nat.le_of_ble_eq_true rfl) ?_
    show V l D ac b "SpanStoreModel" c_M_about 6 (some .int) false 3 68 0 0 ((some (.int (maV X t (8 * t + j) c n 7))), 144, mk X) 0 0 0 [(0, .ref 122), (1, .int (nI t)), (2, .int (nI j)), (3, .int (nI 7))] [] 144 (mk X)
    refine s_iload_n (q := 1) d_M_about_0 rfl rfl ?_
    refine s_iload_n (q := 2) d_M_about_1 rfl rfl ?_
    refine g_callS (q := 5) d_M_about_2 rfl ml_M_82 mx_M_isBlock ms_M_isBlock t_M_isBlock rfl rfl (Nat.le_of_ble_eq_true rfl) (by decide) ?_
    refine s_if_eq (tgt := 17) (q := 8) d_M_about_5 (by decide) rfl (fun z9 => absurd z9 (bI_dn.mpr ⟨inT ht, inB hj⟩)) (fun _ => ?_)
    refine s_aload_n (q := 9) d_M_about_8 rfl rfl (Or.inr ⟨_, rfl⟩) ?_
    refine g_getr (q := 12) d_M_about_9 rfl fl_M_44 skM rfl ?_
    refine s_iload_n (q := 13) d_M_about_12 rfl rfl ?_
    refine g_zald (q := 14) d_M_about_13 rfl sm_11 (by omega) rfl ht ?_
    refine s_if_ne (tgt := 20) (q := 17) d_M_about_14 (by decide) rfl (fun _ => ?_) (fun z9 => absurd z9 hs)
    refine s_bipush (v := 8) (q := 22) d_M_about_20 rfl kb_8 ?_
    refine s_iload_n (q := 23) d_M_about_22 rfl rfl ?_
    refine s_imul (q := 24) d_M_about_23 rfl ?_
    refine s_iload_n (q := 25) d_M_about_24 rfl rfl ?_
    refine s_iadd (q := 26) d_M_about_25 rfl ?_
    rw [ix8m]
    refine s_istore (q := 28) d_M_about_26 rfl (by decide) ?_
    refine s_aload_n (q := 29) d_M_about_28 rfl rfl (Or.inr ⟨_, rfl⟩) ?_
    refine s_iload (q := 31) d_M_about_29 rfl rfl ?_
    refine g_callV (q := 34) d_M_about_31 rfl ml_M_116 mx_M_unknownOf mv_M_unknownOf (t_M_unknownOf (by omega) hz hn) skM rfl rfl (Nat.le_of_ble_eq_true rfl) (by decide) ?_
    refine s_if_le (tgt := 41) (q := 37) d_M_about_34 (by decide) rfl (fun h_34 => ?_) (fun h_34 => ?_)
    · -- T 34
      rw [unz hn] at h_34
      refine s_iconst (v := 0) (q := 42) d_M_about_41 rfl ki_0 ?_
      refine s_istore (q := 44) d_M_about_42 rfl (by decide) ?_
      refine s_iload_n (q := 45) d_M_about_44 rfl rfl ?_
      refine s_tsIn (tgt := 178) d_M_about_45 (by decide) (by decide) rfl (by decide) ?_
      refine s_iload (q := 180) d_M_about_178 rfl rfl ?_
      refine s_if_eq (tgt := 197) (q := 183) d_M_about_180 (by decide) rfl (fun _ => ?_) (fun z9 => absurd (by decide) z9)
      refine s_iconst (v := 0) (q := 198) d_M_about_197 rfl ki_0 ?_
      exact g_iret d_M_about_198 rfl rfl (by simp [maV, bI, *]) rfl
    · -- F 34
      rw [unz hn] at h_34
      refine s_iconst (v := 1) (q := 38) d_M_about_37 rfl ki_1 ?_
      refine s_goto (tgt := 42) d_M_about_38 (by decide) ?_
      refine s_istore (q := 44) d_M_about_42 rfl (by decide) ?_
      refine s_iload_n (q := 45) d_M_about_44 rfl rfl ?_
      refine s_tsIn (tgt := 178) d_M_about_45 (by decide) (by decide) rfl (by decide) ?_
      refine s_iload (q := 180) d_M_about_178 rfl rfl ?_
      refine s_if_eq (tgt := 197) (q := 183) d_M_about_180 (by decide) rfl (fun z9 => absurd z9 (by decide)) (fun _ => ?_)
      refine s_aload_n (q := 184) d_M_about_183 rfl rfl (Or.inr ⟨_, rfl⟩) ?_
      refine s_iload_n (q := 185) d_M_about_184 rfl rfl ?_
      refine s_iload (q := 187) d_M_about_185 rfl rfl ?_
      refine g_callV (q := 190) d_M_about_187 rfl ml_M_146 mx_M_owesGreatest mv_M_owesGreatest (t_M_owesGreatest ht hc hc4 (by omega) hz hn) skM rfl rfl (Nat.le_of_ble_eq_true rfl) (by decide) ?_
      refine s_if_eq (tgt := 197) (q := 193) d_M_about_190 (by decide) rfl (fun h_190 => ?_) (fun h_190 => ?_)
      · -- T 190
        rw [bI_0] at h_190
        refine s_iconst (v := 0) (q := 198) d_M_about_197 rfl ki_0 ?_
        exact g_iret d_M_about_198 rfl rfl (by simp [maV, bI, *]) rfl
      · -- F 190
        rw [bI_n0] at h_190
        refine s_iconst (v := 1) (q := 194) d_M_about_193 rfl ki_1 ?_
        refine s_goto (tgt := 198) d_M_about_194 (by decide) ?_
        exact g_iret d_M_about_198 rfl rfl (by simp [maV, bI, *]) rfl
  · skip
    refine Ct_of false (by decide) (fun h => by cases h) (Nat.le_of_ble_eq_true rfl) ?_
    show V l D ac b "SpanStoreModel" c_M_about 6 (some .int) false 3 68 0 0 ((some (.int (maV X t (8 * t + j) c n 10))), 144, mk X) 0 0 0 [(0, .ref 122), (1, .int (nI t)), (2, .int (nI j)), (3, .int (nI 10))] [] 144 (mk X)
    refine s_iload_n (q := 1) d_M_about_0 rfl rfl ?_
    refine s_iload_n (q := 2) d_M_about_1 rfl rfl ?_
    refine g_callS (q := 5) d_M_about_2 rfl ml_M_82 mx_M_isBlock ms_M_isBlock t_M_isBlock rfl rfl (Nat.le_of_ble_eq_true rfl) (by decide) ?_
    refine s_if_eq (tgt := 17) (q := 8) d_M_about_5 (by decide) rfl (fun z9 => absurd z9 (bI_dn.mpr ⟨inT ht, inB hj⟩)) (fun _ => ?_)
    refine s_aload_n (q := 9) d_M_about_8 rfl rfl (Or.inr ⟨_, rfl⟩) ?_
    refine g_getr (q := 12) d_M_about_9 rfl fl_M_44 skM rfl ?_
    refine s_iload_n (q := 13) d_M_about_12 rfl rfl ?_
    refine g_zald (q := 14) d_M_about_13 rfl sm_11 (by omega) rfl ht ?_
    refine s_if_ne (tgt := 20) (q := 17) d_M_about_14 (by decide) rfl (fun _ => ?_) (fun z9 => absurd z9 hs)
    refine s_bipush (v := 8) (q := 22) d_M_about_20 rfl kb_8 ?_
    refine s_iload_n (q := 23) d_M_about_22 rfl rfl ?_
    refine s_imul (q := 24) d_M_about_23 rfl ?_
    refine s_iload_n (q := 25) d_M_about_24 rfl rfl ?_
    refine s_iadd (q := 26) d_M_about_25 rfl ?_
    rw [ix8m]
    refine s_istore (q := 28) d_M_about_26 rfl (by decide) ?_
    refine s_aload_n (q := 29) d_M_about_28 rfl rfl (Or.inr ⟨_, rfl⟩) ?_
    refine s_iload (q := 31) d_M_about_29 rfl rfl ?_
    refine g_callV (q := 34) d_M_about_31 rfl ml_M_116 mx_M_unknownOf mv_M_unknownOf (t_M_unknownOf (by omega) hz hn) skM rfl rfl (Nat.le_of_ble_eq_true rfl) (by decide) ?_
    refine s_if_le (tgt := 41) (q := 37) d_M_about_34 (by decide) rfl (fun h_34 => ?_) (fun h_34 => ?_)
    · -- T 34
      rw [unz hn] at h_34
      refine s_iconst (v := 0) (q := 42) d_M_about_41 rfl ki_0 ?_
      refine s_istore (q := 44) d_M_about_42 rfl (by decide) ?_
      refine s_iload_n (q := 45) d_M_about_44 rfl rfl ?_
      refine s_tsOut (tgt := 199) d_M_about_45 (by decide) (by decide) ?_
      refine s_iload_n (q := 200) d_M_about_199 rfl rfl ?_
      refine s_bipush (v := 10) (q := 202) d_M_about_200 rfl kb_10 ?_
      refine s_bipush (v := 13) (q := 204) d_M_about_202 rfl kb_13 ?_
      refine g_callS (q := 207) d_M_about_204 rfl ml_M_74 mx_M_in ms_M_in t_M_in rfl rfl (Nat.le_of_ble_eq_true rfl) (by decide) ?_
      refine s_if_eq (tgt := 227) (q := 210) d_M_about_207 (by decide) rfl (fun z9 => absurd z9 (bI_dn.mpr (by decide))) (fun _ => ?_)
      refine s_aload_n (q := 211) d_M_about_210 rfl rfl (Or.inr ⟨_, rfl⟩) ?_
      refine g_getr (q := 214) d_M_about_211 rfl fl_M_38 skM rfl ?_
      refine s_iconst (v := 4) (q := 215) d_M_about_214 rfl ki_4 ?_
      refine s_iload (q := 217) d_M_about_215 rfl rfl ?_
      refine s_imul (q := 218) d_M_about_217 rfl ?_
      refine s_iload_n (q := 219) d_M_about_218 rfl rfl ?_
      refine s_iadd (q := 220) d_M_about_219 rfl ?_
      refine s_bipush (v := 10) (q := 222) d_M_about_220 rfl kb_10 ?_
      refine s_isub (q := 223) d_M_about_222 rfl ?_
      refine g_iald (q := 224) d_M_about_223 rfl sm_9 (by omega) (show 4 * nI (8 * t + j) + nI 10 - 10 = nI (4 * (8 * t + j) + 0) from by rw [ix4m]; exact pk_sub (a := 4 * (8 * t + j) + 10) (b := 10) (by omega)) (by omega) ?_
      refine s_goto (tgt := 229) d_M_about_224 (by decide) ?_
      exact g_iret d_M_about_229 rfl rfl rfl rfl
    · -- F 34
      rw [unz hn] at h_34
      refine s_iconst (v := 1) (q := 38) d_M_about_37 rfl ki_1 ?_
      refine s_goto (tgt := 42) d_M_about_38 (by decide) ?_
      refine s_istore (q := 44) d_M_about_42 rfl (by decide) ?_
      refine s_iload_n (q := 45) d_M_about_44 rfl rfl ?_
      refine s_tsOut (tgt := 199) d_M_about_45 (by decide) (by decide) ?_
      refine s_iload_n (q := 200) d_M_about_199 rfl rfl ?_
      refine s_bipush (v := 10) (q := 202) d_M_about_200 rfl kb_10 ?_
      refine s_bipush (v := 13) (q := 204) d_M_about_202 rfl kb_13 ?_
      refine g_callS (q := 207) d_M_about_204 rfl ml_M_74 mx_M_in ms_M_in t_M_in rfl rfl (Nat.le_of_ble_eq_true rfl) (by decide) ?_
      refine s_if_eq (tgt := 227) (q := 210) d_M_about_207 (by decide) rfl (fun z9 => absurd z9 (bI_dn.mpr (by decide))) (fun _ => ?_)
      refine s_aload_n (q := 211) d_M_about_210 rfl rfl (Or.inr ⟨_, rfl⟩) ?_
      refine g_getr (q := 214) d_M_about_211 rfl fl_M_38 skM rfl ?_
      refine s_iconst (v := 4) (q := 215) d_M_about_214 rfl ki_4 ?_
      refine s_iload (q := 217) d_M_about_215 rfl rfl ?_
      refine s_imul (q := 218) d_M_about_217 rfl ?_
      refine s_iload_n (q := 219) d_M_about_218 rfl rfl ?_
      refine s_iadd (q := 220) d_M_about_219 rfl ?_
      refine s_bipush (v := 10) (q := 222) d_M_about_220 rfl kb_10 ?_
      refine s_isub (q := 223) d_M_about_222 rfl ?_
      refine g_iald (q := 224) d_M_about_223 rfl sm_9 (by omega) (show 4 * nI (8 * t + j) + nI 10 - 10 = nI (4 * (8 * t + j) + 0) from by rw [ix4m]; exact pk_sub (a := 4 * (8 * t + j) + 10) (b := 10) (by omega)) (by omega) ?_
      refine s_goto (tgt := 229) d_M_about_224 (by decide) ?_
      exact g_iret d_M_about_229 rfl rfl rfl rfl
  · skip
    refine Ct_of false (by decide) (fun h => by cases h) (Nat.le_of_ble_eq_true rfl) ?_
    show V l D ac b "SpanStoreModel" c_M_about 6 (some .int) false 3 68 0 0 ((some (.int (maV X t (8 * t + j) c n 11))), 144, mk X) 0 0 0 [(0, .ref 122), (1, .int (nI t)), (2, .int (nI j)), (3, .int (nI 11))] [] 144 (mk X)
    refine s_iload_n (q := 1) d_M_about_0 rfl rfl ?_
    refine s_iload_n (q := 2) d_M_about_1 rfl rfl ?_
    refine g_callS (q := 5) d_M_about_2 rfl ml_M_82 mx_M_isBlock ms_M_isBlock t_M_isBlock rfl rfl (Nat.le_of_ble_eq_true rfl) (by decide) ?_
    refine s_if_eq (tgt := 17) (q := 8) d_M_about_5 (by decide) rfl (fun z9 => absurd z9 (bI_dn.mpr ⟨inT ht, inB hj⟩)) (fun _ => ?_)
    refine s_aload_n (q := 9) d_M_about_8 rfl rfl (Or.inr ⟨_, rfl⟩) ?_
    refine g_getr (q := 12) d_M_about_9 rfl fl_M_44 skM rfl ?_
    refine s_iload_n (q := 13) d_M_about_12 rfl rfl ?_
    refine g_zald (q := 14) d_M_about_13 rfl sm_11 (by omega) rfl ht ?_
    refine s_if_ne (tgt := 20) (q := 17) d_M_about_14 (by decide) rfl (fun _ => ?_) (fun z9 => absurd z9 hs)
    refine s_bipush (v := 8) (q := 22) d_M_about_20 rfl kb_8 ?_
    refine s_iload_n (q := 23) d_M_about_22 rfl rfl ?_
    refine s_imul (q := 24) d_M_about_23 rfl ?_
    refine s_iload_n (q := 25) d_M_about_24 rfl rfl ?_
    refine s_iadd (q := 26) d_M_about_25 rfl ?_
    rw [ix8m]
    refine s_istore (q := 28) d_M_about_26 rfl (by decide) ?_
    refine s_aload_n (q := 29) d_M_about_28 rfl rfl (Or.inr ⟨_, rfl⟩) ?_
    refine s_iload (q := 31) d_M_about_29 rfl rfl ?_
    refine g_callV (q := 34) d_M_about_31 rfl ml_M_116 mx_M_unknownOf mv_M_unknownOf (t_M_unknownOf (by omega) hz hn) skM rfl rfl (Nat.le_of_ble_eq_true rfl) (by decide) ?_
    refine s_if_le (tgt := 41) (q := 37) d_M_about_34 (by decide) rfl (fun h_34 => ?_) (fun h_34 => ?_)
    · -- T 34
      rw [unz hn] at h_34
      refine s_iconst (v := 0) (q := 42) d_M_about_41 rfl ki_0 ?_
      refine s_istore (q := 44) d_M_about_42 rfl (by decide) ?_
      refine s_iload_n (q := 45) d_M_about_44 rfl rfl ?_
      refine s_tsOut (tgt := 199) d_M_about_45 (by decide) (by decide) ?_
      refine s_iload_n (q := 200) d_M_about_199 rfl rfl ?_
      refine s_bipush (v := 10) (q := 202) d_M_about_200 rfl kb_10 ?_
      refine s_bipush (v := 13) (q := 204) d_M_about_202 rfl kb_13 ?_
      refine g_callS (q := 207) d_M_about_204 rfl ml_M_74 mx_M_in ms_M_in t_M_in rfl rfl (Nat.le_of_ble_eq_true rfl) (by decide) ?_
      refine s_if_eq (tgt := 227) (q := 210) d_M_about_207 (by decide) rfl (fun z9 => absurd z9 (bI_dn.mpr (by decide))) (fun _ => ?_)
      refine s_aload_n (q := 211) d_M_about_210 rfl rfl (Or.inr ⟨_, rfl⟩) ?_
      refine g_getr (q := 214) d_M_about_211 rfl fl_M_38 skM rfl ?_
      refine s_iconst (v := 4) (q := 215) d_M_about_214 rfl ki_4 ?_
      refine s_iload (q := 217) d_M_about_215 rfl rfl ?_
      refine s_imul (q := 218) d_M_about_217 rfl ?_
      refine s_iload_n (q := 219) d_M_about_218 rfl rfl ?_
      refine s_iadd (q := 220) d_M_about_219 rfl ?_
      refine s_bipush (v := 10) (q := 222) d_M_about_220 rfl kb_10 ?_
      refine s_isub (q := 223) d_M_about_222 rfl ?_
      refine g_iald (q := 224) d_M_about_223 rfl sm_9 (by omega) (show 4 * nI (8 * t + j) + nI 11 - 10 = nI (4 * (8 * t + j) + 1) from by rw [ix4m]; exact pk_sub (a := 4 * (8 * t + j) + 11) (b := 10) (by omega)) (by omega) ?_
      refine s_goto (tgt := 229) d_M_about_224 (by decide) ?_
      exact g_iret d_M_about_229 rfl rfl rfl rfl
    · -- F 34
      rw [unz hn] at h_34
      refine s_iconst (v := 1) (q := 38) d_M_about_37 rfl ki_1 ?_
      refine s_goto (tgt := 42) d_M_about_38 (by decide) ?_
      refine s_istore (q := 44) d_M_about_42 rfl (by decide) ?_
      refine s_iload_n (q := 45) d_M_about_44 rfl rfl ?_
      refine s_tsOut (tgt := 199) d_M_about_45 (by decide) (by decide) ?_
      refine s_iload_n (q := 200) d_M_about_199 rfl rfl ?_
      refine s_bipush (v := 10) (q := 202) d_M_about_200 rfl kb_10 ?_
      refine s_bipush (v := 13) (q := 204) d_M_about_202 rfl kb_13 ?_
      refine g_callS (q := 207) d_M_about_204 rfl ml_M_74 mx_M_in ms_M_in t_M_in rfl rfl (Nat.le_of_ble_eq_true rfl) (by decide) ?_
      refine s_if_eq (tgt := 227) (q := 210) d_M_about_207 (by decide) rfl (fun z9 => absurd z9 (bI_dn.mpr (by decide))) (fun _ => ?_)
      refine s_aload_n (q := 211) d_M_about_210 rfl rfl (Or.inr ⟨_, rfl⟩) ?_
      refine g_getr (q := 214) d_M_about_211 rfl fl_M_38 skM rfl ?_
      refine s_iconst (v := 4) (q := 215) d_M_about_214 rfl ki_4 ?_
      refine s_iload (q := 217) d_M_about_215 rfl rfl ?_
      refine s_imul (q := 218) d_M_about_217 rfl ?_
      refine s_iload_n (q := 219) d_M_about_218 rfl rfl ?_
      refine s_iadd (q := 220) d_M_about_219 rfl ?_
      refine s_bipush (v := 10) (q := 222) d_M_about_220 rfl kb_10 ?_
      refine s_isub (q := 223) d_M_about_222 rfl ?_
      refine g_iald (q := 224) d_M_about_223 rfl sm_9 (by omega) (show 4 * nI (8 * t + j) + nI 11 - 10 = nI (4 * (8 * t + j) + 1) from by rw [ix4m]; exact pk_sub (a := 4 * (8 * t + j) + 11) (b := 10) (by omega)) (by omega) ?_
      refine s_goto (tgt := 229) d_M_about_224 (by decide) ?_
      exact g_iret d_M_about_229 rfl rfl rfl rfl
  · skip
    refine Ct_of false (by decide) (fun h => by cases h) (Nat.le_of_ble_eq_true rfl) ?_
    show V l D ac b "SpanStoreModel" c_M_about 6 (some .int) false 3 68 0 0 ((some (.int (maV X t (8 * t + j) c n 12))), 144, mk X) 0 0 0 [(0, .ref 122), (1, .int (nI t)), (2, .int (nI j)), (3, .int (nI 12))] [] 144 (mk X)
    refine s_iload_n (q := 1) d_M_about_0 rfl rfl ?_
    refine s_iload_n (q := 2) d_M_about_1 rfl rfl ?_
    refine g_callS (q := 5) d_M_about_2 rfl ml_M_82 mx_M_isBlock ms_M_isBlock t_M_isBlock rfl rfl (Nat.le_of_ble_eq_true rfl) (by decide) ?_
    refine s_if_eq (tgt := 17) (q := 8) d_M_about_5 (by decide) rfl (fun z9 => absurd z9 (bI_dn.mpr ⟨inT ht, inB hj⟩)) (fun _ => ?_)
    refine s_aload_n (q := 9) d_M_about_8 rfl rfl (Or.inr ⟨_, rfl⟩) ?_
    refine g_getr (q := 12) d_M_about_9 rfl fl_M_44 skM rfl ?_
    refine s_iload_n (q := 13) d_M_about_12 rfl rfl ?_
    refine g_zald (q := 14) d_M_about_13 rfl sm_11 (by omega) rfl ht ?_
    refine s_if_ne (tgt := 20) (q := 17) d_M_about_14 (by decide) rfl (fun _ => ?_) (fun z9 => absurd z9 hs)
    refine s_bipush (v := 8) (q := 22) d_M_about_20 rfl kb_8 ?_
    refine s_iload_n (q := 23) d_M_about_22 rfl rfl ?_
    refine s_imul (q := 24) d_M_about_23 rfl ?_
    refine s_iload_n (q := 25) d_M_about_24 rfl rfl ?_
    refine s_iadd (q := 26) d_M_about_25 rfl ?_
    rw [ix8m]
    refine s_istore (q := 28) d_M_about_26 rfl (by decide) ?_
    refine s_aload_n (q := 29) d_M_about_28 rfl rfl (Or.inr ⟨_, rfl⟩) ?_
    refine s_iload (q := 31) d_M_about_29 rfl rfl ?_
    refine g_callV (q := 34) d_M_about_31 rfl ml_M_116 mx_M_unknownOf mv_M_unknownOf (t_M_unknownOf (by omega) hz hn) skM rfl rfl (Nat.le_of_ble_eq_true rfl) (by decide) ?_
    refine s_if_le (tgt := 41) (q := 37) d_M_about_34 (by decide) rfl (fun h_34 => ?_) (fun h_34 => ?_)
    · -- T 34
      rw [unz hn] at h_34
      refine s_iconst (v := 0) (q := 42) d_M_about_41 rfl ki_0 ?_
      refine s_istore (q := 44) d_M_about_42 rfl (by decide) ?_
      refine s_iload_n (q := 45) d_M_about_44 rfl rfl ?_
      refine s_tsOut (tgt := 199) d_M_about_45 (by decide) (by decide) ?_
      refine s_iload_n (q := 200) d_M_about_199 rfl rfl ?_
      refine s_bipush (v := 10) (q := 202) d_M_about_200 rfl kb_10 ?_
      refine s_bipush (v := 13) (q := 204) d_M_about_202 rfl kb_13 ?_
      refine g_callS (q := 207) d_M_about_204 rfl ml_M_74 mx_M_in ms_M_in t_M_in rfl rfl (Nat.le_of_ble_eq_true rfl) (by decide) ?_
      refine s_if_eq (tgt := 227) (q := 210) d_M_about_207 (by decide) rfl (fun z9 => absurd z9 (bI_dn.mpr (by decide))) (fun _ => ?_)
      refine s_aload_n (q := 211) d_M_about_210 rfl rfl (Or.inr ⟨_, rfl⟩) ?_
      refine g_getr (q := 214) d_M_about_211 rfl fl_M_38 skM rfl ?_
      refine s_iconst (v := 4) (q := 215) d_M_about_214 rfl ki_4 ?_
      refine s_iload (q := 217) d_M_about_215 rfl rfl ?_
      refine s_imul (q := 218) d_M_about_217 rfl ?_
      refine s_iload_n (q := 219) d_M_about_218 rfl rfl ?_
      refine s_iadd (q := 220) d_M_about_219 rfl ?_
      refine s_bipush (v := 10) (q := 222) d_M_about_220 rfl kb_10 ?_
      refine s_isub (q := 223) d_M_about_222 rfl ?_
      refine g_iald (q := 224) d_M_about_223 rfl sm_9 (by omega) (show 4 * nI (8 * t + j) + nI 12 - 10 = nI (4 * (8 * t + j) + 2) from by rw [ix4m]; exact pk_sub (a := 4 * (8 * t + j) + 12) (b := 10) (by omega)) (by omega) ?_
      refine s_goto (tgt := 229) d_M_about_224 (by decide) ?_
      exact g_iret d_M_about_229 rfl rfl rfl rfl
    · -- F 34
      rw [unz hn] at h_34
      refine s_iconst (v := 1) (q := 38) d_M_about_37 rfl ki_1 ?_
      refine s_goto (tgt := 42) d_M_about_38 (by decide) ?_
      refine s_istore (q := 44) d_M_about_42 rfl (by decide) ?_
      refine s_iload_n (q := 45) d_M_about_44 rfl rfl ?_
      refine s_tsOut (tgt := 199) d_M_about_45 (by decide) (by decide) ?_
      refine s_iload_n (q := 200) d_M_about_199 rfl rfl ?_
      refine s_bipush (v := 10) (q := 202) d_M_about_200 rfl kb_10 ?_
      refine s_bipush (v := 13) (q := 204) d_M_about_202 rfl kb_13 ?_
      refine g_callS (q := 207) d_M_about_204 rfl ml_M_74 mx_M_in ms_M_in t_M_in rfl rfl (Nat.le_of_ble_eq_true rfl) (by decide) ?_
      refine s_if_eq (tgt := 227) (q := 210) d_M_about_207 (by decide) rfl (fun z9 => absurd z9 (bI_dn.mpr (by decide))) (fun _ => ?_)
      refine s_aload_n (q := 211) d_M_about_210 rfl rfl (Or.inr ⟨_, rfl⟩) ?_
      refine g_getr (q := 214) d_M_about_211 rfl fl_M_38 skM rfl ?_
      refine s_iconst (v := 4) (q := 215) d_M_about_214 rfl ki_4 ?_
      refine s_iload (q := 217) d_M_about_215 rfl rfl ?_
      refine s_imul (q := 218) d_M_about_217 rfl ?_
      refine s_iload_n (q := 219) d_M_about_218 rfl rfl ?_
      refine s_iadd (q := 220) d_M_about_219 rfl ?_
      refine s_bipush (v := 10) (q := 222) d_M_about_220 rfl kb_10 ?_
      refine s_isub (q := 223) d_M_about_222 rfl ?_
      refine g_iald (q := 224) d_M_about_223 rfl sm_9 (by omega) (show 4 * nI (8 * t + j) + nI 12 - 10 = nI (4 * (8 * t + j) + 2) from by rw [ix4m]; exact pk_sub (a := 4 * (8 * t + j) + 12) (b := 10) (by omega)) (by omega) ?_
      refine s_goto (tgt := 229) d_M_about_224 (by decide) ?_
      exact g_iret d_M_about_229 rfl rfl rfl rfl
  · skip
    refine Ct_of false (by decide) (fun h => by cases h) (Nat.le_of_ble_eq_true rfl) ?_
    show V l D ac b "SpanStoreModel" c_M_about 6 (some .int) false 3 68 0 0 ((some (.int (maV X t (8 * t + j) c n 13))), 144, mk X) 0 0 0 [(0, .ref 122), (1, .int (nI t)), (2, .int (nI j)), (3, .int (nI 13))] [] 144 (mk X)
    refine s_iload_n (q := 1) d_M_about_0 rfl rfl ?_
    refine s_iload_n (q := 2) d_M_about_1 rfl rfl ?_
    refine g_callS (q := 5) d_M_about_2 rfl ml_M_82 mx_M_isBlock ms_M_isBlock t_M_isBlock rfl rfl (Nat.le_of_ble_eq_true rfl) (by decide) ?_
    refine s_if_eq (tgt := 17) (q := 8) d_M_about_5 (by decide) rfl (fun z9 => absurd z9 (bI_dn.mpr ⟨inT ht, inB hj⟩)) (fun _ => ?_)
    refine s_aload_n (q := 9) d_M_about_8 rfl rfl (Or.inr ⟨_, rfl⟩) ?_
    refine g_getr (q := 12) d_M_about_9 rfl fl_M_44 skM rfl ?_
    refine s_iload_n (q := 13) d_M_about_12 rfl rfl ?_
    refine g_zald (q := 14) d_M_about_13 rfl sm_11 (by omega) rfl ht ?_
    refine s_if_ne (tgt := 20) (q := 17) d_M_about_14 (by decide) rfl (fun _ => ?_) (fun z9 => absurd z9 hs)
    refine s_bipush (v := 8) (q := 22) d_M_about_20 rfl kb_8 ?_
    refine s_iload_n (q := 23) d_M_about_22 rfl rfl ?_
    refine s_imul (q := 24) d_M_about_23 rfl ?_
    refine s_iload_n (q := 25) d_M_about_24 rfl rfl ?_
    refine s_iadd (q := 26) d_M_about_25 rfl ?_
    rw [ix8m]
    refine s_istore (q := 28) d_M_about_26 rfl (by decide) ?_
    refine s_aload_n (q := 29) d_M_about_28 rfl rfl (Or.inr ⟨_, rfl⟩) ?_
    refine s_iload (q := 31) d_M_about_29 rfl rfl ?_
    refine g_callV (q := 34) d_M_about_31 rfl ml_M_116 mx_M_unknownOf mv_M_unknownOf (t_M_unknownOf (by omega) hz hn) skM rfl rfl (Nat.le_of_ble_eq_true rfl) (by decide) ?_
    refine s_if_le (tgt := 41) (q := 37) d_M_about_34 (by decide) rfl (fun h_34 => ?_) (fun h_34 => ?_)
    · -- T 34
      rw [unz hn] at h_34
      refine s_iconst (v := 0) (q := 42) d_M_about_41 rfl ki_0 ?_
      refine s_istore (q := 44) d_M_about_42 rfl (by decide) ?_
      refine s_iload_n (q := 45) d_M_about_44 rfl rfl ?_
      refine s_tsOut (tgt := 199) d_M_about_45 (by decide) (by decide) ?_
      refine s_iload_n (q := 200) d_M_about_199 rfl rfl ?_
      refine s_bipush (v := 10) (q := 202) d_M_about_200 rfl kb_10 ?_
      refine s_bipush (v := 13) (q := 204) d_M_about_202 rfl kb_13 ?_
      refine g_callS (q := 207) d_M_about_204 rfl ml_M_74 mx_M_in ms_M_in t_M_in rfl rfl (Nat.le_of_ble_eq_true rfl) (by decide) ?_
      refine s_if_eq (tgt := 227) (q := 210) d_M_about_207 (by decide) rfl (fun z9 => absurd z9 (bI_dn.mpr (by decide))) (fun _ => ?_)
      refine s_aload_n (q := 211) d_M_about_210 rfl rfl (Or.inr ⟨_, rfl⟩) ?_
      refine g_getr (q := 214) d_M_about_211 rfl fl_M_38 skM rfl ?_
      refine s_iconst (v := 4) (q := 215) d_M_about_214 rfl ki_4 ?_
      refine s_iload (q := 217) d_M_about_215 rfl rfl ?_
      refine s_imul (q := 218) d_M_about_217 rfl ?_
      refine s_iload_n (q := 219) d_M_about_218 rfl rfl ?_
      refine s_iadd (q := 220) d_M_about_219 rfl ?_
      refine s_bipush (v := 10) (q := 222) d_M_about_220 rfl kb_10 ?_
      refine s_isub (q := 223) d_M_about_222 rfl ?_
      refine g_iald (q := 224) d_M_about_223 rfl sm_9 (by omega) (show 4 * nI (8 * t + j) + nI 13 - 10 = nI (4 * (8 * t + j) + 3) from by rw [ix4m]; exact pk_sub (a := 4 * (8 * t + j) + 13) (b := 10) (by omega)) (by omega) ?_
      refine s_goto (tgt := 229) d_M_about_224 (by decide) ?_
      exact g_iret d_M_about_229 rfl rfl rfl rfl
    · -- F 34
      rw [unz hn] at h_34
      refine s_iconst (v := 1) (q := 38) d_M_about_37 rfl ki_1 ?_
      refine s_goto (tgt := 42) d_M_about_38 (by decide) ?_
      refine s_istore (q := 44) d_M_about_42 rfl (by decide) ?_
      refine s_iload_n (q := 45) d_M_about_44 rfl rfl ?_
      refine s_tsOut (tgt := 199) d_M_about_45 (by decide) (by decide) ?_
      refine s_iload_n (q := 200) d_M_about_199 rfl rfl ?_
      refine s_bipush (v := 10) (q := 202) d_M_about_200 rfl kb_10 ?_
      refine s_bipush (v := 13) (q := 204) d_M_about_202 rfl kb_13 ?_
      refine g_callS (q := 207) d_M_about_204 rfl ml_M_74 mx_M_in ms_M_in t_M_in rfl rfl (Nat.le_of_ble_eq_true rfl) (by decide) ?_
      refine s_if_eq (tgt := 227) (q := 210) d_M_about_207 (by decide) rfl (fun z9 => absurd z9 (bI_dn.mpr (by decide))) (fun _ => ?_)
      refine s_aload_n (q := 211) d_M_about_210 rfl rfl (Or.inr ⟨_, rfl⟩) ?_
      refine g_getr (q := 214) d_M_about_211 rfl fl_M_38 skM rfl ?_
      refine s_iconst (v := 4) (q := 215) d_M_about_214 rfl ki_4 ?_
      refine s_iload (q := 217) d_M_about_215 rfl rfl ?_
      refine s_imul (q := 218) d_M_about_217 rfl ?_
      refine s_iload_n (q := 219) d_M_about_218 rfl rfl ?_
      refine s_iadd (q := 220) d_M_about_219 rfl ?_
      refine s_bipush (v := 10) (q := 222) d_M_about_220 rfl kb_10 ?_
      refine s_isub (q := 223) d_M_about_222 rfl ?_
      refine g_iald (q := 224) d_M_about_223 rfl sm_9 (by omega) (show 4 * nI (8 * t + j) + nI 13 - 10 = nI (4 * (8 * t + j) + 3) from by rw [ix4m]; exact pk_sub (a := 4 * (8 * t + j) + 13) (b := 10) (by omega)) (by omega) ?_
      refine s_goto (tgt := 229) d_M_about_224 (by decide) ?_
      exact g_iret d_M_about_229 rfl rfl rfl rfl
end P16
