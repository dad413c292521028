section P15
variable {l : Launch} {D : va_G} {ac : Nat → ClassId} {b : Nat}
def amtI (v : Int32) : Int32 := if 0 ≤ v then v else -v
theorem t_M_amount {X : RAM} {v : Int32} : CG l D ac b y_M_amount c_M_amount 1 (some .int) 0 0 [.int v] X (some (.int (amtI v))) (X) := by
  refine Ct_of false (by decide) (fun h => by cases h) (Nat.le_of_ble_eq_true rfl) ?_
  show V l D ac b "SpanStoreModel" c_M_amount 1 (some .int) false 0 0 0 0 ((some (.int (amtI v))), 144, mk (X)) 0 0 0 [(0, .int v)] [] 144 (mk X)
  refine s_iload_n (q := 1) d_M_amount_0 rfl rfl ?_
  refine s_if_ge (tgt := 9) (q := 4) d_M_amount_1 (by decide) rfl (fun h_1 => ?_) (fun h_1 => ?_)
  · -- T 1
    refine s_iload_n (q := 10) d_M_amount_9 rfl rfl ?_
    exact g_iret d_M_amount_10 rfl rfl (by simp [amtI, *]) rfl
  · -- F 1
    refine s_iload_n (q := 5) d_M_amount_4 rfl rfl ?_
    refine s_ineg (q := 6) d_M_amount_5 rfl ?_
    refine s_goto (tgt := 10) d_M_amount_6 (by decide) ?_
    exact g_iret d_M_amount_10 rfl rfl (by simp [amtI, *]) rfl
def mG (X : RAM) (B k : Nat) : Nat → Bool := fun i => decide (X 125 (12 * B + i) = X 125 (12 * B + k))
def mkV (X : RAM) (kk B i : Nat) : Bool := if X 136 kk = 0 then decide (remI (nI i) (X 137 kk) = 0) else if X 136 kk = 1 then decide (nI (cntB (mG X B i) i) < X 137 kk) else if X 136 kk = 2 then decide (remI (X 124 (12 * B + i)) (X 137 kk) = X 138 kk) else decide (¬ amtI (X 126 (12 * B + i)) < X 137 kk)
theorem mkV_same {X Y : RAM} {kk B i : Nat} (h : ∀ a, 123 ≤ a → a < 127 ∨ 133 < a → Y a = X a) : mkV Y kk B i = mkV X kk B i := by
  have : mG Y B i = mG X B i := by unfold mG; rw [h 125 (by decide) (by decide)]
  unfold mkV
  rw [h 136 (by decide) (by decide), h 137 (by decide) (by decide), h 138 (by decide) (by decide), h 124 (by decide) (by decide), h 126 (by decide) (by decide), this]
theorem lp_keepsM {X : RAM} {kk B i : Nat} (hk : kk < 8) (hB : B < 16) (hi12 : i < 12) (k0 : ¬ X 136 kk = 0) (k1 : X 136 kk = 1) : ∀ z, z ≤ i → V l D ac b "SpanStoreModel" c_M_keeps 8 (some .boolean) false 1 20 0 0 ((some (.int (bI (mkV X kk B i)))), 144, mk X) 0 0 67 [(0, .ref 122), (1, .int (nI kk)), (2, .int (nI B)), (3, .int (nI i)), (4, .int (nI (12 * B + i))), (5, .int (X 137 kk)), (6, .int (nI (cntB (mG X B i) z))), (7, .int (nI z))] [] 144 (mk X) := by
  refine nat_down ?_ (fun z hz ih => ?_)
  · skip
    refine s_iload (q := 69) d_M_keeps_67 rfl rfl ?_
    refine s_iload_n (q := 70) d_M_keeps_69 rfl rfl ?_
    refine s_icmp_ge (tgt := 111) (q := 73) d_M_keeps_70 (by decide) rfl (fun _ => ?_) (fun z9 => absurd (nI_le (Nat.le_refl i) (by omega)) z9)
    refine s_iload (q := 113) d_M_keeps_111 rfl rfl ?_
    refine s_iload (q := 115) d_M_keeps_113 rfl rfl ?_
    refine s_icmp_ge (tgt := 122) (q := 118) d_M_keeps_115 (by decide) rfl (fun h_115 => ?_) (fun h_115 => ?_)
    · -- T 115
      refine s_iconst (v := 0) (q := 123) d_M_keeps_122 rfl ki_0 ?_
      exact g_iret d_M_keeps_123 rfl rfl (by simp [mkV, k0, k1, bI, h_115]) rfl
    · -- F 115
      refine s_iconst (v := 1) (q := 119) d_M_keeps_118 rfl ki_1 ?_
      refine s_goto (tgt := 123) d_M_keeps_119 (by decide) ?_
      exact g_iret d_M_keeps_123 rfl rfl (by simp [mkV, k0, k1, bI, h_115]) rfl
  · skip
    refine s_iload (q := 69) d_M_keeps_67 rfl rfl ?_
    refine s_iload_n (q := 70) d_M_keeps_69 rfl rfl ?_
    refine s_icmp_ge (tgt := 111) (q := 73) d_M_keeps_70 (by decide) rfl (fun z9 => absurd z9 (nI_ge hz (by omega))) (fun _ => ?_)
    refine s_iload (q := 75) d_M_keeps_73 rfl rfl ?_
    refine s_aload_n (q := 76) d_M_keeps_75 rfl rfl (Or.inr ⟨_, rfl⟩) ?_
    refine g_getr (q := 79) d_M_keeps_76 rfl fl_M_16 skM rfl ?_
    refine s_bipush (v := 12) (q := 81) d_M_keeps_79 rfl kb_12 ?_
    refine s_iload_n (q := 82) d_M_keeps_81 rfl rfl ?_
    refine s_imul (q := 83) d_M_keeps_82 rfl ?_
    refine s_iload (q := 85) d_M_keeps_83 rfl rfl ?_
    refine s_iadd (q := 86) d_M_keeps_85 rfl ?_
    refine g_iald (q := 87) d_M_keeps_86 rfl sm_2 (by omega) (ix12 _ _) (by omega) ?_
    refine s_aload_n (q := 88) d_M_keeps_87 rfl rfl (Or.inr ⟨_, rfl⟩) ?_
    refine g_getr (q := 91) d_M_keeps_88 rfl fl_M_16 skM rfl ?_
    refine s_iload (q := 93) d_M_keeps_91 rfl rfl ?_
    refine g_iald (q := 94) d_M_keeps_93 rfl sm_2 (by omega) rfl (by omega) ?_
    refine s_icmp_ne (tgt := 101) (q := 97) d_M_keeps_94 (by decide) rfl (fun h_94 => ?_) (fun h_94 => ?_)
    · -- T 94
      rw [show cntB (mG X B i) (z + 1) = cntB (mG X B i) z from by simp [cntB, mG, h_94]] at ih
      refine s_iconst (v := 0) (q := 102) d_M_keeps_101 rfl ki_0 ?_
      refine s_iadd (q := 103) d_M_keeps_102 rfl ?_
      first | rw [nI_s] | rw [Int32.add_zero]
      refine s_istore (q := 105) d_M_keeps_103 rfl (by decide) ?_
      refine s_iinc (q := 108) d_M_keeps_105 rfl rfl (by first | exact inc1 _ | rfl) (by decide) ?_
      refine s_goto (tgt := 67) d_M_keeps_108 (by decide) ?_
      exact s_lv (lv' := [(0, .ref 122), (1, .int (nI kk)), (2, .int (nI B)), (3, .int (nI i)), (4, .int (nI (12 * B + i))), (5, .int (X 137 kk)), (6, .int (nI _)), (7, .int (nI (z + 1)))]) ⟨rfl, rfl, rfl, rfl, rfl, rfl, rfl, rfl, trivial⟩ ih
    · -- F 94
      rw [show cntB (mG X B i) (z + 1) = cntB (mG X B i) z + 1 from by simp [cntB, mG, h_94]] at ih
      refine s_iconst (v := 1) (q := 98) d_M_keeps_97 rfl ki_1 ?_
      refine s_goto (tgt := 102) d_M_keeps_98 (by decide) ?_
      refine s_iadd (q := 103) d_M_keeps_102 rfl ?_
      first | rw [nI_s] | rw [Int32.add_zero]
      refine s_istore (q := 105) d_M_keeps_103 rfl (by decide) ?_
      refine s_iinc (q := 108) d_M_keeps_105 rfl rfl (by first | exact inc1 _ | rfl) (by decide) ?_
      refine s_goto (tgt := 67) d_M_keeps_108 (by decide) ?_
      exact s_lv (lv' := [(0, .ref 122), (1, .int (nI kk)), (2, .int (nI B)), (3, .int (nI i)), (4, .int (nI (12 * B + i))), (5, .int (X 137 kk)), (6, .int (nI _)), (7, .int (nI (z + 1)))]) ⟨rfl, rfl, rfl, rfl, rfl, rfl, rfl, rfl, trivial⟩ ih
theorem t_M_keeps {X : RAM} {kk B i : Nat} (hk : kk < 8) (hB : B < 16) (hi12 : i < 12) (ha : ¬ X 137 kk = 0) : CG l D ac b y_M_keeps c_M_keeps 8 (some .boolean) 1 20 [.ref 122, .int (nI kk), .int (nI B), .int (nI i)] X (some (.int (bI (mkV X kk B i)))) X := by
  refine Ct_of false (by decide) (fun h => by cases h) (Nat.le_of_ble_eq_true rfl) ?_
  show V l D ac b "SpanStoreModel" c_M_keeps 8 (some .boolean) false 1 20 0 0 ((some (.int (bI (mkV X kk B i)))), 144, mk X) 0 0 0 [(0, .ref 122), (1, .int (nI kk)), (2, .int (nI B)), (3, .int (nI i))] [] 144 (mk X)
  by_cases k0 : X 136 kk = 0
  · skip
    refine s_bipush (v := 12) (q := 2) d_M_keeps_0 rfl kb_12 ?_
    refine s_iload_n (q := 3) d_M_keeps_2 rfl rfl ?_
    refine s_imul (q := 4) d_M_keeps_3 rfl ?_
    refine s_iload_n (q := 5) d_M_keeps_4 rfl rfl ?_
    refine s_iadd (q := 6) d_M_keeps_5 rfl ?_
    rw [ix12]
    refine s_istore (q := 8) d_M_keeps_6 rfl (by decide) ?_
    refine s_aload_n (q := 9) d_M_keeps_8 rfl rfl (Or.inr ⟨_, rfl⟩) ?_
    refine g_getr (q := 12) d_M_keeps_9 rfl fl_M_53 skM rfl ?_
    refine s_iload_n (q := 13) d_M_keeps_12 rfl rfl ?_
    refine g_iald (q := 14) d_M_keeps_13 rfl sm_14 (by omega) rfl hk ?_
    refine s_istore (q := 16) d_M_keeps_14 rfl (by decide) ?_
    refine s_aload_n (q := 17) d_M_keeps_16 rfl rfl (Or.inr ⟨_, rfl⟩) ?_
    refine g_getr (q := 20) d_M_keeps_17 rfl fl_M_50 skM rfl ?_
    refine s_iload_n (q := 21) d_M_keeps_20 rfl rfl ?_
    refine g_ialv (v := 0) (q := 22) d_M_keeps_21 rfl sm_13 (by omega) rfl hk k0 ?_
    refine s_tsIn (tgt := 48) d_M_keeps_22 (by decide) (by decide) rfl (by decide) ?_
    refine s_iload_n (q := 49) d_M_keeps_48 rfl rfl ?_
    refine s_iload (q := 51) d_M_keeps_49 rfl rfl ?_
    refine s_irem (q := 52) d_M_keeps_51 rfl ha ?_
    refine s_if_ne (tgt := 59) (q := 55) d_M_keeps_52 (by decide) rfl (fun h_52 => ?_) (fun h_52 => ?_)
    · -- T 52
      refine s_iconst (v := 0) (q := 60) d_M_keeps_59 rfl ki_0 ?_
      exact g_iret d_M_keeps_60 rfl rfl (by simp [mkV, remI, bI, k0, h_52]) rfl
    · -- F 52
      refine s_iconst (v := 1) (q := 56) d_M_keeps_55 rfl ki_1 ?_
      refine s_goto (tgt := 60) d_M_keeps_56 (by decide) ?_
      exact g_iret d_M_keeps_60 rfl rfl (by simp [mkV, remI, bI, k0, h_52]) rfl
  by_cases k1 : X 136 kk = 1
  · skip
    refine s_bipush (v := 12) (q := 2) d_M_keeps_0 rfl kb_12 ?_
    refine s_iload_n (q := 3) d_M_keeps_2 rfl rfl ?_
    refine s_imul (q := 4) d_M_keeps_3 rfl ?_
    refine s_iload_n (q := 5) d_M_keeps_4 rfl rfl ?_
    refine s_iadd (q := 6) d_M_keeps_5 rfl ?_
    rw [ix12]
    refine s_istore (q := 8) d_M_keeps_6 rfl (by decide) ?_
    refine s_aload_n (q := 9) d_M_keeps_8 rfl rfl (Or.inr ⟨_, rfl⟩) ?_
    refine g_getr (q := 12) d_M_keeps_9 rfl fl_M_53 skM rfl ?_
    refine s_iload_n (q := 13) d_M_keeps_12 rfl rfl ?_
    refine g_iald (q := 14) d_M_keeps_13 rfl sm_14 (by omega) rfl hk ?_
    refine s_istore (q := 16) d_M_keeps_14 rfl (by decide) ?_
    refine s_aload_n (q := 17) d_M_keeps_16 rfl rfl (Or.inr ⟨_, rfl⟩) ?_
    refine g_getr (q := 20) d_M_keeps_17 rfl fl_M_50 skM rfl ?_
    refine s_iload_n (q := 21) d_M_keeps_20 rfl rfl ?_
    refine g_ialv (v := 1) (q := 22) d_M_keeps_21 rfl sm_13 (by omega) rfl hk k1 ?_
    refine s_tsIn (tgt := 61) d_M_keeps_22 (by decide) (by decide) rfl (by decide) ?_
    refine s_iconst (v := 0) (q := 62) d_M_keeps_61 rfl ki_0 ?_
    refine s_istore (q := 64) d_M_keeps_62 rfl (by decide) ?_
    refine s_iconst (v := 0) (q := 65) d_M_keeps_64 rfl ki_0 ?_
    refine s_istore (q := 67) d_M_keeps_65 rfl (by decide) ?_
    exact s_lv (lv' := [(0, .ref 122), (1, .int (nI kk)), (2, .int (nI B)), (3, .int (nI i)), (4, .int (nI (12 * B + i))), (5, .int (X 137 kk)), (6, .int (nI (cntB (mG X B i) 0))), (7, .int (nI 0))]) ⟨rfl, rfl, rfl, rfl, rfl, rfl, rfl, rfl, trivial⟩ (lp_keepsM hk hB hi12 k0 k1 0 (Nat.zero_le i))
  by_cases k2 : X 136 kk = 2
  · skip
    refine s_bipush (v := 12) (q := 2) d_M_keeps_0 rfl kb_12 ?_
    refine s_iload_n (q := 3) d_M_keeps_2 rfl rfl ?_
    refine s_imul (q := 4) d_M_keeps_3 rfl ?_
    refine s_iload_n (q := 5) d_M_keeps_4 rfl rfl ?_
    refine s_iadd (q := 6) d_M_keeps_5 rfl ?_
    rw [ix12]
    refine s_istore (q := 8) d_M_keeps_6 rfl (by decide) ?_
    refine s_aload_n (q := 9) d_M_keeps_8 rfl rfl (Or.inr ⟨_, rfl⟩) ?_
    refine g_getr (q := 12) d_M_keeps_9 rfl fl_M_53 skM rfl ?_
    refine s_iload_n (q := 13) d_M_keeps_12 rfl rfl ?_
    refine g_iald (q := 14) d_M_keeps_13 rfl sm_14 (by omega) rfl hk ?_
    refine s_istore (q := 16) d_M_keeps_14 rfl (by decide) ?_
    refine s_aload_n (q := 17) d_M_keeps_16 rfl rfl (Or.inr ⟨_, rfl⟩) ?_
    refine g_getr (q := 20) d_M_keeps_17 rfl fl_M_50 skM rfl ?_
    refine s_iload_n (q := 21) d_M_keeps_20 rfl rfl ?_
    refine g_ialv (v := 2) (q := 22) d_M_keeps_21 rfl sm_13 (by omega) rfl hk k2 ?_
    refine s_tsIn (tgt := 124) d_M_keeps_22 (by decide) (by decide) rfl (by decide) ?_
    refine s_aload_n (q := 125) d_M_keeps_124 rfl rfl (Or.inr ⟨_, rfl⟩) ?_
    refine g_getr (q := 128) d_M_keeps_125 rfl fl_M_13 skM rfl ?_
    refine s_iload (q := 130) d_M_keeps_128 rfl rfl ?_
    refine g_iald (q := 131) d_M_keeps_130 rfl sm_1 (by omega) rfl (by omega) ?_
    refine s_iload (q := 133) d_M_keeps_131 rfl rfl ?_
    refine s_irem (q := 134) d_M_keeps_133 rfl ha ?_
    refine s_aload_n (q := 135) d_M_keeps_134 rfl rfl (Or.inr ⟨_, rfl⟩) ?_
    refine g_getr (q := 138) d_M_keeps_135 rfl fl_M_56 skM rfl ?_
    refine s_iload_n (q := 139) d_M_keeps_138 rfl rfl ?_
    refine g_iald (q := 140) d_M_keeps_139 rfl sm_15 (by omega) rfl hk ?_
    refine s_icmp_ne (tgt := 147) (q := 143) d_M_keeps_140 (by decide) rfl (fun h_140 => ?_) (fun h_140 => ?_)
    · -- T 140
      refine s_iconst (v := 0) (q := 148) d_M_keeps_147 rfl ki_0 ?_
      exact g_iret d_M_keeps_148 rfl rfl (by simp [mkV, remI, bI, k0, k1, k2, h_140]) rfl
    · -- F 140
      refine s_iconst (v := 1) (q := 144) d_M_keeps_143 rfl ki_1 ?_
      refine s_goto (tgt := 148) d_M_keeps_144 (by decide) ?_
      exact g_iret d_M_keeps_148 rfl rfl (by simp [mkV, remI, bI, k0, k1, k2, h_140]) rfl
  · skip
    refine s_bipush (v := 12) (q := 2) d_M_keeps_0 rfl kb_12 ?_
    refine s_iload_n (q := 3) d_M_keeps_2 rfl rfl ?_
    refine s_imul (q := 4) d_M_keeps_3 rfl ?_
    refine s_iload_n (q := 5) d_M_keeps_4 rfl rfl ?_
    refine s_iadd (q := 6) d_M_keeps_5 rfl ?_
    rw [ix12]
    refine s_istore (q := 8) d_M_keeps_6 rfl (by decide) ?_
    refine s_aload_n (q := 9) d_M_keeps_8 rfl rfl (Or.inr ⟨_, rfl⟩) ?_
    refine g_getr (q := 12) d_M_keeps_9 rfl fl_M_53 skM rfl ?_
    refine s_iload_n (q := 13) d_M_keeps_12 rfl rfl ?_
    refine g_iald (q := 14) d_M_keeps_13 rfl sm_14 (by omega) rfl hk ?_
    refine s_istore (q := 16) d_M_keeps_14 rfl (by decide) ?_
    refine s_aload_n (q := 17) d_M_keeps_16 rfl rfl (Or.inr ⟨_, rfl⟩) ?_
    refine g_getr (q := 20) d_M_keeps_17 rfl fl_M_50 skM rfl ?_
    refine s_iload_n (q := 21) d_M_keeps_20 rfl rfl ?_
    refine g_iald (q := 22) d_M_keeps_21 rfl sm_13 (by omega) rfl hk ?_
    refine s_tsOut (tgt := 149) d_M_keeps_22 (by rw [i_eq, tI_0] at k0; rw [i_eq, tI_1] at k1; rw [i_eq, tI_2] at k2; omega) (by decide) ?_
    refine s_aload_n (q := 150) d_M_keeps_149 rfl rfl (Or.inr ⟨_, rfl⟩) ?_
    refine g_getr (q := 153) d_M_keeps_150 rfl fl_M_19 skM rfl ?_
    refine s_iload (q := 155) d_M_keeps_153 rfl rfl ?_
    refine g_iald (q := 156) d_M_keeps_155 rfl sm_3 (by omega) rfl (by omega) ?_
    refine g_callS (q := 159) d_M_keeps_156 rfl ml_M_100 mx_M_amount ms_M_amount t_M_amount rfl rfl (Nat.le_of_ble_eq_true rfl) (by decide) ?_
    refine s_iload (q := 161) d_M_keeps_159 rfl rfl ?_
    refine s_icmp_lt (tgt := 168) (q := 164) d_M_keeps_161 (by decide) rfl (fun h_161 => ?_) (fun h_161 => ?_)
    · -- T 161
      refine s_iconst (v := 0) (q := 169) d_M_keeps_168 rfl ki_0 ?_
      exact g_iret d_M_keeps_169 rfl rfl (by simp [mkV, bI, k0, k1, k2, h_161]) rfl
    · -- F 161
      refine s_iconst (v := 1) (q := 165) d_M_keeps_164 rfl ki_1 ?_
      refine s_goto (tgt := 169) d_M_keeps_165 (by decide) ?_
      exact g_iret d_M_keeps_169 rfl rfl (by simp [mkV, bI, k0, k1, k2, h_161]) rfl
def unP (X : RAM) (B : Nat) : Nat → Bool := fun i => decide (X 127 (12 * B + i) = 0)
def mnN (X : RAM) (B : Nat) : Nat := (X 123 B).toNatClampNeg
def okM (X : RAM) : Prop := ∀ B, B < 16 → X 123 B = nI (mnN X B) ∧ mnN X B ≤ 12
def unV (X : RAM) (B : Nat) : Nat := cntB (unP X B) (mnN X B)
theorem lp_unk {X : RAM} {B n : Nat} (hB : B < 16) (hz : X 123 B = nI n) (hn : n ≤ 12) : ∀ i, i ≤ n → V l D ac b "SpanStoreModel" c_M_unknownOf 4 (some .int) false 0 0 0 0 ((some (.int (nI (cntB (unP X B) n)))), 144, mk X) 0 0 4 [(0, .ref 122), (1, .int (nI B)), (2, .int (nI (cntB (unP X B) i))), (3, .int (nI i))] [] 144 (mk X) := by
  refine nat_down ?_ (fun i hi ih => ?_)
  · skip
    refine s_iload_n (q := 5) d_M_unknownOf_4 rfl rfl ?_
    refine s_aload_n (q := 6) d_M_unknownOf_5 rfl rfl (Or.inr ⟨_, rfl⟩) ?_
    refine g_getr (q := 9) d_M_unknownOf_6 rfl fl_M_7 skM rfl ?_
    refine s_iload_n (q := 10) d_M_unknownOf_9 rfl rfl ?_
    refine g_ialv (v := nI n) (q := 11) d_M_unknownOf_10 rfl sm_0 (by omega) rfl hB hz ?_
    refine s_icmp_ge (tgt := 42) (q := 14) d_M_unknownOf_11 (by decide) rfl (fun _ => ?_) (fun z9 => absurd (nI_le (Nat.le_refl n) (by omega)) z9)
    refine s_iload_n (q := 43) d_M_unknownOf_42 rfl rfl ?_
    exact g_iret d_M_unknownOf_43 rfl rfl rfl rfl
  · skip
    refine s_iload_n (q := 5) d_M_unknownOf_4 rfl rfl ?_
    refine s_aload_n (q := 6) d_M_unknownOf_5 rfl rfl (Or.inr ⟨_, rfl⟩) ?_
    refine g_getr (q := 9) d_M_unknownOf_6 rfl fl_M_7 skM rfl ?_
    refine s_iload_n (q := 10) d_M_unknownOf_9 rfl rfl ?_
    refine g_ialv (v := nI n) (q := 11) d_M_unknownOf_10 rfl sm_0 (by omega) rfl hB hz ?_
    refine s_icmp_ge (tgt := 42) (q := 14) d_M_unknownOf_11 (by decide) rfl (fun z9 => absurd z9 (nI_ge hi (by omega))) (fun _ => ?_)
    refine s_iload_n (q := 15) d_M_unknownOf_14 rfl rfl ?_
    refine s_aload_n (q := 16) d_M_unknownOf_15 rfl rfl (Or.inr ⟨_, rfl⟩) ?_
    refine g_getr (q := 19) d_M_unknownOf_16 rfl fl_M_22 skM rfl ?_
    refine s_bipush (v := 12) (q := 21) d_M_unknownOf_19 rfl kb_12 ?_
    refine s_iload_n (q := 22) d_M_unknownOf_21 rfl rfl ?_
    refine s_imul (q := 23) d_M_unknownOf_22 rfl ?_
    refine s_iload_n (q := 24) d_M_unknownOf_23 rfl rfl ?_
    refine s_iadd (q := 25) d_M_unknownOf_24 rfl ?_
    refine g_zald (q := 26) d_M_unknownOf_25 rfl sm_4 (by omega) (ix12 _ _) (by omega) ?_
    refine s_if_eq (tgt := 33) (q := 29) d_M_unknownOf_26 (by decide) rfl (fun h_26 => ?_) (fun h_26 => ?_)
    · -- T 26
      rw [show cntB (unP X B) (i + 1) = cntB (unP X B) i + 1 from by simp [cntB, unP, h_26]] at ih
      refine s_iconst (v := 1) (q := 34) d_M_unknownOf_33 rfl ki_1 ?_
      refine s_iadd (q := 35) d_M_unknownOf_34 rfl ?_
      first | rw [nI_s] | rw [Int32.add_zero]
      refine s_istore_n (q := 36) d_M_unknownOf_35 rfl (by decide) ?_
      refine s_iinc (q := 39) d_M_unknownOf_36 rfl rfl (by first | exact inc1 _ | rfl) (by decide) ?_
      refine s_goto (tgt := 4) d_M_unknownOf_39 (by decide) ?_
      exact s_lv (lv' := [(0, .ref 122), (1, .int (nI B)), (2, .int (nI _)), (3, .int (nI (i + 1)))]) ⟨rfl, rfl, rfl, rfl, trivial⟩ ih
    · -- F 26
      rw [show cntB (unP X B) (i + 1) = cntB (unP X B) i from by simp [cntB, unP, h_26]] at ih
      refine s_iconst (v := 0) (q := 30) d_M_unknownOf_29 rfl ki_0 ?_
      refine s_goto (tgt := 34) d_M_unknownOf_30 (by decide) ?_
      refine s_iadd (q := 35) d_M_unknownOf_34 rfl ?_
      first | rw [nI_s] | rw [Int32.add_zero]
      refine s_istore_n (q := 36) d_M_unknownOf_35 rfl (by decide) ?_
      refine s_iinc (q := 39) d_M_unknownOf_36 rfl rfl (by first | exact inc1 _ | rfl) (by decide) ?_
      refine s_goto (tgt := 4) d_M_unknownOf_39 (by decide) ?_
      exact s_lv (lv' := [(0, .ref 122), (1, .int (nI B)), (2, .int (nI _)), (3, .int (nI (i + 1)))]) ⟨rfl, rfl, rfl, rfl, trivial⟩ ih
theorem t_M_unknownOf {X : RAM} {B n : Nat} (hB : B < 16) (hz : X 123 B = nI n) (hn : n ≤ 12) : CG l D ac b y_M_unknownOf c_M_unknownOf 4 (some .int) 0 0 [.ref 122, .int (nI B)] X (some (.int (nI (cntB (unP X B) n)))) (X) := by
  refine Ct_of false (by decide) (fun h => by cases h) (Nat.le_of_ble_eq_true rfl) ?_
  show V l D ac b "SpanStoreModel" c_M_unknownOf 4 (some .int) false 0 0 0 0 ((some (.int (nI (cntB (unP X B) n)))), 144, mk (X)) 0 0 0 [(0, .ref 122), (1, .int (nI B))] [] 144 (mk X)
  refine s_iconst (v := 0) (q := 1) d_M_unknownOf_0 rfl ki_0 ?_
  refine s_istore_n (q := 2) d_M_unknownOf_1 rfl (by decide) ?_
  refine s_iconst (v := 0) (q := 3) d_M_unknownOf_2 rfl ki_0 ?_
  refine s_istore_n (q := 4) d_M_unknownOf_3 rfl (by decide) ?_
  exact s_lv (lv' := [(0, .ref 122), (1, .int (nI B)), (2, .int (nI (cntB (unP X B) 0))), (3, .int (nI 0))]) ⟨rfl, rfl, rfl, rfl, trivial⟩ (lp_unk hB hz hn 0 (Nat.zero_le n))
theorem lp_rowsM {X : RAM} {t : Nat} (ht : t < 2) : ∀ i, i ≤ 8 → V l D ac b "SpanStoreModel" c_M_rowsOf 4 (some .int) false 0 0 0 0 ((some (.int (sumI (fun j => X 123 (8 * t + j)) 8))), 144, mk X) 0 0 4 [(0, .ref 122), (1, .int (nI t)), (2, .int (sumI (fun j => X 123 (8 * t + j)) i)), (3, .int (nI i))] [] 144 (mk X) := by
  refine nat_down ?_ (fun i hi ih => ?_)
  · skip
    refine s_iload_n (q := 5) d_M_rowsOf_4 rfl rfl ?_
    refine s_bipush (v := 8) (q := 7) d_M_rowsOf_5 rfl kb_8 ?_
    refine s_icmp_ge (tgt := 30) (q := 10) d_M_rowsOf_7 (by decide) rfl (fun _ => ?_) (fun z9 => absurd le8 z9)
    refine s_iload_n (q := 31) d_M_rowsOf_30 rfl rfl ?_
    exact g_iret d_M_rowsOf_31 rfl rfl rfl rfl
  · skip
    refine s_iload_n (q := 5) d_M_rowsOf_4 rfl rfl ?_
    refine s_bipush (v := 8) (q := 7) d_M_rowsOf_5 rfl kb_8 ?_
    refine s_icmp_ge (tgt := 30) (q := 10) d_M_rowsOf_7 (by decide) rfl (fun z9 => absurd z9 (nle8 hi)) (fun _ => ?_)
    refine s_iload_n (q := 11) d_M_rowsOf_10 rfl rfl ?_
    refine s_aload_n (q := 12) d_M_rowsOf_11 rfl rfl (Or.inr ⟨_, rfl⟩) ?_
    refine g_getr (q := 15) d_M_rowsOf_12 rfl fl_M_7 skM rfl ?_
    refine s_bipush (v := 8) (q := 17) d_M_rowsOf_15 rfl kb_8 ?_
    refine s_iload_n (q := 18) d_M_rowsOf_17 rfl rfl ?_
    refine s_imul (q := 19) d_M_rowsOf_18 rfl ?_
    refine s_iload_n (q := 20) d_M_rowsOf_19 rfl rfl ?_
    refine s_iadd (q := 21) d_M_rowsOf_20 rfl ?_
    refine g_iald (q := 22) d_M_rowsOf_21 rfl sm_0 (by omega) (ix8m _ _) (by omega) ?_
    refine s_iadd (q := 23) d_M_rowsOf_22 rfl ?_
    refine s_istore_n (q := 24) d_M_rowsOf_23 rfl (by decide) ?_
    refine s_iinc (q := 27) d_M_rowsOf_24 rfl rfl (by first | exact inc1 _ | rfl) (by decide) ?_
    refine s_goto (tgt := 4) d_M_rowsOf_27 (by decide) ?_
    exact s_lv (lv' := [(0, .ref 122), (1, .int (nI t)), (2, .int (sumI (fun j => X 123 (8 * t + j)) (i + 1))), (3, .int (nI (i + 1)))]) ⟨rfl, rfl, rfl, rfl, trivial⟩ ih
theorem t_M_rowsOf {X : RAM} {t : Nat} (ht : t < 2) : CG l D ac b y_M_rowsOf c_M_rowsOf 4 (some .int) 0 0 [.ref 122, .int (nI t)] X (some (.int (sumI (fun j => X 123 (8 * t + j)) 8))) (X) := by
  refine Ct_of false (by decide) (fun h => by cases h) (Nat.le_of_ble_eq_true rfl) ?_
  show V l D ac b "SpanStoreModel" c_M_rowsOf 4 (some .int) false 0 0 0 0 ((some (.int (sumI (fun j => X 123 (8 * t + j)) 8))), 144, mk (X)) 0 0 0 [(0, .ref 122), (1, .int (nI t))] [] 144 (mk X)
  refine s_iconst (v := 0) (q := 1) d_M_rowsOf_0 rfl ki_0 ?_
  refine s_istore_n (q := 2) d_M_rowsOf_1 rfl (by decide) ?_
  refine s_iconst (v := 0) (q := 3) d_M_rowsOf_2 rfl ki_0 ?_
  refine s_istore_n (q := 4) d_M_rowsOf_3 rfl (by decide) ?_
  exact s_lv (lv' := [(0, .ref 122), (1, .int (nI t)), (2, .int (sumI (fun j => X 123 (8 * t + j)) 0)), (3, .int (nI 0))]) ⟨rfl, rfl, rfl, rfl, trivial⟩ (lp_rowsM ht 0 (Nat.zero_le 8))
def mkS (X : RAM) (t : Nat) : Nat → Int32
  | 0 => sumI (fun j => X 123 (8 * t + j)) 8
  | j + 1 => mkS X t j - nI (unV X (8 * t + j))
theorem lp_knM {X : RAM} {t : Nat} (ht : t < 2) (hM : okM X) : ∀ i, i ≤ 8 → V l D ac b "SpanStoreModel" c_M_knownOf 4 (some .int) false 1 23 0 0 ((some (.int (mkS X t 8))), 144, mk X) 0 0 8 [(0, .ref 122), (1, .int (nI t)), (2, .int (mkS X t i)), (3, .int (nI i))] [] 144 (mk X) := by
  refine nat_down ?_ (fun i hi ih => ?_)
  · skip
    refine s_iload_n (q := 9) d_M_knownOf_8 rfl rfl ?_
    refine s_bipush (v := 8) (q := 11) d_M_knownOf_9 rfl kb_8 ?_
    refine s_icmp_ge (tgt := 33) (q := 14) d_M_knownOf_11 (by decide) rfl (fun _ => ?_) (fun z9 => absurd le8 z9)
    refine s_iload_n (q := 34) d_M_knownOf_33 rfl rfl ?_
    exact g_iret d_M_knownOf_34 rfl rfl rfl rfl
  · skip
    refine s_iload_n (q := 9) d_M_knownOf_8 rfl rfl ?_
    refine s_bipush (v := 8) (q := 11) d_M_knownOf_9 rfl kb_8 ?_
    refine s_icmp_ge (tgt := 33) (q := 14) d_M_knownOf_11 (by decide) rfl (fun z9 => absurd z9 (nle8 hi)) (fun _ => ?_)
    refine s_iload_n (q := 15) d_M_knownOf_14 rfl rfl ?_
    refine s_aload_n (q := 16) d_M_knownOf_15 rfl rfl (Or.inr ⟨_, rfl⟩) ?_
    refine s_bipush (v := 8) (q := 18) d_M_knownOf_16 rfl kb_8 ?_
    refine s_iload_n (q := 19) d_M_knownOf_18 rfl rfl ?_
    refine s_imul (q := 20) d_M_knownOf_19 rfl ?_
    refine s_iload_n (q := 21) d_M_knownOf_20 rfl rfl ?_
    refine s_iadd (q := 22) d_M_knownOf_21 rfl ?_
    rw [ix8m]
    refine g_callV (q := 25) d_M_knownOf_22 rfl ml_M_116 mx_M_unknownOf mv_M_unknownOf (t_M_unknownOf (by omega) (hM _ (by omega)).1 (hM _ (by omega)).2) skM rfl rfl (Nat.le_of_ble_eq_true rfl) (by decide) ?_
    refine s_isub (q := 26) d_M_knownOf_25 rfl ?_
    refine s_istore_n (q := 27) d_M_knownOf_26 rfl (by decide) ?_
    refine s_iinc (q := 30) d_M_knownOf_27 rfl rfl (by first | exact inc1 _ | rfl) (by decide) ?_
    refine s_goto (tgt := 8) d_M_knownOf_30 (by decide) ?_
    exact s_lv (lv' := [(0, .ref 122), (1, .int (nI t)), (2, .int (mkS X t (i + 1))), (3, .int (nI (i + 1)))]) ⟨rfl, rfl, rfl, rfl, trivial⟩ ih
theorem t_M_knownOf {X : RAM} {t : Nat} (ht : t < 2) (hM : okM X) : CG l D ac b y_M_knownOf c_M_knownOf 4 (some .int) 1 23 [.ref 122, .int (nI t)] X (some (.int (mkS X t 8))) (X) := by
  refine Ct_of false (by decide) (fun h => by cases h) (Nat.le_of_ble_eq_true rfl) ?_
  show V l D ac b "SpanStoreModel" c_M_knownOf 4 (some .int) false 1 23 0 0 ((some (.int (mkS X t 8))), 144, mk (X)) 0 0 0 [(0, .ref 122), (1, .int (nI t))] [] 144 (mk X)
  refine s_aload_n (q := 1) d_M_knownOf_0 rfl rfl (Or.inr ⟨_, rfl⟩) ?_
  refine s_iload_n (q := 2) d_M_knownOf_1 rfl rfl ?_
  refine g_callV (q := 5) d_M_knownOf_2 rfl ml_M_113 mx_M_rowsOf mv_M_rowsOf (t_M_rowsOf ht) skM rfl rfl (Nat.le_of_ble_eq_true rfl) (by decide) ?_
  refine s_istore_n (q := 6) d_M_knownOf_5 rfl (by decide) ?_
  refine s_iconst (v := 0) (q := 7) d_M_knownOf_6 rfl ki_0 ?_
  refine s_istore_n (q := 8) d_M_knownOf_7 rfl (by decide) ?_
  exact s_lv (lv' := [(0, .ref 122), (1, .int (nI t)), (2, .int (mkS X t 0)), (3, .int (nI 0))]) ⟨rfl, rfl, rfl, rfl, trivial⟩ (lp_knM ht hM 0 (Nat.zero_le 8))
def mcS (X : RAM) (t : Nat) : Nat → RAM
  | 0 => X
  | j + 1 => up2 (mcS X t j) 123 (8 * t + j) 0
def mcX (X : RAM) (t : Nat) : RAM := up2 (up2 (mcS X t 8) 135 t 0) 134 t 0
theorem lp_clearM {X : RAM} {t : Nat} {h : Int32} (ht : t < 2) : ∀ i, i ≤ 8 → V l D ac b "SpanStoreModel" c_M_clear 4 (some .int) false 2 42 0 0 ((some (.int h)), 144, mk (mcX X t)) 0 0 18 [(0, .ref 122), (1, .int (nI t)), (2, .int h), (3, .int (nI i))] [] 144 (mk (mcS X t i)) := by
  refine nat_down ?_ (fun i hi ih => ?_)
  · skip
    refine s_iload_n (q := 19) d_M_clear_18 rfl rfl ?_
    refine s_bipush (v := 8) (q := 21) d_M_clear_19 rfl kb_8 ?_
    refine s_icmp_ge (tgt := 42) (q := 24) d_M_clear_21 (by decide) rfl (fun _ => ?_) (fun z9 => absurd le8 z9)
    refine s_aload_n (q := 43) d_M_clear_42 rfl rfl (Or.inr ⟨_, rfl⟩) ?_
    refine g_getr (q := 46) d_M_clear_43 rfl fl_M_47 skM rfl ?_
    refine s_iload_n (q := 47) d_M_clear_46 rfl rfl ?_
    refine s_iconst (v := 0) (q := 48) d_M_clear_47 rfl ki_0 ?_
    refine g_iast (q := 49) d_M_clear_48 rfl sm_12 (by omega) rfl ht ?_
    refine s_aload_n (q := 50) d_M_clear_49 rfl rfl (Or.inr ⟨_, rfl⟩) ?_
    refine g_getr (q := 53) d_M_clear_50 rfl fl_M_44 skM rfl ?_
    refine s_iload_n (q := 54) d_M_clear_53 rfl rfl ?_
    refine s_iconst (v := 0) (q := 55) d_M_clear_54 rfl ki_0 ?_
    refine g_zast (q := 56) d_M_clear_55 rfl sm_11 (by omega) rfl ht rfl ?_
    refine s_iload_n (q := 57) d_M_clear_56 rfl rfl ?_
    exact g_iret d_M_clear_57 rfl rfl rfl rfl
  · skip
    refine s_iload_n (q := 19) d_M_clear_18 rfl rfl ?_
    refine s_bipush (v := 8) (q := 21) d_M_clear_19 rfl kb_8 ?_
    refine s_icmp_ge (tgt := 42) (q := 24) d_M_clear_21 (by decide) rfl (fun z9 => absurd z9 (nle8 hi)) (fun _ => ?_)
    refine s_aload_n (q := 25) d_M_clear_24 rfl rfl (Or.inr ⟨_, rfl⟩) ?_
    refine g_getr (q := 28) d_M_clear_25 rfl fl_M_7 skM rfl ?_
    refine s_bipush (v := 8) (q := 30) d_M_clear_28 rfl kb_8 ?_
    refine s_iload_n (q := 31) d_M_clear_30 rfl rfl ?_
    refine s_imul (q := 32) d_M_clear_31 rfl ?_
    refine s_iload_n (q := 33) d_M_clear_32 rfl rfl ?_
    refine s_iadd (q := 34) d_M_clear_33 rfl ?_
    refine s_iconst (v := 0) (q := 35) d_M_clear_34 rfl ki_0 ?_
    refine g_iast (q := 36) d_M_clear_35 rfl sm_0 (by omega) (ix8m _ _) (by omega) ?_
    refine s_iinc (q := 39) d_M_clear_36 rfl rfl (by first | exact inc1 _ | rfl) (by decide) ?_
    refine s_goto (tgt := 18) d_M_clear_39 (by decide) ?_
    exact s_lv (lv' := [(0, .ref 122), (1, .int (nI t)), (2, .int h), (3, .int (nI (i + 1)))]) ⟨rfl, rfl, rfl, rfl, trivial⟩ ih
theorem t_M_clear_T {X : RAM} {x : Int32} (hx : x < 0 ∨ 2 ≤ x) : CG l D ac b y_M_clear c_M_clear 4 (some .int) 2 42 [.ref 122, .int x] X (some (.int (-2))) (X) := by
  refine Ct_of false (by decide) (fun h => by cases h) (Nat.le_of_ble_eq_true rfl) ?_
  show V l D ac b "SpanStoreModel" c_M_clear 4 (some .int) false 2 42 0 0 ((some (.int (-2))), 144, mk (X)) 0 0 0 [(0, .ref 122), (1, .int x)] [] 144 (mk X)
  refine s_iload_n (q := 1) d_M_clear_0 rfl rfl ?_
  refine g_callS (q := 4) d_M_clear_1 rfl ml_M_78 mx_M_isTable ms_M_isTable t_M_isTable rfl rfl (Nat.le_of_ble_eq_true rfl) (by decide) ?_
  refine s_if_ne (tgt := 10) (q := 7) d_M_clear_4 (by decide) rfl (fun z9 => absurd (bI_d.mpr (niT hx)) z9) (fun _ => ?_)
  refine s_bipush (v := (-2)) (q := 9) d_M_clear_7 rfl kb_m2 ?_
  exact g_iret d_M_clear_9 rfl rfl rfl rfl
theorem t_M_clear_D {X : RAM} {t : Nat} (ht : t < 2) : CG l D ac b y_M_clear c_M_clear 4 (some .int) 2 42 [.ref 122, .int (nI t)] X (some (.int (sumI (fun j => X 123 (8 * t + j)) 8))) (mcX X t) := by
  refine Ct_of false (by decide) (fun h => by cases h) (Nat.le_of_ble_eq_true rfl) ?_
  show V l D ac b "SpanStoreModel" c_M_clear 4 (some .int) false 2 42 0 0 ((some (.int (sumI (fun j => X 123 (8 * t + j)) 8))), 144, mk (mcX X t)) 0 0 0 [(0, .ref 122), (1, .int (nI t))] [] 144 (mk X)
  refine s_iload_n (q := 1) d_M_clear_0 rfl rfl ?_
  refine g_callS (q := 4) d_M_clear_1 rfl ml_M_78 mx_M_isTable ms_M_isTable t_M_isTable rfl rfl (Nat.le_of_ble_eq_true rfl) (by decide) ?_
  refine s_if_ne (tgt := 10) (q := 7) d_M_clear_4 (by decide) rfl (fun _ => ?_) (fun z9 => absurd z9 (bI_dn.mpr (inT ht)))
  refine s_aload_n (q := 11) d_M_clear_10 rfl rfl (Or.inr ⟨_, rfl⟩) ?_
  refine s_iload_n (q := 12) d_M_clear_11 rfl rfl ?_
  refine g_callV (q := 15) d_M_clear_12 rfl ml_M_113 mx_M_rowsOf mv_M_rowsOf (t_M_rowsOf ht) skM rfl rfl (Nat.le_of_ble_eq_true rfl) (by decide) ?_
  refine s_istore_n (q := 16) d_M_clear_15 rfl (by decide) ?_
  refine s_iconst (v := 0) (q := 17) d_M_clear_16 rfl ki_0 ?_
  refine s_istore_n (q := 18) d_M_clear_17 rfl (by decide) ?_
  exact s_lv (lv' := [(0, .ref 122), (1, .int (nI t)), (2, .int (sumI (fun j => X 123 (8 * t + j)) 8)), (3, .int (nI 0))]) ⟨rfl, rfl, rfl, rfl, trivial⟩ (lp_clearM ht 0 (Nat.zero_le 8))
def raS (X : RAM) (B : Nat) : Nat → RAM
  | 0 => X
  | i + 1 => up2 (raS X B i) 127 (12 * B + i) 1
theorem raS_ne {X : RAM} {B a : Nat} (h : a ≠ 127) (i : Nat) : raS X B i a = X a := by
  induction i with
  | zero => rfl
  | succ i ih => exact (up2_ne h).trans ih
def raX (X : RAM) (B n : Nat) : RAM := up2 (raS X B n) 122 16 (X 122 16 + (if nI (cntB (unP X B) n) ≤ 0 then 0 else 1))
theorem lp_readsM {X : RAM} {B n : Nat} (hB : B < 16) (hz : X 123 B = nI n) (hn : n ≤ 12) : ∀ i, i ≤ n → V l D ac b "SpanStoreModel" c_M_readsAll 4 (some .int) false 1 23 0 0 ((some (.int (nI (cntB (unP X B) n)))), 144, mk (raX X B n)) 0 0 8 [(0, .ref 122), (1, .int (nI B)), (2, .int (nI (cntB (unP X B) n))), (3, .int (nI i))] [] 144 (mk (raS X B i)) := by
  refine nat_down ?_ (fun i hi ih => ?_)
  · skip
    refine s_iload_n (q := 9) d_M_readsAll_8 rfl rfl ?_
    refine s_aload_n (q := 10) d_M_readsAll_9 rfl rfl (Or.inr ⟨_, rfl⟩) ?_
    refine g_getr (q := 13) d_M_readsAll_10 rfl fl_M_7 skM rfl ?_
    refine s_iload_n (q := 14) d_M_readsAll_13 rfl rfl ?_
    refine g_ialv (v := nI n) (q := 15) d_M_readsAll_14 rfl sm_0 (by omega) rfl hB ((congrFun (raS_ne (by decide) _) _).trans hz) ?_
    refine s_icmp_ge (tgt := 36) (q := 18) d_M_readsAll_15 (by decide) rfl (fun _ => ?_) (fun z9 => absurd (nI_le (Nat.le_refl n) (by omega)) z9)
    refine s_aload_n (q := 37) d_M_readsAll_36 rfl rfl (Or.inr ⟨_, rfl⟩) ?_
    refine s_dup (q := 38) d_M_readsAll_37 rfl rfl ?_
    refine g_getv (v := X 122 16) (q := 41) d_M_readsAll_38 rfl fl_M_119 skM rfl (by rw [raS_ne (by decide)]) ?_
    refine s_iload_n (q := 42) d_M_readsAll_41 rfl rfl ?_
    refine s_if_le (tgt := 49) (q := 45) d_M_readsAll_42 (by decide) rfl (fun h_42 => ?_) (fun h_42 => ?_)
    · -- T 42
      refine s_iconst (v := 0) (q := 50) d_M_readsAll_49 rfl ki_0 ?_
      refine s_iadd (q := 51) d_M_readsAll_50 rfl ?_
      refine g_puti (q := 54) d_M_readsAll_51 rfl fl_M_119 rfl (okV_int _) skM rfl ?_
      refine s_iload_n (q := 55) d_M_readsAll_54 rfl rfl ?_
      exact g_iret d_M_readsAll_55 rfl rfl rfl (by simp [raX, h_42])
    · -- F 42
      refine s_iconst (v := 1) (q := 46) d_M_readsAll_45 rfl ki_1 ?_
      refine s_goto (tgt := 50) d_M_readsAll_46 (by decide) ?_
      refine s_iadd (q := 51) d_M_readsAll_50 rfl ?_
      refine g_puti (q := 54) d_M_readsAll_51 rfl fl_M_119 rfl (okV_int _) skM rfl ?_
      refine s_iload_n (q := 55) d_M_readsAll_54 rfl rfl ?_
      exact g_iret d_M_readsAll_55 rfl rfl rfl (by simp [raX, h_42])
  · skip
    refine s_iload_n (q := 9) d_M_readsAll_8 rfl rfl ?_
    refine s_aload_n (q := 10) d_M_readsAll_9 rfl rfl (Or.inr ⟨_, rfl⟩) ?_
    refine g_getr (q := 13) d_M_readsAll_10 rfl fl_M_7 skM rfl ?_
    refine s_iload_n (q := 14) d_M_readsAll_13 rfl rfl ?_
    refine g_ialv (v := nI n) (q := 15) d_M_readsAll_14 rfl sm_0 (by omega) rfl hB ((congrFun (raS_ne (by decide) _) _).trans hz) ?_
    refine s_icmp_ge (tgt := 36) (q := 18) d_M_readsAll_15 (by decide) rfl (fun z9 => absurd z9 (nI_ge hi (by omega))) (fun _ => ?_)
    refine s_aload_n (q := 19) d_M_readsAll_18 rfl rfl (Or.inr ⟨_, rfl⟩) ?_
    refine g_getr (q := 22) d_M_readsAll_19 rfl fl_M_22 skM rfl ?_
    refine s_bipush (v := 12) (q := 24) d_M_readsAll_22 rfl kb_12 ?_
    refine s_iload_n (q := 25) d_M_readsAll_24 rfl rfl ?_
    refine s_imul (q := 26) d_M_readsAll_25 rfl ?_
    refine s_iload_n (q := 27) d_M_readsAll_26 rfl rfl ?_
    refine s_iadd (q := 28) d_M_readsAll_27 rfl ?_
    refine s_iconst (v := 1) (q := 29) d_M_readsAll_28 rfl ki_1 ?_
    refine g_zast (q := 30) d_M_readsAll_29 rfl sm_4 (by omega) (ix12 _ _) (by omega) rfl ?_
    refine s_iinc (q := 33) d_M_readsAll_30 rfl rfl (by first | exact inc1 _ | rfl) (by decide) ?_
    refine s_goto (tgt := 8) d_M_readsAll_33 (by decide) ?_
    exact s_lv (lv' := [(0, .ref 122), (1, .int (nI B)), (2, .int (nI (cntB (unP X B) n))), (3, .int (nI (i + 1)))]) ⟨rfl, rfl, rfl, rfl, trivial⟩ ih
theorem t_M_readsAll {X : RAM} {B n : Nat} (hB : B < 16) (hz : X 123 B = nI n) (hn : n ≤ 12) : CG l D ac b y_M_readsAll c_M_readsAll 4 (some .int) 1 23 [.ref 122, .int (nI B)] X (some (.int (nI (cntB (unP X B) n)))) (raX X B n) := by
  refine Ct_of false (by decide) (fun h => by cases h) (Nat.le_of_ble_eq_true rfl) ?_
  show V l D ac b "SpanStoreModel" c_M_readsAll 4 (some .int) false 1 23 0 0 ((some (.int (nI (cntB (unP X B) n)))), 144, mk (raX X B n)) 0 0 0 [(0, .ref 122), (1, .int (nI B))] [] 144 (mk X)
  refine s_aload_n (q := 1) d_M_readsAll_0 rfl rfl (Or.inr ⟨_, rfl⟩) ?_
  refine s_iload_n (q := 2) d_M_readsAll_1 rfl rfl ?_
  refine g_callV (q := 5) d_M_readsAll_2 rfl ml_M_116 mx_M_unknownOf mv_M_unknownOf (t_M_unknownOf hB hz hn) skM rfl rfl (Nat.le_of_ble_eq_true rfl) (by decide) ?_
  refine s_istore_n (q := 6) d_M_readsAll_5 rfl (by decide) ?_
  refine s_iconst (v := 0) (q := 7) d_M_readsAll_6 rfl ki_0 ?_
  refine s_istore_n (q := 8) d_M_readsAll_7 rfl (by decide) ?_
  exact s_lv (lv' := [(0, .ref 122), (1, .int (nI B)), (2, .int (nI (cntB (unP X B) n))), (3, .int (nI 0))]) ⟨rfl, rfl, rfl, rfl, trivial⟩ (lp_readsM hB hz hn 0 (Nat.zero_le n))
theorem t_M_read_T {X : RAM} {x y : Int32} (hx : x < 0 ∨ 2 ≤ x) : CG l D ac b y_M_read c_M_read 3 (some .int) 3 63 [.ref 122, .int x, .int y] X (some (.int (-2))) (X) := by
  refine Ct_of false (by decide) (fun h => by cases h) (Nat.le_of_ble_eq_true rfl) ?_
  show V l D ac b "SpanStoreModel" c_M_read 3 (some .int) false 3 63 0 0 ((some (.int (-2))), 144, mk (X)) 0 0 0 [(0, .ref 122), (1, .int x), (2, .int y)] [] 144 (mk X)
  refine s_iload_n (q := 1) d_M_read_0 rfl rfl ?_
  refine s_iload_n (q := 2) d_M_read_1 rfl rfl ?_
  refine g_callS (q := 5) d_M_read_2 rfl ml_M_82 mx_M_isBlock ms_M_isBlock t_M_isBlock rfl rfl (Nat.le_of_ble_eq_true rfl) (by decide) ?_
  refine s_if_ne (tgt := 11) (q := 8) d_M_read_5 (by decide) rfl (fun z9 => absurd (bI_d.mpr (fun z => niT hx z.1)) z9) (fun _ => ?_)
  refine s_bipush (v := (-2)) (q := 10) d_M_read_8 rfl kb_m2 ?_
  exact g_iret d_M_read_10 rfl rfl rfl rfl
theorem t_M_read_B {X : RAM} {t : Nat} {y : Int32} (ht : t < 2) (hy : y < 0 ∨ 8 ≤ y) : CG l D ac b y_M_read c_M_read 3 (some .int) 3 63 [.ref 122, .int (nI t), .int y] X (some (.int (-2))) (X) := by
  refine Ct_of false (by decide) (fun h => by cases h) (Nat.le_of_ble_eq_true rfl) ?_
  show V l D ac b "SpanStoreModel" c_M_read 3 (some .int) false 3 63 0 0 ((some (.int (-2))), 144, mk (X)) 0 0 0 [(0, .ref 122), (1, .int (nI t)), (2, .int y)] [] 144 (mk X)
  refine s_iload_n (q := 1) d_M_read_0 rfl rfl ?_
  refine s_iload_n (q := 2) d_M_read_1 rfl rfl ?_
  refine g_callS (q := 5) d_M_read_2 rfl ml_M_82 mx_M_isBlock ms_M_isBlock t_M_isBlock rfl rfl (Nat.le_of_ble_eq_true rfl) (by decide) ?_
  refine s_if_ne (tgt := 11) (q := 8) d_M_read_5 (by decide) rfl (fun z9 => absurd (bI_d.mpr (fun z => niB hy z.2)) z9) (fun _ => ?_)
  refine s_bipush (v := (-2)) (q := 10) d_M_read_8 rfl kb_m2 ?_
  exact g_iret d_M_read_10 rfl rfl rfl rfl
theorem t_M_read_S {X : RAM} {t j : Nat} (ht : t < 2) (hj : j < 8) (hs : X 134 t = 0) : CG l D ac b y_M_read c_M_read 3 (some .int) 3 63 [.ref 122, .int (nI t), .int (nI j)] X (some (.int (-3))) (X) := by
  refine Ct_of false (by decide) (fun h => by cases h) (Nat.le_of_ble_eq_true rfl) ?_
  show V l D ac b "SpanStoreModel" c_M_read 3 (some .int) false 3 63 0 0 ((some (.int (-3))), 144, mk (X)) 0 0 0 [(0, .ref 122), (1, .int (nI t)), (2, .int (nI j))] [] 144 (mk X)
  refine s_iload_n (q := 1) d_M_read_0 rfl rfl ?_
  refine s_iload_n (q := 2) d_M_read_1 rfl rfl ?_
  refine g_callS (q := 5) d_M_read_2 rfl ml_M_82 mx_M_isBlock ms_M_isBlock t_M_isBlock rfl rfl (Nat.le_of_ble_eq_true rfl) (by decide) ?_
  refine s_if_ne (tgt := 11) (q := 8) d_M_read_5 (by decide) rfl (fun _ => ?_) (fun z9 => absurd z9 (bI_dn.mpr ⟨inT ht, inB hj⟩))
  refine s_aload_n (q := 12) d_M_read_11 rfl rfl (Or.inr ⟨_, rfl⟩) ?_
  refine g_getr (q := 15) d_M_read_12 rfl fl_M_44 skM rfl ?_
  refine s_iload_n (q := 16) d_M_read_15 rfl rfl ?_
  refine g_zald (q := 17) d_M_read_16 rfl sm_11 (by omega) rfl ht ?_
  refine s_if_eq (tgt := 33) (q := 20) d_M_read_17 (by decide) rfl (fun _ => ?_) (fun z9 => absurd hs z9)
  refine s_bipush (v := (-3)) (q := 35) d_M_read_33 rfl kb_m3 ?_
  exact g_iret d_M_read_35 rfl rfl rfl rfl
theorem t_M_read_D {X : RAM} {t j n : Nat} (ht : t < 2) (hj : j < 8) (hs : ¬ X 134 t = 0) (hz : X 123 (8 * t + j) = nI n) (hn : n ≤ 12) : CG l D ac b y_M_read c_M_read 3 (some .int) 3 63 [.ref 122, .int (nI t), .int (nI j)] X (some (.int (nI (cntB (unP X (8 * t + j)) n)))) (raX X (8 * t + j) n) := by
  refine Ct_of false (by decide) (fun h => by cases h) (Nat.le_of_ble_eq_true rfl) ?_
  show V l D ac b "SpanStoreModel" c_M_read 3 (some .int) false 3 63 0 0 ((some (.int (nI (cntB (unP X (8 * t + j)) n)))), 144, mk (raX X (8 * t + j) n)) 0 0 0 [(0, .ref 122), (1, .int (nI t)), (2, .int (nI j))] [] 144 (mk X)
  refine s_iload_n (q := 1) d_M_read_0 rfl rfl ?_
  refine s_iload_n (q := 2) d_M_read_1 rfl rfl ?_
  refine g_callS (q := 5) d_M_read_2 rfl ml_M_82 mx_M_isBlock ms_M_isBlock t_M_isBlock rfl rfl (Nat.le_of_ble_eq_true rfl) (by decide) ?_
  refine s_if_ne (tgt := 11) (q := 8) d_M_read_5 (by decide) rfl (fun _ => ?_) (fun z9 => absurd z9 (bI_dn.mpr ⟨inT ht, inB hj⟩))
  refine s_aload_n (q := 12) d_M_read_11 rfl rfl (Or.inr ⟨_, rfl⟩) ?_
  refine g_getr (q := 15) d_M_read_12 rfl fl_M_44 skM rfl ?_
  refine s_iload_n (q := 16) d_M_read_15 rfl rfl ?_
  refine g_zald (q := 17) d_M_read_16 rfl sm_11 (by omega) rfl ht ?_
  refine s_if_eq (tgt := 33) (q := 20) d_M_read_17 (by decide) rfl (fun z9 => absurd z9 hs) (fun _ => ?_)
  refine s_aload_n (q := 21) d_M_read_20 rfl rfl (Or.inr ⟨_, rfl⟩) ?_
  refine s_bipush (v := 8) (q := 23) d_M_read_21 rfl kb_8 ?_
  refine s_iload_n (q := 24) d_M_read_23 rfl rfl ?_
  refine s_imul (q := 25) d_M_read_24 rfl ?_
  refine s_iload_n (q := 26) d_M_read_25 rfl rfl ?_
  refine s_iadd (q := 27) d_M_read_26 rfl ?_
  rw [ix8m]
  refine g_callV (q := 30) d_M_read_27 rfl ml_M_123 mx_M_readsAll mv_M_readsAll (t_M_readsAll (by omega) hz hn) skM rfl rfl (Nat.le_of_ble_eq_true rfl) (by decide) ?_
  refine s_goto (tgt := 35) d_M_read_30 (by decide) ?_
  exact g_iret d_M_read_35 rfl rfl rfl rfl
def gzS (Y : RAM) (B : Nat) : Nat → RAM
  | 0 => Y
  | g + 1 => up2 (gzS Y B g) 132 (4 * B + g) 0
def ikM (X : RAM) (t B i : Nat) : Nat → Bool := fun k => mkV X (4 * t + k) B i
def lsM (X Y : RAM) (B i : Nat) : Int32 := if i = 0 ∨ X 126 (12 * B + i) < Y 130 B then X 126 (12 * B + i) else Y 130 B
def grM (X Y : RAM) (B i : Nat) : Int32 := if i = 0 ∨ Y 131 B < X 126 (12 * B + i) then X 126 (12 * B + i) else Y 131 B
def gpN (X : RAM) (r : Nat) : Nat := (X 125 r).toNatClampNeg
def slW (X Y : RAM) (B i : Nat) : RAM := up2 (up2 (up2 Y 130 B (lsM X Y B i)) 131 B (grM X Y B i)) 132 (4 * B + gpN X (12 * B + i)) (Y 132 (4 * B + gpN X (12 * B + i)) + 1)
def slR (X Y : RAM) (t B c i : Nat) : RAM := up2 (up2 (up2 (slW X Y B i) 127 (12 * B + i) (bI (anyB (ikM X t B i) c))) 128 (12 * B + i) (bI (anyB (ikM X t B i) c))) 129 (12 * B + i) (X 126 (12 * B + i))
def slS (X : RAM) (t B c : Nat) : Nat → RAM
  | 0 => gzS (up2 (up2 (up2 X 133 B 0) 130 B 0) 131 B 0) B 4
  | i + 1 => slR X (slS X t B c i) t B c i
theorem gzS_ne {Y : RAM} {B a : Nat} (h : a ≠ 132) (i : Nat) : gzS Y B i a = Y a := by
  induction i with
  | zero => rfl
  | succ i ih => exact (up2_ne h).trans ih
theorem slS_ne {X : RAM} {t B c a : Nat} (h : a < 127 ∨ 133 < a) (i : Nat) : slS X t B c i a = X a := by
  induction i with
  | zero =>
    show gzS _ B 4 a = X a
    rw [gzS_ne (by omega), up2_ne (by omega), up2_ne (by omega), up2_ne (by omega)]
  | succ i ih =>
    show slR X (slS X t B c i) t B c i a = X a
    unfold slR slW
    rw [up2_ne (by omega), up2_ne (by omega), up2_ne (by omega), up2_ne (by omega), up2_ne (by omega), up2_ne (by omega)]
    exact ih
theorem up2_up2 {X : RAM} {a k : Nat} {v w : Int32} : up2 (up2 X a k v) a k w = up2 X a k w := by
  funext i
  by_cases h : i = a
  · subst h
    funext j
    by_cases hj : j = k
    · subst hj; simp [up2, upd]
    · simp [up2, upd, hj]
  · simp [up2, h]
theorem bI_or (p q : Bool) : bI p ||| bI q = bI (p || q) := by cases p <;> cases q <;> decide
theorem lp_sealK {X : RAM} {t j c n : Nat} (ht : t < 2) (hj : j < 8) (hz : X 123 (8 * t + j) = nI n) (hn : n ≤ 12) (hc : X 135 t = nI c) (hc4 : c ≤ 4) (hg : ∀ i, i < n → X 125 (12 * (8 * t + j) + i) = nI (gpN X (12 * (8 * t + j) + i)) ∧ gpN X (12 * (8 * t + j) + i) < 4) (ha : ∀ k, k < c → ¬ X 137 (4 * t + k) = 0) {Z : RAM} {i : Nat} (hi : i < n) (hZ : ∀ a, a < 127 ∨ 133 < a → Z a = X a) (hex : V l D ac b "SpanStoreModel" c_M_seals 7 none false 2 47 0 0 (none, 144, mk (slS X t (8 * t + j) c n)) 0 0 235 [(0, .ref 122), (1, .int (nI t)), (2, .int (nI j)), (3, .int (nI (8 * t + j))), (4, .int (nI i)), (5, .int (nI (12 * (8 * t + j) + i)))] [] 144 (mk (up2 Z 127 (12 * (8 * t + j) + i) (bI (anyB (ikM X t (8 * t + j) i) c))))) : ∀ k, k ≤ c → V l D ac b "SpanStoreModel" c_M_seals 7 none false 2 47 0 0 (none, 144, mk (slS X t (8 * t + j) c n)) 0 0 195 [(0, .ref 122), (1, .int (nI t)), (2, .int (nI j)), (3, .int (nI (8 * t + j))), (4, .int (nI i)), (5, .int (nI (12 * (8 * t + j) + i))), (6, .int (nI k))] [] 144 (mk (up2 Z 127 (12 * (8 * t + j) + i) (bI (anyB (ikM X t (8 * t + j) i) k)))) := by
  refine nat_down ?_ (fun k hk ih => ?_)
  · skip
    refine s_iload (q := 197) d_M_seals_195 rfl rfl ?_
    refine s_aload_n (q := 198) d_M_seals_197 rfl rfl (Or.inr ⟨_, rfl⟩) ?_
    refine g_getr (q := 201) d_M_seals_198 rfl fl_M_47 skM rfl ?_
    refine s_iload_n (q := 202) d_M_seals_201 rfl rfl ?_
    refine g_ialv (v := nI c) (q := 203) d_M_seals_202 rfl sm_12 (by omega) rfl ht (by rw [up2_ne (by decide), hZ _ (by decide), hc]) ?_
    refine s_icmp_ge (tgt := 235) (q := 206) d_M_seals_203 (by decide) rfl (fun _ => ?_) (fun z9 => absurd (nI_le (Nat.le_refl c) (by omega)) z9)
    exact s_lv (lv' := [(0, .ref 122), (1, .int (nI t)), (2, .int (nI j)), (3, .int (nI (8 * t + j))), (4, .int (nI i)), (5, .int (nI (12 * (8 * t + j) + i)))]) ⟨rfl, rfl, rfl, rfl, rfl, rfl, trivial⟩ hex
  · skip
    refine s_iload (q := 197) d_M_seals_195 rfl rfl ?_
    refine s_aload_n (q := 198) d_M_seals_197 rfl rfl (Or.inr ⟨_, rfl⟩) ?_
    refine g_getr (q := 201) d_M_seals_198 rfl fl_M_47 skM rfl ?_
    refine s_iload_n (q := 202) d_M_seals_201 rfl rfl ?_
    refine g_ialv (v := nI c) (q := 203) d_M_seals_202 rfl sm_12 (by omega) rfl ht (by rw [up2_ne (by decide), hZ _ (by decide), hc]) ?_
    refine s_icmp_ge (tgt := 235) (q := 206) d_M_seals_203 (by decide) rfl (fun z9 => absurd z9 (nI_ge hk (by omega))) (fun _ => ?_)
    refine s_aload_n (q := 207) d_M_seals_206 rfl rfl (Or.inr ⟨_, rfl⟩) ?_
    refine g_getr (q := 210) d_M_seals_207 rfl fl_M_22 skM rfl ?_
    refine s_iload (q := 212) d_M_seals_210 rfl rfl ?_
    refine s_dup2 (q := 213) d_M_seals_212 rfl rfl rfl ?_
    refine g_zalv (v := (bI (anyB (ikM X t (8 * t + j) i) k))) (q := 214) d_M_seals_213 rfl sm_4 (by omega) rfl (by omega) um_u ?_
    refine s_aload_n (q := 215) d_M_seals_214 rfl rfl (Or.inr ⟨_, rfl⟩) ?_
    refine s_iconst (v := 4) (q := 216) d_M_seals_215 rfl ki_4 ?_
    refine s_iload_n (q := 217) d_M_seals_216 rfl rfl ?_
    refine s_imul (q := 218) d_M_seals_217 rfl ?_
    refine s_iload (q := 220) d_M_seals_218 rfl rfl ?_
    refine s_iadd (q := 221) d_M_seals_220 rfl ?_
    rw [ix4m]
    refine s_iload_n (q := 222) d_M_seals_221 rfl rfl ?_
    refine s_iload (q := 224) d_M_seals_222 rfl rfl ?_
    refine g_callV (q := 227) d_M_seals_224 rfl ml_M_103 mx_M_keeps mv_M_keeps (t_M_keeps (kk := 4 * t + k) (B := 8 * t + j) (i := i) (by omega) (by omega) (by omega) (by rw [up2_ne (by decide), hZ _ (by decide)]; exact ha k hk)) skM rfl rfl (Nat.le_of_ble_eq_true rfl) (by decide) ?_
    rw [show mkV (up2 Z 127 (12 * (8 * t + j) + i) (bI (anyB (ikM X t (8 * t + j) i) k))) (4 * t + k) (8 * t + j) i = ikM X t (8 * t + j) i k from mkV_same (fun a h1 h2 => (up2_ne (by omega)).trans (hZ a h2))]
    refine s_ior (q := 228) d_M_seals_227 rfl ?_
    rw [bI_or]
    refine g_zast (q := 229) d_M_seals_228 rfl sm_4 (by omega) rfl (by omega) (vbI _) ?_
    rw [up2_up2]
    refine s_iinc (q := 232) d_M_seals_229 rfl rfl (by first | exact inc1 _ | rfl) (by decide) ?_
    refine s_goto (tgt := 195) d_M_seals_232 (by decide) ?_
    exact s_lv (lv' := [(0, .ref 122), (1, .int (nI t)), (2, .int (nI j)), (3, .int (nI (8 * t + j))), (4, .int (nI i)), (5, .int (nI (12 * (8 * t + j) + i))), (6, .int (nI (k + 1)))]) ⟨rfl, rfl, rfl, rfl, rfl, rfl, rfl, trivial⟩ ih
theorem lp_sealR {X : RAM} {t j c n : Nat} (ht : t < 2) (hj : j < 8) (hz : X 123 (8 * t + j) = nI n) (hn : n ≤ 12) (hc : X 135 t = nI c) (hc4 : c ≤ 4) (hg : ∀ i, i < n → X 125 (12 * (8 * t + j) + i) = nI (gpN X (12 * (8 * t + j) + i)) ∧ gpN X (12 * (8 * t + j) + i) < 4) (ha : ∀ k, k < c → ¬ X 137 (4 * t + k) = 0) : ∀ i, i ≤ n → V l D ac b "SpanStoreModel" c_M_seals 7 none false 2 47 0 0 (none, 144, mk (slS X t (8 * t + j) c n)) 0 0 58 [(0, .ref 122), (1, .int (nI t)), (2, .int (nI j)), (3, .int (nI (8 * t + j))), (4, .int (nI i))] [] 144 (mk (slS X t (8 * t + j) c i)) := by
  refine nat_down ?_ (fun i hi ih => ?_)
  · skip
    refine s_iload (q := 60) d_M_seals_58 rfl rfl ?_
    refine s_aload_n (q := 61) d_M_seals_60 rfl rfl (Or.inr ⟨_, rfl⟩) ?_
    refine g_getr (q := 64) d_M_seals_61 rfl fl_M_7 skM rfl ?_
    refine s_iload_n (q := 65) d_M_seals_64 rfl rfl ?_
    refine g_ialv (v := nI n) (q := 66) d_M_seals_65 rfl sm_0 (by omega) rfl (by omega) (by rw [slS_ne (by decide), hz]) ?_
    refine s_icmp_ge (tgt := 269) (q := 69) d_M_seals_66 (by decide) rfl (fun _ => ?_) (fun z9 => absurd (nI_le (Nat.le_refl n) (by omega)) z9)
    exact g_ret d_M_seals_269 rfl rfl
  · have hY : ∀ a, a < 127 ∨ 133 < a → (slS X t (8 * t + j) c i) a = X a := fun a h => slS_ne h i
    have hgi := hg i hi
    have hJ3 : V l D ac b "SpanStoreModel" c_M_seals 7 none false 2 47 0 0 (none, 144, mk (slS X t (8 * t + j) c n)) 0 0 235 [(0, .ref 122), (1, .int (nI t)), (2, .int (nI j)), (3, .int (nI (8 * t + j))), (4, .int (nI i)), (5, .int (nI (12 * (8 * t + j) + i)))] [] 144 (mk (up2 (slW X (slS X t (8 * t + j) c i) (8 * t + j) i) 127 (12 * (8 * t + j) + i) (bI (anyB (ikM X t (8 * t + j) i) c)))) := by
      have hW : ∀ a, a < 127 ∨ 133 < a → (slW X (slS X t (8 * t + j) c i) (8 * t + j) i) a = X a := fun a h => by unfold slW; rw [up2_ne (by omega), up2_ne (by omega), up2_ne (by omega)]; exact hY a h
      refine s_aload_n (q := 236) d_M_seals_235 rfl rfl (Or.inr ⟨_, rfl⟩) ?_
      refine g_getr (q := 239) d_M_seals_236 rfl fl_M_26 skM rfl ?_
      refine s_iload (q := 241) d_M_seals_239 rfl rfl ?_
      refine s_aload_n (q := 242) d_M_seals_241 rfl rfl (Or.inr ⟨_, rfl⟩) ?_
      refine g_getr (q := 245) d_M_seals_242 rfl fl_M_22 skM rfl ?_
      refine s_iload (q := 247) d_M_seals_245 rfl rfl ?_
      refine g_zalv (v := (bI (anyB (ikM X t (8 * t + j) i) c))) (q := 248) d_M_seals_247 rfl sm_4 (by omega) rfl (by omega) um_u ?_
      refine g_zast (q := 249) d_M_seals_248 rfl sm_5 (by omega) rfl (by omega) (vbI _) ?_
      refine s_aload_n (q := 250) d_M_seals_249 rfl rfl (Or.inr ⟨_, rfl⟩) ?_
      refine g_getr (q := 253) d_M_seals_250 rfl fl_M_29 skM rfl ?_
      refine s_iload (q := 255) d_M_seals_253 rfl rfl ?_
      refine s_aload_n (q := 256) d_M_seals_255 rfl rfl (Or.inr ⟨_, rfl⟩) ?_
      refine g_getr (q := 259) d_M_seals_256 rfl fl_M_19 skM rfl ?_
      refine s_iload (q := 261) d_M_seals_259 rfl rfl ?_
      refine g_ialv (v := X 126 (12 * (8 * t + j) + i)) (q := 262) d_M_seals_261 rfl sm_3 (by omega) rfl (by omega) (by rw [up2_ne (by decide), up2_ne (by decide), hW _ (by decide)]) ?_
      refine g_iast (q := 263) d_M_seals_262 rfl sm_6 (by omega) rfl (by omega) ?_
      refine s_iinc (q := 266) d_M_seals_263 rfl rfl (by first | exact inc1 _ | rfl) (by decide) ?_
      refine s_goto (tgt := 58) d_M_seals_266 (by decide) ?_
      exact s_lv (lv' := [(0, .ref 122), (1, .int (nI t)), (2, .int (nI j)), (3, .int (nI (8 * t + j))), (4, .int (nI (i + 1)))]) ⟨rfl, rfl, rfl, rfl, rfl, trivial⟩ ih
    have hJ2 : V l D ac b "SpanStoreModel" c_M_seals 7 none false 2 47 0 0 (none, 144, mk (slS X t (8 * t + j) c n)) 0 0 164 [(0, .ref 122), (1, .int (nI t)), (2, .int (nI j)), (3, .int (nI (8 * t + j))), (4, .int (nI i)), (5, .int (nI (12 * (8 * t + j) + i)))] [] 144 (mk (up2 (up2 (slS X t (8 * t + j) c i) 130 (8 * t + j) (lsM X (slS X t (8 * t + j) c i) (8 * t + j) i)) 131 (8 * t + j) (grM X (slS X t (8 * t + j) c i) (8 * t + j) i))) := by
      have hW : ∀ a, a < 127 ∨ 133 < a → (slW X (slS X t (8 * t + j) c i) (8 * t + j) i) a = X a := fun a h => by unfold slW; rw [up2_ne (by omega), up2_ne (by omega), up2_ne (by omega)]; exact hY a h
      refine s_aload_n (q := 165) d_M_seals_164 rfl rfl (Or.inr ⟨_, rfl⟩) ?_
      refine g_getr (q := 168) d_M_seals_165 rfl fl_M_38 skM rfl ?_
      refine s_iconst (v := 4) (q := 169) d_M_seals_168 rfl ki_4 ?_
      refine s_iload_n (q := 170) d_M_seals_169 rfl rfl ?_
      refine s_imul (q := 171) d_M_seals_170 rfl ?_
      refine s_aload_n (q := 172) d_M_seals_171 rfl rfl (Or.inr ⟨_, rfl⟩) ?_
      refine g_getr (q := 175) d_M_seals_172 rfl fl_M_16 skM rfl ?_
      refine s_iload (q := 177) d_M_seals_175 rfl rfl ?_
      refine g_ialv (v := nI (gpN X (12 * (8 * t + j) + i))) (q := 178) d_M_seals_177 rfl sm_2 (by omega) rfl (by omega) (by rw [up2_ne (by decide), up2_ne (by decide), hY _ (by decide)]; exact hgi.1) ?_
      refine s_iadd (q := 179) d_M_seals_178 rfl ?_
      rw [ix4m]
      refine s_dup2 (q := 180) d_M_seals_179 rfl rfl rfl ?_
      refine g_ialv (v := (slS X t (8 * t + j) c i) 132 (4 * (8 * t + j) + gpN X (12 * (8 * t + j) + i))) (q := 181) d_M_seals_180 rfl sm_9 (by omega) rfl (by omega) (by rw [up2_ne (by decide), up2_ne (by decide)]) ?_
      refine s_iconst (v := 1) (q := 182) d_M_seals_181 rfl ki_1 ?_
      refine s_iadd (q := 183) d_M_seals_182 rfl ?_
      refine g_iast (q := 184) d_M_seals_183 rfl sm_9 (by omega) rfl (by omega) ?_
      rw [show up2 (up2 (up2 (slS X t (8 * t + j) c i) 130 (8 * t + j) (lsM X (slS X t (8 * t + j) c i) (8 * t + j) i)) 131 (8 * t + j) (grM X (slS X t (8 * t + j) c i) (8 * t + j) i)) 132 (4 * (8 * t + j) + gpN X (12 * (8 * t + j) + i)) ((slS X t (8 * t + j) c i) 132 (4 * (8 * t + j) + gpN X (12 * (8 * t + j) + i)) + 1) = (slW X (slS X t (8 * t + j) c i) (8 * t + j) i) from rfl]
      refine s_aload_n (q := 185) d_M_seals_184 rfl rfl (Or.inr ⟨_, rfl⟩) ?_
      refine g_getr (q := 188) d_M_seals_185 rfl fl_M_22 skM rfl ?_
      refine s_iload (q := 190) d_M_seals_188 rfl rfl ?_
      refine s_iconst (v := 0) (q := 191) d_M_seals_190 rfl ki_0 ?_
      refine g_zast (q := 192) d_M_seals_191 rfl sm_4 (by omega) rfl (by omega) rfl ?_
      refine s_iconst (v := 0) (q := 193) d_M_seals_192 rfl ki_0 ?_
      refine s_istore (q := 195) d_M_seals_193 rfl (by decide) ?_
      exact s_lv (lv' := [(0, .ref 122), (1, .int (nI t)), (2, .int (nI j)), (3, .int (nI (8 * t + j))), (4, .int (nI i)), (5, .int (nI (12 * (8 * t + j) + i))), (6, .int (nI 0))]) ⟨rfl, rfl, rfl, rfl, rfl, rfl, rfl, trivial⟩ (lp_sealK ht hj hz hn hc hc4 hg ha hi hW hJ3 0 (Nat.zero_le c))
    have hJ1 : V l D ac b "SpanStoreModel" c_M_seals 7 none false 2 47 0 0 (none, 144, mk (slS X t (8 * t + j) c n)) 0 0 121 [(0, .ref 122), (1, .int (nI t)), (2, .int (nI j)), (3, .int (nI (8 * t + j))), (4, .int (nI i)), (5, .int (nI (12 * (8 * t + j) + i)))] [] 144 (mk (up2 (slS X t (8 * t + j) c i) 130 (8 * t + j) (lsM X (slS X t (8 * t + j) c i) (8 * t + j) i))) := by
      refine s_aload_n (q := 122) d_M_seals_121 rfl rfl (Or.inr ⟨_, rfl⟩) ?_
      refine g_getr (q := 125) d_M_seals_122 rfl fl_M_35 skM rfl ?_
      refine s_iload_n (q := 126) d_M_seals_125 rfl rfl ?_
      refine s_iload (q := 128) d_M_seals_126 rfl rfl ?_
      refine s_if_eq (tgt := 147) (q := 131) d_M_seals_128 (by decide) rfl (fun h_128 => ?_) (fun h_128 => ?_)
      · -- T 128
        have i0 : i = 0 := (nI_eq (a := i) (b := 0) (by omega) (by decide)).mp h_128
        rw [show grM X (slS X t (8 * t + j) c i) (8 * t + j) i = X 126 (12 * (8 * t + j) + i) from if_pos (Or.inl i0)] at hJ2
        refine s_aload_n (q := 148) d_M_seals_147 rfl rfl (Or.inr ⟨_, rfl⟩) ?_
        refine g_getr (q := 151) d_M_seals_148 rfl fl_M_19 skM rfl ?_
        refine s_iload (q := 153) d_M_seals_151 rfl rfl ?_
        refine g_ialv (v := X 126 (12 * (8 * t + j) + i)) (q := 154) d_M_seals_153 rfl sm_3 (by omega) rfl (by omega) (by rw [up2_ne (by decide), hY _ (by decide)]) ?_
        refine s_goto (tgt := 163) d_M_seals_154 (by decide) ?_
        refine g_iast (q := 164) d_M_seals_163 rfl sm_8 (by omega) rfl (by omega) ?_
        exact hJ2
      · -- F 128
        have i1 : ¬ i = 0 := fun z => h_128 (by rw [z]; rfl)
        refine s_aload_n (q := 132) d_M_seals_131 rfl rfl (Or.inr ⟨_, rfl⟩) ?_
        refine g_getr (q := 135) d_M_seals_132 rfl fl_M_19 skM rfl ?_
        refine s_iload (q := 137) d_M_seals_135 rfl rfl ?_
        refine g_ialv (v := X 126 (12 * (8 * t + j) + i)) (q := 138) d_M_seals_137 rfl sm_3 (by omega) rfl (by omega) (by rw [up2_ne (by decide), hY _ (by decide)]) ?_
        refine s_aload_n (q := 139) d_M_seals_138 rfl rfl (Or.inr ⟨_, rfl⟩) ?_
        refine g_getr (q := 142) d_M_seals_139 rfl fl_M_35 skM rfl ?_
        refine s_iload_n (q := 143) d_M_seals_142 rfl rfl ?_
        refine g_ialv (v := (slS X t (8 * t + j) c i) 131 (8 * t + j)) (q := 144) d_M_seals_143 rfl sm_8 (by omega) rfl (by omega) (by rw [up2_ne (by decide)]) ?_
        refine s_icmp_le (tgt := 157) (q := 147) d_M_seals_144 (by decide) rfl (fun h_144 => ?_) (fun h_144 => ?_)
        · -- T 144
          rw [show grM X (slS X t (8 * t + j) c i) (8 * t + j) i = (slS X t (8 * t + j) c i) 131 (8 * t + j) from if_neg (fun z => z.elim i1 (i_nlt.mpr h_144))] at hJ2
          refine s_aload_n (q := 158) d_M_seals_157 rfl rfl (Or.inr ⟨_, rfl⟩) ?_
          refine g_getr (q := 161) d_M_seals_158 rfl fl_M_35 skM rfl ?_
          refine s_iload_n (q := 162) d_M_seals_161 rfl rfl ?_
          refine g_ialv (v := (slS X t (8 * t + j) c i) 131 (8 * t + j)) (q := 163) d_M_seals_162 rfl sm_8 (by omega) rfl (by omega) (by rw [up2_ne (by decide)]) ?_
          refine g_iast (q := 164) d_M_seals_163 rfl sm_8 (by omega) rfl (by omega) ?_
          exact hJ2
        · -- F 144
          rw [show grM X (slS X t (8 * t + j) c i) (8 * t + j) i = X 126 (12 * (8 * t + j) + i) from if_pos (Or.inr (i_nle.mp h_144))] at hJ2
          refine s_aload_n (q := 148) d_M_seals_147 rfl rfl (Or.inr ⟨_, rfl⟩) ?_
          refine g_getr (q := 151) d_M_seals_148 rfl fl_M_19 skM rfl ?_
          refine s_iload (q := 153) d_M_seals_151 rfl rfl ?_
          refine g_ialv (v := X 126 (12 * (8 * t + j) + i)) (q := 154) d_M_seals_153 rfl sm_3 (by omega) rfl (by omega) (by rw [up2_ne (by decide), hY _ (by decide)]) ?_
          refine s_goto (tgt := 163) d_M_seals_154 (by decide) ?_
          refine g_iast (q := 164) d_M_seals_163 rfl sm_8 (by omega) rfl (by omega) ?_
          exact hJ2
    refine s_iload (q := 60) d_M_seals_58 rfl rfl ?_
    refine s_aload_n (q := 61) d_M_seals_60 rfl rfl (Or.inr ⟨_, rfl⟩) ?_
    refine g_getr (q := 64) d_M_seals_61 rfl fl_M_7 skM rfl ?_
    refine s_iload_n (q := 65) d_M_seals_64 rfl rfl ?_
    refine g_ialv (v := nI n) (q := 66) d_M_seals_65 rfl sm_0 (by omega) rfl (by omega) (by rw [slS_ne (by decide), hz]) ?_
    refine s_icmp_ge (tgt := 269) (q := 69) d_M_seals_66 (by decide) rfl (fun z9 => absurd z9 (nI_ge hi (by omega))) (fun _ => ?_)
    refine s_bipush (v := 12) (q := 71) d_M_seals_69 rfl kb_12 ?_
    refine s_iload_n (q := 72) d_M_seals_71 rfl rfl ?_
    refine s_imul (q := 73) d_M_seals_72 rfl ?_
    refine s_iload (q := 75) d_M_seals_73 rfl rfl ?_
    refine s_iadd (q := 76) d_M_seals_75 rfl ?_
    rw [ix12]
    refine s_istore (q := 78) d_M_seals_76 rfl (by decide) ?_
    refine s_aload_n (q := 79) d_M_seals_78 rfl rfl (Or.inr ⟨_, rfl⟩) ?_
    refine g_getr (q := 82) d_M_seals_79 rfl fl_M_32 skM rfl ?_
    refine s_iload_n (q := 83) d_M_seals_82 rfl rfl ?_
    refine s_iload (q := 85) d_M_seals_83 rfl rfl ?_
    refine s_if_eq (tgt := 104) (q := 88) d_M_seals_85 (by decide) rfl (fun h_85 => ?_) (fun h_85 => ?_)
    · -- T 85
      have i0 : i = 0 := (nI_eq (a := i) (b := 0) (by omega) (by decide)).mp h_85
      rw [show lsM X (slS X t (8 * t + j) c i) (8 * t + j) i = X 126 (12 * (8 * t + j) + i) from if_pos (Or.inl i0)] at hJ1
      refine s_aload_n (q := 105) d_M_seals_104 rfl rfl (Or.inr ⟨_, rfl⟩) ?_
      refine g_getr (q := 108) d_M_seals_105 rfl fl_M_19 skM rfl ?_
      refine s_iload (q := 110) d_M_seals_108 rfl rfl ?_
      refine g_ialv (v := X 126 (12 * (8 * t + j) + i)) (q := 111) d_M_seals_110 rfl sm_3 (by omega) rfl (by omega) (by rw [hY _ (by decide)]) ?_
      refine s_goto (tgt := 120) d_M_seals_111 (by decide) ?_
      refine g_iast (q := 121) d_M_seals_120 rfl sm_7 (by omega) rfl (by omega) ?_
      exact s_lv (lv' := [(0, .ref 122), (1, .int (nI t)), (2, .int (nI j)), (3, .int (nI (8 * t + j))), (4, .int (nI i)), (5, .int (nI (12 * (8 * t + j) + i)))]) ⟨rfl, rfl, rfl, rfl, rfl, rfl, trivial⟩ hJ1
    · -- F 85
      have i1 : ¬ i = 0 := fun z => h_85 (by rw [z]; rfl)
      refine s_aload_n (q := 89) d_M_seals_88 rfl rfl (Or.inr ⟨_, rfl⟩) ?_
      refine g_getr (q := 92) d_M_seals_89 rfl fl_M_19 skM rfl ?_
      refine s_iload (q := 94) d_M_seals_92 rfl rfl ?_
      refine g_ialv (v := X 126 (12 * (8 * t + j) + i)) (q := 95) d_M_seals_94 rfl sm_3 (by omega) rfl (by omega) (by rw [hY _ (by decide)]) ?_
      refine s_aload_n (q := 96) d_M_seals_95 rfl rfl (Or.inr ⟨_, rfl⟩) ?_
      refine g_getr (q := 99) d_M_seals_96 rfl fl_M_32 skM rfl ?_
      refine s_iload_n (q := 100) d_M_seals_99 rfl rfl ?_
      refine g_iald (q := 101) d_M_seals_100 rfl sm_7 (by omega) rfl (by omega) ?_
      refine s_icmp_ge (tgt := 114) (q := 104) d_M_seals_101 (by decide) rfl (fun h_101 => ?_) (fun h_101 => ?_)
      · -- T 101
        rw [show lsM X (slS X t (8 * t + j) c i) (8 * t + j) i = (slS X t (8 * t + j) c i) 130 (8 * t + j) from if_neg (fun z => z.elim i1 (i_nlt.mpr h_101))] at hJ1
        refine s_aload_n (q := 115) d_M_seals_114 rfl rfl (Or.inr ⟨_, rfl⟩) ?_
        refine g_getr (q := 118) d_M_seals_115 rfl fl_M_32 skM rfl ?_
        refine s_iload_n (q := 119) d_M_seals_118 rfl rfl ?_
        refine g_iald (q := 120) d_M_seals_119 rfl sm_7 (by omega) rfl (by omega) ?_
        refine g_iast (q := 121) d_M_seals_120 rfl sm_7 (by omega) rfl (by omega) ?_
        exact s_lv (lv' := [(0, .ref 122), (1, .int (nI t)), (2, .int (nI j)), (3, .int (nI (8 * t + j))), (4, .int (nI i)), (5, .int (nI (12 * (8 * t + j) + i)))]) ⟨rfl, rfl, rfl, rfl, rfl, rfl, trivial⟩ hJ1
      · -- F 101
        rw [show lsM X (slS X t (8 * t + j) c i) (8 * t + j) i = X 126 (12 * (8 * t + j) + i) from if_pos (Or.inr (i_nle.mp h_101))] at hJ1
        refine s_aload_n (q := 105) d_M_seals_104 rfl rfl (Or.inr ⟨_, rfl⟩) ?_
        refine g_getr (q := 108) d_M_seals_105 rfl fl_M_19 skM rfl ?_
        refine s_iload (q := 110) d_M_seals_108 rfl rfl ?_
        refine g_ialv (v := X 126 (12 * (8 * t + j) + i)) (q := 111) d_M_seals_110 rfl sm_3 (by omega) rfl (by omega) (by rw [hY _ (by decide)]) ?_
        refine s_goto (tgt := 120) d_M_seals_111 (by decide) ?_
        refine g_iast (q := 121) d_M_seals_120 rfl sm_7 (by omega) rfl (by omega) ?_
        exact s_lv (lv' := [(0, .ref 122), (1, .int (nI t)), (2, .int (nI j)), (3, .int (nI (8 * t + j))), (4, .int (nI i)), (5, .int (nI (12 * (8 * t + j) + i)))]) ⟨rfl, rfl, rfl, rfl, rfl, rfl, trivial⟩ hJ1
theorem lp_sealG {X : RAM} {t j c n : Nat} (ht : t < 2) (hj : j < 8) (hz : X 123 (8 * t + j) = nI n) (hn : n ≤ 12) (hc : X 135 t = nI c) (hc4 : c ≤ 4) (hg : ∀ i, i < n → X 125 (12 * (8 * t + j) + i) = nI (gpN X (12 * (8 * t + j) + i)) ∧ gpN X (12 * (8 * t + j) + i) < 4) (ha : ∀ k, k < c → ¬ X 137 (4 * t + k) = 0) : ∀ g, g ≤ 4 → V l D ac b "SpanStoreModel" c_M_seals 7 none false 2 47 0 0 (none, 144, mk (slS X t (8 * t + j) c n)) 0 0 31 [(0, .ref 122), (1, .int (nI t)), (2, .int (nI j)), (3, .int (nI (8 * t + j))), (4, .int (nI g))] [] 144 (mk (gzS (up2 (up2 (up2 X 133 (8 * t + j) 0) 130 (8 * t + j) 0) 131 (8 * t + j) 0) (8 * t + j) g)) := by
  refine nat_down ?_ (fun g hg4 ih => ?_)
  · skip
    refine s_iload (q := 33) d_M_seals_31 rfl rfl ?_
    refine s_iconst (v := 4) (q := 34) d_M_seals_33 rfl ki_4 ?_
    refine s_icmp_ge (tgt := 55) (q := 37) d_M_seals_34 (by decide) rfl (fun _ => ?_) (fun z9 => absurd (by decide) z9)
    refine s_iconst (v := 0) (q := 56) d_M_seals_55 rfl ki_0 ?_
    refine s_istore (q := 58) d_M_seals_56 rfl (by decide) ?_
    exact s_lv (lv' := [(0, .ref 122), (1, .int (nI t)), (2, .int (nI j)), (3, .int (nI (8 * t + j))), (4, .int (nI 0))]) ⟨rfl, rfl, rfl, rfl, rfl, trivial⟩ (lp_sealR ht hj hz hn hc hc4 hg ha 0 (Nat.zero_le n))
  · skip
    refine s_iload (q := 33) d_M_seals_31 rfl rfl ?_
    refine s_iconst (v := 4) (q := 34) d_M_seals_33 rfl ki_4 ?_
    refine s_icmp_ge (tgt := 55) (q := 37) d_M_seals_34 (by decide) rfl (fun z9 => absurd z9 (nI_ge (a := g) (b := 4) hg4 (by decide))) (fun _ => ?_)
    refine s_aload_n (q := 38) d_M_seals_37 rfl rfl (Or.inr ⟨_, rfl⟩) ?_
    refine g_getr (q := 41) d_M_seals_38 rfl fl_M_38 skM rfl ?_
    refine s_iconst (v := 4) (q := 42) d_M_seals_41 rfl ki_4 ?_
    refine s_iload_n (q := 43) d_M_seals_42 rfl rfl ?_
    refine s_imul (q := 44) d_M_seals_43 rfl ?_
    refine s_iload (q := 46) d_M_seals_44 rfl rfl ?_
    refine s_iadd (q := 47) d_M_seals_46 rfl ?_
    refine s_iconst (v := 0) (q := 48) d_M_seals_47 rfl ki_0 ?_
    refine g_iast (q := 49) d_M_seals_48 rfl sm_9 (by omega) (ix4m _ _) (by omega) ?_
    refine s_iinc (q := 52) d_M_seals_49 rfl rfl (by first | exact inc1 _ | rfl) (by decide) ?_
    refine s_goto (tgt := 31) d_M_seals_52 (by decide) ?_
    exact s_lv (lv' := [(0, .ref 122), (1, .int (nI t)), (2, .int (nI j)), (3, .int (nI (8 * t + j))), (4, .int (nI (g + 1)))]) ⟨rfl, rfl, rfl, rfl, rfl, trivial⟩ ih
theorem t_M_seals {X : RAM} {t j c n : Nat} (ht : t < 2) (hj : j < 8) (hz : X 123 (8 * t + j) = nI n) (hn : n ≤ 12) (hc : X 135 t = nI c) (hc4 : c ≤ 4) (hg : ∀ i, i < n → X 125 (12 * (8 * t + j) + i) = nI (gpN X (12 * (8 * t + j) + i)) ∧ gpN X (12 * (8 * t + j) + i) < 4) (ha : ∀ k, k < c → ¬ X 137 (4 * t + k) = 0) : CG l D ac b y_M_seals c_M_seals 7 none 2 47 [.ref 122, .int (nI t), .int (nI j)] X (none) (slS X t (8 * t + j) c n) := by
  refine Ct_of false (by decide) (fun h => by cases h) (Nat.le_of_ble_eq_true rfl) ?_
  show V l D ac b "SpanStoreModel" c_M_seals 7 none false 2 47 0 0 ((none), 144, mk (slS X t (8 * t + j) c n)) 0 0 0 [(0, .ref 122), (1, .int (nI t)), (2, .int (nI j))] [] 144 (mk X)
  refine s_bipush (v := 8) (q := 2) d_M_seals_0 rfl kb_8 ?_
  refine s_iload_n (q := 3) d_M_seals_2 rfl rfl ?_
  refine s_imul (q := 4) d_M_seals_3 rfl ?_
  refine s_iload_n (q := 5) d_M_seals_4 rfl rfl ?_
  refine s_iadd (q := 6) d_M_seals_5 rfl ?_
  rw [ix8m]
  refine s_istore_n (q := 7) d_M_seals_6 rfl (by decide) ?_
  refine s_aload_n (q := 8) d_M_seals_7 rfl rfl (Or.inr ⟨_, rfl⟩) ?_
  refine g_getr (q := 11) d_M_seals_8 rfl fl_M_41 skM rfl ?_
  refine s_iload_n (q := 12) d_M_seals_11 rfl rfl ?_
  refine s_iconst (v := 0) (q := 13) d_M_seals_12 rfl ki_0 ?_
  refine g_zast (q := 14) d_M_seals_13 rfl sm_10 (by omega) rfl (by omega) rfl ?_
  refine s_aload_n (q := 15) d_M_seals_14 rfl rfl (Or.inr ⟨_, rfl⟩) ?_
  refine g_getr (q := 18) d_M_seals_15 rfl fl_M_32 skM rfl ?_
  refine s_iload_n (q := 19) d_M_seals_18 rfl rfl ?_
  refine s_iconst (v := 0) (q := 20) d_M_seals_19 rfl ki_0 ?_
  refine g_iast (q := 21) d_M_seals_20 rfl sm_7 (by omega) rfl (by omega) ?_
  refine s_aload_n (q := 22) d_M_seals_21 rfl rfl (Or.inr ⟨_, rfl⟩) ?_
  refine g_getr (q := 25) d_M_seals_22 rfl fl_M_35 skM rfl ?_
  refine s_iload_n (q := 26) d_M_seals_25 rfl rfl ?_
  refine s_iconst (v := 0) (q := 27) d_M_seals_26 rfl ki_0 ?_
  refine g_iast (q := 28) d_M_seals_27 rfl sm_8 (by omega) rfl (by omega) ?_
  refine s_iconst (v := 0) (q := 29) d_M_seals_28 rfl ki_0 ?_
  refine s_istore (q := 31) d_M_seals_29 rfl (by decide) ?_
  exact s_lv (lv' := [(0, .ref 122), (1, .int (nI t)), (2, .int (nI j)), (3, .int (nI (8 * t + j))), (4, .int (nI 0))]) ⟨rfl, rfl, rfl, rfl, rfl, trivial⟩ (lp_sealG ht hj hz hn hc hc4 hg ha 0 (Nat.zero_le 4))
def sbS (X : RAM) (t c : Nat) : Nat → RAM
  | 0 => up2 X 134 t 1
  | j + 1 => slS (sbS X t c j) t (8 * t + j) c (mnN X (8 * t + j))
theorem sbS_ne {X : RAM} {t c a : Nat} (h : a < 127 ∨ 134 < a) (j : Nat) : sbS X t c j a = X a := by
  induction j with
  | zero => exact up2_ne (by omega)
  | succ j ih => exact (slS_ne (by omega) _).trans ih
theorem t_M_seal_T {X : RAM} {x : Int32} (hx : x < 0 ∨ 2 ≤ x) : CG l D ac b y_M_seal c_M_seal 3 (some .int) 3 73 [.ref 122, .int x] X (some (.int (-2))) (X) := by
  refine Ct_of false (by decide) (fun h => by cases h) (Nat.le_of_ble_eq_true rfl) ?_
  show V l D ac b "SpanStoreModel" c_M_seal 3 (some .int) false 3 73 0 0 ((some (.int (-2))), 144, mk (X)) 0 0 0 [(0, .ref 122), (1, .int x)] [] 144 (mk X)
  refine s_iload_n (q := 1) d_M_seal_0 rfl rfl ?_
  refine g_callS (q := 4) d_M_seal_1 rfl ml_M_78 mx_M_isTable ms_M_isTable t_M_isTable rfl rfl (Nat.le_of_ble_eq_true rfl) (by decide) ?_
  refine s_if_ne (tgt := 10) (q := 7) d_M_seal_4 (by decide) rfl (fun z9 => absurd (bI_d.mpr (niT hx)) z9) (fun _ => ?_)
  refine s_bipush (v := (-2)) (q := 9) d_M_seal_7 rfl kb_m2 ?_
  exact g_iret d_M_seal_9 rfl rfl rfl rfl
theorem t_M_seal_S {X : RAM} {t : Nat} (ht : t < 2) (hs : ¬ X 134 t = 0) : CG l D ac b y_M_seal c_M_seal 3 (some .int) 3 73 [.ref 122, .int (nI t)] X (some (.int (-3))) (X) := by
  refine Ct_of false (by decide) (fun h => by cases h) (Nat.le_of_ble_eq_true rfl) ?_
  show V l D ac b "SpanStoreModel" c_M_seal 3 (some .int) false 3 73 0 0 ((some (.int (-3))), 144, mk (X)) 0 0 0 [(0, .ref 122), (1, .int (nI t))] [] 144 (mk X)
  refine s_iload_n (q := 1) d_M_seal_0 rfl rfl ?_
  refine g_callS (q := 4) d_M_seal_1 rfl ml_M_78 mx_M_isTable ms_M_isTable t_M_isTable rfl rfl (Nat.le_of_ble_eq_true rfl) (by decide) ?_
  refine s_if_ne (tgt := 10) (q := 7) d_M_seal_4 (by decide) rfl (fun _ => ?_) (fun z9 => absurd z9 (bI_dn.mpr (inT ht)))
  refine s_aload_n (q := 11) d_M_seal_10 rfl rfl (Or.inr ⟨_, rfl⟩) ?_
  refine g_getr (q := 14) d_M_seal_11 rfl fl_M_44 skM rfl ?_
  refine s_iload_n (q := 15) d_M_seal_14 rfl rfl ?_
  refine g_zald (q := 16) d_M_seal_15 rfl sm_11 (by omega) rfl ht ?_
  refine s_if_eq (tgt := 22) (q := 19) d_M_seal_16 (by decide) rfl (fun z9 => absurd z9 hs) (fun _ => ?_)
  refine s_bipush (v := (-3)) (q := 21) d_M_seal_19 rfl kb_m3 ?_
  exact g_iret d_M_seal_21 rfl rfl rfl rfl
theorem okM_of {X Y : RAM} (h : Y 123 = X 123) (hM : okM X) : okM Y := by
  intro B hB
  have := hM B hB
  unfold mnN at this ⊢
  rw [h]
  exact this
theorem lp_seal {X : RAM} {t c : Nat} (ht : t < 2) (hM : okM X) (hc : X 135 t = nI c) (hc4 : c ≤ 4) (hg : ∀ r, r < 192 → X 125 r = nI (gpN X r) ∧ gpN X r < 4) (ha : ∀ k, k < c → ¬ X 137 (4 * t + k) = 0) : ∀ i, i ≤ 8 → V l D ac b "SpanStoreModel" c_M_seal 3 (some .int) false 3 73 0 0 ((some (.int (mkS (sbS X t c 8) t 8))), 144, mk (sbS X t c 8)) 0 0 31 [(0, .ref 122), (1, .int (nI t)), (2, .int (nI i))] [] 144 (mk (sbS X t c i)) := by
  refine nat_down ?_ (fun i hi ih => ?_)
  · skip
    refine s_iload_n (q := 32) d_M_seal_31 rfl rfl ?_
    refine s_bipush (v := 8) (q := 34) d_M_seal_32 rfl kb_8 ?_
    refine s_icmp_ge (tgt := 49) (q := 37) d_M_seal_34 (by decide) rfl (fun _ => ?_) (fun z9 => absurd le8 z9)
    refine s_aload_n (q := 50) d_M_seal_49 rfl rfl (Or.inr ⟨_, rfl⟩) ?_
    refine s_iload_n (q := 51) d_M_seal_50 rfl rfl ?_
    refine g_callV (q := 54) d_M_seal_51 rfl ml_M_110 mx_M_knownOf mv_M_knownOf (t_M_knownOf ht (okM_of (sbS_ne (by decide) 8) hM)) skM rfl rfl (Nat.le_of_ble_eq_true rfl) (by decide) ?_
    exact g_iret d_M_seal_54 rfl rfl rfl rfl
  · skip
    refine s_iload_n (q := 32) d_M_seal_31 rfl rfl ?_
    refine s_bipush (v := 8) (q := 34) d_M_seal_32 rfl kb_8 ?_
    refine s_icmp_ge (tgt := 49) (q := 37) d_M_seal_34 (by decide) rfl (fun z9 => absurd z9 (nle8 hi)) (fun _ => ?_)
    refine s_aload_n (q := 38) d_M_seal_37 rfl rfl (Or.inr ⟨_, rfl⟩) ?_
    refine s_iload_n (q := 39) d_M_seal_38 rfl rfl ?_
    refine s_iload_n (q := 40) d_M_seal_39 rfl rfl ?_
    refine g_callV (q := 43) d_M_seal_40 rfl ml_M_106 mx_M_seals mv_M_seals (t_M_seals (c := c) (n := mnN X (8 * t + i)) ht hi (by rw [sbS_ne (by decide)]; exact (hM _ (by omega)).1) (hM _ (by omega)).2 (by rw [sbS_ne (by decide)]; exact hc) hc4 (fun r hr => by unfold gpN; rw [sbS_ne (by decide)]; have := (hM (8 * t + i) (by omega)).2; exact hg _ (by omega)) (fun k hk => by rw [sbS_ne (by decide)]; exact ha k hk)) skM rfl rfl (Nat.le_of_ble_eq_true rfl) (by decide) ?_
    refine s_iinc (q := 46) d_M_seal_43 rfl rfl (by first | exact inc1 _ | rfl) (by decide) ?_
    refine s_goto (tgt := 31) d_M_seal_46 (by decide) ?_
    exact s_lv (lv' := [(0, .ref 122), (1, .int (nI t)), (2, .int (nI (i + 1)))]) ⟨rfl, rfl, rfl, trivial⟩ ih
theorem t_M_seal_D {X : RAM} {t c : Nat} (ht : t < 2) (hM : okM X) (hc : X 135 t = nI c) (hc4 : c ≤ 4) (hg : ∀ r, r < 192 → X 125 r = nI (gpN X r) ∧ gpN X r < 4) (ha : ∀ k, k < c → ¬ X 137 (4 * t + k) = 0) (hs : X 134 t = 0) : CG l D ac b y_M_seal c_M_seal 3 (some .int) 3 73 [.ref 122, .int (nI t)] X (some (.int (mkS (sbS X t c 8) t 8))) (sbS X t c 8) := by
  refine Ct_of false (by decide) (fun h => by cases h) (Nat.le_of_ble_eq_true rfl) ?_
  show V l D ac b "SpanStoreModel" c_M_seal 3 (some .int) false 3 73 0 0 ((some (.int (mkS (sbS X t c 8) t 8))), 144, mk (sbS X t c 8)) 0 0 0 [(0, .ref 122), (1, .int (nI t))] [] 144 (mk X)
  refine s_iload_n (q := 1) d_M_seal_0 rfl rfl ?_
  refine g_callS (q := 4) d_M_seal_1 rfl ml_M_78 mx_M_isTable ms_M_isTable t_M_isTable rfl rfl (Nat.le_of_ble_eq_true rfl) (by decide) ?_
  refine s_if_ne (tgt := 10) (q := 7) d_M_seal_4 (by decide) rfl (fun _ => ?_) (fun z9 => absurd z9 (bI_dn.mpr (inT ht)))
  refine s_aload_n (q := 11) d_M_seal_10 rfl rfl (Or.inr ⟨_, rfl⟩) ?_
  refine g_getr (q := 14) d_M_seal_11 rfl fl_M_44 skM rfl ?_
  refine s_iload_n (q := 15) d_M_seal_14 rfl rfl ?_
  refine g_zald (q := 16) d_M_seal_15 rfl sm_11 (by omega) rfl ht ?_
  refine s_if_eq (tgt := 22) (q := 19) d_M_seal_16 (by decide) rfl (fun _ => ?_) (fun z9 => absurd hs z9)
  refine s_aload_n (q := 23) d_M_seal_22 rfl rfl (Or.inr ⟨_, rfl⟩) ?_
  refine g_getr (q := 26) d_M_seal_23 rfl fl_M_44 skM rfl ?_
  refine s_iload_n (q := 27) d_M_seal_26 rfl rfl ?_
  refine s_iconst (v := 1) (q := 28) d_M_seal_27 rfl ki_1 ?_
  refine g_zast (q := 29) d_M_seal_28 rfl sm_11 (by omega) rfl ht rfl ?_
  refine s_iconst (v := 0) (q := 30) d_M_seal_29 rfl ki_0 ?_
  refine s_istore_n (q := 31) d_M_seal_30 rfl (by decide) ?_
  exact s_lv (lv' := [(0, .ref 122), (1, .int (nI t)), (2, .int (nI 0))]) ⟨rfl, rfl, rfl, trivial⟩ (lp_seal ht hM hc hc4 hg ha 0 (Nat.zero_le 8))
end P15
