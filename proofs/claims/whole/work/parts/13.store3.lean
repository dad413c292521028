section P13
variable {l : Launch} {D : va_G} {ac : Nat → ClassId} {b : Nat}
def wdN (X : RAM) (o : Nat) (g : Int32) : Nat := (wdT X o g).toNatClampNeg
theorem wdS_in (a : Nat → Int64) (n : Nat) (hn : n ≤ 8) : (wdS a n).1 = -1 ∨ ∃ j, j < n ∧ (wdS a n).1 = nI j := by
  induction n with
  | zero => exact Or.inl rfl
  | succ n ih =>
    unfold wdS
    split
    · exact Or.inr ⟨n, by omega, rfl⟩
    · rcases ih (by omega) with h | ⟨j, hj, h⟩
      · exact Or.inl h
      · exact Or.inr ⟨j, by omega, h⟩
theorem wdN_of {X : RAM} {o : Nat} {g : Int32} (h : ¬ wdT X o g = -1) : wdN X o g < 8 ∧ wdT X o g = nI (wdN X o g) := by
  rcases wdS_in (fun j => apV X (o + 3 + 6 * j) g) 8 (Nat.le_refl 8) with h1 | ⟨j, hj, h1⟩
  · exact absurd h1 h
  · have h2 : wdT X o g = nI j := h1
    have h3 : wdN X o g = j := by unfold wdN; rw [h2, nI_clamp (by omega)]
    rw [h3]
    exact ⟨hj, h2⟩
def rdX (X : RAM) (o : Nat) (g : Int32) : RAM := rbX X (o + 3 + 6 * wdN X o g) (szN X (o + 3 + 6 * wdN X o g))
noncomputable def rfS (o : Nat) (g ap : Int32) : Nat → Nat → RAM → Nat × RAM
  | 0, d, X => (d, X)
  | f + 1, d, X => if ap.toInt64 < sumT X o g 1 - sumT X o g 0 then (if wdT X o g = -1 then (d, X) else rfS o g ap f (d + 1) (rdX X o g)) else (d, X)
theorem rbX_o {X : RAM} {o n j : Nat} (h : j ≠ 6) (h0 : o ≠ 0) : rbX X o n o j = X o j := by
  unfold rbX
  split
  · rfl
  · rw [up2_ne h0, kwA_o h]
theorem rbX_ne {X : RAM} {o n a : Nat} (h1 : a ≠ o) (h2 : a ≠ o + 4) (h0 : a ≠ 0) : rbX X o n a = X a := by
  unfold rbX
  split
  · rfl
  · rw [up2_ne h0, kwA_ne h1 h2]
theorem rdX_5 {X : RAM} {o k : Nat} {g : Int32} : rdX X o g (o + 3 + 6 * k) 5 = X (o + 3 + 6 * k) 5 := by
  unfold rdX
  by_cases h : k = wdN X o g
  · rw [← h]; exact rbX_o (by decide) (by omega)
  · rw [rbX_ne (by omega) (by omega) (by omega)]
theorem okZ_of {X Y : RAM} {o : Nat} (h : ∀ k, k < 8 → Y (o + 3 + 6 * k) 5 = X (o + 3 + 6 * k) 5) (hZ : okZ X o) : okZ Y o := by
  intro j hj
  have h1 : szN Y (o + 3 + 6 * j) = szN X (o + 3 + 6 * j) := by unfold szN; rw [h j hj]
  rw [h1, h j hj]
  exact hZ j hj
theorem okZ_rd {X : RAM} {o : Nat} {g : Int32} (hZ : okZ X o) : okZ (rdX X o g) o := okZ_of (fun k _ => rdX_5) hZ
theorem t_C_refine_T {X : RAM} {x g ap : Int32} (hx : x < 0 ∨ 2 ≤ x) : CG l D ac b y_C_refine c_C_refine 7 (some .int) 6 136 [.ref 0, .int x, .int g, .int ap] X (some (.int (-2))) (X) := by
  refine Ct_of false (by decide) (fun h => by cases h) (Nat.le_of_ble_eq_true rfl) ?_
  show V l D ac b "SpanStore" c_C_refine 7 (some .int) false 6 136 0 0 ((some (.int (-2))), 144, mk (X)) 0 0 0 [(0, .ref 0), (1, .int x), (2, .int g), (3, .int ap)] [] 144 (mk X)
  refine s_aload_n (q := 1) d_C_refine_0 rfl rfl (Or.inr ⟨_, rfl⟩) ?_
  refine s_iload_n (q := 2) d_C_refine_1 rfl rfl ?_
  refine g_callV (q := 5) d_C_refine_2 rfl ml_C_27 mx_C_tableAt mv_C_tableAt (t_C_tableAt_no hx) hC.1 rfl rfl (Nat.le_of_ble_eq_true rfl) (by decide) ?_
  refine s_astore (q := 7) d_C_refine_5 rfl (by decide) (Or.inl rfl) ?_
  refine s_aload (q := 9) d_C_refine_7 rfl rfl (Or.inl rfl) ?_
  refine s_ifnull_n (tgt := 29) d_C_refine_9 (by decide) ?_
  refine s_bipush (v := (-2)) (q := 31) d_C_refine_29 rfl kb_m2 ?_
  exact g_iret d_C_refine_31 rfl rfl rfl rfl
theorem t_C_refine_G {X : RAM} {t : Nat} {g ap : Int32} (ht : t < 2) (hg : ¬ GrpOK g) : CG l D ac b y_C_refine c_C_refine 7 (some .int) 6 136 [.ref 0, .int (nI t), .int g, .int ap] X (some (.int (-2))) (X) := by
  refine Ct_of false (by decide) (fun h => by cases h) (Nat.le_of_ble_eq_true rfl) ?_
  show V l D ac b "SpanStore" c_C_refine 7 (some .int) false 6 136 0 0 ((some (.int (-2))), 144, mk (X)) 0 0 0 [(0, .ref 0), (1, .int (nI t)), (2, .int g), (3, .int ap)] [] 144 (mk X)
  refine s_aload_n (q := 1) d_C_refine_0 rfl rfl (Or.inr ⟨_, rfl⟩) ?_
  refine s_iload_n (q := 2) d_C_refine_1 rfl rfl ?_
  refine g_callV (q := 5) d_C_refine_2 rfl ml_C_27 mx_C_tableAt mv_C_tableAt (t_C_tableAt_ok ht) hC.1 rfl rfl (Nat.le_of_ble_eq_true rfl) (by decide) ?_
  refine s_astore (q := 7) d_C_refine_5 rfl (by decide) (Or.inr ⟨_, rfl⟩) ?_
  refine s_aload (q := 9) d_C_refine_7 rfl rfl (Or.inr ⟨_, rfl⟩) ?_
  refine s_ifnull_r (q := 12) d_C_refine_9 rfl ?_
  refine s_iload_n (q := 13) d_C_refine_12 rfl rfl ?_
  refine g_callS (q := 16) d_C_refine_13 rfl ml_C_121 mx_C_isGroupOrAll ms_C_isGroupOrAll t_C_isGroupOrAll rfl rfl (Nat.le_of_ble_eq_true rfl) (by decide) ?_
  refine s_if_eq (tgt := 29) (q := 19) d_C_refine_16 (by decide) rfl (fun _ => ?_) (fun z9 => absurd (bI_d.mpr hg) z9)
  refine s_bipush (v := (-2)) (q := 31) d_C_refine_29 rfl kb_m2 ?_
  exact g_iret d_C_refine_31 rfl rfl rfl rfl
abbrev ApOK (ap : Int32) : Prop := ¬ ap < 0 ∧ ap ≤ 1000000
theorem t_C_refine_A {X : RAM} {t : Nat} {g ap : Int32} (ht : t < 2) (hg : GrpOK g) (ha : ¬ ApOK ap) : CG l D ac b y_C_refine c_C_refine 7 (some .int) 6 136 [.ref 0, .int (nI t), .int g, .int ap] X (some (.int (-2))) (X) := by
  refine Ct_of false (by decide) (fun h => by cases h) (Nat.le_of_ble_eq_true rfl) ?_
  show V l D ac b "SpanStore" c_C_refine 7 (some .int) false 6 136 0 0 ((some (.int (-2))), 144, mk (X)) 0 0 0 [(0, .ref 0), (1, .int (nI t)), (2, .int g), (3, .int ap)] [] 144 (mk X)
  refine s_aload_n (q := 1) d_C_refine_0 rfl rfl (Or.inr ⟨_, rfl⟩) ?_
  refine s_iload_n (q := 2) d_C_refine_1 rfl rfl ?_
  refine g_callV (q := 5) d_C_refine_2 rfl ml_C_27 mx_C_tableAt mv_C_tableAt (t_C_tableAt_ok ht) hC.1 rfl rfl (Nat.le_of_ble_eq_true rfl) (by decide) ?_
  refine s_astore (q := 7) d_C_refine_5 rfl (by decide) (Or.inr ⟨_, rfl⟩) ?_
  refine s_aload (q := 9) d_C_refine_7 rfl rfl (Or.inr ⟨_, rfl⟩) ?_
  refine s_ifnull_r (q := 12) d_C_refine_9 rfl ?_
  refine s_iload_n (q := 13) d_C_refine_12 rfl rfl ?_
  refine g_callS (q := 16) d_C_refine_13 rfl ml_C_121 mx_C_isGroupOrAll ms_C_isGroupOrAll t_C_isGroupOrAll rfl rfl (Nat.le_of_ble_eq_true rfl) (by decide) ?_
  refine s_if_eq (tgt := 29) (q := 19) d_C_refine_16 (by decide) rfl (fun z9 => absurd z9 (bI_dn.mpr hg)) (fun _ => ?_)
  refine s_iload_n (q := 20) d_C_refine_19 rfl rfl ?_
  refine s_if_lt (tgt := 29) (q := 23) d_C_refine_20 (by decide) rfl (fun h_20 => ?_) (fun h_20 => ?_)
  · -- T 20
    refine s_bipush (v := (-2)) (q := 31) d_C_refine_29 rfl kb_m2 ?_
    exact g_iret d_C_refine_31 rfl rfl rfl rfl
  · -- F 20
    refine s_iload_n (q := 24) d_C_refine_23 rfl rfl ?_
    refine s_ldc (q := 26) d_C_refine_24 rfl kc_C_153 ?_
    refine s_icmp_le (tgt := 32) (q := 29) d_C_refine_26 (by decide) rfl (fun h_26 => ?_) (fun h_26 => ?_)
    · -- T 26
      exact absurd ⟨h_20, h_26⟩ ha --done
    · -- F 26
      refine s_bipush (v := (-2)) (q := 31) d_C_refine_29 rfl kb_m2 ?_
      exact g_iret d_C_refine_31 rfl rfl rfl rfl
theorem t_C_refine_S {X : RAM} {t : Nat} {g ap : Int32} (ht : t < 2) (hg : GrpOK g) (ha : ApOK ap) (hs : X (4 + 55 * t) 3 = 0) : CG l D ac b y_C_refine c_C_refine 7 (some .int) 6 136 [.ref 0, .int (nI t), .int g, .int ap] X (some (.int (-3))) (X) := by
  refine Ct_of false (by decide) (fun h => by cases h) (Nat.le_of_ble_eq_true rfl) ?_
  show V l D ac b "SpanStore" c_C_refine 7 (some .int) false 6 136 0 0 ((some (.int (-3))), 144, mk (X)) 0 0 0 [(0, .ref 0), (1, .int (nI t)), (2, .int g), (3, .int ap)] [] 144 (mk X)
  refine s_aload_n (q := 1) d_C_refine_0 rfl rfl (Or.inr ⟨_, rfl⟩) ?_
  refine s_iload_n (q := 2) d_C_refine_1 rfl rfl ?_
  refine g_callV (q := 5) d_C_refine_2 rfl ml_C_27 mx_C_tableAt mv_C_tableAt (t_C_tableAt_ok ht) hC.1 rfl rfl (Nat.le_of_ble_eq_true rfl) (by decide) ?_
  refine s_astore (q := 7) d_C_refine_5 rfl (by decide) (Or.inr ⟨_, rfl⟩) ?_
  refine s_aload (q := 9) d_C_refine_7 rfl rfl (Or.inr ⟨_, rfl⟩) ?_
  refine s_ifnull_r (q := 12) d_C_refine_9 rfl ?_
  refine s_iload_n (q := 13) d_C_refine_12 rfl rfl ?_
  refine g_callS (q := 16) d_C_refine_13 rfl ml_C_121 mx_C_isGroupOrAll ms_C_isGroupOrAll t_C_isGroupOrAll rfl rfl (Nat.le_of_ble_eq_true rfl) (by decide) ?_
  refine s_if_eq (tgt := 29) (q := 19) d_C_refine_16 (by decide) rfl (fun z9 => absurd z9 (bI_dn.mpr hg)) (fun _ => ?_)
  refine s_iload_n (q := 20) d_C_refine_19 rfl rfl ?_
  refine s_if_lt (tgt := 29) (q := 23) d_C_refine_20 (by decide) rfl (fun z9 => absurd z9 ha.1) (fun _ => ?_)
  refine s_iload_n (q := 24) d_C_refine_23 rfl rfl ?_
  refine s_ldc (q := 26) d_C_refine_24 rfl kc_C_153 ?_
  refine s_icmp_le (tgt := 32) (q := 29) d_C_refine_26 (by decide) rfl (fun _ => ?_) (fun z9 => absurd ha.2 z9)
  refine s_aload (q := 34) d_C_refine_32 rfl rfl (Or.inr ⟨_, rfl⟩) ?_
  refine g_geti (q := 37) d_C_refine_34 rfl fl_C_39 (hC.2.2.2.2.1 _ ht).1 rfl ?_
  refine s_if_ne (tgt := 43) (q := 40) d_C_refine_37 (by decide) rfl (fun z9 => absurd hs z9) (fun _ => ?_)
  refine s_bipush (v := (-3)) (q := 42) d_C_refine_40 rfl kb_m3 ?_
  exact g_iret d_C_refine_42 rfl rfl rfl rfl
theorem lp_refine {t : Nat} {g ap : Int32} (ht : t < 2) : ∀ (f d : Nat) (X : RAM), f + d = 8 → okZ X (4 + 55 * t) → V l D ac b "SpanStore" c_C_refine 7 (some .int) false 6 136 0 0 (some (.int (nI (rfS (4 + 55 * t) g ap f d X).1)), 144, mk (rfS (4 + 55 * t) g ap f d X).2) 0 0 46 [(0, .ref 0), (2, .int g), (3, .int ap), (4, .ref (4 + 55 * t)), (5, .int (nI d))] [] 144 (mk X) := by
  intro f
  induction f with
  | zero =>
    intro d X hd hZ
    have hd8 : d = 8 := by omega
    subst hd8
    refine s_iload (q := 48) d_C_refine_46 rfl rfl ?_
    refine s_bipush (v := 8) (q := 50) d_C_refine_48 rfl kb_8 ?_
    refine s_icmp_ge (tgt := 99) (q := 53) d_C_refine_50 (by decide) rfl (fun _ => ?_) (fun z9 => absurd le8 z9)
    refine s_iload (q := 101) d_C_refine_99 rfl rfl ?_
    exact g_iret d_C_refine_101 rfl rfl rfl rfl
  | succ f ih =>
    intro d X hd hZ
    by_cases c1 : ap.toInt64 < sumT X (4 + 55 * t) g 1 - sumT X (4 + 55 * t) g 0
    · by_cases c2 : wdT X (4 + 55 * t) g = -1
      · rw [show (rfS (4 + 55 * t) g ap (f + 1) d X) = (d, X) from by rw [rfS, if_pos c1, if_pos c2]]
        refine s_iload (q := 48) d_C_refine_46 rfl rfl ?_
        refine s_bipush (v := 8) (q := 50) d_C_refine_48 rfl kb_8 ?_
        refine s_icmp_ge (tgt := 99) (q := 53) d_C_refine_50 (by decide) rfl (fun z9 => absurd z9 (nle8 (by omega))) (fun _ => ?_)
        refine s_aload (q := 55) d_C_refine_53 rfl rfl (Or.inr ⟨_, rfl⟩) ?_
        refine s_iload_n (q := 56) d_C_refine_55 rfl rfl ?_
        refine g_callV (q := 59) d_C_refine_56 rfl ml_C_154 mx_T_apart mv_T_apart (t_T_apart (hC.2.2.2.2.1 _ ht) hZ) (hC.2.2.2.2.1 _ ht).1 rfl rfl (Nat.le_of_ble_eq_true rfl) (by decide) ?_
        refine s_iload_n (q := 60) d_C_refine_59 rfl rfl ?_
        refine s_i2l (q := 61) d_C_refine_60 rfl ?_
        refine s_lcmp (q := 62) d_C_refine_61 rfl ?_
        refine s_if_le (tgt := 99) (q := 65) d_C_refine_62 (by decide) rfl (fun z9 => absurd z9 (fun z => lg_le.mp z c1)) (fun _ => ?_)
        refine s_aload (q := 67) d_C_refine_65 rfl rfl (Or.inr ⟨_, rfl⟩) ?_
        refine s_aload (q := 69) d_C_refine_67 rfl rfl (Or.inr ⟨_, rfl⟩) ?_
        refine s_iload_n (q := 70) d_C_refine_69 rfl rfl ?_
        refine g_callV (q := 73) d_C_refine_70 rfl ml_C_150 mx_T_widestBlock mv_T_widestBlock (t_T_widest (hC.2.2.2.2.1 _ ht) hZ) (hC.2.2.2.2.1 _ ht).1 rfl rfl (Nat.le_of_ble_eq_true rfl) (by decide) ?_
        refine g_callS (q := 76) d_C_refine_73 rfl ml_C_31 mx_C_blockAt ms_C_blockAt (t_C_blockAt_no (hC.2.2.2.2.1 _ ht) (Or.inl (by rw [c2]; decide))) rfl rfl (Nat.le_of_ble_eq_true rfl) (by decide) ?_
        refine s_astore (q := 78) d_C_refine_76 rfl (by decide) (Or.inl rfl) ?_
        refine s_aload (q := 80) d_C_refine_78 rfl rfl (Or.inl rfl) ?_
        refine s_ifnonnull_n (q := 83) d_C_refine_80 rfl ?_
        refine s_goto (tgt := 99) d_C_refine_83 (by decide) ?_
        refine s_iload (q := 101) d_C_refine_99 rfl rfl ?_
        exact g_iret d_C_refine_101 rfl rfl rfl rfl
      · rw [show (rfS (4 + 55 * t) g ap (f + 1) d X) = (rfS (4 + 55 * t) g ap f (d + 1) (rdX X (4 + 55 * t) g)) from by rw [rfS, if_pos c1, if_neg c2]]
        have hw := wdN_of c2
        refine s_iload (q := 48) d_C_refine_46 rfl rfl ?_
        refine s_bipush (v := 8) (q := 50) d_C_refine_48 rfl kb_8 ?_
        refine s_icmp_ge (tgt := 99) (q := 53) d_C_refine_50 (by decide) rfl (fun z9 => absurd z9 (nle8 (by omega))) (fun _ => ?_)
        refine s_aload (q := 55) d_C_refine_53 rfl rfl (Or.inr ⟨_, rfl⟩) ?_
        refine s_iload_n (q := 56) d_C_refine_55 rfl rfl ?_
        refine g_callV (q := 59) d_C_refine_56 rfl ml_C_154 mx_T_apart mv_T_apart (t_T_apart (hC.2.2.2.2.1 _ ht) hZ) (hC.2.2.2.2.1 _ ht).1 rfl rfl (Nat.le_of_ble_eq_true rfl) (by decide) ?_
        refine s_iload_n (q := 60) d_C_refine_59 rfl rfl ?_
        refine s_i2l (q := 61) d_C_refine_60 rfl ?_
        refine s_lcmp (q := 62) d_C_refine_61 rfl ?_
        refine s_if_le (tgt := 99) (q := 65) d_C_refine_62 (by decide) rfl (fun z9 => absurd z9 (fun z => lg_le.mp z c1)) (fun _ => ?_)
        refine s_aload (q := 67) d_C_refine_65 rfl rfl (Or.inr ⟨_, rfl⟩) ?_
        refine s_aload (q := 69) d_C_refine_67 rfl rfl (Or.inr ⟨_, rfl⟩) ?_
        refine s_iload_n (q := 70) d_C_refine_69 rfl rfl ?_
        refine g_callV (q := 73) d_C_refine_70 rfl ml_C_150 mx_T_widestBlock mv_T_widestBlock (t_T_widest (hC.2.2.2.2.1 _ ht) hZ) (hC.2.2.2.2.1 _ ht).1 rfl rfl (Nat.le_of_ble_eq_true rfl) (by decide) ?_
        rw [hw.2]
        refine g_callS (q := 76) d_C_refine_73 rfl ml_C_31 mx_C_blockAt ms_C_blockAt (t_C_blockAt_ok (hC.2.2.2.2.1 _ ht) hw.1) rfl rfl (Nat.le_of_ble_eq_true rfl) (by decide) ?_
        refine s_astore (q := 78) d_C_refine_76 rfl (by decide) (Or.inr ⟨_, rfl⟩) ?_
        refine s_aload (q := 80) d_C_refine_78 rfl rfl (Or.inr ⟨_, rfl⟩) ?_
        refine s_ifnonnull_r (tgt := 86) d_C_refine_80 (by decide) ?_
        refine s_aload_n (q := 87) d_C_refine_86 rfl rfl (Or.inr ⟨_, rfl⟩) ?_
        refine s_aload (q := 89) d_C_refine_87 rfl rfl (Or.inr ⟨_, rfl⟩) ?_
        refine g_callV (q := 92) d_C_refine_89 rfl ml_C_90 mx_C_readBlock mv_C_readBlock (t_C_readBlock ((hC.2.2.2.2.1 _ ht).2.2.2.1 _ hw.1) (hZ _ hw.1).1 (hZ _ hw.1).2 (by omega)) hC.1 rfl rfl (Nat.le_of_ble_eq_true rfl) (by decide) ?_
        refine s_pop (q := 93) d_C_refine_92 rfl rfl ?_
        refine s_iinc (q := 96) d_C_refine_93 rfl rfl (by first | exact inc1 _ | rfl) (by decide) ?_
        refine s_goto (tgt := 46) d_C_refine_96 (by decide) ?_
        exact s_lv (lv' := [(0, .ref 0), (2, .int g), (3, .int ap), (4, .ref (4 + 55 * t)), (5, .int (nI (d + 1)))]) ⟨rfl, rfl, rfl, rfl, rfl, trivial⟩ (ih (d + 1) (rdX X (4 + 55 * t) g) (by omega) (okZ_rd hZ))
    · rw [show (rfS (4 + 55 * t) g ap (f + 1) d X) = (d, X) from by rw [rfS, if_neg c1]]
      refine s_iload (q := 48) d_C_refine_46 rfl rfl ?_
      refine s_bipush (v := 8) (q := 50) d_C_refine_48 rfl kb_8 ?_
      refine s_icmp_ge (tgt := 99) (q := 53) d_C_refine_50 (by decide) rfl (fun z9 => absurd z9 (nle8 (by omega))) (fun _ => ?_)
      refine s_aload (q := 55) d_C_refine_53 rfl rfl (Or.inr ⟨_, rfl⟩) ?_
      refine s_iload_n (q := 56) d_C_refine_55 rfl rfl ?_
      refine g_callV (q := 59) d_C_refine_56 rfl ml_C_154 mx_T_apart mv_T_apart (t_T_apart (hC.2.2.2.2.1 _ ht) hZ) (hC.2.2.2.2.1 _ ht).1 rfl rfl (Nat.le_of_ble_eq_true rfl) (by decide) ?_
      refine s_iload_n (q := 60) d_C_refine_59 rfl rfl ?_
      refine s_i2l (q := 61) d_C_refine_60 rfl ?_
      refine s_lcmp (q := 62) d_C_refine_61 rfl ?_
      refine s_if_le (tgt := 99) (q := 65) d_C_refine_62 (by decide) rfl (fun _ => ?_) (fun z9 => absurd (lg_le.mpr c1) z9)
      refine s_iload (q := 101) d_C_refine_99 rfl rfl ?_
      exact g_iret d_C_refine_101 rfl rfl rfl rfl
theorem t_C_refine_D {X : RAM} {t : Nat} {g ap : Int32} (ht : t < 2) (hg : GrpOK g) (ha : ApOK ap) (hs : ¬ X (4 + 55 * t) 3 = 0) (hZ : okZ X (4 + 55 * t)) : CG l D ac b y_C_refine c_C_refine 7 (some .int) 6 136 [.ref 0, .int (nI t), .int g, .int ap] X (some (.int (nI (rfS (4 + 55 * t) g ap 8 0 X).1))) ((rfS (4 + 55 * t) g ap 8 0 X).2) := by
  refine Ct_of false (by decide) (fun h => by cases h) (Nat.le_of_ble_eq_true rfl) ?_
  show V l D ac b "SpanStore" c_C_refine 7 (some .int) false 6 136 0 0 ((some (.int (nI (rfS (4 + 55 * t) g ap 8 0 X).1))), 144, mk ((rfS (4 + 55 * t) g ap 8 0 X).2)) 0 0 0 [(0, .ref 0), (1, .int (nI t)), (2, .int g), (3, .int ap)] [] 144 (mk X)
  refine s_aload_n (q := 1) d_C_refine_0 rfl rfl (Or.inr ⟨_, rfl⟩) ?_
  refine s_iload_n (q := 2) d_C_refine_1 rfl rfl ?_
  refine g_callV (q := 5) d_C_refine_2 rfl ml_C_27 mx_C_tableAt mv_C_tableAt (t_C_tableAt_ok ht) hC.1 rfl rfl (Nat.le_of_ble_eq_true rfl) (by decide) ?_
  refine s_astore (q := 7) d_C_refine_5 rfl (by decide) (Or.inr ⟨_, rfl⟩) ?_
  refine s_aload (q := 9) d_C_refine_7 rfl rfl (Or.inr ⟨_, rfl⟩) ?_
  refine s_ifnull_r (q := 12) d_C_refine_9 rfl ?_
  refine s_iload_n (q := 13) d_C_refine_12 rfl rfl ?_
  refine g_callS (q := 16) d_C_refine_13 rfl ml_C_121 mx_C_isGroupOrAll ms_C_isGroupOrAll t_C_isGroupOrAll rfl rfl (Nat.le_of_ble_eq_true rfl) (by decide) ?_
  refine s_if_eq (tgt := 29) (q := 19) d_C_refine_16 (by decide) rfl (fun z9 => absurd z9 (bI_dn.mpr hg)) (fun _ => ?_)
  refine s_iload_n (q := 20) d_C_refine_19 rfl rfl ?_
  refine s_if_lt (tgt := 29) (q := 23) d_C_refine_20 (by decide) rfl (fun z9 => absurd z9 ha.1) (fun _ => ?_)
  refine s_iload_n (q := 24) d_C_refine_23 rfl rfl ?_
  refine s_ldc (q := 26) d_C_refine_24 rfl kc_C_153 ?_
  refine s_icmp_le (tgt := 32) (q := 29) d_C_refine_26 (by decide) rfl (fun _ => ?_) (fun z9 => absurd ha.2 z9)
  refine s_aload (q := 34) d_C_refine_32 rfl rfl (Or.inr ⟨_, rfl⟩) ?_
  refine g_geti (q := 37) d_C_refine_34 rfl fl_C_39 (hC.2.2.2.2.1 _ ht).1 rfl ?_
  refine s_if_ne (tgt := 43) (q := 40) d_C_refine_37 (by decide) rfl (fun _ => ?_) (fun z9 => absurd z9 hs)
  refine s_iconst (v := 0) (q := 44) d_C_refine_43 rfl ki_0 ?_
  refine s_istore (q := 46) d_C_refine_44 rfl (by decide) ?_
  exact s_lv (lv' := [(0, .ref 0), (2, .int g), (3, .int ap), (4, .ref (4 + 55 * t)), (5, .int (nI 0))]) ⟨rfl, rfl, rfl, rfl, rfl, trivial⟩ (lp_refine ht 8 0 X rfl hZ)
abbrev FrmOK (f : Int32) : Prop := ¬ f < 0 ∧ f ≤ 2
theorem t_C_sheet_N {X : RAM} {x f n : Int32} (hz : x < 0 ∨ 4 ≤ x) : CG l D ac b y_C_sheet c_C_sheet 5 (some .int) 2 45 [.ref 0, .int x, .int f, .int n] X (some (.int (-2))) (X) := by
  refine Ct_of false (by decide) (fun h => by cases h) (Nat.le_of_ble_eq_true rfl) ?_
  show V l D ac b "SpanStore" c_C_sheet 5 (some .int) false 2 45 0 0 ((some (.int (-2))), 144, mk (X)) 0 0 0 [(0, .ref 0), (1, .int x), (2, .int f), (3, .int n)] [] 144 (mk X)
  refine s_aload_n (q := 1) d_C_sheet_0 rfl rfl (Or.inr ⟨_, rfl⟩) ?_
  refine s_iload_n (q := 2) d_C_sheet_1 rfl rfl ?_
  refine g_callV (q := 5) d_C_sheet_2 rfl ml_C_53 mx_C_sheetAt mv_C_sheetAt (t_C_sheetAt_no hz) hC.1 rfl rfl (Nat.le_of_ble_eq_true rfl) (by decide) ?_
  refine s_astore (q := 7) d_C_sheet_5 rfl (by decide) (Or.inl rfl) ?_
  refine s_aload (q := 9) d_C_sheet_7 rfl rfl (Or.inl rfl) ?_
  refine s_ifnull_n (tgt := 25) d_C_sheet_9 (by decide) ?_
  refine s_bipush (v := (-2)) (q := 27) d_C_sheet_25 rfl kb_m2 ?_
  exact g_iret d_C_sheet_27 rfl rfl rfl rfl
theorem t_C_sheet_F {X : RAM} {k : Nat} {f n : Int32} (hk : k < 4) (hf : ¬ FrmOK f) : CG l D ac b y_C_sheet c_C_sheet 5 (some .int) 2 45 [.ref 0, .int (nI k), .int f, .int n] X (some (.int (-2))) (X) := by
  refine Ct_of false (by decide) (fun h => by cases h) (Nat.le_of_ble_eq_true rfl) ?_
  show V l D ac b "SpanStore" c_C_sheet 5 (some .int) false 2 45 0 0 ((some (.int (-2))), 144, mk (X)) 0 0 0 [(0, .ref 0), (1, .int (nI k)), (2, .int f), (3, .int n)] [] 144 (mk X)
  refine s_aload_n (q := 1) d_C_sheet_0 rfl rfl (Or.inr ⟨_, rfl⟩) ?_
  refine s_iload_n (q := 2) d_C_sheet_1 rfl rfl ?_
  refine g_callV (q := 5) d_C_sheet_2 rfl ml_C_53 mx_C_sheetAt mv_C_sheetAt (t_C_sheetAt_ok hk) hC.1 rfl rfl (Nat.le_of_ble_eq_true rfl) (by decide) ?_
  refine s_astore (q := 7) d_C_sheet_5 rfl (by decide) (Or.inr ⟨_, rfl⟩) ?_
  refine s_aload (q := 9) d_C_sheet_7 rfl rfl (Or.inr ⟨_, rfl⟩) ?_
  refine s_ifnull_r (q := 12) d_C_sheet_9 rfl ?_
  refine s_iload_n (q := 13) d_C_sheet_12 rfl rfl ?_
  refine g_callS (q := 16) d_C_sheet_13 rfl ml_C_158 mx_C_isForm ms_C_isForm t_C_isForm rfl rfl (Nat.le_of_ble_eq_true rfl) (by decide) ?_
  refine s_if_eq (tgt := 25) (q := 19) d_C_sheet_16 (by decide) rfl (fun _ => ?_) (fun z9 => absurd (bI_d.mpr hf) z9)
  refine s_bipush (v := (-2)) (q := 27) d_C_sheet_25 rfl kb_m2 ?_
  exact g_iret d_C_sheet_27 rfl rfl rfl rfl
theorem t_C_sheet_B {X : RAM} {k : Nat} {f n : Int32} (hk : k < 4) (hf : FrmOK f) (hn : 40 < n) : CG l D ac b y_C_sheet c_C_sheet 5 (some .int) 2 45 [.ref 0, .int (nI k), .int f, .int n] X (some (.int (-2))) (X) := by
  refine Ct_of false (by decide) (fun h => by cases h) (Nat.le_of_ble_eq_true rfl) ?_
  show V l D ac b "SpanStore" c_C_sheet 5 (some .int) false 2 45 0 0 ((some (.int (-2))), 144, mk (X)) 0 0 0 [(0, .ref 0), (1, .int (nI k)), (2, .int f), (3, .int n)] [] 144 (mk X)
  refine s_aload_n (q := 1) d_C_sheet_0 rfl rfl (Or.inr ⟨_, rfl⟩) ?_
  refine s_iload_n (q := 2) d_C_sheet_1 rfl rfl ?_
  refine g_callV (q := 5) d_C_sheet_2 rfl ml_C_53 mx_C_sheetAt mv_C_sheetAt (t_C_sheetAt_ok hk) hC.1 rfl rfl (Nat.le_of_ble_eq_true rfl) (by decide) ?_
  refine s_astore (q := 7) d_C_sheet_5 rfl (by decide) (Or.inr ⟨_, rfl⟩) ?_
  refine s_aload (q := 9) d_C_sheet_7 rfl rfl (Or.inr ⟨_, rfl⟩) ?_
  refine s_ifnull_r (q := 12) d_C_sheet_9 rfl ?_
  refine s_iload_n (q := 13) d_C_sheet_12 rfl rfl ?_
  refine g_callS (q := 16) d_C_sheet_13 rfl ml_C_158 mx_C_isForm ms_C_isForm t_C_isForm rfl rfl (Nat.le_of_ble_eq_true rfl) (by decide) ?_
  refine s_if_eq (tgt := 25) (q := 19) d_C_sheet_16 (by decide) rfl (fun z9 => absurd z9 (bI_dn.mpr hf)) (fun _ => ?_)
  refine s_iload_n (q := 20) d_C_sheet_19 rfl rfl ?_
  refine s_bipush (v := 40) (q := 22) d_C_sheet_20 rfl kb_40 ?_
  refine s_icmp_le (tgt := 28) (q := 25) d_C_sheet_22 (by decide) rfl (fun z9 => absurd z9 (i_nle.mpr hn)) (fun _ => ?_)
  refine s_bipush (v := (-2)) (q := 27) d_C_sheet_25 rfl kb_m2 ?_
  exact g_iret d_C_sheet_27 rfl rfl rfl rfl
theorem t_C_sheet_Z {X : RAM} {k : Nat} {f n : Int32} (hk : k < 4) (hf : FrmOK f) (hn : n < 0) : CG l D ac b y_C_sheet c_C_sheet 5 (some .int) 2 45 [.ref 0, .int (nI k), .int f, .int n] X (some (.int (-15))) (up2 X 0 4 5) := by
  refine Ct_of false (by decide) (fun h => by cases h) (Nat.le_of_ble_eq_true rfl) ?_
  show V l D ac b "SpanStore" c_C_sheet 5 (some .int) false 2 45 0 0 ((some (.int (-15))), 144, mk (up2 X 0 4 5)) 0 0 0 [(0, .ref 0), (1, .int (nI k)), (2, .int f), (3, .int n)] [] 144 (mk X)
  refine s_aload_n (q := 1) d_C_sheet_0 rfl rfl (Or.inr ⟨_, rfl⟩) ?_
  refine s_iload_n (q := 2) d_C_sheet_1 rfl rfl ?_
  refine g_callV (q := 5) d_C_sheet_2 rfl ml_C_53 mx_C_sheetAt mv_C_sheetAt (t_C_sheetAt_ok hk) hC.1 rfl rfl (Nat.le_of_ble_eq_true rfl) (by decide) ?_
  refine s_astore (q := 7) d_C_sheet_5 rfl (by decide) (Or.inr ⟨_, rfl⟩) ?_
  refine s_aload (q := 9) d_C_sheet_7 rfl rfl (Or.inr ⟨_, rfl⟩) ?_
  refine s_ifnull_r (q := 12) d_C_sheet_9 rfl ?_
  refine s_iload_n (q := 13) d_C_sheet_12 rfl rfl ?_
  refine g_callS (q := 16) d_C_sheet_13 rfl ml_C_158 mx_C_isForm ms_C_isForm t_C_isForm rfl rfl (Nat.le_of_ble_eq_true rfl) (by decide) ?_
  refine s_if_eq (tgt := 25) (q := 19) d_C_sheet_16 (by decide) rfl (fun z9 => absurd z9 (bI_dn.mpr hf)) (fun _ => ?_)
  refine s_iload_n (q := 20) d_C_sheet_19 rfl rfl ?_
  refine s_bipush (v := 40) (q := 22) d_C_sheet_20 rfl kb_40 ?_
  refine s_icmp_le (tgt := 28) (q := 25) d_C_sheet_22 (by decide) rfl (fun _ => ?_) (fun z9 => absurd (by simp only [i_le, i_lt, tI_0, tI_40] at *; omega) z9)
  refine s_iload_n (q := 29) d_C_sheet_28 rfl rfl ?_
  refine s_if_ge (tgt := 38) (q := 32) d_C_sheet_29 (by decide) rfl (fun z9 => absurd z9 (i_nle.mpr hn)) (fun _ => ?_)
  refine s_aload_n (q := 33) d_C_sheet_32 rfl rfl (Or.inr ⟨_, rfl⟩) ?_
  refine s_iconst (v := 5) (q := 34) d_C_sheet_33 rfl ki_5 ?_
  refine g_callV (q := 37) d_C_sheet_34 rfl ml_C_60 mx_C_found mv_C_found t_C_found hC.1 rfl rfl (Nat.le_of_ble_eq_true rfl) (by decide) ?_
  exact g_iret d_C_sheet_37 rfl rfl (by decide) rfl
def shX (X : RAM) (k m : Nat) (f : Int32) : RAM := up2 (up2 (up2 (filA X (114 + 2 * k + 1) 40 0) (114 + 2 * k) 1 f) (114 + 2 * k) 2 (nI m)) (114 + 2 * k) 3 0
theorem t_C_sheet_D {X : RAM} {k m : Nat} {f : Int32} (hk : k < 4) (hf : FrmOK f) (hm : m ≤ 40) : CG l D ac b y_C_sheet c_C_sheet 5 (some .int) 2 45 [.ref 0, .int (nI k), .int f, .int (nI m)] X (some (.int (nI m))) (shX X k m f) := by
  refine Ct_of false (by decide) (fun h => by cases h) (Nat.le_of_ble_eq_true rfl) ?_
  show V l D ac b "SpanStore" c_C_sheet 5 (some .int) false 2 45 0 0 ((some (.int (nI m))), 144, mk (shX X k m f)) 0 0 0 [(0, .ref 0), (1, .int (nI k)), (2, .int f), (3, .int (nI m))] [] 144 (mk X)
  refine s_aload_n (q := 1) d_C_sheet_0 rfl rfl (Or.inr ⟨_, rfl⟩) ?_
  refine s_iload_n (q := 2) d_C_sheet_1 rfl rfl ?_
  refine g_callV (q := 5) d_C_sheet_2 rfl ml_C_53 mx_C_sheetAt mv_C_sheetAt (t_C_sheetAt_ok hk) hC.1 rfl rfl (Nat.le_of_ble_eq_true rfl) (by decide) ?_
  refine s_astore (q := 7) d_C_sheet_5 rfl (by decide) (Or.inr ⟨_, rfl⟩) ?_
  refine s_aload (q := 9) d_C_sheet_7 rfl rfl (Or.inr ⟨_, rfl⟩) ?_
  refine s_ifnull_r (q := 12) d_C_sheet_9 rfl ?_
  refine s_iload_n (q := 13) d_C_sheet_12 rfl rfl ?_
  refine g_callS (q := 16) d_C_sheet_13 rfl ml_C_158 mx_C_isForm ms_C_isForm t_C_isForm rfl rfl (Nat.le_of_ble_eq_true rfl) (by decide) ?_
  refine s_if_eq (tgt := 25) (q := 19) d_C_sheet_16 (by decide) rfl (fun z9 => absurd z9 (bI_dn.mpr hf)) (fun _ => ?_)
  refine s_iload_n (q := 20) d_C_sheet_19 rfl rfl ?_
  refine s_bipush (v := 40) (q := 22) d_C_sheet_20 rfl kb_40 ?_
  refine s_icmp_le (tgt := 28) (q := 25) d_C_sheet_22 (by decide) rfl (fun _ => ?_) (fun z9 => absurd (nI_le (a := m) (b := 40) hm (by decide)) z9)
  refine s_iload_n (q := 29) d_C_sheet_28 rfl rfl ?_
  refine s_if_ge (tgt := 38) (q := 32) d_C_sheet_29 (by decide) rfl (fun _ => ?_) (fun z9 => absurd (nI_pos' (by omega)) z9)
  refine s_aload (q := 40) d_C_sheet_38 rfl rfl (Or.inr ⟨_, rfl⟩) ?_
  refine s_iload_n (q := 41) d_C_sheet_40 rfl rfl ?_
  refine s_iload_n (q := 42) d_C_sheet_41 rfl rfl ?_
  refine g_callV (q := 45) d_C_sheet_42 rfl ml_C_161 mx_S_renew mv_S_renew (t_S_renew (hC.2.2.2.2.2 _ hk)) (hC.2.2.2.2.2 _ hk).1 rfl rfl (Nat.le_of_ble_eq_true rfl) (by decide) ?_
  refine s_iload_n (q := 46) d_C_sheet_45 rfl rfl ?_
  exact g_iret d_C_sheet_46 rfl rfl rfl rfl
theorem t_C_lose_N {X : RAM} {x : Int32} (hz : x < 0 ∨ 4 ≤ x) : CG l D ac b y_C_lose c_C_lose 3 (some .int) 1 21 [.ref 0, .int x] X (some (.int (-2))) (X) := by
  refine Ct_of false (by decide) (fun h => by cases h) (Nat.le_of_ble_eq_true rfl) ?_
  show V l D ac b "SpanStore" c_C_lose 3 (some .int) false 1 21 0 0 ((some (.int (-2))), 144, mk (X)) 0 0 0 [(0, .ref 0), (1, .int x)] [] 144 (mk X)
  refine s_aload_n (q := 1) d_C_lose_0 rfl rfl (Or.inr ⟨_, rfl⟩) ?_
  refine s_iload_n (q := 2) d_C_lose_1 rfl rfl ?_
  refine g_callV (q := 5) d_C_lose_2 rfl ml_C_53 mx_C_sheetAt mv_C_sheetAt (t_C_sheetAt_no hz) hC.1 rfl rfl (Nat.le_of_ble_eq_true rfl) (by decide) ?_
  refine s_astore_n (q := 6) d_C_lose_5 rfl (by decide) (Or.inl rfl) ?_
  refine s_aload_n (q := 7) d_C_lose_6 rfl rfl (Or.inl rfl) ?_
  refine s_ifnonnull_n (q := 10) d_C_lose_7 rfl ?_
  refine s_bipush (v := (-2)) (q := 12) d_C_lose_10 rfl kb_m2 ?_
  exact g_iret d_C_lose_12 rfl rfl rfl rfl
theorem t_C_lose_L {X : RAM} {k : Nat} (hk : k < 4) (hl : ¬ X (114 + 2 * k) 3 = 0) : CG l D ac b y_C_lose c_C_lose 3 (some .int) 1 21 [.ref 0, .int (nI k)] X (some (.int (-11))) (up2 X 0 4 1) := by
  refine Ct_of false (by decide) (fun h => by cases h) (Nat.le_of_ble_eq_true rfl) ?_
  show V l D ac b "SpanStore" c_C_lose 3 (some .int) false 1 21 0 0 ((some (.int (-11))), 144, mk (up2 X 0 4 1)) 0 0 0 [(0, .ref 0), (1, .int (nI k))] [] 144 (mk X)
  refine s_aload_n (q := 1) d_C_lose_0 rfl rfl (Or.inr ⟨_, rfl⟩) ?_
  refine s_iload_n (q := 2) d_C_lose_1 rfl rfl ?_
  refine g_callV (q := 5) d_C_lose_2 rfl ml_C_53 mx_C_sheetAt mv_C_sheetAt (t_C_sheetAt_ok hk) hC.1 rfl rfl (Nat.le_of_ble_eq_true rfl) (by decide) ?_
  refine s_astore_n (q := 6) d_C_lose_5 rfl (by decide) (Or.inr ⟨_, rfl⟩) ?_
  refine s_aload_n (q := 7) d_C_lose_6 rfl rfl (Or.inr ⟨_, rfl⟩) ?_
  refine s_ifnonnull_r (tgt := 13) d_C_lose_7 (by decide) ?_
  refine s_aload_n (q := 14) d_C_lose_13 rfl rfl (Or.inr ⟨_, rfl⟩) ?_
  refine g_geti (q := 17) d_C_lose_14 rfl fl_C_57 (hC.2.2.2.2.2 _ hk).1 rfl ?_
  refine s_if_eq (tgt := 26) (q := 20) d_C_lose_17 (by decide) rfl (fun z9 => absurd z9 hl) (fun _ => ?_)
  refine s_aload_n (q := 21) d_C_lose_20 rfl rfl (Or.inr ⟨_, rfl⟩) ?_
  refine s_iconst (v := 1) (q := 22) d_C_lose_21 rfl ki_1 ?_
  refine g_callV (q := 25) d_C_lose_22 rfl ml_C_60 mx_C_found mv_C_found t_C_found hC.1 rfl rfl (Nat.le_of_ble_eq_true rfl) (by decide) ?_
  exact g_iret d_C_lose_25 rfl rfl (by decide) rfl
theorem t_C_lose_D {X : RAM} {k : Nat} (hk : k < 4) (hl : X (114 + 2 * k) 3 = 0) : CG l D ac b y_C_lose c_C_lose 3 (some .int) 1 21 [.ref 0, .int (nI k)] X (some (.int (X (114 + 2 * k) 2))) (up2 X (114 + 2 * k) 3 1) := by
  refine Ct_of false (by decide) (fun h => by cases h) (Nat.le_of_ble_eq_true rfl) ?_
  show V l D ac b "SpanStore" c_C_lose 3 (some .int) false 1 21 0 0 ((some (.int (X (114 + 2 * k) 2))), 144, mk (up2 X (114 + 2 * k) 3 1)) 0 0 0 [(0, .ref 0), (1, .int (nI k))] [] 144 (mk X)
  refine s_aload_n (q := 1) d_C_lose_0 rfl rfl (Or.inr ⟨_, rfl⟩) ?_
  refine s_iload_n (q := 2) d_C_lose_1 rfl rfl ?_
  refine g_callV (q := 5) d_C_lose_2 rfl ml_C_53 mx_C_sheetAt mv_C_sheetAt (t_C_sheetAt_ok hk) hC.1 rfl rfl (Nat.le_of_ble_eq_true rfl) (by decide) ?_
  refine s_astore_n (q := 6) d_C_lose_5 rfl (by decide) (Or.inr ⟨_, rfl⟩) ?_
  refine s_aload_n (q := 7) d_C_lose_6 rfl rfl (Or.inr ⟨_, rfl⟩) ?_
  refine s_ifnonnull_r (tgt := 13) d_C_lose_7 (by decide) ?_
  refine s_aload_n (q := 14) d_C_lose_13 rfl rfl (Or.inr ⟨_, rfl⟩) ?_
  refine g_geti (q := 17) d_C_lose_14 rfl fl_C_57 (hC.2.2.2.2.2 _ hk).1 rfl ?_
  refine s_if_eq (tgt := 26) (q := 20) d_C_lose_17 (by decide) rfl (fun _ => ?_) (fun z9 => absurd hl z9)
  refine s_aload_n (q := 27) d_C_lose_26 rfl rfl (Or.inr ⟨_, rfl⟩) ?_
  refine s_iconst (v := 1) (q := 28) d_C_lose_27 rfl ki_1 ?_
  refine g_puti (q := 31) d_C_lose_28 rfl fl_C_57 rfl (okB (by first | exact Or.inl rfl | exact Or.inr rfl | assumption)) (hC.2.2.2.2.2 _ hk).1 rfl ?_
  refine s_aload_n (q := 32) d_C_lose_31 rfl rfl (Or.inr ⟨_, rfl⟩) ?_
  refine g_getv (v := X (114 + 2 * k) 2) (q := 35) d_C_lose_32 rfl fl_C_64 (hC.2.2.2.2.2 _ hk).1 rfl (up2_same (by decide)) ?_
  exact g_iret d_C_lose_35 rfl rfl rfl rfl
theorem fault_0 {X : RAM} {o n k : Nat} {f : Int32} (h3 : X o 3 = 0) (h1 : X o 1 = f) (h2 : X o 2 = nI n) (hk : k < n) (hn : n ≤ 40) : faultV X o f (nI k) = 0 := by
  unfold faultV
  rw [if_pos h3, if_pos h1, if_neg (nI_pos (by omega)), h2, if_neg (nI_ge hk (by omega))]
theorem fault_1 {X : RAM} {o : Nat} {f i : Int32} (h3 : ¬ X o 3 = 0) : faultV X o f i = 1 := by
  unfold faultV
  rw [if_neg h3]
theorem fault_3 {X : RAM} {o : Nat} {f i : Int32} (h3 : X o 3 = 0) (h1 : ¬ X o 1 = f) : faultV X o f i = 3 := by
  unfold faultV
  rw [if_pos h3, if_neg h1]
theorem fault_2 {X : RAM} {o n : Nat} {f i : Int32} (h3 : X o 3 = 0) (h1 : X o 1 = f) (h2 : X o 2 = nI n) (hi : i < 0 ∨ nI n ≤ i) : faultV X o f i = 2 := by
  unfold faultV
  rw [if_pos h3, if_pos h1, h2]
  by_cases h : i < 0
  · rw [if_pos h]
  · rw [if_neg h, if_pos (hi.resolve_left h)]
theorem t_C_put_N {X : RAM} {x f i v : Int32} (hz : x < 0 ∨ 4 ≤ x) : CG l D ac b y_C_put c_C_put 7 (some .int) 2 43 [.ref 0, .int x, .int f, .int i, .int v] X (some (.int (-2))) (X) := by
  refine Ct_of false (by decide) (fun h => by cases h) (Nat.le_of_ble_eq_true rfl) ?_
  show V l D ac b "SpanStore" c_C_put 7 (some .int) false 2 43 0 0 ((some (.int (-2))), 144, mk (X)) 0 0 0 [(0, .ref 0), (1, .int x), (2, .int f), (3, .int i), (4, .int v)] [] 144 (mk X)
  refine s_aload_n (q := 1) d_C_put_0 rfl rfl (Or.inr ⟨_, rfl⟩) ?_
  refine s_iload_n (q := 2) d_C_put_1 rfl rfl ?_
  refine g_callV (q := 5) d_C_put_2 rfl ml_C_53 mx_C_sheetAt mv_C_sheetAt (t_C_sheetAt_no hz) hC.1 rfl rfl (Nat.le_of_ble_eq_true rfl) (by decide) ?_
  refine s_astore (q := 7) d_C_put_5 rfl (by decide) (Or.inl rfl) ?_
  refine s_aload (q := 9) d_C_put_7 rfl rfl (Or.inl rfl) ?_
  refine s_ifnull_n (tgt := 19) d_C_put_9 (by decide) ?_
  refine s_bipush (v := (-2)) (q := 21) d_C_put_19 rfl kb_m2 ?_
  exact g_iret d_C_put_21 rfl rfl rfl rfl
theorem t_C_put_F {X : RAM} {k : Nat} {f i v : Int32} (hk : k < 4) (hf : ¬ FrmOK f) : CG l D ac b y_C_put c_C_put 7 (some .int) 2 43 [.ref 0, .int (nI k), .int f, .int i, .int v] X (some (.int (-2))) (X) := by
  refine Ct_of false (by decide) (fun h => by cases h) (Nat.le_of_ble_eq_true rfl) ?_
  show V l D ac b "SpanStore" c_C_put 7 (some .int) false 2 43 0 0 ((some (.int (-2))), 144, mk (X)) 0 0 0 [(0, .ref 0), (1, .int (nI k)), (2, .int f), (3, .int i), (4, .int v)] [] 144 (mk X)
  refine s_aload_n (q := 1) d_C_put_0 rfl rfl (Or.inr ⟨_, rfl⟩) ?_
  refine s_iload_n (q := 2) d_C_put_1 rfl rfl ?_
  refine g_callV (q := 5) d_C_put_2 rfl ml_C_53 mx_C_sheetAt mv_C_sheetAt (t_C_sheetAt_ok hk) hC.1 rfl rfl (Nat.le_of_ble_eq_true rfl) (by decide) ?_
  refine s_astore (q := 7) d_C_put_5 rfl (by decide) (Or.inr ⟨_, rfl⟩) ?_
  refine s_aload (q := 9) d_C_put_7 rfl rfl (Or.inr ⟨_, rfl⟩) ?_
  refine s_ifnull_r (q := 12) d_C_put_9 rfl ?_
  refine s_iload_n (q := 13) d_C_put_12 rfl rfl ?_
  refine g_callS (q := 16) d_C_put_13 rfl ml_C_158 mx_C_isForm ms_C_isForm t_C_isForm rfl rfl (Nat.le_of_ble_eq_true rfl) (by decide) ?_
  refine s_if_ne (tgt := 22) (q := 19) d_C_put_16 (by decide) rfl (fun z9 => absurd (bI_d.mpr hf) z9) (fun _ => ?_)
  refine s_bipush (v := (-2)) (q := 21) d_C_put_19 rfl kb_m2 ?_
  exact g_iret d_C_put_21 rfl rfl rfl rfl
theorem t_C_put_1 {X : RAM} {k : Nat} {f i v : Int32} (hk : k < 4) (hf : FrmOK f) (hq : faultV X (114 + 2 * k) f i = 1) : CG l D ac b y_C_put c_C_put 7 (some .int) 2 43 [.ref 0, .int (nI k), .int f, .int i, .int v] X (some (.int (-11))) (up2 X 0 4 1) := by
  refine Ct_of false (by decide) (fun h => by cases h) (Nat.le_of_ble_eq_true rfl) ?_
  show V l D ac b "SpanStore" c_C_put 7 (some .int) false 2 43 0 0 ((some (.int (-11))), 144, mk (up2 X 0 4 1)) 0 0 0 [(0, .ref 0), (1, .int (nI k)), (2, .int f), (3, .int i), (4, .int v)] [] 144 (mk X)
  refine s_aload_n (q := 1) d_C_put_0 rfl rfl (Or.inr ⟨_, rfl⟩) ?_
  refine s_iload_n (q := 2) d_C_put_1 rfl rfl ?_
  refine g_callV (q := 5) d_C_put_2 rfl ml_C_53 mx_C_sheetAt mv_C_sheetAt (t_C_sheetAt_ok hk) hC.1 rfl rfl (Nat.le_of_ble_eq_true rfl) (by decide) ?_
  refine s_astore (q := 7) d_C_put_5 rfl (by decide) (Or.inr ⟨_, rfl⟩) ?_
  refine s_aload (q := 9) d_C_put_7 rfl rfl (Or.inr ⟨_, rfl⟩) ?_
  refine s_ifnull_r (q := 12) d_C_put_9 rfl ?_
  refine s_iload_n (q := 13) d_C_put_12 rfl rfl ?_
  refine g_callS (q := 16) d_C_put_13 rfl ml_C_158 mx_C_isForm ms_C_isForm t_C_isForm rfl rfl (Nat.le_of_ble_eq_true rfl) (by decide) ?_
  refine s_if_ne (tgt := 22) (q := 19) d_C_put_16 (by decide) rfl (fun _ => ?_) (fun z9 => absurd z9 (bI_dn.mpr hf))
  refine s_aload (q := 24) d_C_put_22 rfl rfl (Or.inr ⟨_, rfl⟩) ?_
  refine s_iload_n (q := 25) d_C_put_24 rfl rfl ?_
  refine s_iload_n (q := 26) d_C_put_25 rfl rfl ?_
  refine g_callV (q := 29) d_C_put_26 rfl ml_C_164 mx_S_faultOf mv_S_faultOf (t_S_faultOf (hC.2.2.2.2.2 _ hk)) (hC.2.2.2.2.2 _ hk).1 rfl rfl (Nat.le_of_ble_eq_true rfl) (by decide) ?_
  rw [hq]
  refine s_istore (q := 31) d_C_put_29 rfl (by decide) ?_
  refine s_iload (q := 33) d_C_put_31 rfl rfl ?_
  refine s_if_eq (tgt := 43) (q := 36) d_C_put_33 (by decide) rfl (fun z9 => absurd z9 (by decide)) (fun _ => ?_)
  refine s_aload_n (q := 37) d_C_put_36 rfl rfl (Or.inr ⟨_, rfl⟩) ?_
  refine s_iload (q := 39) d_C_put_37 rfl rfl ?_
  refine g_callV (q := 42) d_C_put_39 rfl ml_C_60 mx_C_found mv_C_found t_C_found hC.1 rfl rfl (Nat.le_of_ble_eq_true rfl) (by decide) ?_
  exact g_iret d_C_put_42 rfl rfl (by decide) rfl
theorem t_C_get_1 {X : RAM} {k : Nat} {f i : Int32} (hk : k < 4) (hf : FrmOK f) (hq : faultV X (114 + 2 * k) f i = 1) : CG l D ac b y_C_get c_C_get 6 (some .int) 1 22 [.ref 0, .int (nI k), .int f, .int i] X (some (.int (-2147483648))) (up2 X 0 4 1) := by
  refine Ct_of false (by decide) (fun h => by cases h) (Nat.le_of_ble_eq_true rfl) ?_
  show V l D ac b "SpanStore" c_C_get 6 (some .int) false 1 22 0 0 ((some (.int (-2147483648))), 144, mk (up2 X 0 4 1)) 0 0 0 [(0, .ref 0), (1, .int (nI k)), (2, .int f), (3, .int i)] [] 144 (mk X)
  refine s_aload_n (q := 1) d_C_get_0 rfl rfl (Or.inr ⟨_, rfl⟩) ?_
  refine s_iload_n (q := 2) d_C_get_1 rfl rfl ?_
  refine g_callV (q := 5) d_C_get_2 rfl ml_C_53 mx_C_sheetAt mv_C_sheetAt (t_C_sheetAt_ok hk) hC.1 rfl rfl (Nat.le_of_ble_eq_true rfl) (by decide) ?_
  refine s_astore (q := 7) d_C_get_5 rfl (by decide) (Or.inr ⟨_, rfl⟩) ?_
  refine s_aload (q := 9) d_C_get_7 rfl rfl (Or.inr ⟨_, rfl⟩) ?_
  refine s_ifnull_r (q := 12) d_C_get_9 rfl ?_
  refine s_iload_n (q := 13) d_C_get_12 rfl rfl ?_
  refine g_callS (q := 16) d_C_get_13 rfl ml_C_158 mx_C_isForm ms_C_isForm t_C_isForm rfl rfl (Nat.le_of_ble_eq_true rfl) (by decide) ?_
  refine s_if_ne (tgt := 22) (q := 19) d_C_get_16 (by decide) rfl (fun _ => ?_) (fun z9 => absurd z9 (bI_dn.mpr hf))
  refine s_aload (q := 24) d_C_get_22 rfl rfl (Or.inr ⟨_, rfl⟩) ?_
  refine s_iload_n (q := 25) d_C_get_24 rfl rfl ?_
  refine s_iload_n (q := 26) d_C_get_25 rfl rfl ?_
  refine g_callV (q := 29) d_C_get_26 rfl ml_C_164 mx_S_faultOf mv_S_faultOf (t_S_faultOf (hC.2.2.2.2.2 _ hk)) (hC.2.2.2.2.2 _ hk).1 rfl rfl (Nat.le_of_ble_eq_true rfl) (by decide) ?_
  rw [hq]
  refine s_istore (q := 31) d_C_get_29 rfl (by decide) ?_
  refine s_iload (q := 33) d_C_get_31 rfl rfl ?_
  refine s_if_eq (tgt := 46) (q := 36) d_C_get_33 (by decide) rfl (fun z9 => absurd z9 (by decide)) (fun _ => ?_)
  refine s_aload_n (q := 37) d_C_get_36 rfl rfl (Or.inr ⟨_, rfl⟩) ?_
  refine s_iload (q := 39) d_C_get_37 rfl rfl ?_
  refine g_callV (q := 42) d_C_get_39 rfl ml_C_60 mx_C_found mv_C_found t_C_found hC.1 rfl rfl (Nat.le_of_ble_eq_true rfl) (by decide) ?_
  refine s_pop (q := 43) d_C_get_42 rfl rfl ?_
  refine s_ldc (q := 45) d_C_get_43 rfl kc_C_111 ?_
  exact g_iret d_C_get_45 rfl rfl rfl rfl
theorem t_C_put_2 {X : RAM} {k : Nat} {f i v : Int32} (hk : k < 4) (hf : FrmOK f) (hq : faultV X (114 + 2 * k) f i = 2) : CG l D ac b y_C_put c_C_put 7 (some .int) 2 43 [.ref 0, .int (nI k), .int f, .int i, .int v] X (some (.int (-12))) (up2 X 0 4 2) := by
  refine Ct_of false (by decide) (fun h => by cases h) (Nat.le_of_ble_eq_true rfl) ?_
  show V l D ac b "SpanStore" c_C_put 7 (some .int) false 2 43 0 0 ((some (.int (-12))), 144, mk (up2 X 0 4 2)) 0 0 0 [(0, .ref 0), (1, .int (nI k)), (2, .int f), (3, .int i), (4, .int v)] [] 144 (mk X)
  refine s_aload_n (q := 1) d_C_put_0 rfl rfl (Or.inr ⟨_, rfl⟩) ?_
  refine s_iload_n (q := 2) d_C_put_1 rfl rfl ?_
  refine g_callV (q := 5) d_C_put_2 rfl ml_C_53 mx_C_sheetAt mv_C_sheetAt (t_C_sheetAt_ok hk) hC.1 rfl rfl (Nat.le_of_ble_eq_true rfl) (by decide) ?_
  refine s_astore (q := 7) d_C_put_5 rfl (by decide) (Or.inr ⟨_, rfl⟩) ?_
  refine s_aload (q := 9) d_C_put_7 rfl rfl (Or.inr ⟨_, rfl⟩) ?_
  refine s_ifnull_r (q := 12) d_C_put_9 rfl ?_
  refine s_iload_n (q := 13) d_C_put_12 rfl rfl ?_
  refine g_callS (q := 16) d_C_put_13 rfl ml_C_158 mx_C_isForm ms_C_isForm t_C_isForm rfl rfl (Nat.le_of_ble_eq_true rfl) (by decide) ?_
  refine s_if_ne (tgt := 22) (q := 19) d_C_put_16 (by decide) rfl (fun _ => ?_) (fun z9 => absurd z9 (bI_dn.mpr hf))
  refine s_aload (q := 24) d_C_put_22 rfl rfl (Or.inr ⟨_, rfl⟩) ?_
  refine s_iload_n (q := 25) d_C_put_24 rfl rfl ?_
  refine s_iload_n (q := 26) d_C_put_25 rfl rfl ?_
  refine g_callV (q := 29) d_C_put_26 rfl ml_C_164 mx_S_faultOf mv_S_faultOf (t_S_faultOf (hC.2.2.2.2.2 _ hk)) (hC.2.2.2.2.2 _ hk).1 rfl rfl (Nat.le_of_ble_eq_true rfl) (by decide) ?_
  rw [hq]
  refine s_istore (q := 31) d_C_put_29 rfl (by decide) ?_
  refine s_iload (q := 33) d_C_put_31 rfl rfl ?_
  refine s_if_eq (tgt := 43) (q := 36) d_C_put_33 (by decide) rfl (fun z9 => absurd z9 (by decide)) (fun _ => ?_)
  refine s_aload_n (q := 37) d_C_put_36 rfl rfl (Or.inr ⟨_, rfl⟩) ?_
  refine s_iload (q := 39) d_C_put_37 rfl rfl ?_
  refine g_callV (q := 42) d_C_put_39 rfl ml_C_60 mx_C_found mv_C_found t_C_found hC.1 rfl rfl (Nat.le_of_ble_eq_true rfl) (by decide) ?_
  exact g_iret d_C_put_42 rfl rfl (by decide) rfl
theorem t_C_get_2 {X : RAM} {k : Nat} {f i : Int32} (hk : k < 4) (hf : FrmOK f) (hq : faultV X (114 + 2 * k) f i = 2) : CG l D ac b y_C_get c_C_get 6 (some .int) 1 22 [.ref 0, .int (nI k), .int f, .int i] X (some (.int (-2147483648))) (up2 X 0 4 2) := by
  refine Ct_of false (by decide) (fun h => by cases h) (Nat.le_of_ble_eq_true rfl) ?_
  show V l D ac b "SpanStore" c_C_get 6 (some .int) false 1 22 0 0 ((some (.int (-2147483648))), 144, mk (up2 X 0 4 2)) 0 0 0 [(0, .ref 0), (1, .int (nI k)), (2, .int f), (3, .int i)] [] 144 (mk X)
  refine s_aload_n (q := 1) d_C_get_0 rfl rfl (Or.inr ⟨_, rfl⟩) ?_
  refine s_iload_n (q := 2) d_C_get_1 rfl rfl ?_
  refine g_callV (q := 5) d_C_get_2 rfl ml_C_53 mx_C_sheetAt mv_C_sheetAt (t_C_sheetAt_ok hk) hC.1 rfl rfl (Nat.le_of_ble_eq_true rfl) (by decide) ?_
  refine s_astore (q := 7) d_C_get_5 rfl (by decide) (Or.inr ⟨_, rfl⟩) ?_
  refine s_aload (q := 9) d_C_get_7 rfl rfl (Or.inr ⟨_, rfl⟩) ?_
  refine s_ifnull_r (q := 12) d_C_get_9 rfl ?_
  refine s_iload_n (q := 13) d_C_get_12 rfl rfl ?_
  refine g_callS (q := 16) d_C_get_13 rfl ml_C_158 mx_C_isForm ms_C_isForm t_C_isForm rfl rfl (Nat.le_of_ble_eq_true rfl) (by decide) ?_
  refine s_if_ne (tgt := 22) (q := 19) d_C_get_16 (by decide) rfl (fun _ => ?_) (fun z9 => absurd z9 (bI_dn.mpr hf))
  refine s_aload (q := 24) d_C_get_22 rfl rfl (Or.inr ⟨_, rfl⟩) ?_
  refine s_iload_n (q := 25) d_C_get_24 rfl rfl ?_
  refine s_iload_n (q := 26) d_C_get_25 rfl rfl ?_
  refine g_callV (q := 29) d_C_get_26 rfl ml_C_164 mx_S_faultOf mv_S_faultOf (t_S_faultOf (hC.2.2.2.2.2 _ hk)) (hC.2.2.2.2.2 _ hk).1 rfl rfl (Nat.le_of_ble_eq_true rfl) (by decide) ?_
  rw [hq]
  refine s_istore (q := 31) d_C_get_29 rfl (by decide) ?_
  refine s_iload (q := 33) d_C_get_31 rfl rfl ?_
  refine s_if_eq (tgt := 46) (q := 36) d_C_get_33 (by decide) rfl (fun z9 => absurd z9 (by decide)) (fun _ => ?_)
  refine s_aload_n (q := 37) d_C_get_36 rfl rfl (Or.inr ⟨_, rfl⟩) ?_
  refine s_iload (q := 39) d_C_get_37 rfl rfl ?_
  refine g_callV (q := 42) d_C_get_39 rfl ml_C_60 mx_C_found mv_C_found t_C_found hC.1 rfl rfl (Nat.le_of_ble_eq_true rfl) (by decide) ?_
  refine s_pop (q := 43) d_C_get_42 rfl rfl ?_
  refine s_ldc (q := 45) d_C_get_43 rfl kc_C_111 ?_
  exact g_iret d_C_get_45 rfl rfl rfl rfl
theorem t_C_put_3 {X : RAM} {k : Nat} {f i v : Int32} (hk : k < 4) (hf : FrmOK f) (hq : faultV X (114 + 2 * k) f i = 3) : CG l D ac b y_C_put c_C_put 7 (some .int) 2 43 [.ref 0, .int (nI k), .int f, .int i, .int v] X (some (.int (-13))) (up2 X 0 4 3) := by
  refine Ct_of false (by decide) (fun h => by cases h) (Nat.le_of_ble_eq_true rfl) ?_
  show V l D ac b "SpanStore" c_C_put 7 (some .int) false 2 43 0 0 ((some (.int (-13))), 144, mk (up2 X 0 4 3)) 0 0 0 [(0, .ref 0), (1, .int (nI k)), (2, .int f), (3, .int i), (4, .int v)] [] 144 (mk X)
  refine s_aload_n (q := 1) d_C_put_0 rfl rfl (Or.inr ⟨_, rfl⟩) ?_
  refine s_iload_n (q := 2) d_C_put_1 rfl rfl ?_
  refine g_callV (q := 5) d_C_put_2 rfl ml_C_53 mx_C_sheetAt mv_C_sheetAt (t_C_sheetAt_ok hk) hC.1 rfl rfl (Nat.le_of_ble_eq_true rfl) (by decide) ?_
  refine s_astore (q := 7) d_C_put_5 rfl (by decide) (Or.inr ⟨_, rfl⟩) ?_
  refine s_aload (q := 9) d_C_put_7 rfl rfl (Or.inr ⟨_, rfl⟩) ?_
  refine s_ifnull_r (q := 12) d_C_put_9 rfl ?_
  refine s_iload_n (q := 13) d_C_put_12 rfl rfl ?_
  refine g_callS (q := 16) d_C_put_13 rfl ml_C_158 mx_C_isForm ms_C_isForm t_C_isForm rfl rfl (Nat.le_of_ble_eq_true rfl) (by decide) ?_
  refine s_if_ne (tgt := 22) (q := 19) d_C_put_16 (by decide) rfl (fun _ => ?_) (fun z9 => absurd z9 (bI_dn.mpr hf))
  refine s_aload (q := 24) d_C_put_22 rfl rfl (Or.inr ⟨_, rfl⟩) ?_
  refine s_iload_n (q := 25) d_C_put_24 rfl rfl ?_
  refine s_iload_n (q := 26) d_C_put_25 rfl rfl ?_
  refine g_callV (q := 29) d_C_put_26 rfl ml_C_164 mx_S_faultOf mv_S_faultOf (t_S_faultOf (hC.2.2.2.2.2 _ hk)) (hC.2.2.2.2.2 _ hk).1 rfl rfl (Nat.le_of_ble_eq_true rfl) (by decide) ?_
  rw [hq]
  refine s_istore (q := 31) d_C_put_29 rfl (by decide) ?_
  refine s_iload (q := 33) d_C_put_31 rfl rfl ?_
  refine s_if_eq (tgt := 43) (q := 36) d_C_put_33 (by decide) rfl (fun z9 => absurd z9 (by decide)) (fun _ => ?_)
  refine s_aload_n (q := 37) d_C_put_36 rfl rfl (Or.inr ⟨_, rfl⟩) ?_
  refine s_iload (q := 39) d_C_put_37 rfl rfl ?_
  refine g_callV (q := 42) d_C_put_39 rfl ml_C_60 mx_C_found mv_C_found t_C_found hC.1 rfl rfl (Nat.le_of_ble_eq_true rfl) (by decide) ?_
  exact g_iret d_C_put_42 rfl rfl (by decide) rfl
theorem t_C_get_3 {X : RAM} {k : Nat} {f i : Int32} (hk : k < 4) (hf : FrmOK f) (hq : faultV X (114 + 2 * k) f i = 3) : CG l D ac b y_C_get c_C_get 6 (some .int) 1 22 [.ref 0, .int (nI k), .int f, .int i] X (some (.int (-2147483648))) (up2 X 0 4 3) := by
  refine Ct_of false (by decide) (fun h => by cases h) (Nat.le_of_ble_eq_true rfl) ?_
  show V l D ac b "SpanStore" c_C_get 6 (some .int) false 1 22 0 0 ((some (.int (-2147483648))), 144, mk (up2 X 0 4 3)) 0 0 0 [(0, .ref 0), (1, .int (nI k)), (2, .int f), (3, .int i)] [] 144 (mk X)
  refine s_aload_n (q := 1) d_C_get_0 rfl rfl (Or.inr ⟨_, rfl⟩) ?_
  refine s_iload_n (q := 2) d_C_get_1 rfl rfl ?_
  refine g_callV (q := 5) d_C_get_2 rfl ml_C_53 mx_C_sheetAt mv_C_sheetAt (t_C_sheetAt_ok hk) hC.1 rfl rfl (Nat.le_of_ble_eq_true rfl) (by decide) ?_
  refine s_astore (q := 7) d_C_get_5 rfl (by decide) (Or.inr ⟨_, rfl⟩) ?_
  refine s_aload (q := 9) d_C_get_7 rfl rfl (Or.inr ⟨_, rfl⟩) ?_
  refine s_ifnull_r (q := 12) d_C_get_9 rfl ?_
  refine s_iload_n (q := 13) d_C_get_12 rfl rfl ?_
  refine g_callS (q := 16) d_C_get_13 rfl ml_C_158 mx_C_isForm ms_C_isForm t_C_isForm rfl rfl (Nat.le_of_ble_eq_true rfl) (by decide) ?_
  refine s_if_ne (tgt := 22) (q := 19) d_C_get_16 (by decide) rfl (fun _ => ?_) (fun z9 => absurd z9 (bI_dn.mpr hf))
  refine s_aload (q := 24) d_C_get_22 rfl rfl (Or.inr ⟨_, rfl⟩) ?_
  refine s_iload_n (q := 25) d_C_get_24 rfl rfl ?_
  refine s_iload_n (q := 26) d_C_get_25 rfl rfl ?_
  refine g_callV (q := 29) d_C_get_26 rfl ml_C_164 mx_S_faultOf mv_S_faultOf (t_S_faultOf (hC.2.2.2.2.2 _ hk)) (hC.2.2.2.2.2 _ hk).1 rfl rfl (Nat.le_of_ble_eq_true rfl) (by decide) ?_
  rw [hq]
  refine s_istore (q := 31) d_C_get_29 rfl (by decide) ?_
  refine s_iload (q := 33) d_C_get_31 rfl rfl ?_
  refine s_if_eq (tgt := 46) (q := 36) d_C_get_33 (by decide) rfl (fun z9 => absurd z9 (by decide)) (fun _ => ?_)
  refine s_aload_n (q := 37) d_C_get_36 rfl rfl (Or.inr ⟨_, rfl⟩) ?_
  refine s_iload (q := 39) d_C_get_37 rfl rfl ?_
  refine g_callV (q := 42) d_C_get_39 rfl ml_C_60 mx_C_found mv_C_found t_C_found hC.1 rfl rfl (Nat.le_of_ble_eq_true rfl) (by decide) ?_
  refine s_pop (q := 43) d_C_get_42 rfl rfl ?_
  refine s_ldc (q := 45) d_C_get_43 rfl kc_C_111 ?_
  exact g_iret d_C_get_45 rfl rfl rfl rfl
theorem t_C_put_D {X : RAM} {k n i : Nat} {f v : Int32} (hk : k < 4) (hf : FrmOK f) (hq : faultV X (114 + 2 * k) f (nI i) = 0) (h2 : X (114 + 2 * k) 2 = nI n) (hi : i < n) (hn : n ≤ 40) : CG l D ac b y_C_put c_C_put 7 (some .int) 2 43 [.ref 0, .int (nI k), .int f, .int (nI i), .int v] X (some (.int 1)) (up2 X (114 + 2 * k + 1) i (cutV (X (114 + 2 * k) 1) v)) := by
  refine Ct_of false (by decide) (fun h => by cases h) (Nat.le_of_ble_eq_true rfl) ?_
  show V l D ac b "SpanStore" c_C_put 7 (some .int) false 2 43 0 0 ((some (.int 1)), 144, mk (up2 X (114 + 2 * k + 1) i (cutV (X (114 + 2 * k) 1) v))) 0 0 0 [(0, .ref 0), (1, .int (nI k)), (2, .int f), (3, .int (nI i)), (4, .int v)] [] 144 (mk X)
  refine s_aload_n (q := 1) d_C_put_0 rfl rfl (Or.inr ⟨_, rfl⟩) ?_
  refine s_iload_n (q := 2) d_C_put_1 rfl rfl ?_
  refine g_callV (q := 5) d_C_put_2 rfl ml_C_53 mx_C_sheetAt mv_C_sheetAt (t_C_sheetAt_ok hk) hC.1 rfl rfl (Nat.le_of_ble_eq_true rfl) (by decide) ?_
  refine s_astore (q := 7) d_C_put_5 rfl (by decide) (Or.inr ⟨_, rfl⟩) ?_
  refine s_aload (q := 9) d_C_put_7 rfl rfl (Or.inr ⟨_, rfl⟩) ?_
  refine s_ifnull_r (q := 12) d_C_put_9 rfl ?_
  refine s_iload_n (q := 13) d_C_put_12 rfl rfl ?_
  refine g_callS (q := 16) d_C_put_13 rfl ml_C_158 mx_C_isForm ms_C_isForm t_C_isForm rfl rfl (Nat.le_of_ble_eq_true rfl) (by decide) ?_
  refine s_if_ne (tgt := 22) (q := 19) d_C_put_16 (by decide) rfl (fun _ => ?_) (fun z9 => absurd z9 (bI_dn.mpr hf))
  refine s_aload (q := 24) d_C_put_22 rfl rfl (Or.inr ⟨_, rfl⟩) ?_
  refine s_iload_n (q := 25) d_C_put_24 rfl rfl ?_
  refine s_iload_n (q := 26) d_C_put_25 rfl rfl ?_
  refine g_callV (q := 29) d_C_put_26 rfl ml_C_164 mx_S_faultOf mv_S_faultOf (t_S_faultOf (hC.2.2.2.2.2 _ hk)) (hC.2.2.2.2.2 _ hk).1 rfl rfl (Nat.le_of_ble_eq_true rfl) (by decide) ?_
  rw [hq]
  refine s_istore (q := 31) d_C_put_29 rfl (by decide) ?_
  refine s_iload (q := 33) d_C_put_31 rfl rfl ?_
  refine s_if_eq (tgt := 43) (q := 36) d_C_put_33 (by decide) rfl (fun _ => ?_) (fun z9 => absurd (by decide) z9)
  refine s_aload (q := 45) d_C_put_43 rfl rfl (Or.inr ⟨_, rfl⟩) ?_
  refine s_iload_n (q := 46) d_C_put_45 rfl rfl ?_
  refine s_iload (q := 48) d_C_put_46 rfl rfl ?_
  refine g_callV (q := 51) d_C_put_48 rfl ml_C_167 mx_S_store mv_S_store (t_S_store (hC.2.2.2.2.2 _ hk) h2 hi hn) (hC.2.2.2.2.2 _ hk).1 rfl rfl (Nat.le_of_ble_eq_true rfl) (by decide) ?_
  refine s_iconst (v := 1) (q := 52) d_C_put_51 rfl ki_1 ?_
  exact g_iret d_C_put_52 rfl rfl rfl rfl
theorem t_C_get_N {X : RAM} {x f i : Int32} (hz : x < 0 ∨ 4 ≤ x) : CG l D ac b y_C_get c_C_get 6 (some .int) 1 22 [.ref 0, .int x, .int f, .int i] X (some (.int (-2147483648))) (X) := by
  refine Ct_of false (by decide) (fun h => by cases h) (Nat.le_of_ble_eq_true rfl) ?_
  show V l D ac b "SpanStore" c_C_get 6 (some .int) false 1 22 0 0 ((some (.int (-2147483648))), 144, mk (X)) 0 0 0 [(0, .ref 0), (1, .int x), (2, .int f), (3, .int i)] [] 144 (mk X)
  refine s_aload_n (q := 1) d_C_get_0 rfl rfl (Or.inr ⟨_, rfl⟩) ?_
  refine s_iload_n (q := 2) d_C_get_1 rfl rfl ?_
  refine g_callV (q := 5) d_C_get_2 rfl ml_C_53 mx_C_sheetAt mv_C_sheetAt (t_C_sheetAt_no hz) hC.1 rfl rfl (Nat.le_of_ble_eq_true rfl) (by decide) ?_
  refine s_astore (q := 7) d_C_get_5 rfl (by decide) (Or.inl rfl) ?_
  refine s_aload (q := 9) d_C_get_7 rfl rfl (Or.inl rfl) ?_
  refine s_ifnull_n (tgt := 19) d_C_get_9 (by decide) ?_
  refine s_ldc (q := 21) d_C_get_19 rfl kc_C_111 ?_
  exact g_iret d_C_get_21 rfl rfl rfl rfl
theorem t_C_get_F {X : RAM} {k : Nat} {f i : Int32} (hk : k < 4) (hf : ¬ FrmOK f) : CG l D ac b y_C_get c_C_get 6 (some .int) 1 22 [.ref 0, .int (nI k), .int f, .int i] X (some (.int (-2147483648))) (X) := by
  refine Ct_of false (by decide) (fun h => by cases h) (Nat.le_of_ble_eq_true rfl) ?_
  show V l D ac b "SpanStore" c_C_get 6 (some .int) false 1 22 0 0 ((some (.int (-2147483648))), 144, mk (X)) 0 0 0 [(0, .ref 0), (1, .int (nI k)), (2, .int f), (3, .int i)] [] 144 (mk X)
  refine s_aload_n (q := 1) d_C_get_0 rfl rfl (Or.inr ⟨_, rfl⟩) ?_
  refine s_iload_n (q := 2) d_C_get_1 rfl rfl ?_
  refine g_callV (q := 5) d_C_get_2 rfl ml_C_53 mx_C_sheetAt mv_C_sheetAt (t_C_sheetAt_ok hk) hC.1 rfl rfl (Nat.le_of_ble_eq_true rfl) (by decide) ?_
  refine s_astore (q := 7) d_C_get_5 rfl (by decide) (Or.inr ⟨_, rfl⟩) ?_
  refine s_aload (q := 9) d_C_get_7 rfl rfl (Or.inr ⟨_, rfl⟩) ?_
  refine s_ifnull_r (q := 12) d_C_get_9 rfl ?_
  refine s_iload_n (q := 13) d_C_get_12 rfl rfl ?_
  refine g_callS (q := 16) d_C_get_13 rfl ml_C_158 mx_C_isForm ms_C_isForm t_C_isForm rfl rfl (Nat.le_of_ble_eq_true rfl) (by decide) ?_
  refine s_if_ne (tgt := 22) (q := 19) d_C_get_16 (by decide) rfl (fun z9 => absurd (bI_d.mpr hf) z9) (fun _ => ?_)
  refine s_ldc (q := 21) d_C_get_19 rfl kc_C_111 ?_
  exact g_iret d_C_get_21 rfl rfl rfl rfl
theorem t_C_get_D {X : RAM} {k n i : Nat} {f : Int32} (hk : k < 4) (hf : FrmOK f) (hq : faultV X (114 + 2 * k) f (nI i) = 0) (h2 : X (114 + 2 * k) 2 = nI n) (hi : i < n) (hn : n ≤ 40) : CG l D ac b y_C_get c_C_get 6 (some .int) 1 22 [.ref 0, .int (nI k), .int f, .int (nI i)] X (some (.int (X (114 + 2 * k + 1) i))) (X) := by
  refine Ct_of false (by decide) (fun h => by cases h) (Nat.le_of_ble_eq_true rfl) ?_
  show V l D ac b "SpanStore" c_C_get 6 (some .int) false 1 22 0 0 ((some (.int (X (114 + 2 * k + 1) i))), 144, mk (X)) 0 0 0 [(0, .ref 0), (1, .int (nI k)), (2, .int f), (3, .int (nI i))] [] 144 (mk X)
  refine s_aload_n (q := 1) d_C_get_0 rfl rfl (Or.inr ⟨_, rfl⟩) ?_
  refine s_iload_n (q := 2) d_C_get_1 rfl rfl ?_
  refine g_callV (q := 5) d_C_get_2 rfl ml_C_53 mx_C_sheetAt mv_C_sheetAt (t_C_sheetAt_ok hk) hC.1 rfl rfl (Nat.le_of_ble_eq_true rfl) (by decide) ?_
  refine s_astore (q := 7) d_C_get_5 rfl (by decide) (Or.inr ⟨_, rfl⟩) ?_
  refine s_aload (q := 9) d_C_get_7 rfl rfl (Or.inr ⟨_, rfl⟩) ?_
  refine s_ifnull_r (q := 12) d_C_get_9 rfl ?_
  refine s_iload_n (q := 13) d_C_get_12 rfl rfl ?_
  refine g_callS (q := 16) d_C_get_13 rfl ml_C_158 mx_C_isForm ms_C_isForm t_C_isForm rfl rfl (Nat.le_of_ble_eq_true rfl) (by decide) ?_
  refine s_if_ne (tgt := 22) (q := 19) d_C_get_16 (by decide) rfl (fun _ => ?_) (fun z9 => absurd z9 (bI_dn.mpr hf))
  refine s_aload (q := 24) d_C_get_22 rfl rfl (Or.inr ⟨_, rfl⟩) ?_
  refine s_iload_n (q := 25) d_C_get_24 rfl rfl ?_
  refine s_iload_n (q := 26) d_C_get_25 rfl rfl ?_
  refine g_callV (q := 29) d_C_get_26 rfl ml_C_164 mx_S_faultOf mv_S_faultOf (t_S_faultOf (hC.2.2.2.2.2 _ hk)) (hC.2.2.2.2.2 _ hk).1 rfl rfl (Nat.le_of_ble_eq_true rfl) (by decide) ?_
  rw [hq]
  refine s_istore (q := 31) d_C_get_29 rfl (by decide) ?_
  refine s_iload (q := 33) d_C_get_31 rfl rfl ?_
  refine s_if_eq (tgt := 46) (q := 36) d_C_get_33 (by decide) rfl (fun _ => ?_) (fun z9 => absurd (by decide) z9)
  refine s_aload (q := 48) d_C_get_46 rfl rfl (Or.inr ⟨_, rfl⟩) ?_
  refine g_getr (q := 51) d_C_get_48 rfl fl_C_65 (hC.2.2.2.2.2 _ hk).1 rfl ?_
  refine s_iload_n (q := 52) d_C_get_51 rfl rfl ?_
  refine g_iald (q := 53) d_C_get_52 rfl (hC.2.2.2.2.2 _ hk).2 (by omega) rfl (by omega) ?_
  exact g_iret d_C_get_53 rfl rfl rfl rfl
theorem t_C_copy_S {X : RAM} {s i u w n : Int32} (hz : s < 0 ∨ 4 ≤ s) : CG l D ac b y_C_copy c_C_copy 8 (some .int) 1 40 [.ref 0, .int s, .int i, .int u, .int w, .int n] X (some (.int (-2))) (X) := by
  rcases ix4 (x := u) with uu | ⟨u, uu, rfl⟩
  · skip
    refine Ct_of false (by decide) (fun h => by cases h) (Nat.le_of_ble_eq_true rfl) ?_
    show V l D ac b "SpanStore" c_C_copy 8 (some .int) false 1 40 0 0 ((some (.int (-2))), 144, mk (X)) 0 0 0 [(0, .ref 0), (1, .int s), (2, .int i), (3, .int u), (4, .int w), (5, .int n)] [] 144 (mk X)
    refine s_aload_n (q := 1) d_C_copy_0 rfl rfl (Or.inr ⟨_, rfl⟩) ?_
    refine s_iload_n (q := 2) d_C_copy_1 rfl rfl ?_
    refine g_callV (q := 5) d_C_copy_2 rfl ml_C_53 mx_C_sheetAt mv_C_sheetAt (t_C_sheetAt_no hz) hC.1 rfl rfl (Nat.le_of_ble_eq_true rfl) (by decide) ?_
    refine s_astore (q := 7) d_C_copy_5 rfl (by decide) (Or.inl rfl) ?_
    refine s_aload_n (q := 8) d_C_copy_7 rfl rfl (Or.inr ⟨_, rfl⟩) ?_
    refine s_iload_n (q := 9) d_C_copy_8 rfl rfl ?_
    refine g_callV (q := 12) d_C_copy_9 rfl ml_C_53 mx_C_sheetAt mv_C_sheetAt (t_C_sheetAt_no uu) hC.1 rfl rfl (Nat.le_of_ble_eq_true rfl) (by decide) ?_
    refine s_astore (q := 14) d_C_copy_12 rfl (by decide) (Or.inl rfl) ?_
    refine s_aload (q := 16) d_C_copy_14 rfl rfl (Or.inl rfl) ?_
    refine s_ifnull_n (tgt := 24) d_C_copy_16 (by decide) ?_
    refine s_bipush (v := (-2)) (q := 26) d_C_copy_24 rfl kb_m2 ?_
    exact g_iret d_C_copy_26 rfl rfl rfl rfl
  · skip
    refine Ct_of false (by decide) (fun h => by cases h) (Nat.le_of_ble_eq_true rfl) ?_
    show V l D ac b "SpanStore" c_C_copy 8 (some .int) false 1 40 0 0 ((some (.int (-2))), 144, mk (X)) 0 0 0 [(0, .ref 0), (1, .int s), (2, .int i), (3, .int (nI u)), (4, .int w), (5, .int n)] [] 144 (mk X)
    refine s_aload_n (q := 1) d_C_copy_0 rfl rfl (Or.inr ⟨_, rfl⟩) ?_
    refine s_iload_n (q := 2) d_C_copy_1 rfl rfl ?_
    refine g_callV (q := 5) d_C_copy_2 rfl ml_C_53 mx_C_sheetAt mv_C_sheetAt (t_C_sheetAt_no hz) hC.1 rfl rfl (Nat.le_of_ble_eq_true rfl) (by decide) ?_
    refine s_astore (q := 7) d_C_copy_5 rfl (by decide) (Or.inl rfl) ?_
    refine s_aload_n (q := 8) d_C_copy_7 rfl rfl (Or.inr ⟨_, rfl⟩) ?_
    refine s_iload_n (q := 9) d_C_copy_8 rfl rfl ?_
    refine g_callV (q := 12) d_C_copy_9 rfl ml_C_53 mx_C_sheetAt mv_C_sheetAt (t_C_sheetAt_ok uu) hC.1 rfl rfl (Nat.le_of_ble_eq_true rfl) (by decide) ?_
    refine s_astore (q := 14) d_C_copy_12 rfl (by decide) (Or.inr ⟨_, rfl⟩) ?_
    refine s_aload (q := 16) d_C_copy_14 rfl rfl (Or.inl rfl) ?_
    refine s_ifnull_n (tgt := 24) d_C_copy_16 (by decide) ?_
    refine s_bipush (v := (-2)) (q := 26) d_C_copy_24 rfl kb_m2 ?_
    exact g_iret d_C_copy_26 rfl rfl rfl rfl
theorem t_C_copy_U {X : RAM} {s : Nat} {i u w n : Int32} (hs : s < 4) (hz : u < 0 ∨ 4 ≤ u) : CG l D ac b y_C_copy c_C_copy 8 (some .int) 1 40 [.ref 0, .int (nI s), .int i, .int u, .int w, .int n] X (some (.int (-2))) (X) := by
  refine Ct_of false (by decide) (fun h => by cases h) (Nat.le_of_ble_eq_true rfl) ?_
  show V l D ac b "SpanStore" c_C_copy 8 (some .int) false 1 40 0 0 ((some (.int (-2))), 144, mk (X)) 0 0 0 [(0, .ref 0), (1, .int (nI s)), (2, .int i), (3, .int u), (4, .int w), (5, .int n)] [] 144 (mk X)
  refine s_aload_n (q := 1) d_C_copy_0 rfl rfl (Or.inr ⟨_, rfl⟩) ?_
  refine s_iload_n (q := 2) d_C_copy_1 rfl rfl ?_
  refine g_callV (q := 5) d_C_copy_2 rfl ml_C_53 mx_C_sheetAt mv_C_sheetAt (t_C_sheetAt_ok hs) hC.1 rfl rfl (Nat.le_of_ble_eq_true rfl) (by decide) ?_
  refine s_astore (q := 7) d_C_copy_5 rfl (by decide) (Or.inr ⟨_, rfl⟩) ?_
  refine s_aload_n (q := 8) d_C_copy_7 rfl rfl (Or.inr ⟨_, rfl⟩) ?_
  refine s_iload_n (q := 9) d_C_copy_8 rfl rfl ?_
  refine g_callV (q := 12) d_C_copy_9 rfl ml_C_53 mx_C_sheetAt mv_C_sheetAt (t_C_sheetAt_no hz) hC.1 rfl rfl (Nat.le_of_ble_eq_true rfl) (by decide) ?_
  refine s_astore (q := 14) d_C_copy_12 rfl (by decide) (Or.inl rfl) ?_
  refine s_aload (q := 16) d_C_copy_14 rfl rfl (Or.inr ⟨_, rfl⟩) ?_
  refine s_ifnull_r (q := 19) d_C_copy_16 rfl ?_
  refine s_aload (q := 21) d_C_copy_19 rfl rfl (Or.inl rfl) ?_
  refine s_ifnonnull_n (q := 24) d_C_copy_21 rfl ?_
  refine s_bipush (v := (-2)) (q := 26) d_C_copy_24 rfl kb_m2 ?_
  exact g_iret d_C_copy_26 rfl rfl rfl rfl
theorem t_C_copy_L {X : RAM} {s u : Nat} {i w n : Int32} (hs : s < 4) (hu : u < 4) (hl : ¬ (X (114 + 2 * s) 3 = 0 ∧ X (114 + 2 * u) 3 = 0)) : CG l D ac b y_C_copy c_C_copy 8 (some .int) 1 40 [.ref 0, .int (nI s), .int i, .int (nI u), .int w, .int n] X (some (.int (-11))) (up2 X 0 4 1) := by
  refine Ct_of false (by decide) (fun h => by cases h) (Nat.le_of_ble_eq_true rfl) ?_
  show V l D ac b "SpanStore" c_C_copy 8 (some .int) false 1 40 0 0 ((some (.int (-11))), 144, mk (up2 X 0 4 1)) 0 0 0 [(0, .ref 0), (1, .int (nI s)), (2, .int i), (3, .int (nI u)), (4, .int w), (5, .int n)] [] 144 (mk X)
  refine s_aload_n (q := 1) d_C_copy_0 rfl rfl (Or.inr ⟨_, rfl⟩) ?_
  refine s_iload_n (q := 2) d_C_copy_1 rfl rfl ?_
  refine g_callV (q := 5) d_C_copy_2 rfl ml_C_53 mx_C_sheetAt mv_C_sheetAt (t_C_sheetAt_ok hs) hC.1 rfl rfl (Nat.le_of_ble_eq_true rfl) (by decide) ?_
  refine s_astore (q := 7) d_C_copy_5 rfl (by decide) (Or.inr ⟨_, rfl⟩) ?_
  refine s_aload_n (q := 8) d_C_copy_7 rfl rfl (Or.inr ⟨_, rfl⟩) ?_
  refine s_iload_n (q := 9) d_C_copy_8 rfl rfl ?_
  refine g_callV (q := 12) d_C_copy_9 rfl ml_C_53 mx_C_sheetAt mv_C_sheetAt (t_C_sheetAt_ok hu) hC.1 rfl rfl (Nat.le_of_ble_eq_true rfl) (by decide) ?_
  refine s_astore (q := 14) d_C_copy_12 rfl (by decide) (Or.inr ⟨_, rfl⟩) ?_
  refine s_aload (q := 16) d_C_copy_14 rfl rfl (Or.inr ⟨_, rfl⟩) ?_
  refine s_ifnull_r (q := 19) d_C_copy_16 rfl ?_
  refine s_aload (q := 21) d_C_copy_19 rfl rfl (Or.inr ⟨_, rfl⟩) ?_
  refine s_ifnonnull_r (tgt := 27) d_C_copy_21 (by decide) ?_
  refine s_aload (q := 29) d_C_copy_27 rfl rfl (Or.inr ⟨_, rfl⟩) ?_
  refine g_geti (q := 32) d_C_copy_29 rfl fl_C_57 (hC.2.2.2.2.2 _ hs).1 rfl ?_
  refine s_if_ne (tgt := 43) (q := 35) d_C_copy_32 (by decide) rfl (fun h_32 => ?_) (fun h_32 => ?_)
  · -- T 32
    refine s_aload_n (q := 44) d_C_copy_43 rfl rfl (Or.inr ⟨_, rfl⟩) ?_
    refine s_iconst (v := 1) (q := 45) d_C_copy_44 rfl ki_1 ?_
    refine g_callV (q := 48) d_C_copy_45 rfl ml_C_60 mx_C_found mv_C_found t_C_found hC.1 rfl rfl (Nat.le_of_ble_eq_true rfl) (by decide) ?_
    exact g_iret d_C_copy_48 rfl rfl (by decide) rfl
  · -- F 32
    refine s_aload (q := 37) d_C_copy_35 rfl rfl (Or.inr ⟨_, rfl⟩) ?_
    refine g_geti (q := 40) d_C_copy_37 rfl fl_C_57 (hC.2.2.2.2.2 _ hu).1 rfl ?_
    refine s_if_eq (tgt := 49) (q := 43) d_C_copy_40 (by decide) rfl (fun h_40 => ?_) (fun h_40 => ?_)
    · -- T 40
      exact absurd ⟨h_32, h_40⟩ hl --done
    · -- F 40
      refine s_aload_n (q := 44) d_C_copy_43 rfl rfl (Or.inr ⟨_, rfl⟩) ?_
      refine s_iconst (v := 1) (q := 45) d_C_copy_44 rfl ki_1 ?_
      refine g_callV (q := 48) d_C_copy_45 rfl ml_C_60 mx_C_found mv_C_found t_C_found hC.1 rfl rfl (Nat.le_of_ble_eq_true rfl) (by decide) ?_
      exact g_iret d_C_copy_48 rfl rfl (by decide) rfl
theorem t_C_copy_F {X : RAM} {s u : Nat} {i w n : Int32} (hs : s < 4) (hu : u < 4) (l1 : X (114 + 2 * s) 3 = 0) (l2 : X (114 + 2 * u) 3 = 0) (hf : ¬ X (114 + 2 * s) 1 = X (114 + 2 * u) 1) : CG l D ac b y_C_copy c_C_copy 8 (some .int) 1 40 [.ref 0, .int (nI s), .int i, .int (nI u), .int w, .int n] X (some (.int (-14))) (up2 X 0 4 4) := by
  refine Ct_of false (by decide) (fun h => by cases h) (Nat.le_of_ble_eq_true rfl) ?_
  show V l D ac b "SpanStore" c_C_copy 8 (some .int) false 1 40 0 0 ((some (.int (-14))), 144, mk (up2 X 0 4 4)) 0 0 0 [(0, .ref 0), (1, .int (nI s)), (2, .int i), (3, .int (nI u)), (4, .int w), (5, .int n)] [] 144 (mk X)
  refine s_aload_n (q := 1) d_C_copy_0 rfl rfl (Or.inr ⟨_, rfl⟩) ?_
  refine s_iload_n (q := 2) d_C_copy_1 rfl rfl ?_
  refine g_callV (q := 5) d_C_copy_2 rfl ml_C_53 mx_C_sheetAt mv_C_sheetAt (t_C_sheetAt_ok hs) hC.1 rfl rfl (Nat.le_of_ble_eq_true rfl) (by decide) ?_
  refine s_astore (q := 7) d_C_copy_5 rfl (by decide) (Or.inr ⟨_, rfl⟩) ?_
  refine s_aload_n (q := 8) d_C_copy_7 rfl rfl (Or.inr ⟨_, rfl⟩) ?_
  refine s_iload_n (q := 9) d_C_copy_8 rfl rfl ?_
  refine g_callV (q := 12) d_C_copy_9 rfl ml_C_53 mx_C_sheetAt mv_C_sheetAt (t_C_sheetAt_ok hu) hC.1 rfl rfl (Nat.le_of_ble_eq_true rfl) (by decide) ?_
  refine s_astore (q := 14) d_C_copy_12 rfl (by decide) (Or.inr ⟨_, rfl⟩) ?_
  refine s_aload (q := 16) d_C_copy_14 rfl rfl (Or.inr ⟨_, rfl⟩) ?_
  refine s_ifnull_r (q := 19) d_C_copy_16 rfl ?_
  refine s_aload (q := 21) d_C_copy_19 rfl rfl (Or.inr ⟨_, rfl⟩) ?_
  refine s_ifnonnull_r (tgt := 27) d_C_copy_21 (by decide) ?_
  refine s_aload (q := 29) d_C_copy_27 rfl rfl (Or.inr ⟨_, rfl⟩) ?_
  refine g_geti (q := 32) d_C_copy_29 rfl fl_C_57 (hC.2.2.2.2.2 _ hs).1 rfl ?_
  refine s_if_ne (tgt := 43) (q := 35) d_C_copy_32 (by decide) rfl (fun z9 => absurd l1 z9) (fun _ => ?_)
  refine s_aload (q := 37) d_C_copy_35 rfl rfl (Or.inr ⟨_, rfl⟩) ?_
  refine g_geti (q := 40) d_C_copy_37 rfl fl_C_57 (hC.2.2.2.2.2 _ hu).1 rfl ?_
  refine s_if_eq (tgt := 49) (q := 43) d_C_copy_40 (by decide) rfl (fun _ => ?_) (fun z9 => absurd l2 z9)
  refine s_aload (q := 51) d_C_copy_49 rfl rfl (Or.inr ⟨_, rfl⟩) ?_
  refine g_geti (q := 54) d_C_copy_51 rfl fl_C_170 (hC.2.2.2.2.2 _ hs).1 rfl ?_
  refine s_aload (q := 56) d_C_copy_54 rfl rfl (Or.inr ⟨_, rfl⟩) ?_
  refine g_geti (q := 59) d_C_copy_56 rfl fl_C_170 (hC.2.2.2.2.2 _ hu).1 rfl ?_
  refine s_icmp_eq (tgt := 68) (q := 62) d_C_copy_59 (by decide) rfl (fun z9 => absurd z9 hf) (fun _ => ?_)
  refine s_aload_n (q := 63) d_C_copy_62 rfl rfl (Or.inr ⟨_, rfl⟩) ?_
  refine s_iconst (v := 4) (q := 64) d_C_copy_63 rfl ki_4 ?_
  refine g_callV (q := 67) d_C_copy_64 rfl ml_C_60 mx_C_found mv_C_found t_C_found hC.1 rfl rfl (Nat.le_of_ble_eq_true rfl) (by decide) ?_
  exact g_iret d_C_copy_67 rfl rfl (by decide) rfl
theorem t_C_copy_I {X : RAM} {s u : Nat} {i w n : Int32} (hs : s < 4) (hu : u < 4) (l1 : X (114 + 2 * s) 3 = 0) (l2 : X (114 + 2 * u) 3 = 0) (hf : X (114 + 2 * s) 1 = X (114 + 2 * u) 1) (hi : ¬ (strV (X (114 + 2 * s) 2) i n = true ∧ strV (X (114 + 2 * u) 2) w n = true)) : CG l D ac b y_C_copy c_C_copy 8 (some .int) 1 40 [.ref 0, .int (nI s), .int i, .int (nI u), .int w, .int n] X (some (.int (-12))) (up2 X 0 4 2) := by
  refine Ct_of false (by decide) (fun h => by cases h) (Nat.le_of_ble_eq_true rfl) ?_
  show V l D ac b "SpanStore" c_C_copy 8 (some .int) false 1 40 0 0 ((some (.int (-12))), 144, mk (up2 X 0 4 2)) 0 0 0 [(0, .ref 0), (1, .int (nI s)), (2, .int i), (3, .int (nI u)), (4, .int w), (5, .int n)] [] 144 (mk X)
  refine s_aload_n (q := 1) d_C_copy_0 rfl rfl (Or.inr ⟨_, rfl⟩) ?_
  refine s_iload_n (q := 2) d_C_copy_1 rfl rfl ?_
  refine g_callV (q := 5) d_C_copy_2 rfl ml_C_53 mx_C_sheetAt mv_C_sheetAt (t_C_sheetAt_ok hs) hC.1 rfl rfl (Nat.le_of_ble_eq_true rfl) (by decide) ?_
  refine s_astore (q := 7) d_C_copy_5 rfl (by decide) (Or.inr ⟨_, rfl⟩) ?_
  refine s_aload_n (q := 8) d_C_copy_7 rfl rfl (Or.inr ⟨_, rfl⟩) ?_
  refine s_iload_n (q := 9) d_C_copy_8 rfl rfl ?_
  refine g_callV (q := 12) d_C_copy_9 rfl ml_C_53 mx_C_sheetAt mv_C_sheetAt (t_C_sheetAt_ok hu) hC.1 rfl rfl (Nat.le_of_ble_eq_true rfl) (by decide) ?_
  refine s_astore (q := 14) d_C_copy_12 rfl (by decide) (Or.inr ⟨_, rfl⟩) ?_
  refine s_aload (q := 16) d_C_copy_14 rfl rfl (Or.inr ⟨_, rfl⟩) ?_
  refine s_ifnull_r (q := 19) d_C_copy_16 rfl ?_
  refine s_aload (q := 21) d_C_copy_19 rfl rfl (Or.inr ⟨_, rfl⟩) ?_
  refine s_ifnonnull_r (tgt := 27) d_C_copy_21 (by decide) ?_
  refine s_aload (q := 29) d_C_copy_27 rfl rfl (Or.inr ⟨_, rfl⟩) ?_
  refine g_geti (q := 32) d_C_copy_29 rfl fl_C_57 (hC.2.2.2.2.2 _ hs).1 rfl ?_
  refine s_if_ne (tgt := 43) (q := 35) d_C_copy_32 (by decide) rfl (fun z9 => absurd l1 z9) (fun _ => ?_)
  refine s_aload (q := 37) d_C_copy_35 rfl rfl (Or.inr ⟨_, rfl⟩) ?_
  refine g_geti (q := 40) d_C_copy_37 rfl fl_C_57 (hC.2.2.2.2.2 _ hu).1 rfl ?_
  refine s_if_eq (tgt := 49) (q := 43) d_C_copy_40 (by decide) rfl (fun _ => ?_) (fun z9 => absurd l2 z9)
  refine s_aload (q := 51) d_C_copy_49 rfl rfl (Or.inr ⟨_, rfl⟩) ?_
  refine g_geti (q := 54) d_C_copy_51 rfl fl_C_170 (hC.2.2.2.2.2 _ hs).1 rfl ?_
  refine s_aload (q := 56) d_C_copy_54 rfl rfl (Or.inr ⟨_, rfl⟩) ?_
  refine g_geti (q := 59) d_C_copy_56 rfl fl_C_170 (hC.2.2.2.2.2 _ hu).1 rfl ?_
  refine s_icmp_eq (tgt := 68) (q := 62) d_C_copy_59 (by decide) rfl (fun _ => ?_) (fun z9 => absurd hf z9)
  refine s_aload (q := 70) d_C_copy_68 rfl rfl (Or.inr ⟨_, rfl⟩) ?_
  refine s_iload_n (q := 71) d_C_copy_70 rfl rfl ?_
  refine s_iload (q := 73) d_C_copy_71 rfl rfl ?_
  refine g_callV (q := 76) d_C_copy_73 rfl ml_C_173 mx_S_hasStretch mv_S_hasStretch (t_S_hasStretch (hC.2.2.2.2.2 _ hs)) (hC.2.2.2.2.2 _ hs).1 rfl rfl (Nat.le_of_ble_eq_true rfl) (by decide) ?_
  refine s_if_eq (tgt := 91) (q := 79) d_C_copy_76 (by decide) rfl (fun h_76 => ?_) (fun h_76 => ?_)
  · -- T 76
    refine s_aload_n (q := 92) d_C_copy_91 rfl rfl (Or.inr ⟨_, rfl⟩) ?_
    refine s_iconst (v := 2) (q := 93) d_C_copy_92 rfl ki_2 ?_
    refine g_callV (q := 96) d_C_copy_93 rfl ml_C_60 mx_C_found mv_C_found t_C_found hC.1 rfl rfl (Nat.le_of_ble_eq_true rfl) (by decide) ?_
    exact g_iret d_C_copy_96 rfl rfl (by decide) rfl
  · -- F 76
    refine s_aload (q := 81) d_C_copy_79 rfl rfl (Or.inr ⟨_, rfl⟩) ?_
    refine s_iload (q := 83) d_C_copy_81 rfl rfl ?_
    refine s_iload (q := 85) d_C_copy_83 rfl rfl ?_
    refine g_callV (q := 88) d_C_copy_85 rfl ml_C_173 mx_S_hasStretch mv_S_hasStretch (t_S_hasStretch (hC.2.2.2.2.2 _ hu)) (hC.2.2.2.2.2 _ hu).1 rfl rfl (Nat.le_of_ble_eq_true rfl) (by decide) ?_
    refine s_if_ne (tgt := 97) (q := 91) d_C_copy_88 (by decide) rfl (fun h_88 => ?_) (fun h_88 => ?_)
    · -- T 88
      exact absurd ⟨bI_n0.mp h_76, bI_n0.mp h_88⟩ hi --done
    · -- F 88
      refine s_aload_n (q := 92) d_C_copy_91 rfl rfl (Or.inr ⟨_, rfl⟩) ?_
      refine s_iconst (v := 2) (q := 93) d_C_copy_92 rfl ki_2 ?_
      refine g_callV (q := 96) d_C_copy_93 rfl ml_C_60 mx_C_found mv_C_found t_C_found hC.1 rfl rfl (Nat.le_of_ble_eq_true rfl) (by decide) ?_
      exact g_iret d_C_copy_96 rfl rfl (by decide) rfl
theorem str_of {n f z : Int32} {m : Nat} (h : strV n f z = true) (hn : n = nI m) (hm : m ≤ 40) : ∃ a c, f = nI a ∧ z = nI c ∧ a + c ≤ m := by
  have h1 := of_decide_eq_true h
  subst hn
  obtain ⟨a, ha, rfl⟩ := nI_of h1.1
  obtain ⟨c, hc, rfl⟩ := nI_of h1.2.1
  refine ⟨a, c, rfl, rfl, ?_⟩
  have ha2 : a ≤ m := (nI_leI ha (by omega)).mp h1.2.2.1
  have h4 := h1.2.2.2
  rw [pk_sub ha2] at h4
  have := (nI_leI hc (by omega)).mp h4
  omega
theorem str_mk {m a c : Nat} (h : a + c ≤ m) (hm : m ≤ 40) : strV (nI m) (nI a) (nI c) = true := by
  refine decide_eq_true ⟨nI_pos (by omega), nI_pos (by omega), nI_le (by omega) (by omega), ?_⟩
  rw [pk_sub (by omega)]
  exact nI_le (by omega) (by omega)
theorem t_C_copy_D {X : RAM} {s u i w n n1 n2 : Nat} (hs : s < 4) (hu : u < 4) (l1 : X (114 + 2 * s) 3 = 0) (l2 : X (114 + 2 * u) 3 = 0) (hf : X (114 + 2 * s) 1 = X (114 + 2 * u) 1) (z1 : X (114 + 2 * s) 2 = nI n1) (z2 : X (114 + 2 * u) 2 = nI n2) (m1 : n1 ≤ 40) (m2 : n2 ≤ 40) (e1 : i + n ≤ n1) (e2 : w + n ≤ n2) : CG l D ac b y_C_copy c_C_copy 8 (some .int) 1 40 [.ref 0, .int (nI s), .int (nI i), .int (nI u), .int (nI w), .int (nI n)] X (some (.int 1)) (upA X (114 + 2 * u + 1) (va_cpy (X (114 + 2 * s + 1)) (X (114 + 2 * u + 1)) i w n)) := by
  refine Ct_of false (by decide) (fun h => by cases h) (Nat.le_of_ble_eq_true rfl) ?_
  show V l D ac b "SpanStore" c_C_copy 8 (some .int) false 1 40 0 0 ((some (.int 1)), 144, mk (upA X (114 + 2 * u + 1) (va_cpy (X (114 + 2 * s + 1)) (X (114 + 2 * u + 1)) i w n))) 0 0 0 [(0, .ref 0), (1, .int (nI s)), (2, .int (nI i)), (3, .int (nI u)), (4, .int (nI w)), (5, .int (nI n))] [] 144 (mk X)
  refine s_aload_n (q := 1) d_C_copy_0 rfl rfl (Or.inr ⟨_, rfl⟩) ?_
  refine s_iload_n (q := 2) d_C_copy_1 rfl rfl ?_
  refine g_callV (q := 5) d_C_copy_2 rfl ml_C_53 mx_C_sheetAt mv_C_sheetAt (t_C_sheetAt_ok hs) hC.1 rfl rfl (Nat.le_of_ble_eq_true rfl) (by decide) ?_
  refine s_astore (q := 7) d_C_copy_5 rfl (by decide) (Or.inr ⟨_, rfl⟩) ?_
  refine s_aload_n (q := 8) d_C_copy_7 rfl rfl (Or.inr ⟨_, rfl⟩) ?_
  refine s_iload_n (q := 9) d_C_copy_8 rfl rfl ?_
  refine g_callV (q := 12) d_C_copy_9 rfl ml_C_53 mx_C_sheetAt mv_C_sheetAt (t_C_sheetAt_ok hu) hC.1 rfl rfl (Nat.le_of_ble_eq_true rfl) (by decide) ?_
  refine s_astore (q := 14) d_C_copy_12 rfl (by decide) (Or.inr ⟨_, rfl⟩) ?_
  refine s_aload (q := 16) d_C_copy_14 rfl rfl (Or.inr ⟨_, rfl⟩) ?_
  refine s_ifnull_r (q := 19) d_C_copy_16 rfl ?_
  refine s_aload (q := 21) d_C_copy_19 rfl rfl (Or.inr ⟨_, rfl⟩) ?_
  refine s_ifnonnull_r (tgt := 27) d_C_copy_21 (by decide) ?_
  refine s_aload (q := 29) d_C_copy_27 rfl rfl (Or.inr ⟨_, rfl⟩) ?_
  refine g_geti (q := 32) d_C_copy_29 rfl fl_C_57 (hC.2.2.2.2.2 _ hs).1 rfl ?_
  refine s_if_ne (tgt := 43) (q := 35) d_C_copy_32 (by decide) rfl (fun z9 => absurd l1 z9) (fun _ => ?_)
  refine s_aload (q := 37) d_C_copy_35 rfl rfl (Or.inr ⟨_, rfl⟩) ?_
  refine g_geti (q := 40) d_C_copy_37 rfl fl_C_57 (hC.2.2.2.2.2 _ hu).1 rfl ?_
  refine s_if_eq (tgt := 49) (q := 43) d_C_copy_40 (by decide) rfl (fun _ => ?_) (fun z9 => absurd l2 z9)
  refine s_aload (q := 51) d_C_copy_49 rfl rfl (Or.inr ⟨_, rfl⟩) ?_
  refine g_geti (q := 54) d_C_copy_51 rfl fl_C_170 (hC.2.2.2.2.2 _ hs).1 rfl ?_
  refine s_aload (q := 56) d_C_copy_54 rfl rfl (Or.inr ⟨_, rfl⟩) ?_
  refine g_geti (q := 59) d_C_copy_56 rfl fl_C_170 (hC.2.2.2.2.2 _ hu).1 rfl ?_
  refine s_icmp_eq (tgt := 68) (q := 62) d_C_copy_59 (by decide) rfl (fun _ => ?_) (fun z9 => absurd hf z9)
  refine s_aload (q := 70) d_C_copy_68 rfl rfl (Or.inr ⟨_, rfl⟩) ?_
  refine s_iload_n (q := 71) d_C_copy_70 rfl rfl ?_
  refine s_iload (q := 73) d_C_copy_71 rfl rfl ?_
  refine g_callV (q := 76) d_C_copy_73 rfl ml_C_173 mx_S_hasStretch mv_S_hasStretch (t_S_hasStretch (hC.2.2.2.2.2 _ hs)) (hC.2.2.2.2.2 _ hs).1 rfl rfl (Nat.le_of_ble_eq_true rfl) (by decide) ?_
  refine s_if_eq (tgt := 91) (q := 79) d_C_copy_76 (by decide) rfl (fun z9 => absurd z9 (by rw [z1]; exact bI_n0.mpr (str_mk e1 m1))) (fun _ => ?_)
  refine s_aload (q := 81) d_C_copy_79 rfl rfl (Or.inr ⟨_, rfl⟩) ?_
  refine s_iload (q := 83) d_C_copy_81 rfl rfl ?_
  refine s_iload (q := 85) d_C_copy_83 rfl rfl ?_
  refine g_callV (q := 88) d_C_copy_85 rfl ml_C_173 mx_S_hasStretch mv_S_hasStretch (t_S_hasStretch (hC.2.2.2.2.2 _ hu)) (hC.2.2.2.2.2 _ hu).1 rfl rfl (Nat.le_of_ble_eq_true rfl) (by decide) ?_
  refine s_if_ne (tgt := 97) (q := 91) d_C_copy_88 (by decide) rfl (fun _ => ?_) (fun z9 => absurd z9 (by rw [z2]; exact bI_n0.mpr (str_mk e2 m2)))
  refine s_aload (q := 99) d_C_copy_97 rfl rfl (Or.inr ⟨_, rfl⟩) ?_
  refine g_getr (q := 102) d_C_copy_99 rfl fl_C_65 (hC.2.2.2.2.2 _ hs).1 rfl ?_
  refine s_iload_n (q := 103) d_C_copy_102 rfl rfl ?_
  refine s_aload (q := 105) d_C_copy_103 rfl rfl (Or.inr ⟨_, rfl⟩) ?_
  refine g_getr (q := 108) d_C_copy_105 rfl fl_C_65 (hC.2.2.2.2.2 _ hu).1 rfl ?_
  refine s_iload (q := 110) d_C_copy_108 rfl rfl ?_
  refine s_iload (q := 112) d_C_copy_110 rfl rfl ?_
  refine g_copy (q := 115) d_C_copy_112 rfl ml_C_176 (hC.2.2.2.2.2 _ hs).2 (hC.2.2.2.2.2 _ hu).2 (by decide) (by decide) (by omega) (by omega) (Nat.le_of_ble_eq_true rfl) (by decide) (by decide) ?_
  refine s_iconst (v := 1) (q := 116) d_C_copy_115 rfl ki_1 ?_
  exact g_iret d_C_copy_116 rfl rfl rfl rfl
theorem t_C_write_T {X : RAM} {x k g v : Int32} (hx : x < 0 ∨ 2 ≤ x) : CG l D ac b y_C_write c_C_write 11 (some .int) 3 70 [.ref 0, .int x, .int k, .int g, .int v] X (some (.int (-2))) (X) := by
  rcases ix4 (x := k) with uk | ⟨k, uk, rfl⟩
  · skip
    rcases ix4 (x := g) with ug | ⟨g, ug, rfl⟩
    · skip
      rcases ix4 (x := v) with uv | ⟨v, uv, rfl⟩
      · skip
        refine Ct_of false (by decide) (fun h => by cases h) (Nat.le_of_ble_eq_true rfl) ?_
        show V l D ac b "SpanStore" c_C_write 11 (some .int) false 3 70 0 0 ((some (.int (-2))), 144, mk (X)) 0 0 0 [(0, .ref 0), (1, .int x), (2, .int k), (3, .int g), (4, .int v)] [] 144 (mk X)
        refine s_aload_n (q := 1) d_C_write_0 rfl rfl (Or.inr ⟨_, rfl⟩) ?_
        refine s_iload_n (q := 2) d_C_write_1 rfl rfl ?_
        refine g_callV (q := 5) d_C_write_2 rfl ml_C_27 mx_C_tableAt mv_C_tableAt (t_C_tableAt_no hx) hC.1 rfl rfl (Nat.le_of_ble_eq_true rfl) (by decide) ?_
        refine s_astore (q := 7) d_C_write_5 rfl (by decide) (Or.inl rfl) ?_
        refine s_aload_n (q := 8) d_C_write_7 rfl rfl (Or.inr ⟨_, rfl⟩) ?_
        refine s_iload_n (q := 9) d_C_write_8 rfl rfl ?_
        refine g_callV (q := 12) d_C_write_9 rfl ml_C_53 mx_C_sheetAt mv_C_sheetAt (t_C_sheetAt_no uk) hC.1 rfl rfl (Nat.le_of_ble_eq_true rfl) (by decide) ?_
        refine s_astore (q := 14) d_C_write_12 rfl (by decide) (Or.inl rfl) ?_
        refine s_aload_n (q := 15) d_C_write_14 rfl rfl (Or.inr ⟨_, rfl⟩) ?_
        refine s_iload_n (q := 16) d_C_write_15 rfl rfl ?_
        refine g_callV (q := 19) d_C_write_16 rfl ml_C_53 mx_C_sheetAt mv_C_sheetAt (t_C_sheetAt_no ug) hC.1 rfl rfl (Nat.le_of_ble_eq_true rfl) (by decide) ?_
        refine s_astore (q := 21) d_C_write_19 rfl (by decide) (Or.inl rfl) ?_
        refine s_aload_n (q := 22) d_C_write_21 rfl rfl (Or.inr ⟨_, rfl⟩) ?_
        refine s_iload (q := 24) d_C_write_22 rfl rfl ?_
        refine g_callV (q := 27) d_C_write_24 rfl ml_C_53 mx_C_sheetAt mv_C_sheetAt (t_C_sheetAt_no uv) hC.1 rfl rfl (Nat.le_of_ble_eq_true rfl) (by decide) ?_
        refine s_astore (q := 29) d_C_write_27 rfl (by decide) (Or.inl rfl) ?_
        refine s_aload (q := 31) d_C_write_29 rfl rfl (Or.inl rfl) ?_
        refine s_ifnull_n (tgt := 49) d_C_write_31 (by decide) ?_
        refine s_bipush (v := (-2)) (q := 51) d_C_write_49 rfl kb_m2 ?_
        exact g_iret d_C_write_51 rfl rfl rfl rfl
      · skip
        refine Ct_of false (by decide) (fun h => by cases h) (Nat.le_of_ble_eq_true rfl) ?_
        show V l D ac b "SpanStore" c_C_write 11 (some .int) false 3 70 0 0 ((some (.int (-2))), 144, mk (X)) 0 0 0 [(0, .ref 0), (1, .int x), (2, .int k), (3, .int g), (4, .int (nI v))] [] 144 (mk X)
        refine s_aload_n (q := 1) d_C_write_0 rfl rfl (Or.inr ⟨_, rfl⟩) ?_
        refine s_iload_n (q := 2) d_C_write_1 rfl rfl ?_
        refine g_callV (q := 5) d_C_write_2 rfl ml_C_27 mx_C_tableAt mv_C_tableAt (t_C_tableAt_no hx) hC.1 rfl rfl (Nat.le_of_ble_eq_true rfl) (by decide) ?_
        refine s_astore (q := 7) d_C_write_5 rfl (by decide) (Or.inl rfl) ?_
        refine s_aload_n (q := 8) d_C_write_7 rfl rfl (Or.inr ⟨_, rfl⟩) ?_
        refine s_iload_n (q := 9) d_C_write_8 rfl rfl ?_
        refine g_callV (q := 12) d_C_write_9 rfl ml_C_53 mx_C_sheetAt mv_C_sheetAt (t_C_sheetAt_no uk) hC.1 rfl rfl (Nat.le_of_ble_eq_true rfl) (by decide) ?_
        refine s_astore (q := 14) d_C_write_12 rfl (by decide) (Or.inl rfl) ?_
        refine s_aload_n (q := 15) d_C_write_14 rfl rfl (Or.inr ⟨_, rfl⟩) ?_
        refine s_iload_n (q := 16) d_C_write_15 rfl rfl ?_
        refine g_callV (q := 19) d_C_write_16 rfl ml_C_53 mx_C_sheetAt mv_C_sheetAt (t_C_sheetAt_no ug) hC.1 rfl rfl (Nat.le_of_ble_eq_true rfl) (by decide) ?_
        refine s_astore (q := 21) d_C_write_19 rfl (by decide) (Or.inl rfl) ?_
        refine s_aload_n (q := 22) d_C_write_21 rfl rfl (Or.inr ⟨_, rfl⟩) ?_
        refine s_iload (q := 24) d_C_write_22 rfl rfl ?_
        refine g_callV (q := 27) d_C_write_24 rfl ml_C_53 mx_C_sheetAt mv_C_sheetAt (t_C_sheetAt_ok uv) hC.1 rfl rfl (Nat.le_of_ble_eq_true rfl) (by decide) ?_
        refine s_astore (q := 29) d_C_write_27 rfl (by decide) (Or.inr ⟨_, rfl⟩) ?_
        refine s_aload (q := 31) d_C_write_29 rfl rfl (Or.inl rfl) ?_
        refine s_ifnull_n (tgt := 49) d_C_write_31 (by decide) ?_
        refine s_bipush (v := (-2)) (q := 51) d_C_write_49 rfl kb_m2 ?_
        exact g_iret d_C_write_51 rfl rfl rfl rfl
    · skip
      rcases ix4 (x := v) with uv | ⟨v, uv, rfl⟩
      · skip
        refine Ct_of false (by decide) (fun h => by cases h) (Nat.le_of_ble_eq_true rfl) ?_
        show V l D ac b "SpanStore" c_C_write 11 (some .int) false 3 70 0 0 ((some (.int (-2))), 144, mk (X)) 0 0 0 [(0, .ref 0), (1, .int x), (2, .int k), (3, .int (nI g)), (4, .int v)] [] 144 (mk X)
        refine s_aload_n (q := 1) d_C_write_0 rfl rfl (Or.inr ⟨_, rfl⟩) ?_
        refine s_iload_n (q := 2) d_C_write_1 rfl rfl ?_
        refine g_callV (q := 5) d_C_write_2 rfl ml_C_27 mx_C_tableAt mv_C_tableAt (t_C_tableAt_no hx) hC.1 rfl rfl (Nat.le_of_ble_eq_true rfl) (by decide) ?_
        refine s_astore (q := 7) d_C_write_5 rfl (by decide) (Or.inl rfl) ?_
        refine s_aload_n (q := 8) d_C_write_7 rfl rfl (Or.inr ⟨_, rfl⟩) ?_
        refine s_iload_n (q := 9) d_C_write_8 rfl rfl ?_
        refine g_callV (q := 12) d_C_write_9 rfl ml_C_53 mx_C_sheetAt mv_C_sheetAt (t_C_sheetAt_no uk) hC.1 rfl rfl (Nat.le_of_ble_eq_true rfl) (by decide) ?_
        refine s_astore (q := 14) d_C_write_12 rfl (by decide) (Or.inl rfl) ?_
        refine s_aload_n (q := 15) d_C_write_14 rfl rfl (Or.inr ⟨_, rfl⟩) ?_
        refine s_iload_n (q := 16) d_C_write_15 rfl rfl ?_
        refine g_callV (q := 19) d_C_write_16 rfl ml_C_53 mx_C_sheetAt mv_C_sheetAt (t_C_sheetAt_ok ug) hC.1 rfl rfl (Nat.le_of_ble_eq_true rfl) (by decide) ?_
        refine s_astore (q := 21) d_C_write_19 rfl (by decide) (Or.inr ⟨_, rfl⟩) ?_
        refine s_aload_n (q := 22) d_C_write_21 rfl rfl (Or.inr ⟨_, rfl⟩) ?_
        refine s_iload (q := 24) d_C_write_22 rfl rfl ?_
        refine g_callV (q := 27) d_C_write_24 rfl ml_C_53 mx_C_sheetAt mv_C_sheetAt (t_C_sheetAt_no uv) hC.1 rfl rfl (Nat.le_of_ble_eq_true rfl) (by decide) ?_
        refine s_astore (q := 29) d_C_write_27 rfl (by decide) (Or.inl rfl) ?_
        refine s_aload (q := 31) d_C_write_29 rfl rfl (Or.inl rfl) ?_
        refine s_ifnull_n (tgt := 49) d_C_write_31 (by decide) ?_
        refine s_bipush (v := (-2)) (q := 51) d_C_write_49 rfl kb_m2 ?_
        exact g_iret d_C_write_51 rfl rfl rfl rfl
      · skip
        refine Ct_of false (by decide) (fun h => by cases h) (Nat.le_of_ble_eq_true rfl) ?_
        show V l D ac b "SpanStore" c_C_write 11 (some .int) false 3 70 0 0 ((some (.int (-2))), 144, mk (X)) 0 0 0 [(0, .ref 0), (1, .int x), (2, .int k), (3, .int (nI g)), (4, .int (nI v))] [] 144 (mk X)
        refine s_aload_n (q := 1) d_C_write_0 rfl rfl (Or.inr ⟨_, rfl⟩) ?_
        refine s_iload_n (q := 2) d_C_write_1 rfl rfl ?_
        refine g_callV (q := 5) d_C_write_2 rfl ml_C_27 mx_C_tableAt mv_C_tableAt (t_C_tableAt_no hx) hC.1 rfl rfl (Nat.le_of_ble_eq_true rfl) (by decide) ?_
        refine s_astore (q := 7) d_C_write_5 rfl (by decide) (Or.inl rfl) ?_
        refine s_aload_n (q := 8) d_C_write_7 rfl rfl (Or.inr ⟨_, rfl⟩) ?_
        refine s_iload_n (q := 9) d_C_write_8 rfl rfl ?_
        refine g_callV (q := 12) d_C_write_9 rfl ml_C_53 mx_C_sheetAt mv_C_sheetAt (t_C_sheetAt_no uk) hC.1 rfl rfl (Nat.le_of_ble_eq_true rfl) (by decide) ?_
        refine s_astore (q := 14) d_C_write_12 rfl (by decide) (Or.inl rfl) ?_
        refine s_aload_n (q := 15) d_C_write_14 rfl rfl (Or.inr ⟨_, rfl⟩) ?_
        refine s_iload_n (q := 16) d_C_write_15 rfl rfl ?_
        refine g_callV (q := 19) d_C_write_16 rfl ml_C_53 mx_C_sheetAt mv_C_sheetAt (t_C_sheetAt_ok ug) hC.1 rfl rfl (Nat.le_of_ble_eq_true rfl) (by decide) ?_
        refine s_astore (q := 21) d_C_write_19 rfl (by decide) (Or.inr ⟨_, rfl⟩) ?_
        refine s_aload_n (q := 22) d_C_write_21 rfl rfl (Or.inr ⟨_, rfl⟩) ?_
        refine s_iload (q := 24) d_C_write_22 rfl rfl ?_
        refine g_callV (q := 27) d_C_write_24 rfl ml_C_53 mx_C_sheetAt mv_C_sheetAt (t_C_sheetAt_ok uv) hC.1 rfl rfl (Nat.le_of_ble_eq_true rfl) (by decide) ?_
        refine s_astore (q := 29) d_C_write_27 rfl (by decide) (Or.inr ⟨_, rfl⟩) ?_
        refine s_aload (q := 31) d_C_write_29 rfl rfl (Or.inl rfl) ?_
        refine s_ifnull_n (tgt := 49) d_C_write_31 (by decide) ?_
        refine s_bipush (v := (-2)) (q := 51) d_C_write_49 rfl kb_m2 ?_
        exact g_iret d_C_write_51 rfl rfl rfl rfl
  · skip
    rcases ix4 (x := g) with ug | ⟨g, ug, rfl⟩
    · skip
      rcases ix4 (x := v) with uv | ⟨v, uv, rfl⟩
      · skip
        refine Ct_of false (by decide) (fun h => by cases h) (Nat.le_of_ble_eq_true rfl) ?_
        show V l D ac b "SpanStore" c_C_write 11 (some .int) false 3 70 0 0 ((some (.int (-2))), 144, mk (X)) 0 0 0 [(0, .ref 0), (1, .int x), (2, .int (nI k)), (3, .int g), (4, .int v)] [] 144 (mk X)
        refine s_aload_n (q := 1) d_C_write_0 rfl rfl (Or.inr ⟨_, rfl⟩) ?_
        refine s_iload_n (q := 2) d_C_write_1 rfl rfl ?_
        refine g_callV (q := 5) d_C_write_2 rfl ml_C_27 mx_C_tableAt mv_C_tableAt (t_C_tableAt_no hx) hC.1 rfl rfl (Nat.le_of_ble_eq_true rfl) (by decide) ?_
        refine s_astore (q := 7) d_C_write_5 rfl (by decide) (Or.inl rfl) ?_
        refine s_aload_n (q := 8) d_C_write_7 rfl rfl (Or.inr ⟨_, rfl⟩) ?_
        refine s_iload_n (q := 9) d_C_write_8 rfl rfl ?_
        refine g_callV (q := 12) d_C_write_9 rfl ml_C_53 mx_C_sheetAt mv_C_sheetAt (t_C_sheetAt_ok uk) hC.1 rfl rfl (Nat.le_of_ble_eq_true rfl) (by decide) ?_
        refine s_astore (q := 14) d_C_write_12 rfl (by decide) (Or.inr ⟨_, rfl⟩) ?_
        refine s_aload_n (q := 15) d_C_write_14 rfl rfl (Or.inr ⟨_, rfl⟩) ?_
        refine s_iload_n (q := 16) d_C_write_15 rfl rfl ?_
        refine g_callV (q := 19) d_C_write_16 rfl ml_C_53 mx_C_sheetAt mv_C_sheetAt (t_C_sheetAt_no ug) hC.1 rfl rfl (Nat.le_of_ble_eq_true rfl) (by decide) ?_
        refine s_astore (q := 21) d_C_write_19 rfl (by decide) (Or.inl rfl) ?_
        refine s_aload_n (q := 22) d_C_write_21 rfl rfl (Or.inr ⟨_, rfl⟩) ?_
        refine s_iload (q := 24) d_C_write_22 rfl rfl ?_
        refine g_callV (q := 27) d_C_write_24 rfl ml_C_53 mx_C_sheetAt mv_C_sheetAt (t_C_sheetAt_no uv) hC.1 rfl rfl (Nat.le_of_ble_eq_true rfl) (by decide) ?_
        refine s_astore (q := 29) d_C_write_27 rfl (by decide) (Or.inl rfl) ?_
        refine s_aload (q := 31) d_C_write_29 rfl rfl (Or.inl rfl) ?_
        refine s_ifnull_n (tgt := 49) d_C_write_31 (by decide) ?_
        refine s_bipush (v := (-2)) (q := 51) d_C_write_49 rfl kb_m2 ?_
        exact g_iret d_C_write_51 rfl rfl rfl rfl
      · skip
        refine Ct_of false (by decide) (fun h => by cases h) (Nat.le_of_ble_eq_true rfl) ?_
        show V l D ac b "SpanStore" c_C_write 11 (some .int) false 3 70 0 0 ((some (.int (-2))), 144, mk (X)) 0 0 0 [(0, .ref 0), (1, .int x), (2, .int (nI k)), (3, .int g), (4, .int (nI v))] [] 144 (mk X)
        refine s_aload_n (q := 1) d_C_write_0 rfl rfl (Or.inr ⟨_, rfl⟩) ?_
        refine s_iload_n (q := 2) d_C_write_1 rfl rfl ?_
        refine g_callV (q := 5) d_C_write_2 rfl ml_C_27 mx_C_tableAt mv_C_tableAt (t_C_tableAt_no hx) hC.1 rfl rfl (Nat.le_of_ble_eq_true rfl) (by decide) ?_
        refine s_astore (q := 7) d_C_write_5 rfl (by decide) (Or.inl rfl) ?_
        refine s_aload_n (q := 8) d_C_write_7 rfl rfl (Or.inr ⟨_, rfl⟩) ?_
        refine s_iload_n (q := 9) d_C_write_8 rfl rfl ?_
        refine g_callV (q := 12) d_C_write_9 rfl ml_C_53 mx_C_sheetAt mv_C_sheetAt (t_C_sheetAt_ok uk) hC.1 rfl rfl (Nat.le_of_ble_eq_true rfl) (by decide) ?_
        refine s_astore (q := 14) d_C_write_12 rfl (by decide) (Or.inr ⟨_, rfl⟩) ?_
        refine s_aload_n (q := 15) d_C_write_14 rfl rfl (Or.inr ⟨_, rfl⟩) ?_
        refine s_iload_n (q := 16) d_C_write_15 rfl rfl ?_
        refine g_callV (q := 19) d_C_write_16 rfl ml_C_53 mx_C_sheetAt mv_C_sheetAt (t_C_sheetAt_no ug) hC.1 rfl rfl (Nat.le_of_ble_eq_true rfl) (by decide) ?_
        refine s_astore (q := 21) d_C_write_19 rfl (by decide) (Or.inl rfl) ?_
        refine s_aload_n (q := 22) d_C_write_21 rfl rfl (Or.inr ⟨_, rfl⟩) ?_
        refine s_iload (q := 24) d_C_write_22 rfl rfl ?_
        refine g_callV (q := 27) d_C_write_24 rfl ml_C_53 mx_C_sheetAt mv_C_sheetAt (t_C_sheetAt_ok uv) hC.1 rfl rfl (Nat.le_of_ble_eq_true rfl) (by decide) ?_
        refine s_astore (q := 29) d_C_write_27 rfl (by decide) (Or.inr ⟨_, rfl⟩) ?_
        refine s_aload (q := 31) d_C_write_29 rfl rfl (Or.inl rfl) ?_
        refine s_ifnull_n (tgt := 49) d_C_write_31 (by decide) ?_
        refine s_bipush (v := (-2)) (q := 51) d_C_write_49 rfl kb_m2 ?_
        exact g_iret d_C_write_51 rfl rfl rfl rfl
    · skip
      rcases ix4 (x := v) with uv | ⟨v, uv, rfl⟩
      · skip
        refine Ct_of false (by decide) (fun h => by cases h) (Nat.le_of_ble_eq_true rfl) ?_
        show V l D ac b "SpanStore" c_C_write 11 (some .int) false 3 70 0 0 ((some (.int (-2))), 144, mk (X)) 0 0 0 [(0, .ref 0), (1, .int x), (2, .int (nI k)), (3, .int (nI g)), (4, .int v)] [] 144 (mk X)
        refine s_aload_n (q := 1) d_C_write_0 rfl rfl (Or.inr ⟨_, rfl⟩) ?_
        refine s_iload_n (q := 2) d_C_write_1 rfl rfl ?_
        refine g_callV (q := 5) d_C_write_2 rfl ml_C_27 mx_C_tableAt mv_C_tableAt (t_C_tableAt_no hx) hC.1 rfl rfl (Nat.le_of_ble_eq_true rfl) (by decide) ?_
        refine s_astore (q := 7) d_C_write_5 rfl (by decide) (Or.inl rfl) ?_
        refine s_aload_n (q := 8) d_C_write_7 rfl rfl (Or.inr ⟨_, rfl⟩) ?_
        refine s_iload_n (q := 9) d_C_write_8 rfl rfl ?_
        refine g_callV (q := 12) d_C_write_9 rfl ml_C_53 mx_C_sheetAt mv_C_sheetAt (t_C_sheetAt_ok uk) hC.1 rfl rfl (Nat.le_of_ble_eq_true rfl) (by decide) ?_
        refine s_astore (q := 14) d_C_write_12 rfl (by decide) (Or.inr ⟨_, rfl⟩) ?_
        refine s_aload_n (q := 15) d_C_write_14 rfl rfl (Or.inr ⟨_, rfl⟩) ?_
        refine s_iload_n (q := 16) d_C_write_15 rfl rfl ?_
        refine g_callV (q := 19) d_C_write_16 rfl ml_C_53 mx_C_sheetAt mv_C_sheetAt (t_C_sheetAt_ok ug) hC.1 rfl rfl (Nat.le_of_ble_eq_true rfl) (by decide) ?_
        refine s_astore (q := 21) d_C_write_19 rfl (by decide) (Or.inr ⟨_, rfl⟩) ?_
        refine s_aload_n (q := 22) d_C_write_21 rfl rfl (Or.inr ⟨_, rfl⟩) ?_
        refine s_iload (q := 24) d_C_write_22 rfl rfl ?_
        refine g_callV (q := 27) d_C_write_24 rfl ml_C_53 mx_C_sheetAt mv_C_sheetAt (t_C_sheetAt_no uv) hC.1 rfl rfl (Nat.le_of_ble_eq_true rfl) (by decide) ?_
        refine s_astore (q := 29) d_C_write_27 rfl (by decide) (Or.inl rfl) ?_
        refine s_aload (q := 31) d_C_write_29 rfl rfl (Or.inl rfl) ?_
        refine s_ifnull_n (tgt := 49) d_C_write_31 (by decide) ?_
        refine s_bipush (v := (-2)) (q := 51) d_C_write_49 rfl kb_m2 ?_
        exact g_iret d_C_write_51 rfl rfl rfl rfl
      · skip
        refine Ct_of false (by decide) (fun h => by cases h) (Nat.le_of_ble_eq_true rfl) ?_
        show V l D ac b "SpanStore" c_C_write 11 (some .int) false 3 70 0 0 ((some (.int (-2))), 144, mk (X)) 0 0 0 [(0, .ref 0), (1, .int x), (2, .int (nI k)), (3, .int (nI g)), (4, .int (nI v))] [] 144 (mk X)
        refine s_aload_n (q := 1) d_C_write_0 rfl rfl (Or.inr ⟨_, rfl⟩) ?_
        refine s_iload_n (q := 2) d_C_write_1 rfl rfl ?_
        refine g_callV (q := 5) d_C_write_2 rfl ml_C_27 mx_C_tableAt mv_C_tableAt (t_C_tableAt_no hx) hC.1 rfl rfl (Nat.le_of_ble_eq_true rfl) (by decide) ?_
        refine s_astore (q := 7) d_C_write_5 rfl (by decide) (Or.inl rfl) ?_
        refine s_aload_n (q := 8) d_C_write_7 rfl rfl (Or.inr ⟨_, rfl⟩) ?_
        refine s_iload_n (q := 9) d_C_write_8 rfl rfl ?_
        refine g_callV (q := 12) d_C_write_9 rfl ml_C_53 mx_C_sheetAt mv_C_sheetAt (t_C_sheetAt_ok uk) hC.1 rfl rfl (Nat.le_of_ble_eq_true rfl) (by decide) ?_
        refine s_astore (q := 14) d_C_write_12 rfl (by decide) (Or.inr ⟨_, rfl⟩) ?_
        refine s_aload_n (q := 15) d_C_write_14 rfl rfl (Or.inr ⟨_, rfl⟩) ?_
        refine s_iload_n (q := 16) d_C_write_15 rfl rfl ?_
        refine g_callV (q := 19) d_C_write_16 rfl ml_C_53 mx_C_sheetAt mv_C_sheetAt (t_C_sheetAt_ok ug) hC.1 rfl rfl (Nat.le_of_ble_eq_true rfl) (by decide) ?_
        refine s_astore (q := 21) d_C_write_19 rfl (by decide) (Or.inr ⟨_, rfl⟩) ?_
        refine s_aload_n (q := 22) d_C_write_21 rfl rfl (Or.inr ⟨_, rfl⟩) ?_
        refine s_iload (q := 24) d_C_write_22 rfl rfl ?_
        refine g_callV (q := 27) d_C_write_24 rfl ml_C_53 mx_C_sheetAt mv_C_sheetAt (t_C_sheetAt_ok uv) hC.1 rfl rfl (Nat.le_of_ble_eq_true rfl) (by decide) ?_
        refine s_astore (q := 29) d_C_write_27 rfl (by decide) (Or.inr ⟨_, rfl⟩) ?_
        refine s_aload (q := 31) d_C_write_29 rfl rfl (Or.inl rfl) ?_
        refine s_ifnull_n (tgt := 49) d_C_write_31 (by decide) ?_
        refine s_bipush (v := (-2)) (q := 51) d_C_write_49 rfl kb_m2 ?_
        exact g_iret d_C_write_51 rfl rfl rfl rfl
theorem t_C_write_K {X : RAM} {t : Nat} {k g v : Int32} (ht : t < 2) (hz : k < 0 ∨ 4 ≤ k) : CG l D ac b y_C_write c_C_write 11 (some .int) 3 70 [.ref 0, .int (nI t), .int k, .int g, .int v] X (some (.int (-2))) (X) := by
  rcases ix4 (x := g) with ug | ⟨g, ug, rfl⟩
  · skip
    rcases ix4 (x := v) with uv | ⟨v, uv, rfl⟩
    · skip
      refine Ct_of false (by decide) (fun h => by cases h) (Nat.le_of_ble_eq_true rfl) ?_
      show V l D ac b "SpanStore" c_C_write 11 (some .int) false 3 70 0 0 ((some (.int (-2))), 144, mk (X)) 0 0 0 [(0, .ref 0), (1, .int (nI t)), (2, .int k), (3, .int g), (4, .int v)] [] 144 (mk X)
      refine s_aload_n (q := 1) d_C_write_0 rfl rfl (Or.inr ⟨_, rfl⟩) ?_
      refine s_iload_n (q := 2) d_C_write_1 rfl rfl ?_
      refine g_callV (q := 5) d_C_write_2 rfl ml_C_27 mx_C_tableAt mv_C_tableAt (t_C_tableAt_ok ht) hC.1 rfl rfl (Nat.le_of_ble_eq_true rfl) (by decide) ?_
      refine s_astore (q := 7) d_C_write_5 rfl (by decide) (Or.inr ⟨_, rfl⟩) ?_
      refine s_aload_n (q := 8) d_C_write_7 rfl rfl (Or.inr ⟨_, rfl⟩) ?_
      refine s_iload_n (q := 9) d_C_write_8 rfl rfl ?_
      refine g_callV (q := 12) d_C_write_9 rfl ml_C_53 mx_C_sheetAt mv_C_sheetAt (t_C_sheetAt_no hz) hC.1 rfl rfl (Nat.le_of_ble_eq_true rfl) (by decide) ?_
      refine s_astore (q := 14) d_C_write_12 rfl (by decide) (Or.inl rfl) ?_
      refine s_aload_n (q := 15) d_C_write_14 rfl rfl (Or.inr ⟨_, rfl⟩) ?_
      refine s_iload_n (q := 16) d_C_write_15 rfl rfl ?_
      refine g_callV (q := 19) d_C_write_16 rfl ml_C_53 mx_C_sheetAt mv_C_sheetAt (t_C_sheetAt_no ug) hC.1 rfl rfl (Nat.le_of_ble_eq_true rfl) (by decide) ?_
      refine s_astore (q := 21) d_C_write_19 rfl (by decide) (Or.inl rfl) ?_
      refine s_aload_n (q := 22) d_C_write_21 rfl rfl (Or.inr ⟨_, rfl⟩) ?_
      refine s_iload (q := 24) d_C_write_22 rfl rfl ?_
      refine g_callV (q := 27) d_C_write_24 rfl ml_C_53 mx_C_sheetAt mv_C_sheetAt (t_C_sheetAt_no uv) hC.1 rfl rfl (Nat.le_of_ble_eq_true rfl) (by decide) ?_
      refine s_astore (q := 29) d_C_write_27 rfl (by decide) (Or.inl rfl) ?_
      refine s_aload (q := 31) d_C_write_29 rfl rfl (Or.inr ⟨_, rfl⟩) ?_
      refine s_ifnull_r (q := 34) d_C_write_31 rfl ?_
      refine s_aload (q := 36) d_C_write_34 rfl rfl (Or.inl rfl) ?_
      refine s_ifnull_n (tgt := 49) d_C_write_36 (by decide) ?_
      refine s_bipush (v := (-2)) (q := 51) d_C_write_49 rfl kb_m2 ?_
      exact g_iret d_C_write_51 rfl rfl rfl rfl
    · skip
      refine Ct_of false (by decide) (fun h => by cases h) (Nat.le_of_ble_eq_true rfl) ?_
      show V l D ac b "SpanStore" c_C_write 11 (some .int) false 3 70 0 0 ((some (.int (-2))), 144, mk (X)) 0 0 0 [(0, .ref 0), (1, .int (nI t)), (2, .int k), (3, .int g), (4, .int (nI v))] [] 144 (mk X)
      refine s_aload_n (q := 1) d_C_write_0 rfl rfl (Or.inr ⟨_, rfl⟩) ?_
      refine s_iload_n (q := 2) d_C_write_1 rfl rfl ?_
      refine g_callV (q := 5) d_C_write_2 rfl ml_C_27 mx_C_tableAt mv_C_tableAt (t_C_tableAt_ok ht) hC.1 rfl rfl (Nat.le_of_ble_eq_true rfl) (by decide) ?_
      refine s_astore (q := 7) d_C_write_5 rfl (by decide) (Or.inr ⟨_, rfl⟩) ?_
      refine s_aload_n (q := 8) d_C_write_7 rfl rfl (Or.inr ⟨_, rfl⟩) ?_
      refine s_iload_n (q := 9) d_C_write_8 rfl rfl ?_
      refine g_callV (q := 12) d_C_write_9 rfl ml_C_53 mx_C_sheetAt mv_C_sheetAt (t_C_sheetAt_no hz) hC.1 rfl rfl (Nat.le_of_ble_eq_true rfl) (by decide) ?_
      refine s_astore (q := 14) d_C_write_12 rfl (by decide) (Or.inl rfl) ?_
      refine s_aload_n (q := 15) d_C_write_14 rfl rfl (Or.inr ⟨_, rfl⟩) ?_
      refine s_iload_n (q := 16) d_C_write_15 rfl rfl ?_
      refine g_callV (q := 19) d_C_write_16 rfl ml_C_53 mx_C_sheetAt mv_C_sheetAt (t_C_sheetAt_no ug) hC.1 rfl rfl (Nat.le_of_ble_eq_true rfl) (by decide) ?_
      refine s_astore (q := 21) d_C_write_19 rfl (by decide) (Or.inl rfl) ?_
      refine s_aload_n (q := 22) d_C_write_21 rfl rfl (Or.inr ⟨_, rfl⟩) ?_
      refine s_iload (q := 24) d_C_write_22 rfl rfl ?_
      refine g_callV (q := 27) d_C_write_24 rfl ml_C_53 mx_C_sheetAt mv_C_sheetAt (t_C_sheetAt_ok uv) hC.1 rfl rfl (Nat.le_of_ble_eq_true rfl) (by decide) ?_
      refine s_astore (q := 29) d_C_write_27 rfl (by decide) (Or.inr ⟨_, rfl⟩) ?_
      refine s_aload (q := 31) d_C_write_29 rfl rfl (Or.inr ⟨_, rfl⟩) ?_
      refine s_ifnull_r (q := 34) d_C_write_31 rfl ?_
      refine s_aload (q := 36) d_C_write_34 rfl rfl (Or.inl rfl) ?_
      refine s_ifnull_n (tgt := 49) d_C_write_36 (by decide) ?_
      refine s_bipush (v := (-2)) (q := 51) d_C_write_49 rfl kb_m2 ?_
      exact g_iret d_C_write_51 rfl rfl rfl rfl
  · skip
    rcases ix4 (x := v) with uv | ⟨v, uv, rfl⟩
    · skip
      refine Ct_of false (by decide) (fun h => by cases h) (Nat.le_of_ble_eq_true rfl) ?_
      show V l D ac b "SpanStore" c_C_write 11 (some .int) false 3 70 0 0 ((some (.int (-2))), 144, mk (X)) 0 0 0 [(0, .ref 0), (1, .int (nI t)), (2, .int k), (3, .int (nI g)), (4, .int v)] [] 144 (mk X)
      refine s_aload_n (q := 1) d_C_write_0 rfl rfl (Or.inr ⟨_, rfl⟩) ?_
      refine s_iload_n (q := 2) d_C_write_1 rfl rfl ?_
      refine g_callV (q := 5) d_C_write_2 rfl ml_C_27 mx_C_tableAt mv_C_tableAt (t_C_tableAt_ok ht) hC.1 rfl rfl (Nat.le_of_ble_eq_true rfl) (by decide) ?_
      refine s_astore (q := 7) d_C_write_5 rfl (by decide) (Or.inr ⟨_, rfl⟩) ?_
      refine s_aload_n (q := 8) d_C_write_7 rfl rfl (Or.inr ⟨_, rfl⟩) ?_
      refine s_iload_n (q := 9) d_C_write_8 rfl rfl ?_
      refine g_callV (q := 12) d_C_write_9 rfl ml_C_53 mx_C_sheetAt mv_C_sheetAt (t_C_sheetAt_no hz) hC.1 rfl rfl (Nat.le_of_ble_eq_true rfl) (by decide) ?_
      refine s_astore (q := 14) d_C_write_12 rfl (by decide) (Or.inl rfl) ?_
      refine s_aload_n (q := 15) d_C_write_14 rfl rfl (Or.inr ⟨_, rfl⟩) ?_
      refine s_iload_n (q := 16) d_C_write_15 rfl rfl ?_
      refine g_callV (q := 19) d_C_write_16 rfl ml_C_53 mx_C_sheetAt mv_C_sheetAt (t_C_sheetAt_ok ug) hC.1 rfl rfl (Nat.le_of_ble_eq_true rfl) (by decide) ?_
      refine s_astore (q := 21) d_C_write_19 rfl (by decide) (Or.inr ⟨_, rfl⟩) ?_
      refine s_aload_n (q := 22) d_C_write_21 rfl rfl (Or.inr ⟨_, rfl⟩) ?_
      refine s_iload (q := 24) d_C_write_22 rfl rfl ?_
      refine g_callV (q := 27) d_C_write_24 rfl ml_C_53 mx_C_sheetAt mv_C_sheetAt (t_C_sheetAt_no uv) hC.1 rfl rfl (Nat.le_of_ble_eq_true rfl) (by decide) ?_
      refine s_astore (q := 29) d_C_write_27 rfl (by decide) (Or.inl rfl) ?_
      refine s_aload (q := 31) d_C_write_29 rfl rfl (Or.inr ⟨_, rfl⟩) ?_
      refine s_ifnull_r (q := 34) d_C_write_31 rfl ?_
      refine s_aload (q := 36) d_C_write_34 rfl rfl (Or.inl rfl) ?_
      refine s_ifnull_n (tgt := 49) d_C_write_36 (by decide) ?_
      refine s_bipush (v := (-2)) (q := 51) d_C_write_49 rfl kb_m2 ?_
      exact g_iret d_C_write_51 rfl rfl rfl rfl
    · skip
      refine Ct_of false (by decide) (fun h => by cases h) (Nat.le_of_ble_eq_true rfl) ?_
      show V l D ac b "SpanStore" c_C_write 11 (some .int) false 3 70 0 0 ((some (.int (-2))), 144, mk (X)) 0 0 0 [(0, .ref 0), (1, .int (nI t)), (2, .int k), (3, .int (nI g)), (4, .int (nI v))] [] 144 (mk X)
      refine s_aload_n (q := 1) d_C_write_0 rfl rfl (Or.inr ⟨_, rfl⟩) ?_
      refine s_iload_n (q := 2) d_C_write_1 rfl rfl ?_
      refine g_callV (q := 5) d_C_write_2 rfl ml_C_27 mx_C_tableAt mv_C_tableAt (t_C_tableAt_ok ht) hC.1 rfl rfl (Nat.le_of_ble_eq_true rfl) (by decide) ?_
      refine s_astore (q := 7) d_C_write_5 rfl (by decide) (Or.inr ⟨_, rfl⟩) ?_
      refine s_aload_n (q := 8) d_C_write_7 rfl rfl (Or.inr ⟨_, rfl⟩) ?_
      refine s_iload_n (q := 9) d_C_write_8 rfl rfl ?_
      refine g_callV (q := 12) d_C_write_9 rfl ml_C_53 mx_C_sheetAt mv_C_sheetAt (t_C_sheetAt_no hz) hC.1 rfl rfl (Nat.le_of_ble_eq_true rfl) (by decide) ?_
      refine s_astore (q := 14) d_C_write_12 rfl (by decide) (Or.inl rfl) ?_
      refine s_aload_n (q := 15) d_C_write_14 rfl rfl (Or.inr ⟨_, rfl⟩) ?_
      refine s_iload_n (q := 16) d_C_write_15 rfl rfl ?_
      refine g_callV (q := 19) d_C_write_16 rfl ml_C_53 mx_C_sheetAt mv_C_sheetAt (t_C_sheetAt_ok ug) hC.1 rfl rfl (Nat.le_of_ble_eq_true rfl) (by decide) ?_
      refine s_astore (q := 21) d_C_write_19 rfl (by decide) (Or.inr ⟨_, rfl⟩) ?_
      refine s_aload_n (q := 22) d_C_write_21 rfl rfl (Or.inr ⟨_, rfl⟩) ?_
      refine s_iload (q := 24) d_C_write_22 rfl rfl ?_
      refine g_callV (q := 27) d_C_write_24 rfl ml_C_53 mx_C_sheetAt mv_C_sheetAt (t_C_sheetAt_ok uv) hC.1 rfl rfl (Nat.le_of_ble_eq_true rfl) (by decide) ?_
      refine s_astore (q := 29) d_C_write_27 rfl (by decide) (Or.inr ⟨_, rfl⟩) ?_
      refine s_aload (q := 31) d_C_write_29 rfl rfl (Or.inr ⟨_, rfl⟩) ?_
      refine s_ifnull_r (q := 34) d_C_write_31 rfl ?_
      refine s_aload (q := 36) d_C_write_34 rfl rfl (Or.inl rfl) ?_
      refine s_ifnull_n (tgt := 49) d_C_write_36 (by decide) ?_
      refine s_bipush (v := (-2)) (q := 51) d_C_write_49 rfl kb_m2 ?_
      exact g_iret d_C_write_51 rfl rfl rfl rfl
theorem t_C_write_G {X : RAM} {t k : Nat} {g v : Int32} (ht : t < 2) (hk : k < 4) (hz : g < 0 ∨ 4 ≤ g) : CG l D ac b y_C_write c_C_write 11 (some .int) 3 70 [.ref 0, .int (nI t), .int (nI k), .int g, .int v] X (some (.int (-2))) (X) := by
  rcases ix4 (x := v) with uv | ⟨v, uv, rfl⟩
  · skip
    refine Ct_of false (by decide) (fun h => by cases h) (Nat.le_of_ble_eq_true rfl) ?_
    show V l D ac b "SpanStore" c_C_write 11 (some .int) false 3 70 0 0 ((some (.int (-2))), 144, mk (X)) 0 0 0 [(0, .ref 0), (1, .int (nI t)), (2, .int (nI k)), (3, .int g), (4, .int v)] [] 144 (mk X)
    refine s_aload_n (q := 1) d_C_write_0 rfl rfl (Or.inr ⟨_, rfl⟩) ?_
    refine s_iload_n (q := 2) d_C_write_1 rfl rfl ?_
    refine g_callV (q := 5) d_C_write_2 rfl ml_C_27 mx_C_tableAt mv_C_tableAt (t_C_tableAt_ok ht) hC.1 rfl rfl (Nat.le_of_ble_eq_true rfl) (by decide) ?_
    refine s_astore (q := 7) d_C_write_5 rfl (by decide) (Or.inr ⟨_, rfl⟩) ?_
    refine s_aload_n (q := 8) d_C_write_7 rfl rfl (Or.inr ⟨_, rfl⟩) ?_
    refine s_iload_n (q := 9) d_C_write_8 rfl rfl ?_
    refine g_callV (q := 12) d_C_write_9 rfl ml_C_53 mx_C_sheetAt mv_C_sheetAt (t_C_sheetAt_ok hk) hC.1 rfl rfl (Nat.le_of_ble_eq_true rfl) (by decide) ?_
    refine s_astore (q := 14) d_C_write_12 rfl (by decide) (Or.inr ⟨_, rfl⟩) ?_
    refine s_aload_n (q := 15) d_C_write_14 rfl rfl (Or.inr ⟨_, rfl⟩) ?_
    refine s_iload_n (q := 16) d_C_write_15 rfl rfl ?_
    refine g_callV (q := 19) d_C_write_16 rfl ml_C_53 mx_C_sheetAt mv_C_sheetAt (t_C_sheetAt_no hz) hC.1 rfl rfl (Nat.le_of_ble_eq_true rfl) (by decide) ?_
    refine s_astore (q := 21) d_C_write_19 rfl (by decide) (Or.inl rfl) ?_
    refine s_aload_n (q := 22) d_C_write_21 rfl rfl (Or.inr ⟨_, rfl⟩) ?_
    refine s_iload (q := 24) d_C_write_22 rfl rfl ?_
    refine g_callV (q := 27) d_C_write_24 rfl ml_C_53 mx_C_sheetAt mv_C_sheetAt (t_C_sheetAt_no uv) hC.1 rfl rfl (Nat.le_of_ble_eq_true rfl) (by decide) ?_
    refine s_astore (q := 29) d_C_write_27 rfl (by decide) (Or.inl rfl) ?_
    refine s_aload (q := 31) d_C_write_29 rfl rfl (Or.inr ⟨_, rfl⟩) ?_
    refine s_ifnull_r (q := 34) d_C_write_31 rfl ?_
    refine s_aload (q := 36) d_C_write_34 rfl rfl (Or.inr ⟨_, rfl⟩) ?_
    refine s_ifnull_r (q := 39) d_C_write_36 rfl ?_
    refine s_aload (q := 41) d_C_write_39 rfl rfl (Or.inl rfl) ?_
    refine s_ifnull_n (tgt := 49) d_C_write_41 (by decide) ?_
    refine s_bipush (v := (-2)) (q := 51) d_C_write_49 rfl kb_m2 ?_
    exact g_iret d_C_write_51 rfl rfl rfl rfl
  · skip
    refine Ct_of false (by decide) (fun h => by cases h) (Nat.le_of_ble_eq_true rfl) ?_
    show V l D ac b "SpanStore" c_C_write 11 (some .int) false 3 70 0 0 ((some (.int (-2))), 144, mk (X)) 0 0 0 [(0, .ref 0), (1, .int (nI t)), (2, .int (nI k)), (3, .int g), (4, .int (nI v))] [] 144 (mk X)
    refine s_aload_n (q := 1) d_C_write_0 rfl rfl (Or.inr ⟨_, rfl⟩) ?_
    refine s_iload_n (q := 2) d_C_write_1 rfl rfl ?_
    refine g_callV (q := 5) d_C_write_2 rfl ml_C_27 mx_C_tableAt mv_C_tableAt (t_C_tableAt_ok ht) hC.1 rfl rfl (Nat.le_of_ble_eq_true rfl) (by decide) ?_
    refine s_astore (q := 7) d_C_write_5 rfl (by decide) (Or.inr ⟨_, rfl⟩) ?_
    refine s_aload_n (q := 8) d_C_write_7 rfl rfl (Or.inr ⟨_, rfl⟩) ?_
    refine s_iload_n (q := 9) d_C_write_8 rfl rfl ?_
    refine g_callV (q := 12) d_C_write_9 rfl ml_C_53 mx_C_sheetAt mv_C_sheetAt (t_C_sheetAt_ok hk) hC.1 rfl rfl (Nat.le_of_ble_eq_true rfl) (by decide) ?_
    refine s_astore (q := 14) d_C_write_12 rfl (by decide) (Or.inr ⟨_, rfl⟩) ?_
    refine s_aload_n (q := 15) d_C_write_14 rfl rfl (Or.inr ⟨_, rfl⟩) ?_
    refine s_iload_n (q := 16) d_C_write_15 rfl rfl ?_
    refine g_callV (q := 19) d_C_write_16 rfl ml_C_53 mx_C_sheetAt mv_C_sheetAt (t_C_sheetAt_no hz) hC.1 rfl rfl (Nat.le_of_ble_eq_true rfl) (by decide) ?_
    refine s_astore (q := 21) d_C_write_19 rfl (by decide) (Or.inl rfl) ?_
    refine s_aload_n (q := 22) d_C_write_21 rfl rfl (Or.inr ⟨_, rfl⟩) ?_
    refine s_iload (q := 24) d_C_write_22 rfl rfl ?_
    refine g_callV (q := 27) d_C_write_24 rfl ml_C_53 mx_C_sheetAt mv_C_sheetAt (t_C_sheetAt_ok uv) hC.1 rfl rfl (Nat.le_of_ble_eq_true rfl) (by decide) ?_
    refine s_astore (q := 29) d_C_write_27 rfl (by decide) (Or.inr ⟨_, rfl⟩) ?_
    refine s_aload (q := 31) d_C_write_29 rfl rfl (Or.inr ⟨_, rfl⟩) ?_
    refine s_ifnull_r (q := 34) d_C_write_31 rfl ?_
    refine s_aload (q := 36) d_C_write_34 rfl rfl (Or.inr ⟨_, rfl⟩) ?_
    refine s_ifnull_r (q := 39) d_C_write_36 rfl ?_
    refine s_aload (q := 41) d_C_write_39 rfl rfl (Or.inl rfl) ?_
    refine s_ifnull_n (tgt := 49) d_C_write_41 (by decide) ?_
    refine s_bipush (v := (-2)) (q := 51) d_C_write_49 rfl kb_m2 ?_
    exact g_iret d_C_write_51 rfl rfl rfl rfl
theorem t_C_write_V {X : RAM} {t k g : Nat} {v : Int32} (ht : t < 2) (hk : k < 4) (hg : g < 4) (hz : v < 0 ∨ 4 ≤ v) : CG l D ac b y_C_write c_C_write 11 (some .int) 3 70 [.ref 0, .int (nI t), .int (nI k), .int (nI g), .int v] X (some (.int (-2))) (X) := by
  refine Ct_of false (by decide) (fun h => by cases h) (Nat.le_of_ble_eq_true rfl) ?_
  show V l D ac b "SpanStore" c_C_write 11 (some .int) false 3 70 0 0 ((some (.int (-2))), 144, mk (X)) 0 0 0 [(0, .ref 0), (1, .int (nI t)), (2, .int (nI k)), (3, .int (nI g)), (4, .int v)] [] 144 (mk X)
  refine s_aload_n (q := 1) d_C_write_0 rfl rfl (Or.inr ⟨_, rfl⟩) ?_
  refine s_iload_n (q := 2) d_C_write_1 rfl rfl ?_
  refine g_callV (q := 5) d_C_write_2 rfl ml_C_27 mx_C_tableAt mv_C_tableAt (t_C_tableAt_ok ht) hC.1 rfl rfl (Nat.le_of_ble_eq_true rfl) (by decide) ?_
  refine s_astore (q := 7) d_C_write_5 rfl (by decide) (Or.inr ⟨_, rfl⟩) ?_
  refine s_aload_n (q := 8) d_C_write_7 rfl rfl (Or.inr ⟨_, rfl⟩) ?_
  refine s_iload_n (q := 9) d_C_write_8 rfl rfl ?_
  refine g_callV (q := 12) d_C_write_9 rfl ml_C_53 mx_C_sheetAt mv_C_sheetAt (t_C_sheetAt_ok hk) hC.1 rfl rfl (Nat.le_of_ble_eq_true rfl) (by decide) ?_
  refine s_astore (q := 14) d_C_write_12 rfl (by decide) (Or.inr ⟨_, rfl⟩) ?_
  refine s_aload_n (q := 15) d_C_write_14 rfl rfl (Or.inr ⟨_, rfl⟩) ?_
  refine s_iload_n (q := 16) d_C_write_15 rfl rfl ?_
  refine g_callV (q := 19) d_C_write_16 rfl ml_C_53 mx_C_sheetAt mv_C_sheetAt (t_C_sheetAt_ok hg) hC.1 rfl rfl (Nat.le_of_ble_eq_true rfl) (by decide) ?_
  refine s_astore (q := 21) d_C_write_19 rfl (by decide) (Or.inr ⟨_, rfl⟩) ?_
  refine s_aload_n (q := 22) d_C_write_21 rfl rfl (Or.inr ⟨_, rfl⟩) ?_
  refine s_iload (q := 24) d_C_write_22 rfl rfl ?_
  refine g_callV (q := 27) d_C_write_24 rfl ml_C_53 mx_C_sheetAt mv_C_sheetAt (t_C_sheetAt_no hz) hC.1 rfl rfl (Nat.le_of_ble_eq_true rfl) (by decide) ?_
  refine s_astore (q := 29) d_C_write_27 rfl (by decide) (Or.inl rfl) ?_
  refine s_aload (q := 31) d_C_write_29 rfl rfl (Or.inr ⟨_, rfl⟩) ?_
  refine s_ifnull_r (q := 34) d_C_write_31 rfl ?_
  refine s_aload (q := 36) d_C_write_34 rfl rfl (Or.inr ⟨_, rfl⟩) ?_
  refine s_ifnull_r (q := 39) d_C_write_36 rfl ?_
  refine s_aload (q := 41) d_C_write_39 rfl rfl (Or.inr ⟨_, rfl⟩) ?_
  refine s_ifnull_r (q := 44) d_C_write_41 rfl ?_
  refine s_aload (q := 46) d_C_write_44 rfl rfl (Or.inl rfl) ?_
  refine s_ifnonnull_n (q := 49) d_C_write_46 rfl ?_
  refine s_bipush (v := (-2)) (q := 51) d_C_write_49 rfl kb_m2 ?_
  exact g_iret d_C_write_51 rfl rfl rfl rfl
theorem t_C_write_S {X : RAM} {t k g v : Nat} (ht : t < 2) (hk : k < 4) (hg : g < 4) (hv : v < 4) (hs : X (4 + 55 * t) 3 = 0) : CG l D ac b y_C_write c_C_write 11 (some .int) 3 70 [.ref 0, .int (nI t), .int (nI k), .int (nI g), .int (nI v)] X (some (.int (-3))) (X) := by
  refine Ct_of false (by decide) (fun h => by cases h) (Nat.le_of_ble_eq_true rfl) ?_
  show V l D ac b "SpanStore" c_C_write 11 (some .int) false 3 70 0 0 ((some (.int (-3))), 144, mk (X)) 0 0 0 [(0, .ref 0), (1, .int (nI t)), (2, .int (nI k)), (3, .int (nI g)), (4, .int (nI v))] [] 144 (mk X)
  refine s_aload_n (q := 1) d_C_write_0 rfl rfl (Or.inr ⟨_, rfl⟩) ?_
  refine s_iload_n (q := 2) d_C_write_1 rfl rfl ?_
  refine g_callV (q := 5) d_C_write_2 rfl ml_C_27 mx_C_tableAt mv_C_tableAt (t_C_tableAt_ok ht) hC.1 rfl rfl (Nat.le_of_ble_eq_true rfl) (by decide) ?_
  refine s_astore (q := 7) d_C_write_5 rfl (by decide) (Or.inr ⟨_, rfl⟩) ?_
  refine s_aload_n (q := 8) d_C_write_7 rfl rfl (Or.inr ⟨_, rfl⟩) ?_
  refine s_iload_n (q := 9) d_C_write_8 rfl rfl ?_
  refine g_callV (q := 12) d_C_write_9 rfl ml_C_53 mx_C_sheetAt mv_C_sheetAt (t_C_sheetAt_ok hk) hC.1 rfl rfl (Nat.le_of_ble_eq_true rfl) (by decide) ?_
  refine s_astore (q := 14) d_C_write_12 rfl (by decide) (Or.inr ⟨_, rfl⟩) ?_
  refine s_aload_n (q := 15) d_C_write_14 rfl rfl (Or.inr ⟨_, rfl⟩) ?_
  refine s_iload_n (q := 16) d_C_write_15 rfl rfl ?_
  refine g_callV (q := 19) d_C_write_16 rfl ml_C_53 mx_C_sheetAt mv_C_sheetAt (t_C_sheetAt_ok hg) hC.1 rfl rfl (Nat.le_of_ble_eq_true rfl) (by decide) ?_
  refine s_astore (q := 21) d_C_write_19 rfl (by decide) (Or.inr ⟨_, rfl⟩) ?_
  refine s_aload_n (q := 22) d_C_write_21 rfl rfl (Or.inr ⟨_, rfl⟩) ?_
  refine s_iload (q := 24) d_C_write_22 rfl rfl ?_
  refine g_callV (q := 27) d_C_write_24 rfl ml_C_53 mx_C_sheetAt mv_C_sheetAt (t_C_sheetAt_ok hv) hC.1 rfl rfl (Nat.le_of_ble_eq_true rfl) (by decide) ?_
  refine s_astore (q := 29) d_C_write_27 rfl (by decide) (Or.inr ⟨_, rfl⟩) ?_
  refine s_aload (q := 31) d_C_write_29 rfl rfl (Or.inr ⟨_, rfl⟩) ?_
  refine s_ifnull_r (q := 34) d_C_write_31 rfl ?_
  refine s_aload (q := 36) d_C_write_34 rfl rfl (Or.inr ⟨_, rfl⟩) ?_
  refine s_ifnull_r (q := 39) d_C_write_36 rfl ?_
  refine s_aload (q := 41) d_C_write_39 rfl rfl (Or.inr ⟨_, rfl⟩) ?_
  refine s_ifnull_r (q := 44) d_C_write_41 rfl ?_
  refine s_aload (q := 46) d_C_write_44 rfl rfl (Or.inr ⟨_, rfl⟩) ?_
  refine s_ifnonnull_r (tgt := 52) d_C_write_46 (by decide) ?_
  refine s_aload (q := 54) d_C_write_52 rfl rfl (Or.inr ⟨_, rfl⟩) ?_
  refine g_geti (q := 57) d_C_write_54 rfl fl_C_39 (hC.2.2.2.2.1 _ ht).1 rfl ?_
  refine s_if_ne (tgt := 63) (q := 60) d_C_write_57 (by decide) rfl (fun z9 => absurd hs z9) (fun _ => ?_)
  refine s_bipush (v := (-3)) (q := 62) d_C_write_60 rfl kb_m3 ?_
  exact g_iret d_C_write_62 rfl rfl rfl rfl
theorem t_C_write_L {X : RAM} {t k g v : Nat} (ht : t < 2) (hk : k < 4) (hg : g < 4) (hv : v < 4) (hs : ¬ X (4 + 55 * t) 3 = 0) (hl : ¬ (X (114 + 2 * k) 3 = 0 ∧ X (114 + 2 * g) 3 = 0 ∧ X (114 + 2 * v) 3 = 0)) : CG l D ac b y_C_write c_C_write 11 (some .int) 3 70 [.ref 0, .int (nI t), .int (nI k), .int (nI g), .int (nI v)] X (some (.int (-11))) (up2 X 0 4 1) := by
  refine Ct_of false (by decide) (fun h => by cases h) (Nat.le_of_ble_eq_true rfl) ?_
  show V l D ac b "SpanStore" c_C_write 11 (some .int) false 3 70 0 0 ((some (.int (-11))), 144, mk (up2 X 0 4 1)) 0 0 0 [(0, .ref 0), (1, .int (nI t)), (2, .int (nI k)), (3, .int (nI g)), (4, .int (nI v))] [] 144 (mk X)
  refine s_aload_n (q := 1) d_C_write_0 rfl rfl (Or.inr ⟨_, rfl⟩) ?_
  refine s_iload_n (q := 2) d_C_write_1 rfl rfl ?_
  refine g_callV (q := 5) d_C_write_2 rfl ml_C_27 mx_C_tableAt mv_C_tableAt (t_C_tableAt_ok ht) hC.1 rfl rfl (Nat.le_of_ble_eq_true rfl) (by decide) ?_
  refine s_astore (q := 7) d_C_write_5 rfl (by decide) (Or.inr ⟨_, rfl⟩) ?_
  refine s_aload_n (q := 8) d_C_write_7 rfl rfl (Or.inr ⟨_, rfl⟩) ?_
  refine s_iload_n (q := 9) d_C_write_8 rfl rfl ?_
  refine g_callV (q := 12) d_C_write_9 rfl ml_C_53 mx_C_sheetAt mv_C_sheetAt (t_C_sheetAt_ok hk) hC.1 rfl rfl (Nat.le_of_ble_eq_true rfl) (by decide) ?_
  refine s_astore (q := 14) d_C_write_12 rfl (by decide) (Or.inr ⟨_, rfl⟩) ?_
  refine s_aload_n (q := 15) d_C_write_14 rfl rfl (Or.inr ⟨_, rfl⟩) ?_
  refine s_iload_n (q := 16) d_C_write_15 rfl rfl ?_
  refine g_callV (q := 19) d_C_write_16 rfl ml_C_53 mx_C_sheetAt mv_C_sheetAt (t_C_sheetAt_ok hg) hC.1 rfl rfl (Nat.le_of_ble_eq_true rfl) (by decide) ?_
  refine s_astore (q := 21) d_C_write_19 rfl (by decide) (Or.inr ⟨_, rfl⟩) ?_
  refine s_aload_n (q := 22) d_C_write_21 rfl rfl (Or.inr ⟨_, rfl⟩) ?_
  refine s_iload (q := 24) d_C_write_22 rfl rfl ?_
  refine g_callV (q := 27) d_C_write_24 rfl ml_C_53 mx_C_sheetAt mv_C_sheetAt (t_C_sheetAt_ok hv) hC.1 rfl rfl (Nat.le_of_ble_eq_true rfl) (by decide) ?_
  refine s_astore (q := 29) d_C_write_27 rfl (by decide) (Or.inr ⟨_, rfl⟩) ?_
  refine s_aload (q := 31) d_C_write_29 rfl rfl (Or.inr ⟨_, rfl⟩) ?_
  refine s_ifnull_r (q := 34) d_C_write_31 rfl ?_
  refine s_aload (q := 36) d_C_write_34 rfl rfl (Or.inr ⟨_, rfl⟩) ?_
  refine s_ifnull_r (q := 39) d_C_write_36 rfl ?_
  refine s_aload (q := 41) d_C_write_39 rfl rfl (Or.inr ⟨_, rfl⟩) ?_
  refine s_ifnull_r (q := 44) d_C_write_41 rfl ?_
  refine s_aload (q := 46) d_C_write_44 rfl rfl (Or.inr ⟨_, rfl⟩) ?_
  refine s_ifnonnull_r (tgt := 52) d_C_write_46 (by decide) ?_
  refine s_aload (q := 54) d_C_write_52 rfl rfl (Or.inr ⟨_, rfl⟩) ?_
  refine g_geti (q := 57) d_C_write_54 rfl fl_C_39 (hC.2.2.2.2.1 _ ht).1 rfl ?_
  refine s_if_ne (tgt := 63) (q := 60) d_C_write_57 (by decide) rfl (fun _ => ?_) (fun z9 => absurd z9 hs)
  refine s_aload (q := 65) d_C_write_63 rfl rfl (Or.inr ⟨_, rfl⟩) ?_
  refine g_geti (q := 68) d_C_write_65 rfl fl_C_57 (hC.2.2.2.2.2 _ hk).1 rfl ?_
  refine s_if_ne (tgt := 87) (q := 71) d_C_write_68 (by decide) rfl (fun h_68 => ?_) (fun h_68 => ?_)
  · -- T 68
    refine s_aload_n (q := 88) d_C_write_87 rfl rfl (Or.inr ⟨_, rfl⟩) ?_
    refine s_iconst (v := 1) (q := 89) d_C_write_88 rfl ki_1 ?_
    refine g_callV (q := 92) d_C_write_89 rfl ml_C_60 mx_C_found mv_C_found t_C_found hC.1 rfl rfl (Nat.le_of_ble_eq_true rfl) (by decide) ?_
    exact g_iret d_C_write_92 rfl rfl (by decide) rfl
  · -- F 68
    refine s_aload (q := 73) d_C_write_71 rfl rfl (Or.inr ⟨_, rfl⟩) ?_
    refine g_geti (q := 76) d_C_write_73 rfl fl_C_57 (hC.2.2.2.2.2 _ hg).1 rfl ?_
    refine s_if_ne (tgt := 87) (q := 79) d_C_write_76 (by decide) rfl (fun h_76 => ?_) (fun h_76 => ?_)
    · -- T 76
      refine s_aload_n (q := 88) d_C_write_87 rfl rfl (Or.inr ⟨_, rfl⟩) ?_
      refine s_iconst (v := 1) (q := 89) d_C_write_88 rfl ki_1 ?_
      refine g_callV (q := 92) d_C_write_89 rfl ml_C_60 mx_C_found mv_C_found t_C_found hC.1 rfl rfl (Nat.le_of_ble_eq_true rfl) (by decide) ?_
      exact g_iret d_C_write_92 rfl rfl (by decide) rfl
    · -- F 76
      refine s_aload (q := 81) d_C_write_79 rfl rfl (Or.inr ⟨_, rfl⟩) ?_
      refine g_geti (q := 84) d_C_write_81 rfl fl_C_57 (hC.2.2.2.2.2 _ hv).1 rfl ?_
      refine s_if_eq (tgt := 93) (q := 87) d_C_write_84 (by decide) rfl (fun h_84 => ?_) (fun h_84 => ?_)
      · -- T 84
        exact absurd ⟨h_68, h_76, h_84⟩ hl --done
      · -- F 84
        refine s_aload_n (q := 88) d_C_write_87 rfl rfl (Or.inr ⟨_, rfl⟩) ?_
        refine s_iconst (v := 1) (q := 89) d_C_write_88 rfl ki_1 ?_
        refine g_callV (q := 92) d_C_write_89 rfl ml_C_60 mx_C_found mv_C_found t_C_found hC.1 rfl rfl (Nat.le_of_ble_eq_true rfl) (by decide) ?_
        exact g_iret d_C_write_92 rfl rfl (by decide) rfl
def wtS (X : RAM) (o s1 s2 s3 rm : Nat) : Nat → RAM × Nat
  | 0 => (X, 0)
  | j + 1 => wkS (wtS X o s1 s2 s3 rm j).1 (o + 3 + 6 * j) s1 s2 s3 rm (wtS X o s1 s2 s3 rm j).2 (szN X (o + 3 + 6 * j))
theorem wtS_ne {X : RAM} {o s1 s2 s3 rm a : Nat} (h1 : a ≠ s1 + 1) (h2 : a ≠ s2 + 1) (h3 : a ≠ s3 + 1) (j : Nat) : (wtS X o s1 s2 s3 rm j).1 a = X a := by
  induction j with
  | zero => rfl
  | succ j ih => exact (wkS_ne h1 h2 h3 _).trans ih
theorem wtS_le {X : RAM} {o s1 s2 s3 rm : Nat} (hr : rm ≤ 40) (j : Nat) : (wtS X o s1 s2 s3 rm j).2 ≤ 40 := by
  induction j with
  | zero => exact Nat.zero_le 40
  | succ j ih => exact wkS_le ih hr _
theorem lp_writeT {X : RAM} {t k g v n1 n2 n3 : Nat} (ht : t < 2) (hk : k < 4) (hg : g < 4) (hv : v < 4) (z1 : X (114 + 2 * k) 2 = nI n1) (z2 : X (114 + 2 * g) 2 = nI n2) (z3 : X (114 + 2 * v) 2 = nI n3) (m1 : n1 ≤ 40) (m2 : n2 ≤ 40) (m3 : n3 ≤ 40) (hZ : okZ X (4 + 55 * t)) : ∀ i, i ≤ 8 → V l D ac b "SpanStore" c_C_write 11 (some .int) false 3 70 0 0 (some (.int (nI (wtS X (4 + 55 * t) (114 + 2 * k) (114 + 2 * g) (114 + 2 * v) (min3 n1 n2 n3) 8).2)), 144, mk (wtS X (4 + 55 * t) (114 + 2 * k) (114 + 2 * g) (114 + 2 * v) (min3 n1 n2 n3) 8).1) 0 0 99 [(5, .ref (4 + 55 * t)), (6, .ref (114 + 2 * k)), (7, .ref (114 + 2 * g)), (8, .ref (114 + 2 * v)), (9, .int (nI (wtS X (4 + 55 * t) (114 + 2 * k) (114 + 2 * g) (114 + 2 * v) (min3 n1 n2 n3) i).2)), (10, .int (nI i))] [] 144 (mk (wtS X (4 + 55 * t) (114 + 2 * k) (114 + 2 * g) (114 + 2 * v) (min3 n1 n2 n3) i).1) := by
  have hrm : min3 n1 n2 n3 ≤ 40 := by unfold min3; omega
  refine nat_down ?_ (fun i hi ih => ?_)
  · skip
    refine s_iload (q := 101) d_C_write_99 rfl rfl ?_
    refine s_bipush (v := 8) (q := 103) d_C_write_101 rfl kb_8 ?_
    refine s_icmp_ge (tgt := 133) (q := 106) d_C_write_103 (by decide) rfl (fun _ => ?_) (fun z9 => absurd le8 z9)
    refine s_iload (q := 135) d_C_write_133 rfl rfl ?_
    exact g_iret d_C_write_135 rfl rfl rfl rfl
  · skip
    refine s_iload (q := 101) d_C_write_99 rfl rfl ?_
    refine s_bipush (v := 8) (q := 103) d_C_write_101 rfl kb_8 ?_
    refine s_icmp_ge (tgt := 133) (q := 106) d_C_write_103 (by decide) rfl (fun z9 => absurd z9 (nle8 hi)) (fun _ => ?_)
    refine s_aload (q := 108) d_C_write_106 rfl rfl (Or.inr ⟨_, rfl⟩) ?_
    refine g_getr (q := 111) d_C_write_108 rfl fl_C_182 (hC.2.2.2.2.1 _ ht).1 rfl ?_
    refine s_iload (q := 113) d_C_write_111 rfl rfl ?_
    refine g_aald (q := 114) d_C_write_113 rfl (hC.2.2.2.2.1 _ ht).2.1 (by decide) rfl (by decide) rfl hi (if_pos hi) ?_
    refine s_aload (q := 116) d_C_write_114 rfl rfl (Or.inr ⟨_, rfl⟩) ?_
    refine s_aload (q := 118) d_C_write_116 rfl rfl (Or.inr ⟨_, rfl⟩) ?_
    refine s_aload (q := 120) d_C_write_118 rfl rfl (Or.inr ⟨_, rfl⟩) ?_
    refine s_iload (q := 122) d_C_write_120 rfl rfl ?_
    refine g_callV (q := 125) d_C_write_122 rfl ml_C_186 mx_B_writeKnown mv_B_writeKnown (t_B_write (n := szN X (4 + 55 * t + 3 + 6 * i)) (n1 := n1) (n2 := n2) (n3 := n3) ((hC.2.2.2.2.1 _ ht).2.2.2.1 _ hi) (by rw [(wtS_ne (by omega) (by omega) (by omega) i)]; exact (hZ i hi).1) (hZ i hi).2 (hC.2.2.2.2.2 _ hk) (hC.2.2.2.2.2 _ hg) (hC.2.2.2.2.2 _ hv) (by rw [(wtS_ne (by omega) (by omega) (by omega) i)]; exact z1) (by rw [(wtS_ne (by omega) (by omega) (by omega) i)]; exact z2) (by rw [(wtS_ne (by omega) (by omega) (by omega) i)]; exact z3) m1 m2 m3 (wtS_le hrm i) (by omega) (by omega) (by omega) (by omega)) ((hC.2.2.2.2.1 _ ht).2.2.2.1 _ hi).1 rfl rfl (Nat.le_of_ble_eq_true rfl) (by decide) ?_
    refine s_istore (q := 127) d_C_write_125 rfl (by decide) ?_
    refine s_iinc (q := 130) d_C_write_127 rfl rfl (by first | exact inc1 _ | rfl) (by decide) ?_
    refine s_goto (tgt := 99) d_C_write_130 (by decide) ?_
    exact s_lv (lv' := [(5, .ref (4 + 55 * t)), (6, .ref (114 + 2 * k)), (7, .ref (114 + 2 * g)), (8, .ref (114 + 2 * v)), (9, .int (nI (wtS X (4 + 55 * t) (114 + 2 * k) (114 + 2 * g) (114 + 2 * v) (min3 n1 n2 n3) (i + 1)).2)), (10, .int (nI (i + 1)))]) ⟨rfl, rfl, rfl, rfl, rfl, rfl, trivial⟩ ih
theorem t_C_write_D {X : RAM} {t k g v n1 n2 n3 : Nat} (ht : t < 2) (hk : k < 4) (hg : g < 4) (hv : v < 4) (z1 : X (114 + 2 * k) 2 = nI n1) (z2 : X (114 + 2 * g) 2 = nI n2) (z3 : X (114 + 2 * v) 2 = nI n3) (m1 : n1 ≤ 40) (m2 : n2 ≤ 40) (m3 : n3 ≤ 40) (hZ : okZ X (4 + 55 * t)) (hs : ¬ X (4 + 55 * t) 3 = 0) (l1 : X (114 + 2 * k) 3 = 0) (l2 : X (114 + 2 * g) 3 = 0) (l3 : X (114 + 2 * v) 3 = 0) : CG l D ac b y_C_write c_C_write 11 (some .int) 3 70 [.ref 0, .int (nI t), .int (nI k), .int (nI g), .int (nI v)] X (some (.int (nI (wtS X (4 + 55 * t) (114 + 2 * k) (114 + 2 * g) (114 + 2 * v) (min3 n1 n2 n3) 8).2))) ((wtS X (4 + 55 * t) (114 + 2 * k) (114 + 2 * g) (114 + 2 * v) (min3 n1 n2 n3) 8).1) := by
  refine Ct_of false (by decide) (fun h => by cases h) (Nat.le_of_ble_eq_true rfl) ?_
  show V l D ac b "SpanStore" c_C_write 11 (some .int) false 3 70 0 0 ((some (.int (nI (wtS X (4 + 55 * t) (114 + 2 * k) (114 + 2 * g) (114 + 2 * v) (min3 n1 n2 n3) 8).2))), 144, mk ((wtS X (4 + 55 * t) (114 + 2 * k) (114 + 2 * g) (114 + 2 * v) (min3 n1 n2 n3) 8).1)) 0 0 0 [(0, .ref 0), (1, .int (nI t)), (2, .int (nI k)), (3, .int (nI g)), (4, .int (nI v))] [] 144 (mk X)
  refine s_aload_n (q := 1) d_C_write_0 rfl rfl (Or.inr ⟨_, rfl⟩) ?_
  refine s_iload_n (q := 2) d_C_write_1 rfl rfl ?_
  refine g_callV (q := 5) d_C_write_2 rfl ml_C_27 mx_C_tableAt mv_C_tableAt (t_C_tableAt_ok ht) hC.1 rfl rfl (Nat.le_of_ble_eq_true rfl) (by decide) ?_
  refine s_astore (q := 7) d_C_write_5 rfl (by decide) (Or.inr ⟨_, rfl⟩) ?_
  refine s_aload_n (q := 8) d_C_write_7 rfl rfl (Or.inr ⟨_, rfl⟩) ?_
  refine s_iload_n (q := 9) d_C_write_8 rfl rfl ?_
  refine g_callV (q := 12) d_C_write_9 rfl ml_C_53 mx_C_sheetAt mv_C_sheetAt (t_C_sheetAt_ok hk) hC.1 rfl rfl (Nat.le_of_ble_eq_true rfl) (by decide) ?_
  refine s_astore (q := 14) d_C_write_12 rfl (by decide) (Or.inr ⟨_, rfl⟩) ?_
  refine s_aload_n (q := 15) d_C_write_14 rfl rfl (Or.inr ⟨_, rfl⟩) ?_
  refine s_iload_n (q := 16) d_C_write_15 rfl rfl ?_
  refine g_callV (q := 19) d_C_write_16 rfl ml_C_53 mx_C_sheetAt mv_C_sheetAt (t_C_sheetAt_ok hg) hC.1 rfl rfl (Nat.le_of_ble_eq_true rfl) (by decide) ?_
  refine s_astore (q := 21) d_C_write_19 rfl (by decide) (Or.inr ⟨_, rfl⟩) ?_
  refine s_aload_n (q := 22) d_C_write_21 rfl rfl (Or.inr ⟨_, rfl⟩) ?_
  refine s_iload (q := 24) d_C_write_22 rfl rfl ?_
  refine g_callV (q := 27) d_C_write_24 rfl ml_C_53 mx_C_sheetAt mv_C_sheetAt (t_C_sheetAt_ok hv) hC.1 rfl rfl (Nat.le_of_ble_eq_true rfl) (by decide) ?_
  refine s_astore (q := 29) d_C_write_27 rfl (by decide) (Or.inr ⟨_, rfl⟩) ?_
  refine s_aload (q := 31) d_C_write_29 rfl rfl (Or.inr ⟨_, rfl⟩) ?_
  refine s_ifnull_r (q := 34) d_C_write_31 rfl ?_
  refine s_aload (q := 36) d_C_write_34 rfl rfl (Or.inr ⟨_, rfl⟩) ?_
  refine s_ifnull_r (q := 39) d_C_write_36 rfl ?_
  refine s_aload (q := 41) d_C_write_39 rfl rfl (Or.inr ⟨_, rfl⟩) ?_
  refine s_ifnull_r (q := 44) d_C_write_41 rfl ?_
  refine s_aload (q := 46) d_C_write_44 rfl rfl (Or.inr ⟨_, rfl⟩) ?_
  refine s_ifnonnull_r (tgt := 52) d_C_write_46 (by decide) ?_
  refine s_aload (q := 54) d_C_write_52 rfl rfl (Or.inr ⟨_, rfl⟩) ?_
  refine g_geti (q := 57) d_C_write_54 rfl fl_C_39 (hC.2.2.2.2.1 _ ht).1 rfl ?_
  refine s_if_ne (tgt := 63) (q := 60) d_C_write_57 (by decide) rfl (fun _ => ?_) (fun z9 => absurd z9 hs)
  refine s_aload (q := 65) d_C_write_63 rfl rfl (Or.inr ⟨_, rfl⟩) ?_
  refine g_geti (q := 68) d_C_write_65 rfl fl_C_57 (hC.2.2.2.2.2 _ hk).1 rfl ?_
  refine s_if_ne (tgt := 87) (q := 71) d_C_write_68 (by decide) rfl (fun z9 => absurd l1 z9) (fun _ => ?_)
  refine s_aload (q := 73) d_C_write_71 rfl rfl (Or.inr ⟨_, rfl⟩) ?_
  refine g_geti (q := 76) d_C_write_73 rfl fl_C_57 (hC.2.2.2.2.2 _ hg).1 rfl ?_
  refine s_if_ne (tgt := 87) (q := 79) d_C_write_76 (by decide) rfl (fun z9 => absurd l2 z9) (fun _ => ?_)
  refine s_aload (q := 81) d_C_write_79 rfl rfl (Or.inr ⟨_, rfl⟩) ?_
  refine g_geti (q := 84) d_C_write_81 rfl fl_C_57 (hC.2.2.2.2.2 _ hv).1 rfl ?_
  refine s_if_eq (tgt := 93) (q := 87) d_C_write_84 (by decide) rfl (fun _ => ?_) (fun z9 => absurd l3 z9)
  refine s_iconst (v := 0) (q := 94) d_C_write_93 rfl ki_0 ?_
  refine s_istore (q := 96) d_C_write_94 rfl (by decide) ?_
  refine s_iconst (v := 0) (q := 97) d_C_write_96 rfl ki_0 ?_
  refine s_istore (q := 99) d_C_write_97 rfl (by decide) ?_
  exact s_lv (lv' := [(5, .ref (4 + 55 * t)), (6, .ref (114 + 2 * k)), (7, .ref (114 + 2 * g)), (8, .ref (114 + 2 * v)), (9, .int (nI (wtS X (4 + 55 * t) (114 + 2 * k) (114 + 2 * g) (114 + 2 * v) (min3 n1 n2 n3) 0).2)), (10, .int (nI 0))]) ⟨rfl, rfl, rfl, rfl, rfl, rfl, trivial⟩ (lp_writeT ht hk hg hv z1 z2 z3 m1 m2 m3 hZ 0 (Nat.zero_le 8))
def toV (X : RAM) (w : Nat) : Int32 := match w with
  | 0 => rwT X 4
  | 1 => rwT X 59
  | 2 => X 0 3
  | 3 => X 0 4
  | 4 => bI (decide (¬ X 4 3 = 0))
  | 5 => bI (decide (¬ X 59 3 = 0))
  | 6 => X 4 2
  | 7 => X 59 2
  | 8 => knT X 4
  | _ => knT X 59
theorem t_C_told {X : RAM} {w : Nat} (hw : w < 10) : CG l D ac b y_C_told c_C_told 2 (some .int) 1 22 [.ref 0, .int (nI w)] X (some (.int (toV X w))) X := by
  rcases (show w = 0 ∨ w = 1 ∨ w = 2 ∨ w = 3 ∨ w = 4 ∨ w = 5 ∨ w = 6 ∨ w = 7 ∨ w = 8 ∨ w = 9 by omega) with rfl | rfl | rfl | rfl | rfl | rfl | rfl | rfl | rfl | rfl
  · skip
    refine Ct_of false (by decide) (fun h => by cases h) (Nat.le_of_ble_eq_true rfl) ?_
    show V l D ac b "SpanStore" c_C_told 2 (some .int) false 1 22 0 0 ((some (.int (toV X 0))), 144, mk X) 0 0 0 [(0, .ref 0), (1, .int (nI 0))] [] 144 (mk X)
    refine s_iload_n (q := 1) d_C_told_0 rfl rfl ?_
    refine s_tsIn (tgt := 56) d_C_told_1 (by decide) (by decide) rfl (by decide) ?_
    refine s_aload_n (q := 57) d_C_told_56 rfl rfl (Or.inr ⟨_, rfl⟩) ?_
    refine g_getr (q := 60) d_C_told_57 rfl fl_C_11 hC.1 rfl ?_
    refine s_iload_n (q := 61) d_C_told_60 rfl rfl ?_
    refine g_aald (q := 62) d_C_told_61 rfl hC.2.1 (by decide) rfl (by decide) (rfl : nI 0 = nI 0) (by decide) (if_pos (by decide : 0 < 2)) ?_
    refine g_callV (q := 65) d_C_told_62 rfl ml_C_84 mx_T_rows mv_T_rows (t_T_rows hT0) (hC.2.2.2.2.1 _ (by decide : 0 < 2)).1 rfl rfl (Nat.le_of_ble_eq_true rfl) (by decide) ?_
    exact g_iret d_C_told_65 rfl rfl rfl rfl
  · skip
    refine Ct_of false (by decide) (fun h => by cases h) (Nat.le_of_ble_eq_true rfl) ?_
    show V l D ac b "SpanStore" c_C_told 2 (some .int) false 1 22 0 0 ((some (.int (toV X 1))), 144, mk X) 0 0 0 [(0, .ref 0), (1, .int (nI 1))] [] 144 (mk X)
    refine s_iload_n (q := 1) d_C_told_0 rfl rfl ?_
    refine s_tsIn (tgt := 56) d_C_told_1 (by decide) (by decide) rfl (by decide) ?_
    refine s_aload_n (q := 57) d_C_told_56 rfl rfl (Or.inr ⟨_, rfl⟩) ?_
    refine g_getr (q := 60) d_C_told_57 rfl fl_C_11 hC.1 rfl ?_
    refine s_iload_n (q := 61) d_C_told_60 rfl rfl ?_
    refine g_aald (q := 62) d_C_told_61 rfl hC.2.1 (by decide) rfl (by decide) (rfl : nI 1 = nI 1) (by decide) (if_pos (by decide : 1 < 2)) ?_
    refine g_callV (q := 65) d_C_told_62 rfl ml_C_84 mx_T_rows mv_T_rows (t_T_rows hT1) (hC.2.2.2.2.1 _ (by decide : 1 < 2)).1 rfl rfl (Nat.le_of_ble_eq_true rfl) (by decide) ?_
    exact g_iret d_C_told_65 rfl rfl rfl rfl
  · skip
    refine Ct_of false (by decide) (fun h => by cases h) (Nat.le_of_ble_eq_true rfl) ?_
    show V l D ac b "SpanStore" c_C_told 2 (some .int) false 1 22 0 0 ((some (.int (toV X 2))), 144, mk X) 0 0 0 [(0, .ref 0), (1, .int (nI 2))] [] 144 (mk X)
    refine s_iload_n (q := 1) d_C_told_0 rfl rfl ?_
    refine s_tsIn (tgt := 66) d_C_told_1 (by decide) (by decide) rfl (by decide) ?_
    refine s_aload_n (q := 67) d_C_told_66 rfl rfl (Or.inr ⟨_, rfl⟩) ?_
    refine g_geti (q := 70) d_C_told_67 rfl fl_C_190 hC.1 rfl ?_
    exact g_iret d_C_told_70 rfl rfl rfl rfl
  · skip
    refine Ct_of false (by decide) (fun h => by cases h) (Nat.le_of_ble_eq_true rfl) ?_
    show V l D ac b "SpanStore" c_C_told 2 (some .int) false 1 22 0 0 ((some (.int (toV X 3))), 144, mk X) 0 0 0 [(0, .ref 0), (1, .int (nI 3))] [] 144 (mk X)
    refine s_iload_n (q := 1) d_C_told_0 rfl rfl ?_
    refine s_tsIn (tgt := 71) d_C_told_1 (by decide) (by decide) rfl (by decide) ?_
    refine s_aload_n (q := 72) d_C_told_71 rfl rfl (Or.inr ⟨_, rfl⟩) ?_
    refine g_geti (q := 75) d_C_told_72 rfl fl_C_193 hC.1 rfl ?_
    exact g_iret d_C_told_75 rfl rfl rfl rfl
  · skip
    refine Ct_of false (by decide) (fun h => by cases h) (Nat.le_of_ble_eq_true rfl) ?_
    show V l D ac b "SpanStore" c_C_told 2 (some .int) false 1 22 0 0 ((some (.int (toV X 4))), 144, mk X) 0 0 0 [(0, .ref 0), (1, .int (nI 4))] [] 144 (mk X)
    refine s_iload_n (q := 1) d_C_told_0 rfl rfl ?_
    refine s_tsIn (tgt := 76) d_C_told_1 (by decide) (by decide) rfl (by decide) ?_
    refine s_aload_n (q := 77) d_C_told_76 rfl rfl (Or.inr ⟨_, rfl⟩) ?_
    refine g_getr (q := 80) d_C_told_77 rfl fl_C_11 hC.1 rfl ?_
    refine s_iload_n (q := 81) d_C_told_80 rfl rfl ?_
    refine s_iconst (v := 4) (q := 82) d_C_told_81 rfl ki_4 ?_
    refine s_isub (q := 83) d_C_told_82 rfl ?_
    refine g_aald (q := 84) d_C_told_83 rfl hC.2.1 (by decide) rfl (by decide) (show nI 4 - 4 = nI 0 by decide) (by decide) (if_pos (by decide : 0 < 2)) ?_
    refine g_geti (q := 87) d_C_told_84 rfl fl_C_39 (hC.2.2.2.2.1 _ (by decide : 0 < 2)).1 rfl ?_
    refine s_if_eq (tgt := 94) (q := 90) d_C_told_87 (by decide) rfl (fun h_87 => ?_) (fun h_87 => ?_)
    · -- T 87
      refine s_iconst (v := 0) (q := 95) d_C_told_94 rfl ki_0 ?_
      exact g_iret d_C_told_95 rfl rfl (by first | exact bI_is1 h_87 | exact bI_is0 (fun z => z h_87)) rfl
    · -- F 87
      refine s_iconst (v := 1) (q := 91) d_C_told_90 rfl ki_1 ?_
      refine s_goto (tgt := 95) d_C_told_91 (by decide) ?_
      exact g_iret d_C_told_95 rfl rfl (by first | exact bI_is1 h_87 | exact bI_is0 (fun z => z h_87)) rfl
  · skip
    refine Ct_of false (by decide) (fun h => by cases h) (Nat.le_of_ble_eq_true rfl) ?_
    show V l D ac b "SpanStore" c_C_told 2 (some .int) false 1 22 0 0 ((some (.int (toV X 5))), 144, mk X) 0 0 0 [(0, .ref 0), (1, .int (nI 5))] [] 144 (mk X)
    refine s_iload_n (q := 1) d_C_told_0 rfl rfl ?_
    refine s_tsIn (tgt := 76) d_C_told_1 (by decide) (by decide) rfl (by decide) ?_
    refine s_aload_n (q := 77) d_C_told_76 rfl rfl (Or.inr ⟨_, rfl⟩) ?_
    refine g_getr (q := 80) d_C_told_77 rfl fl_C_11 hC.1 rfl ?_
    refine s_iload_n (q := 81) d_C_told_80 rfl rfl ?_
    refine s_iconst (v := 4) (q := 82) d_C_told_81 rfl ki_4 ?_
    refine s_isub (q := 83) d_C_told_82 rfl ?_
    refine g_aald (q := 84) d_C_told_83 rfl hC.2.1 (by decide) rfl (by decide) (show nI 5 - 4 = nI 1 by decide) (by decide) (if_pos (by decide : 1 < 2)) ?_
    refine g_geti (q := 87) d_C_told_84 rfl fl_C_39 (hC.2.2.2.2.1 _ (by decide : 1 < 2)).1 rfl ?_
    refine s_if_eq (tgt := 94) (q := 90) d_C_told_87 (by decide) rfl (fun h_87 => ?_) (fun h_87 => ?_)
    · -- T 87
      refine s_iconst (v := 0) (q := 95) d_C_told_94 rfl ki_0 ?_
      exact g_iret d_C_told_95 rfl rfl (by first | exact bI_is1 h_87 | exact bI_is0 (fun z => z h_87)) rfl
    · -- F 87
      refine s_iconst (v := 1) (q := 91) d_C_told_90 rfl ki_1 ?_
      refine s_goto (tgt := 95) d_C_told_91 (by decide) ?_
      exact g_iret d_C_told_95 rfl rfl (by first | exact bI_is1 h_87 | exact bI_is0 (fun z => z h_87)) rfl
  · skip
    refine Ct_of false (by decide) (fun h => by cases h) (Nat.le_of_ble_eq_true rfl) ?_
    show V l D ac b "SpanStore" c_C_told 2 (some .int) false 1 22 0 0 ((some (.int (toV X 6))), 144, mk X) 0 0 0 [(0, .ref 0), (1, .int (nI 6))] [] 144 (mk X)
    refine s_iload_n (q := 1) d_C_told_0 rfl rfl ?_
    refine s_tsIn (tgt := 96) d_C_told_1 (by decide) (by decide) rfl (by decide) ?_
    refine s_aload_n (q := 97) d_C_told_96 rfl rfl (Or.inr ⟨_, rfl⟩) ?_
    refine g_getr (q := 100) d_C_told_97 rfl fl_C_11 hC.1 rfl ?_
    refine s_iload_n (q := 101) d_C_told_100 rfl rfl ?_
    refine s_bipush (v := 6) (q := 103) d_C_told_101 rfl kb_6 ?_
    refine s_isub (q := 104) d_C_told_103 rfl ?_
    refine g_aald (q := 105) d_C_told_104 rfl hC.2.1 (by decide) rfl (by decide) (show nI 6 - 6 = nI 0 by decide) (by decide) (if_pos (by decide : 0 < 2)) ?_
    refine g_geti (q := 108) d_C_told_105 rfl fl_C_71 (hC.2.2.2.2.1 _ (by decide : 0 < 2)).1 rfl ?_
    exact g_iret d_C_told_108 rfl rfl rfl rfl
  · skip
    refine Ct_of false (by decide) (fun h => by cases h) (Nat.le_of_ble_eq_true rfl) ?_
    show V l D ac b "SpanStore" c_C_told 2 (some .int) false 1 22 0 0 ((some (.int (toV X 7))), 144, mk X) 0 0 0 [(0, .ref 0), (1, .int (nI 7))] [] 144 (mk X)
    refine s_iload_n (q := 1) d_C_told_0 rfl rfl ?_
    refine s_tsIn (tgt := 96) d_C_told_1 (by decide) (by decide) rfl (by decide) ?_
    refine s_aload_n (q := 97) d_C_told_96 rfl rfl (Or.inr ⟨_, rfl⟩) ?_
    refine g_getr (q := 100) d_C_told_97 rfl fl_C_11 hC.1 rfl ?_
    refine s_iload_n (q := 101) d_C_told_100 rfl rfl ?_
    refine s_bipush (v := 6) (q := 103) d_C_told_101 rfl kb_6 ?_
    refine s_isub (q := 104) d_C_told_103 rfl ?_
    refine g_aald (q := 105) d_C_told_104 rfl hC.2.1 (by decide) rfl (by decide) (show nI 7 - 6 = nI 1 by decide) (by decide) (if_pos (by decide : 1 < 2)) ?_
    refine g_geti (q := 108) d_C_told_105 rfl fl_C_71 (hC.2.2.2.2.1 _ (by decide : 1 < 2)).1 rfl ?_
    exact g_iret d_C_told_108 rfl rfl rfl rfl
  · skip
    refine Ct_of false (by decide) (fun h => by cases h) (Nat.le_of_ble_eq_true rfl) ?_
    show V l D ac b "SpanStore" c_C_told 2 (some .int) false 1 22 0 0 ((some (.int (toV X 8))), 144, mk X) 0 0 0 [(0, .ref 0), (1, .int (nI 8))] [] 144 (mk X)
    refine s_iload_n (q := 1) d_C_told_0 rfl rfl ?_
    refine s_tsIn (tgt := 109) d_C_told_1 (by decide) (by decide) rfl (by decide) ?_
    refine s_aload_n (q := 110) d_C_told_109 rfl rfl (Or.inr ⟨_, rfl⟩) ?_
    refine g_getr (q := 113) d_C_told_110 rfl fl_C_11 hC.1 rfl ?_
    refine s_iload_n (q := 114) d_C_told_113 rfl rfl ?_
    refine s_bipush (v := 8) (q := 116) d_C_told_114 rfl kb_8 ?_
    refine s_isub (q := 117) d_C_told_116 rfl ?_
    refine g_aald (q := 118) d_C_told_117 rfl hC.2.1 (by decide) rfl (by decide) (show nI 8 - 8 = nI 0 by decide) (by decide) (if_pos (by decide : 0 < 2)) ?_
    refine g_callV (q := 121) d_C_told_118 rfl ml_C_80 mx_T_knownRows mv_T_knownRows (t_T_knownRows hT0) (hC.2.2.2.2.1 _ (by decide : 0 < 2)).1 rfl rfl (Nat.le_of_ble_eq_true rfl) (by decide) ?_
    exact g_iret d_C_told_121 rfl rfl rfl rfl
  · skip
    refine Ct_of false (by decide) (fun h => by cases h) (Nat.le_of_ble_eq_true rfl) ?_
    show V l D ac b "SpanStore" c_C_told 2 (some .int) false 1 22 0 0 ((some (.int (toV X 9))), 144, mk X) 0 0 0 [(0, .ref 0), (1, .int (nI 9))] [] 144 (mk X)
    refine s_iload_n (q := 1) d_C_told_0 rfl rfl ?_
    refine s_tsIn (tgt := 109) d_C_told_1 (by decide) (by decide) rfl (by decide) ?_
    refine s_aload_n (q := 110) d_C_told_109 rfl rfl (Or.inr ⟨_, rfl⟩) ?_
    refine g_getr (q := 113) d_C_told_110 rfl fl_C_11 hC.1 rfl ?_
    refine s_iload_n (q := 114) d_C_told_113 rfl rfl ?_
    refine s_bipush (v := 8) (q := 116) d_C_told_114 rfl kb_8 ?_
    refine s_isub (q := 117) d_C_told_116 rfl ?_
    refine g_aald (q := 118) d_C_told_117 rfl hC.2.1 (by decide) rfl (by decide) (show nI 9 - 8 = nI 1 by decide) (by decide) (if_pos (by decide : 1 < 2)) ?_
    refine g_callV (q := 121) d_C_told_118 rfl ml_C_80 mx_T_knownRows mv_T_knownRows (t_T_knownRows hT1) (hC.2.2.2.2.1 _ (by decide : 1 < 2)).1 rfl rfl (Nat.le_of_ble_eq_true rfl) (by decide) ?_
    exact g_iret d_C_told_121 rfl rfl rfl rfl
theorem t_C_told_B {X : RAM} {w : Int32} (hw : w < 0 ∨ 9 < w) : CG l D ac b y_C_told c_C_told 2 (some .int) 1 22 [.ref 0, .int w] X (some (.int (-2))) (X) := by
  refine Ct_of false (by decide) (fun h => by cases h) (Nat.le_of_ble_eq_true rfl) ?_
  show V l D ac b "SpanStore" c_C_told 2 (some .int) false 1 22 0 0 ((some (.int (-2))), 144, mk (X)) 0 0 0 [(0, .ref 0), (1, .int w)] [] 144 (mk X)
  refine s_iload_n (q := 1) d_C_told_0 rfl rfl ?_
  refine s_tsOut (tgt := 122) d_C_told_1 (by simpa [i_lt, tI_0, show (9 : Int32).toInt = 9 from by decide] using hw) (by decide) ?_
  refine s_bipush (v := (-2)) (q := 124) d_C_told_122 rfl kb_m2 ?_
  exact g_iret d_C_told_124 rfl rfl rfl rfl
def dgS (X : RAM) : Nat → Int64
  | 0 => 17
  | w + 1 => if w = 3 then dgS X w else 31 * dgS X w + (toV X w).toInt64
def dtS (X : RAM) : Nat → Int64
  | 0 => dgS X 10
  | t + 1 => if X (4 + 55 * t) 3 = 0 then dtS X t else mtV X (4 + 55 * t) (dtS X t)
theorem lp_dig2 {X : RAM} (z0 : okZ X 4) (z1 : okZ X 59) : ∀ i, i ≤ 2 → V l D ac b "SpanStore" c_C_digest 4 (some .long) false 6 138 0 0 (some (.long (dtS X 2)), 144, mk X) 0 0 36 [(0, .ref 0), (1, .long (dtS X i)), (3, .int (nI i))] [] 144 (mk X) := by
  refine nat_down ?_ (fun i hi ih => ?_)
  · skip
    refine s_iload_n (q := 37) d_C_digest_36 rfl rfl ?_
    refine s_iconst (v := 2) (q := 38) d_C_digest_37 rfl ki_2 ?_
    refine s_icmp_ge (tgt := 70) (q := 41) d_C_digest_38 (by decide) rfl (fun _ => ?_) (fun z9 => absurd (by decide) z9)
    refine s_lload_n (q := 71) d_C_digest_70 rfl rfl ?_
    exact g_lret d_C_digest_71 rfl rfl rfl
  · have hZ : okZ X (4 + 55 * i) := by rcases (show i = 0 ∨ i = 1 by omega) with rfl | rfl; exact z0; exact z1
    refine s_iload_n (q := 37) d_C_digest_36 rfl rfl ?_
    refine s_iconst (v := 2) (q := 38) d_C_digest_37 rfl ki_2 ?_
    refine s_icmp_ge (tgt := 70) (q := 41) d_C_digest_38 (by decide) rfl (fun z9 => absurd z9 (nI_ge (a := i) (b := 2) hi (by decide))) (fun _ => ?_)
    refine s_aload_n (q := 42) d_C_digest_41 rfl rfl (Or.inr ⟨_, rfl⟩) ?_
    refine g_getr (q := 45) d_C_digest_42 rfl fl_C_11 hC.1 rfl ?_
    refine s_iload_n (q := 46) d_C_digest_45 rfl rfl ?_
    refine g_aald (q := 47) d_C_digest_46 rfl hC.2.1 (by decide) rfl (by decide) rfl hi (if_pos hi) ?_
    refine g_geti (q := 50) d_C_digest_47 rfl fl_C_39 (hC.2.2.2.2.1 _ hi).1 rfl ?_
    refine s_if_eq (tgt := 64) (q := 53) d_C_digest_50 (by decide) rfl (fun h_50 => ?_) (fun h_50 => ?_)
    · -- T 50
      rw [show dtS X (i + 1) = dtS X i from by simp [dtS, h_50]] at ih
      refine s_iinc (q := 67) d_C_digest_64 rfl rfl (by first | exact inc1 _ | rfl) (by decide) ?_
      refine s_goto (tgt := 36) d_C_digest_67 (by decide) ?_
      exact s_lv (lv' := [(0, .ref 0), (1, .long _), (3, .int (nI (i + 1)))]) ⟨rfl, rfl, rfl, trivial⟩ ih
    · -- F 50
      rw [show dtS X (i + 1) = mtV X (4 + 55 * i) (dtS X i) from by simp [dtS, h_50]] at ih
      refine s_aload_n (q := 54) d_C_digest_53 rfl rfl (Or.inr ⟨_, rfl⟩) ?_
      refine g_getr (q := 57) d_C_digest_54 rfl fl_C_11 hC.1 rfl ?_
      refine s_iload_n (q := 58) d_C_digest_57 rfl rfl ?_
      refine g_aald (q := 59) d_C_digest_58 rfl hC.2.1 (by decide) rfl (by decide) rfl hi (if_pos hi) ?_
      refine s_lload_n (q := 60) d_C_digest_59 rfl rfl ?_
      refine g_callV (q := 63) d_C_digest_60 rfl ml_C_205 mx_T_mixedInto mv_T_mixedInto (t_T_mix (hC.2.2.2.2.1 _ hi) hZ) (hC.2.2.2.2.1 _ hi).1 rfl rfl (Nat.le_of_ble_eq_true rfl) (by decide) ?_
      refine s_lstore_n (q := 64) d_C_digest_63 rfl (by decide) ?_
      refine s_iinc (q := 67) d_C_digest_64 rfl rfl (by first | exact inc1 _ | rfl) (by decide) ?_
      refine s_goto (tgt := 36) d_C_digest_67 (by decide) ?_
      exact s_lv (lv' := [(0, .ref 0), (1, .long _), (3, .int (nI (i + 1)))]) ⟨rfl, rfl, rfl, trivial⟩ ih
theorem lp_dig1 {X : RAM} (z0 : okZ X 4) (z1 : okZ X 59) : ∀ i, i ≤ 10 → V l D ac b "SpanStore" c_C_digest 4 (some .long) false 6 138 0 0 (some (.long (dtS X 2)), 144, mk X) 0 0 6 [(0, .ref 0), (1, .long (dgS X i)), (3, .int (nI i))] [] 144 (mk X) := by
  refine nat_down ?_ (fun i hi ih => ?_)
  · skip
    refine s_iload_n (q := 7) d_C_digest_6 rfl rfl ?_
    refine s_bipush (v := 9) (q := 9) d_C_digest_7 rfl kb_9 ?_
    refine s_icmp_gt (tgt := 34) (q := 12) d_C_digest_9 (by decide) rfl (fun _ => ?_) (fun z9 => absurd (by decide) z9)
    refine s_iconst (v := 0) (q := 35) d_C_digest_34 rfl ki_0 ?_
    refine s_istore_n (q := 36) d_C_digest_35 rfl (by decide) ?_
    exact s_lv (lv' := [(0, .ref 0), (1, .long (dtS X 0)), (3, .int (nI 0))]) ⟨rfl, rfl, rfl, trivial⟩ (lp_dig2 z0 z1 0 (Nat.zero_le 2))
  · skip
    refine s_iload_n (q := 7) d_C_digest_6 rfl rfl ?_
    refine s_bipush (v := 9) (q := 9) d_C_digest_7 rfl kb_9 ?_
    refine s_icmp_gt (tgt := 34) (q := 12) d_C_digest_9 (by decide) rfl (fun z9 => absurd z9 (by have := nI_leI (a := i) (b := 9) (by omega) (by decide); exact i_nlt.mpr (this.mpr (by omega)))) (fun _ => ?_)
    refine s_iload_n (q := 13) d_C_digest_12 rfl rfl ?_
    refine s_iconst (v := 3) (q := 14) d_C_digest_13 rfl ki_3 ?_
    refine s_icmp_eq (tgt := 28) (q := 17) d_C_digest_14 (by decide) rfl (fun h_14 => ?_) (fun h_14 => ?_)
    · -- T 14
      have h3 : i = 3 := (nI_eq (a := i) (b := 3) (by omega) (by decide)).mp h_14
      rw [show dgS X (i + 1) = dgS X i from by simp [dgS, h3]] at ih
      refine s_iinc (q := 31) d_C_digest_28 rfl rfl (by first | exact inc1 _ | rfl) (by decide) ?_
      refine s_goto (tgt := 6) d_C_digest_31 (by decide) ?_
      exact s_lv (lv' := [(0, .ref 0), (1, .long _), (3, .int (nI (i + 1)))]) ⟨rfl, rfl, rfl, trivial⟩ ih
    · -- F 14
      have h3 : ¬ i = 3 := fun z => h_14 (by rw [z]; rfl)
      rw [show dgS X (i + 1) = 31 * dgS X i + (toV X i).toInt64 from by simp [dgS, h3]] at ih
      refine s_lload_n (q := 18) d_C_digest_17 rfl rfl ?_
      refine s_aload_n (q := 19) d_C_digest_18 rfl rfl (Or.inr ⟨_, rfl⟩) ?_
      refine s_iload_n (q := 20) d_C_digest_19 rfl rfl ?_
      refine g_callV (q := 23) d_C_digest_20 rfl ml_C_198 mx_C_told mv_C_told (t_C_told hi) hC.1 rfl rfl (Nat.le_of_ble_eq_true rfl) (by decide) ?_
      refine s_i2l (q := 24) d_C_digest_23 rfl ?_
      refine g_callS (q := 27) d_C_digest_24 rfl ml_C_201 mx_C_mixed ms_C_mixed t_C_mixed rfl rfl (Nat.le_of_ble_eq_true rfl) (by decide) ?_
      refine s_lstore_n (q := 28) d_C_digest_27 rfl (by decide) ?_
      refine s_iinc (q := 31) d_C_digest_28 rfl rfl (by first | exact inc1 _ | rfl) (by decide) ?_
      refine s_goto (tgt := 6) d_C_digest_31 (by decide) ?_
      exact s_lv (lv' := [(0, .ref 0), (1, .long _), (3, .int (nI (i + 1)))]) ⟨rfl, rfl, rfl, trivial⟩ ih
theorem t_C_digest {X : RAM} (z0 : okZ X 4) (z1 : okZ X 59) : CG l D ac b y_C_digest c_C_digest 4 (some .long) 6 138 [.ref 0] X (some (.long (dtS X 2))) (X) := by
  refine Ct_of false (by decide) (fun h => by cases h) (Nat.le_of_ble_eq_true rfl) ?_
  show V l D ac b "SpanStore" c_C_digest 4 (some .long) false 6 138 0 0 ((some (.long (dtS X 2))), 144, mk (X)) 0 0 0 [(0, .ref 0)] [] 144 (mk X)
  refine s_ldc2 (q := 3) d_C_digest_0 rfl kc_C_196 ?_
  refine s_lstore_n (q := 4) d_C_digest_3 rfl (by decide) ?_
  refine s_iconst (v := 0) (q := 5) d_C_digest_4 rfl ki_0 ?_
  refine s_istore_n (q := 6) d_C_digest_5 rfl (by decide) ?_
  exact s_lv (lv' := [(0, .ref 0), (1, .long (dgS X 0)), (3, .int (nI 0))]) ⟨rfl, rfl, rfl, trivial⟩ (lp_dig1 z0 z1 0 (Nat.zero_le 10))
end P13
