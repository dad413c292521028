section P07
variable {l : Launch} {D : va_G} {ac : Nat → ClassId} {b : Nat}
def cntB (p : Nat → Bool) : Nat → Nat
  | 0 => 0
  | n + 1 => cntB p n + (if p n then 1 else 0)
def anyB (p : Nat → Bool) : Nat → Bool
  | 0 => false
  | n + 1 => anyB p n || p n
theorem anyB_t {p : Nat → Bool} {n i : Nat} (hi : i < n) (h : p i = true) : anyB p n = true := by
  induction n with
  | zero => omega
  | succ n ih =>
    unfold anyB
    by_cases he : i = n
    · subst he; simp [h]
    · rw [ih (by omega)]; rfl
theorem anyB_f {p : Nat → Bool} {n : Nat} (h : ∀ i, i < n → p i = false) : anyB p n = false := by
  induction n with
  | zero => rfl
  | succ n ih =>
    unfold anyB
    rw [ih (fun i hi => h i (by omega)), h n (by omega)]
    rfl
theorem cntB_le (p : Nat → Bool) (n : Nat) : cntB p n ≤ n := by
  induction n with
  | zero => exact Nat.le_refl 0
  | succ n ih =>
    unfold cntB
    split <;> omega
theorem nI_s (n : Nat) : nI n + 1 = nI (n + 1) := nI_1 n
theorem t_B_hasRow {X : RAM} {o : Nat} {i : Int32} (hB : isB o) : CG l D ac b y_B_hasRow c_B_hasRow 2 (some .boolean) 0 0 [.ref o, .int i] X (some (.int (bI (decide (¬ i < 0 ∧ i < X o 5))))) (X) := by
  refine Ct_of false (by decide) (fun h => by cases h) (Nat.le_of_ble_eq_true rfl) ?_
  show V l D ac b "SpanStore$Block" c_B_hasRow 2 (some .boolean) false 0 0 0 0 ((some (.int (bI (decide (¬ i < 0 ∧ i < X o 5))))), 144, mk (X)) 0 0 0 [(0, .ref o), (1, .int i)] [] 144 (mk X)
  refine s_iload_n (q := 1) d_B_hasRow_0 rfl rfl ?_
  refine s_if_lt (tgt := 16) (q := 4) d_B_hasRow_1 (by decide) rfl (fun h_1 => ?_) (fun h_1 => ?_)
  · -- T 1
    refine s_iconst (v := 0) (q := 17) d_B_hasRow_16 rfl ki_0 ?_
    exact g_iret d_B_hasRow_17 rfl rfl (by first | exact bI_is1 (by (try simp only [bI_d, bI_dn, strV, remI] at *); simp only [i_le, i_lt, i_eq, tI_0, tI_1, tI_2, tI_3, tI_4, tI_7, tI_8, tI_10, tI_12, tI_13, tI_14, tI_40, tI_99, tI_100, tI_1000, tI_m1000, tI_m1, tI_mil] at *; omega) | exact bI_is0 (by (try simp only [bI_d, bI_dn, strV, remI] at *); simp only [i_le, i_lt, i_eq, tI_0, tI_1, tI_2, tI_3, tI_4, tI_7, tI_8, tI_10, tI_12, tI_13, tI_14, tI_40, tI_99, tI_100, tI_1000, tI_m1000, tI_m1, tI_mil] at *; omega)) rfl
  · -- F 1
    refine s_iload_n (q := 5) d_B_hasRow_4 rfl rfl ?_
    refine s_aload_n (q := 6) d_B_hasRow_5 rfl rfl (Or.inr ⟨_, rfl⟩) ?_
    refine g_geti (q := 9) d_B_hasRow_6 rfl fl_B_28 hB.1 rfl ?_
    refine s_icmp_ge (tgt := 16) (q := 12) d_B_hasRow_9 (by decide) rfl (fun h_9 => ?_) (fun h_9 => ?_)
    · -- T 9
      refine s_iconst (v := 0) (q := 17) d_B_hasRow_16 rfl ki_0 ?_
      exact g_iret d_B_hasRow_17 rfl rfl (by first | exact bI_is1 (by (try simp only [bI_d, bI_dn, strV, remI] at *); simp only [i_le, i_lt, i_eq, tI_0, tI_1, tI_2, tI_3, tI_4, tI_7, tI_8, tI_10, tI_12, tI_13, tI_14, tI_40, tI_99, tI_100, tI_1000, tI_m1000, tI_m1, tI_mil] at *; omega) | exact bI_is0 (by (try simp only [bI_d, bI_dn, strV, remI] at *); simp only [i_le, i_lt, i_eq, tI_0, tI_1, tI_2, tI_3, tI_4, tI_7, tI_8, tI_10, tI_12, tI_13, tI_14, tI_40, tI_99, tI_100, tI_1000, tI_m1000, tI_m1, tI_mil] at *; omega)) rfl
    · -- F 9
      refine s_iconst (v := 1) (q := 13) d_B_hasRow_12 rfl ki_1 ?_
      refine s_goto (tgt := 17) d_B_hasRow_13 (by decide) ?_
      exact g_iret d_B_hasRow_17 rfl rfl (by first | exact bI_is1 (by (try simp only [bI_d, bI_dn, strV, remI] at *); simp only [i_le, i_lt, i_eq, tI_0, tI_1, tI_2, tI_3, tI_4, tI_7, tI_8, tI_10, tI_12, tI_13, tI_14, tI_40, tI_99, tI_100, tI_1000, tI_m1000, tI_m1, tI_mil] at *; omega) | exact bI_is0 (by (try simp only [bI_d, bI_dn, strV, remI] at *); simp only [i_le, i_lt, i_eq, tI_0, tI_1, tI_2, tI_3, tI_4, tI_7, tI_8, tI_10, tI_12, tI_13, tI_14, tI_40, tI_99, tI_100, tI_1000, tI_m1000, tI_m1, tI_mil] at *; omega)) rfl
theorem hr_t {X : RAM} {o k n : Nat} (hsz : X o 5 = nI n) (hk : k < n) (hn : n ≤ 12) : ¬ bI (decide (¬ nI k < 0 ∧ nI k < X o 5)) = 0 := by
  rw [bI_dn, hsz]
  exact ⟨nI_pos (by omega), nI_lt hk (by omega)⟩
def addX (X : RAM) (o n gg : Nat) (key v : Int32) : RAM := up2 (up2 (up2 (up2 (up2 (up2 X (o + 1) n key) (o + 2) n (nI gg)) (o + 3) n v) (o + 4) n 0) (o + 5) gg (X (o + 5) gg + 1)) o 5 (nI (n + 1))
theorem t_B_addRow {X : RAM} {o n gg : Nat} {key v : Int32} (hB : isB o) (hsz : X o 5 = nI n) (hn : n < 12) (hg : gg < 4) : CG l D ac b y_B_addRow c_B_addRow 4 none 0 0 [.ref o, .int key, .int (nI gg), .int v] X (none) (addX X o n gg key v) := by
  refine Ct_of false (by decide) (fun h => by cases h) (Nat.le_of_ble_eq_true rfl) ?_
  show V l D ac b "SpanStore$Block" c_B_addRow 4 none false 0 0 0 0 ((none), 144, mk (addX X o n gg key v)) 0 0 0 [(0, .ref o), (1, .int key), (2, .int (nI gg)), (3, .int v)] [] 144 (mk X)
  refine s_aload_n (q := 1) d_B_addRow_0 rfl rfl (Or.inr ⟨_, rfl⟩) ?_
  refine g_getv (v := nI n) (q := 4) d_B_addRow_1 rfl fl_B_28 hB.1 rfl (by simp [up2, upd, hsz]) ?_
  refine s_if_lt (tgt := 85) (q := 7) d_B_addRow_4 (by decide) rfl (fun z9 => absurd z9 (nI_pos (by omega))) (fun _ => ?_)
  refine s_aload_n (q := 8) d_B_addRow_7 rfl rfl (Or.inr ⟨_, rfl⟩) ?_
  refine g_getv (v := nI n) (q := 11) d_B_addRow_8 rfl fl_B_28 hB.1 rfl (by simp [up2, upd, hsz]) ?_
  refine s_bipush (v := 12) (q := 13) d_B_addRow_11 rfl kb_12 ?_
  refine s_icmp_ge (tgt := 85) (q := 16) d_B_addRow_13 (by decide) rfl (fun z9 => absurd z9 (nI_ge (a := n) (b := 12) hn (by decide))) (fun _ => ?_)
  refine s_iload_n (q := 17) d_B_addRow_16 rfl rfl ?_
  refine s_if_lt (tgt := 85) (q := 20) d_B_addRow_17 (by decide) rfl (fun z9 => absurd z9 (nI_pos (by omega))) (fun _ => ?_)
  refine s_iload_n (q := 21) d_B_addRow_20 rfl rfl ?_
  refine s_iconst (v := 4) (q := 22) d_B_addRow_21 rfl ki_4 ?_
  refine s_icmp_ge (tgt := 85) (q := 25) d_B_addRow_22 (by decide) rfl (fun z9 => absurd z9 (nI_ge (a := gg) (b := 4) hg (by decide))) (fun _ => ?_)
  refine s_aload_n (q := 26) d_B_addRow_25 rfl rfl (Or.inr ⟨_, rfl⟩) ?_
  refine g_getr (q := 29) d_B_addRow_26 rfl fl_B_9 hB.1 rfl ?_
  refine s_aload_n (q := 30) d_B_addRow_29 rfl rfl (Or.inr ⟨_, rfl⟩) ?_
  refine g_getv (v := nI n) (q := 33) d_B_addRow_30 rfl fl_B_28 hB.1 rfl (by simp [up2, upd, hsz]) ?_
  refine s_iload_n (q := 34) d_B_addRow_33 rfl rfl ?_
  refine g_iast (q := 35) d_B_addRow_34 rfl hB.2.1 (by omega) rfl (by omega) ?_
  refine s_aload_n (q := 36) d_B_addRow_35 rfl rfl (Or.inr ⟨_, rfl⟩) ?_
  refine g_getr (q := 39) d_B_addRow_36 rfl fl_B_15 hB.1 rfl ?_
  refine s_aload_n (q := 40) d_B_addRow_39 rfl rfl (Or.inr ⟨_, rfl⟩) ?_
  refine g_getv (v := nI n) (q := 43) d_B_addRow_40 rfl fl_B_28 hB.1 rfl (by simp [up2, upd, hsz]) ?_
  refine s_iload_n (q := 44) d_B_addRow_43 rfl rfl ?_
  refine g_iast (q := 45) d_B_addRow_44 rfl hB.2.2.1 (by omega) rfl (by omega) ?_
  refine s_aload_n (q := 46) d_B_addRow_45 rfl rfl (Or.inr ⟨_, rfl⟩) ?_
  refine g_getr (q := 49) d_B_addRow_46 rfl fl_B_18 hB.1 rfl ?_
  refine s_aload_n (q := 50) d_B_addRow_49 rfl rfl (Or.inr ⟨_, rfl⟩) ?_
  refine g_getv (v := nI n) (q := 53) d_B_addRow_50 rfl fl_B_28 hB.1 rfl (by simp [up2, upd, hsz]) ?_
  refine s_iload_n (q := 54) d_B_addRow_53 rfl rfl ?_
  refine g_iast (q := 55) d_B_addRow_54 rfl hB.2.2.2.1 (by omega) rfl (by omega) ?_
  refine s_aload_n (q := 56) d_B_addRow_55 rfl rfl (Or.inr ⟨_, rfl⟩) ?_
  refine g_getr (q := 59) d_B_addRow_56 rfl fl_B_21 hB.1 rfl ?_
  refine s_aload_n (q := 60) d_B_addRow_59 rfl rfl (Or.inr ⟨_, rfl⟩) ?_
  refine g_getv (v := nI n) (q := 63) d_B_addRow_60 rfl fl_B_28 hB.1 rfl (by simp [up2, upd, hsz]) ?_
  refine s_iconst (v := 0) (q := 64) d_B_addRow_63 rfl ki_0 ?_
  refine g_zast (q := 65) d_B_addRow_64 rfl hB.2.2.2.2.1 (by omega) rfl (by omega) rfl ?_
  refine s_aload_n (q := 66) d_B_addRow_65 rfl rfl (Or.inr ⟨_, rfl⟩) ?_
  refine g_getr (q := 69) d_B_addRow_66 rfl fl_B_25 hB.1 rfl ?_
  refine s_iload_n (q := 70) d_B_addRow_69 rfl rfl ?_
  refine s_dup2 (q := 71) d_B_addRow_70 rfl rfl rfl ?_
  refine g_ialv (v := X (o + 5) gg) (q := 72) d_B_addRow_71 rfl hB.2.2.2.2.2 (by omega) rfl (by omega) (by simp [up2, upd]) ?_
  refine s_iconst (v := 1) (q := 73) d_B_addRow_72 rfl ki_1 ?_
  refine s_iadd (q := 74) d_B_addRow_73 rfl ?_
  refine g_iast (q := 75) d_B_addRow_74 rfl hB.2.2.2.2.2 (by omega) rfl (by omega) ?_
  refine s_aload_n (q := 76) d_B_addRow_75 rfl rfl (Or.inr ⟨_, rfl⟩) ?_
  refine s_dup (q := 77) d_B_addRow_76 rfl rfl ?_
  refine g_getv (v := nI n) (q := 80) d_B_addRow_77 rfl fl_B_28 hB.1 rfl (by simp [up2, upd, hsz]) ?_
  refine s_iconst (v := 1) (q := 81) d_B_addRow_80 rfl ki_1 ?_
  refine s_iadd (q := 82) d_B_addRow_81 rfl ?_
  refine g_puti (q := 85) d_B_addRow_82 rfl fl_B_28 rfl (okV_int _) hB.1 rfl ?_
  exact g_ret d_B_addRow_85 rfl (by rw [nI_s]; rfl)
theorem t_B_empty {X : RAM} {o : Nat} (hB : isB o) : CG l D ac b y_B_empty c_B_empty 1 none 1 23 [.ref o] X (none) (filA (up2 (up2 X o 5 0) o 6 0) (o + 5) 4 0) := by
  refine Ct_of false (by decide) (fun h => by cases h) (Nat.le_of_ble_eq_true rfl) ?_
  show V l D ac b "SpanStore$Block" c_B_empty 1 none false 1 23 0 0 ((none), 144, mk (filA (up2 (up2 X o 5 0) o 6 0) (o + 5) 4 0)) 0 0 0 [(0, .ref o)] [] 144 (mk X)
  refine s_aload_n (q := 1) d_B_empty_0 rfl rfl (Or.inr ⟨_, rfl⟩) ?_
  refine s_iconst (v := 0) (q := 2) d_B_empty_1 rfl ki_0 ?_
  refine g_puti (q := 5) d_B_empty_2 rfl fl_B_28 rfl (okV_int _) hB.1 rfl ?_
  refine s_aload_n (q := 6) d_B_empty_5 rfl rfl (Or.inr ⟨_, rfl⟩) ?_
  refine s_iconst (v := 0) (q := 7) d_B_empty_6 rfl ki_0 ?_
  refine g_puti (q := 10) d_B_empty_7 rfl fl_B_32 rfl (okV_int _) hB.1 rfl ?_
  refine s_aload_n (q := 11) d_B_empty_10 rfl rfl (Or.inr ⟨_, rfl⟩) ?_
  refine g_getr (q := 14) d_B_empty_11 rfl fl_B_25 hB.1 rfl ?_
  refine s_iconst (v := 0) (q := 15) d_B_empty_14 rfl ki_0 ?_
  refine g_callS (q := 18) d_B_empty_15 rfl ml_B_35 mx_J_fill ms_J_fill (t_J_fill hB.2.2.2.2.2 (by decide)) rfl rfl (Nat.le_of_ble_eq_true rfl) (by decide) ?_
  exact g_ret d_B_empty_18 rfl rfl
def eqG (X : RAM) (o k : Nat) : Nat → Bool := fun i => decide (X (o + 2) i = X (o + 2) k)
theorem lp_earlier {X : RAM} {o n k : Nat} (hB : isB o) (hsz : X o 5 = nI n) (hn : n ≤ 12) (hk : k < n) : ∀ i, i ≤ k → V l D ac b "SpanStore$Block" c_B_earlierOfItsGroup 4 (some .int) false 0 0 0 0 ((some (.int (nI (cntB (eqG X o k) k)))), 144, mk X) 0 0 4 [(0, .ref o), (1, .int (nI k)), (2, .int (nI (cntB (eqG X o k) i))), (3, .int (nI i))] [] 144 (mk X) := by
  refine nat_down ?_ (fun i hi ih => ?_)
  · skip
    refine s_iload_n (q := 5) d_B_earlierOfItsGroup_4 rfl rfl ?_
    refine s_iload_n (q := 6) d_B_earlierOfItsGroup_5 rfl rfl ?_
    refine s_icmp_ge (tgt := 41) (q := 9) d_B_earlierOfItsGroup_6 (by decide) rfl (fun _ => ?_) (fun z9 => absurd (nI_le (Nat.le_refl k) (by omega)) z9)
    refine s_iload_n (q := 42) d_B_earlierOfItsGroup_41 rfl rfl ?_
    exact g_iret d_B_earlierOfItsGroup_42 rfl rfl rfl rfl
  · skip
    refine s_iload_n (q := 5) d_B_earlierOfItsGroup_4 rfl rfl ?_
    refine s_iload_n (q := 6) d_B_earlierOfItsGroup_5 rfl rfl ?_
    refine s_icmp_ge (tgt := 41) (q := 9) d_B_earlierOfItsGroup_6 (by decide) rfl (fun z9 => absurd z9 (nI_ge hi (by omega))) (fun _ => ?_)
    refine s_iload_n (q := 10) d_B_earlierOfItsGroup_9 rfl rfl ?_
    refine s_aload_n (q := 11) d_B_earlierOfItsGroup_10 rfl rfl (Or.inr ⟨_, rfl⟩) ?_
    refine g_getv (v := nI n) (q := 14) d_B_earlierOfItsGroup_11 rfl fl_B_28 hB.1 rfl hsz ?_
    refine s_icmp_ge (tgt := 41) (q := 17) d_B_earlierOfItsGroup_14 (by decide) rfl (fun z9 => absurd z9 (nI_ge hk (by omega))) (fun _ => ?_)
    refine s_aload_n (q := 18) d_B_earlierOfItsGroup_17 rfl rfl (Or.inr ⟨_, rfl⟩) ?_
    refine g_getr (q := 21) d_B_earlierOfItsGroup_18 rfl fl_B_15 hB.1 rfl ?_
    refine s_iload_n (q := 22) d_B_earlierOfItsGroup_21 rfl rfl ?_
    refine g_iald (q := 23) d_B_earlierOfItsGroup_22 rfl hB.2.2.1 (by omega) rfl (by omega) ?_
    refine s_aload_n (q := 24) d_B_earlierOfItsGroup_23 rfl rfl (Or.inr ⟨_, rfl⟩) ?_
    refine g_getr (q := 27) d_B_earlierOfItsGroup_24 rfl fl_B_15 hB.1 rfl ?_
    refine s_iload_n (q := 28) d_B_earlierOfItsGroup_27 rfl rfl ?_
    refine g_iald (q := 29) d_B_earlierOfItsGroup_28 rfl hB.2.2.1 (by omega) rfl (by omega) ?_
    refine s_icmp_ne (tgt := 35) (q := 32) d_B_earlierOfItsGroup_29 (by decide) rfl (fun h_29 => ?_) (fun h_29 => ?_)
    · -- T 29
      have e1 : cntB (eqG X o k) (i + 1) = cntB (eqG X o k) i := by simp [cntB, eqG, h_29]
      rw [e1] at ih
      refine s_iinc (q := 38) d_B_earlierOfItsGroup_35 rfl rfl (by first | exact inc1 _ | rfl) (by decide) ?_
      refine s_goto (tgt := 4) d_B_earlierOfItsGroup_38 (by decide) ?_
      exact s_lv (lv' := [(0, .ref o), (1, .int (nI k)), (2, .int (nI _)), (3, .int (nI (i + 1)))]) ⟨rfl, rfl, rfl, rfl, trivial⟩ ih
    · -- F 29
      have e1 : cntB (eqG X o k) (i + 1) = cntB (eqG X o k) i + 1 := by simp [cntB, eqG, h_29]
      rw [e1] at ih
      refine s_iinc (q := 35) d_B_earlierOfItsGroup_32 rfl rfl (by first | exact inc1 _ | rfl) (by decide) ?_
      refine s_iinc (q := 38) d_B_earlierOfItsGroup_35 rfl rfl (by first | exact inc1 _ | rfl) (by decide) ?_
      refine s_goto (tgt := 4) d_B_earlierOfItsGroup_38 (by decide) ?_
      exact s_lv (lv' := [(0, .ref o), (1, .int (nI k)), (2, .int (nI _)), (3, .int (nI (i + 1)))]) ⟨rfl, rfl, rfl, rfl, trivial⟩ ih
theorem t_B_earlier {X : RAM} {o n k : Nat} (hB : isB o) (hsz : X o 5 = nI n) (hn : n ≤ 12) (hk : k < n) : CG l D ac b y_B_earlierOfItsGroup c_B_earlierOfItsGroup 4 (some .int) 0 0 [.ref o, .int (nI k)] X (some (.int (nI (cntB (eqG X o k) k)))) (X) := by
  refine Ct_of false (by decide) (fun h => by cases h) (Nat.le_of_ble_eq_true rfl) ?_
  show V l D ac b "SpanStore$Block" c_B_earlierOfItsGroup 4 (some .int) false 0 0 0 0 ((some (.int (nI (cntB (eqG X o k) k)))), 144, mk (X)) 0 0 0 [(0, .ref o), (1, .int (nI k))] [] 144 (mk X)
  refine s_iconst (v := 0) (q := 1) d_B_earlierOfItsGroup_0 rfl ki_0 ?_
  refine s_istore_n (q := 2) d_B_earlierOfItsGroup_1 rfl (by decide) ?_
  refine s_iconst (v := 0) (q := 3) d_B_earlierOfItsGroup_2 rfl ki_0 ?_
  refine s_istore_n (q := 4) d_B_earlierOfItsGroup_3 rfl (by decide) ?_
  exact s_lv (lv' := [(0, .ref o), (1, .int (nI k)), (2, .int (nI (cntB (eqG X o k) 0))), (3, .int (nI 0))]) ⟨rfl, rfl, rfl, rfl, trivial⟩ (lp_earlier hB hsz hn hk 0 (Nat.zero_le k))
def kwX (X : RAM) (o k : Nat) : RAM := if X (o + 4) k = 0 then up2 (up2 X (o + 4) k 1) o 6 (X o 6 + 1) else X
theorem t_B_know {X : RAM} {o n k : Nat} (hB : isB o) (hsz : X o 5 = nI n) (hn : n ≤ 12) (hk : k < n) : CG l D ac b y_B_know c_B_know 2 none 1 21 [.ref o, .int (nI k)] X (none) (kwX X o k) := by
  refine Ct_of false (by decide) (fun h => by cases h) (Nat.le_of_ble_eq_true rfl) ?_
  show V l D ac b "SpanStore$Block" c_B_know 2 none false 1 21 0 0 ((none), 144, mk (kwX X o k)) 0 0 0 [(0, .ref o), (1, .int (nI k))] [] 144 (mk X)
  refine s_aload_n (q := 1) d_B_know_0 rfl rfl (Or.inr ⟨_, rfl⟩) ?_
  refine s_iload_n (q := 2) d_B_know_1 rfl rfl ?_
  refine g_callV (q := 5) d_B_know_2 rfl ml_B_41 mx_B_hasRow mv_B_hasRow (t_B_hasRow hB) hB.1 rfl rfl (Nat.le_of_ble_eq_true rfl) (by decide) ?_
  refine s_if_eq (tgt := 34) (q := 8) d_B_know_5 (by decide) rfl (fun z9 => absurd z9 (hr_t hsz hk hn)) (fun _ => ?_)
  refine s_aload_n (q := 9) d_B_know_8 rfl rfl (Or.inr ⟨_, rfl⟩) ?_
  refine g_getr (q := 12) d_B_know_9 rfl fl_B_21 hB.1 rfl ?_
  refine s_iload_n (q := 13) d_B_know_12 rfl rfl ?_
  refine g_zald (q := 14) d_B_know_13 rfl hB.2.2.2.2.1 (by omega) rfl (by omega) ?_
  refine s_if_ne (tgt := 34) (q := 17) d_B_know_14 (by decide) rfl (fun h_14 => ?_) (fun h_14 => ?_)
  · -- T 14
    exact g_ret d_B_know_34 rfl (by simp [kwX, *])
  · -- F 14
    refine s_aload_n (q := 18) d_B_know_17 rfl rfl (Or.inr ⟨_, rfl⟩) ?_
    refine g_getr (q := 21) d_B_know_18 rfl fl_B_21 hB.1 rfl ?_
    refine s_iload_n (q := 22) d_B_know_21 rfl rfl ?_
    refine s_iconst (v := 1) (q := 23) d_B_know_22 rfl ki_1 ?_
    refine g_zast (q := 24) d_B_know_23 rfl hB.2.2.2.2.1 (by omega) rfl (by omega) rfl ?_
    refine s_aload_n (q := 25) d_B_know_24 rfl rfl (Or.inr ⟨_, rfl⟩) ?_
    refine s_dup (q := 26) d_B_know_25 rfl rfl ?_
    refine g_getv (v := X o 6) (q := 29) d_B_know_26 rfl fl_B_32 hB.1 rfl (by simp [up2, upd]) ?_
    refine s_iconst (v := 1) (q := 30) d_B_know_29 rfl ki_1 ?_
    refine s_iadd (q := 31) d_B_know_30 rfl ?_
    refine g_puti (q := 34) d_B_know_31 rfl fl_B_32 rfl (okV_int _) hB.1 rfl ?_
    exact g_ret d_B_know_34 rfl (by simp [kwX, *])
def kwA (X : RAM) (o : Nat) : Nat → RAM
  | 0 => X
  | i + 1 => kwX (kwA X o i) o i
theorem kwX_o {X : RAM} {o k j : Nat} (h : j ≠ 6) : kwX X o k o j = X o j := by
  unfold kwX
  split
  · simp [up2, upd, h]
  · rfl
theorem kwA_o {X : RAM} {o j : Nat} (h : j ≠ 6) (i : Nat) : kwA X o i o j = X o j := by
  induction i with
  | zero => rfl
  | succ i ih => exact (kwX_o h).trans ih
theorem lp_knowAll {X : RAM} {o n : Nat} (hB : isB o) (hsz : X o 5 = nI n) (hn : n ≤ 12) : ∀ i, i ≤ n → V l D ac b "SpanStore$Block" c_B_knowAll 2 none false 2 42 0 0 (none, 144, mk (kwA X o n)) 0 0 2 [(0, .ref o), (1, .int (nI i))] [] 144 (mk (kwA X o i)) := by
  refine nat_down ?_ (fun i hi ih => ?_)
  · skip
    refine s_iload_n (q := 3) d_B_knowAll_2 rfl rfl ?_
    refine s_aload_n (q := 4) d_B_knowAll_3 rfl rfl (Or.inr ⟨_, rfl⟩) ?_
    refine g_getv (v := nI n) (q := 7) d_B_knowAll_4 rfl fl_B_28 hB.1 rfl ((kwA_o (by decide) _).trans hsz) ?_
    refine s_icmp_ge (tgt := 21) (q := 10) d_B_knowAll_7 (by decide) rfl (fun _ => ?_) (fun z9 => absurd (nI_le (Nat.le_refl n) (by omega)) z9)
    exact g_ret d_B_knowAll_21 rfl rfl
  · skip
    refine s_iload_n (q := 3) d_B_knowAll_2 rfl rfl ?_
    refine s_aload_n (q := 4) d_B_knowAll_3 rfl rfl (Or.inr ⟨_, rfl⟩) ?_
    refine g_getv (v := nI n) (q := 7) d_B_knowAll_4 rfl fl_B_28 hB.1 rfl ((kwA_o (by decide) _).trans hsz) ?_
    refine s_icmp_ge (tgt := 21) (q := 10) d_B_knowAll_7 (by decide) rfl (fun z9 => absurd z9 (nI_ge hi (by omega))) (fun _ => ?_)
    refine s_aload_n (q := 11) d_B_knowAll_10 rfl rfl (Or.inr ⟨_, rfl⟩) ?_
    refine s_iload_n (q := 12) d_B_knowAll_11 rfl rfl ?_
    refine g_callV (q := 15) d_B_knowAll_12 rfl ml_B_45 mx_B_know mv_B_know (t_B_know hB ((kwA_o (by decide) _).trans hsz) hn hi) hB.1 rfl rfl (Nat.le_of_ble_eq_true rfl) (by decide) ?_
    refine s_iinc (q := 18) d_B_knowAll_15 rfl rfl (by first | exact inc1 _ | rfl) (by decide) ?_
    refine s_goto (tgt := 2) d_B_knowAll_18 (by decide) ?_
    exact s_lv (lv' := [(0, .ref o), (1, .int (nI (i + 1)))]) ⟨rfl, rfl, trivial⟩ ih
theorem t_B_knowAll {X : RAM} {o n : Nat} (hB : isB o) (hsz : X o 5 = nI n) (hn : n ≤ 12) : CG l D ac b y_B_knowAll c_B_knowAll 2 none 2 42 [.ref o] X (none) (kwA X o n) := by
  refine Ct_of false (by decide) (fun h => by cases h) (Nat.le_of_ble_eq_true rfl) ?_
  show V l D ac b "SpanStore$Block" c_B_knowAll 2 none false 2 42 0 0 ((none), 144, mk (kwA X o n)) 0 0 0 [(0, .ref o)] [] 144 (mk X)
  refine s_iconst (v := 0) (q := 1) d_B_knowAll_0 rfl ki_0 ?_
  refine s_istore_n (q := 2) d_B_knowAll_1 rfl (by decide) ?_
  exact s_lv (lv' := [(0, .ref o), (1, .int (nI 0))]) ⟨rfl, rfl, trivial⟩ (lp_knowAll hB hsz hn 0 (Nat.zero_le n))
def cuV (X : RAM) (o k : Nat) : Int32 := if X o 13 = 0 then (if X (o + 4) k = 0 then 1 else 0) else 1
def chX (X : RAM) (o k : Nat) (v : Int32) : RAM := up2 (kwX (up2 X o 13 (cuV X o k)) o k) (o + 3) k v
theorem t_B_changeRow {X : RAM} {o n k : Nat} {v : Int32} (hB : isB o) (hsz : X o 5 = nI n) (hn : n ≤ 12) (hk : k < n) : CG l D ac b y_B_changeRow c_B_changeRow 3 none 2 42 [.ref o, .int (nI k), .int v] X (none) (chX X o k v) := by
  refine Ct_of false (by decide) (fun h => by cases h) (Nat.le_of_ble_eq_true rfl) ?_
  show V l D ac b "SpanStore$Block" c_B_changeRow 3 none false 2 42 0 0 ((none), 144, mk (chX X o k v)) 0 0 0 [(0, .ref o), (1, .int (nI k)), (2, .int v)] [] 144 (mk X)
  refine s_aload_n (q := 1) d_B_changeRow_0 rfl rfl (Or.inr ⟨_, rfl⟩) ?_
  refine s_iload_n (q := 2) d_B_changeRow_1 rfl rfl ?_
  refine g_callV (q := 5) d_B_changeRow_2 rfl ml_B_41 mx_B_hasRow mv_B_hasRow (t_B_hasRow hB) hB.1 rfl rfl (Nat.le_of_ble_eq_true rfl) (by decide) ?_
  refine s_if_eq (tgt := 45) (q := 8) d_B_changeRow_5 (by decide) rfl (fun z9 => absurd z9 (hr_t hsz hk hn)) (fun _ => ?_)
  refine s_aload_n (q := 9) d_B_changeRow_8 rfl rfl (Or.inr ⟨_, rfl⟩) ?_
  refine s_aload_n (q := 10) d_B_changeRow_9 rfl rfl (Or.inr ⟨_, rfl⟩) ?_
  refine g_geti (q := 13) d_B_changeRow_10 rfl fl_B_49 hB.1 rfl ?_
  refine s_if_ne (tgt := 25) (q := 16) d_B_changeRow_13 (by decide) rfl (fun h_13 => ?_) (fun h_13 => ?_)
  · -- T 13
    refine s_iconst (v := 1) (q := 26) d_B_changeRow_25 rfl ki_1 ?_
    refine s_goto (tgt := 30) d_B_changeRow_26 (by decide) ?_
    refine g_puti (q := 33) d_B_changeRow_30 rfl fl_B_49 rfl (okB (by first | exact Or.inl rfl | exact Or.inr rfl | assumption)) hB.1 rfl ?_
    refine s_aload_n (q := 34) d_B_changeRow_33 rfl rfl (Or.inr ⟨_, rfl⟩) ?_
    refine s_iload_n (q := 35) d_B_changeRow_34 rfl rfl ?_
    refine g_callV (q := 38) d_B_changeRow_35 rfl ml_B_45 mx_B_know mv_B_know (t_B_know hB ((up2_same (by decide)).trans hsz) hn hk) hB.1 rfl rfl (Nat.le_of_ble_eq_true rfl) (by decide) ?_
    refine s_aload_n (q := 39) d_B_changeRow_38 rfl rfl (Or.inr ⟨_, rfl⟩) ?_
    refine g_getr (q := 42) d_B_changeRow_39 rfl fl_B_18 hB.1 rfl ?_
    refine s_iload_n (q := 43) d_B_changeRow_42 rfl rfl ?_
    refine s_iload_n (q := 44) d_B_changeRow_43 rfl rfl ?_
    refine g_iast (q := 45) d_B_changeRow_44 rfl hB.2.2.2.1 (by omega) rfl (by omega) ?_
    exact g_ret d_B_changeRow_45 rfl (by simp [chX, cuV, *])
  · -- F 13
    refine s_aload_n (q := 17) d_B_changeRow_16 rfl rfl (Or.inr ⟨_, rfl⟩) ?_
    refine g_getr (q := 20) d_B_changeRow_17 rfl fl_B_21 hB.1 rfl ?_
    refine s_iload_n (q := 21) d_B_changeRow_20 rfl rfl ?_
    refine g_zald (q := 22) d_B_changeRow_21 rfl hB.2.2.2.2.1 (by omega) rfl (by omega) ?_
    refine s_if_ne (tgt := 29) (q := 25) d_B_changeRow_22 (by decide) rfl (fun h_22 => ?_) (fun h_22 => ?_)
    · -- T 22
      refine s_iconst (v := 0) (q := 30) d_B_changeRow_29 rfl ki_0 ?_
      refine g_puti (q := 33) d_B_changeRow_30 rfl fl_B_49 rfl (okB (by first | exact Or.inl rfl | exact Or.inr rfl | assumption)) hB.1 rfl ?_
      refine s_aload_n (q := 34) d_B_changeRow_33 rfl rfl (Or.inr ⟨_, rfl⟩) ?_
      refine s_iload_n (q := 35) d_B_changeRow_34 rfl rfl ?_
      refine g_callV (q := 38) d_B_changeRow_35 rfl ml_B_45 mx_B_know mv_B_know (t_B_know hB ((up2_same (by decide)).trans hsz) hn hk) hB.1 rfl rfl (Nat.le_of_ble_eq_true rfl) (by decide) ?_
      refine s_aload_n (q := 39) d_B_changeRow_38 rfl rfl (Or.inr ⟨_, rfl⟩) ?_
      refine g_getr (q := 42) d_B_changeRow_39 rfl fl_B_18 hB.1 rfl ?_
      refine s_iload_n (q := 43) d_B_changeRow_42 rfl rfl ?_
      refine s_iload_n (q := 44) d_B_changeRow_43 rfl rfl ?_
      refine g_iast (q := 45) d_B_changeRow_44 rfl hB.2.2.2.1 (by omega) rfl (by omega) ?_
      exact g_ret d_B_changeRow_45 rfl (by simp [chX, cuV, *])
    · -- F 22
      refine s_iconst (v := 1) (q := 26) d_B_changeRow_25 rfl ki_1 ?_
      refine s_goto (tgt := 30) d_B_changeRow_26 (by decide) ?_
      refine g_puti (q := 33) d_B_changeRow_30 rfl fl_B_49 rfl (okB (by first | exact Or.inl rfl | exact Or.inr rfl | assumption)) hB.1 rfl ?_
      refine s_aload_n (q := 34) d_B_changeRow_33 rfl rfl (Or.inr ⟨_, rfl⟩) ?_
      refine s_iload_n (q := 35) d_B_changeRow_34 rfl rfl ?_
      refine g_callV (q := 38) d_B_changeRow_35 rfl ml_B_45 mx_B_know mv_B_know (t_B_know hB ((up2_same (by decide)).trans hsz) hn hk) hB.1 rfl rfl (Nat.le_of_ble_eq_true rfl) (by decide) ?_
      refine s_aload_n (q := 39) d_B_changeRow_38 rfl rfl (Or.inr ⟨_, rfl⟩) ?_
      refine g_getr (q := 42) d_B_changeRow_39 rfl fl_B_18 hB.1 rfl ?_
      refine s_iload_n (q := 43) d_B_changeRow_42 rfl rfl ?_
      refine s_iload_n (q := 44) d_B_changeRow_43 rfl rfl ?_
      refine g_iast (q := 45) d_B_changeRow_44 rfl hB.2.2.2.1 (by omega) rfl (by omega) ?_
      exact g_ret d_B_changeRow_45 rfl (by simp [chX, cuV, *])
def kvP (X : RAM) (o : Nat) (v : Int32) : Nat → Bool := fun i => decide (¬ X (o + 4) i = 0 ∧ X (o + 3) i = v)
theorem lp_isKV {X : RAM} {o n : Nat} {v : Int32} (hB : isB o) (hsz : X o 5 = nI n) (hn : n ≤ 12) : ∀ i, i ≤ n → (∀ j, j < i → kvP X o v j = false) → V l D ac b "SpanStore$Block" c_B_isKnownValue 3 (some .boolean) false 0 0 0 0 ((some (.int (bI (anyB (kvP X o v) n)))), 144, mk X) 0 0 2 [(0, .ref o), (1, .int v), (2, .int (nI i))] [] 144 (mk X) := by
  refine nat_down ?_ (fun i hi ih => ?_)
  · skip
    intro hp
    refine s_iload_n (q := 3) d_B_isKnownValue_2 rfl rfl ?_
    refine s_aload_n (q := 4) d_B_isKnownValue_3 rfl rfl (Or.inr ⟨_, rfl⟩) ?_
    refine g_getv (v := nI n) (q := 7) d_B_isKnownValue_4 rfl fl_B_28 hB.1 rfl hsz ?_
    refine s_icmp_ge (tgt := 37) (q := 10) d_B_isKnownValue_7 (by decide) rfl (fun _ => ?_) (fun z9 => absurd (nI_le (Nat.le_refl n) (by omega)) z9)
    refine s_iconst (v := 0) (q := 38) d_B_isKnownValue_37 rfl ki_0 ?_
    exact g_iret d_B_isKnownValue_38 rfl rfl (bI_f (anyB_f hp)).symm rfl
  · skip
    intro hp
    refine s_iload_n (q := 3) d_B_isKnownValue_2 rfl rfl ?_
    refine s_aload_n (q := 4) d_B_isKnownValue_3 rfl rfl (Or.inr ⟨_, rfl⟩) ?_
    refine g_getv (v := nI n) (q := 7) d_B_isKnownValue_4 rfl fl_B_28 hB.1 rfl hsz ?_
    refine s_icmp_ge (tgt := 37) (q := 10) d_B_isKnownValue_7 (by decide) rfl (fun z9 => absurd z9 (nI_ge hi (by omega))) (fun _ => ?_)
    refine s_aload_n (q := 11) d_B_isKnownValue_10 rfl rfl (Or.inr ⟨_, rfl⟩) ?_
    refine g_getr (q := 14) d_B_isKnownValue_11 rfl fl_B_21 hB.1 rfl ?_
    refine s_iload_n (q := 15) d_B_isKnownValue_14 rfl rfl ?_
    refine g_zald (q := 16) d_B_isKnownValue_15 rfl hB.2.2.2.2.1 (by omega) rfl (by omega) ?_
    refine s_if_eq (tgt := 31) (q := 19) d_B_isKnownValue_16 (by decide) rfl (fun h_16 => ?_) (fun h_16 => ?_)
    · -- T 16
      refine s_iinc (q := 34) d_B_isKnownValue_31 rfl rfl (by first | exact inc1 _ | rfl) (by decide) ?_
      refine s_goto (tgt := 2) d_B_isKnownValue_34 (by decide) ?_
      refine s_lv (lv' := [(0, .ref o), (1, .int v), (2, .int (nI (i + 1)))]) ⟨rfl, rfl, rfl, trivial⟩ (ih (fun j hj => ?_))
      by_cases hji : j = i
      · subst hji; simp [kvP, *]
      · exact hp j (by omega)
    · -- F 16
      refine s_aload_n (q := 20) d_B_isKnownValue_19 rfl rfl (Or.inr ⟨_, rfl⟩) ?_
      refine g_getr (q := 23) d_B_isKnownValue_20 rfl fl_B_18 hB.1 rfl ?_
      refine s_iload_n (q := 24) d_B_isKnownValue_23 rfl rfl ?_
      refine g_iald (q := 25) d_B_isKnownValue_24 rfl hB.2.2.2.1 (by omega) rfl (by omega) ?_
      refine s_iload_n (q := 26) d_B_isKnownValue_25 rfl rfl ?_
      refine s_icmp_ne (tgt := 31) (q := 29) d_B_isKnownValue_26 (by decide) rfl (fun h_26 => ?_) (fun h_26 => ?_)
      · -- T 26
        refine s_iinc (q := 34) d_B_isKnownValue_31 rfl rfl (by first | exact inc1 _ | rfl) (by decide) ?_
        refine s_goto (tgt := 2) d_B_isKnownValue_34 (by decide) ?_
        refine s_lv (lv' := [(0, .ref o), (1, .int v), (2, .int (nI (i + 1)))]) ⟨rfl, rfl, rfl, trivial⟩ (ih (fun j hj => ?_))
        by_cases hji : j = i
        · subst hji; simp [kvP, *]
        · exact hp j (by omega)
      · -- F 26
        refine s_iconst (v := 1) (q := 30) d_B_isKnownValue_29 rfl ki_1 ?_
        exact g_iret d_B_isKnownValue_30 rfl rfl (bI_t (anyB_t hi (by simp [kvP, *]))).symm rfl
theorem t_B_isKV {X : RAM} {o n : Nat} {v : Int32} (hB : isB o) (hsz : X o 5 = nI n) (hn : n ≤ 12) : CG l D ac b y_B_isKnownValue c_B_isKnownValue 3 (some .boolean) 0 0 [.ref o, .int v] X (some (.int (bI (anyB (kvP X o v) n)))) (X) := by
  refine Ct_of false (by decide) (fun h => by cases h) (Nat.le_of_ble_eq_true rfl) ?_
  show V l D ac b "SpanStore$Block" c_B_isKnownValue 3 (some .boolean) false 0 0 0 0 ((some (.int (bI (anyB (kvP X o v) n)))), 144, mk (X)) 0 0 0 [(0, .ref o), (1, .int v)] [] 144 (mk X)
  refine s_iconst (v := 0) (q := 1) d_B_isKnownValue_0 rfl ki_0 ?_
  refine s_istore_n (q := 2) d_B_isKnownValue_1 rfl (by decide) ?_
  exact s_lv (lv' := [(0, .ref o), (1, .int v), (2, .int (nI 0))]) ⟨rfl, rfl, rfl, trivial⟩ (lp_isKV hB hsz hn 0 (Nat.zero_le n) (fun j hj => by omega))
def minF (f : Nat → Int32) : Nat → Int32
  | 0 => f 0
  | i + 1 => if f (i + 1) < minF f i then f (i + 1) else minF f i
def maxF (f : Nat → Int32) : Nat → Int32
  | 0 => f 0
  | i + 1 => if maxF f i < f (i + 1) then f (i + 1) else maxF f i
def lstV (X : RAM) (o n : Nat) : Int32 := if n = 0 then 0 else minF (X (o + 3)) (n - 1)
def grtV (X : RAM) (o n : Nat) : Int32 := if n = 0 then 0 else maxF (X (o + 3)) (n - 1)
def lowV (X : RAM) (o n : Nat) (a : Int32) : Int32 := if lstV X o n < -a then -a else lstV X o n
def higV (X : RAM) (o n : Nat) (a : Int32) : Int32 := if a < grtV X o n then a else grtV X o n
def meX (X : RAM) (o n : Nat) : RAM := up2 (up2 X o 7 (lstV X o n)) o 8 (grtV X o n)
def msX (X : RAM) (o n : Nat) (a : Int32) : RAM := up2 (up2 (up2 (up2 (up2 (meX X o n) o 9 (lowV X o n a)) o 10 (higV X o n a)) o 11 (bI (anyB (kvP X o (lstV X o n)) n))) o 12 (bI (anyB (kvP X o (grtV X o n)) n))) o 13 0
theorem meX_s {X : RAM} {o i : Nat} : up2 (up2 (meX X o (i + 1)) o 7 (lstV X o (i + 2))) o 8 (grtV X o (i + 2)) = meX X o (i + 2) := by
  unfold meX
  funext j
  by_cases h : j = o
  · subst h
    funext k
    simp only [up2, if_true, upd]
    by_cases h8 : k = 8
    · simp [h8]
    · by_cases h7 : k = 7
      · simp [h7]
      · simp [h8, h7]
  · simp [up2, h]
theorem lp_measure {X : RAM} {o n : Nat} {a : Int32} (hB : isB o) (hsz : X o 5 = nI n) (hn : n ≤ 12) (h0 : 0 < n) : ∀ i, i ≤ n - 1 → V l D ac b "SpanStore$Block" c_B_measure 3 none false 1 22 0 0 (none, 144, mk (msX X o n a)) 0 0 31 [(0, .ref o), (1, .int a), (2, .int (nI (i + 1)))] [] 144 (mk (meX X o (i + 1))) := by
  refine nat_down ?_ (fun i hi ih => ?_)
  · rw [show n - 1 + 1 = n by omega]
    refine s_iload_n (q := 32) d_B_measure_31 rfl rfl ?_
    refine s_aload_n (q := 33) d_B_measure_32 rfl rfl (Or.inr ⟨_, rfl⟩) ?_
    refine g_getv (v := nI n) (q := 36) d_B_measure_33 rfl fl_B_28 hB.1 rfl (by simp [meX, up2, upd, hsz]) ?_
    refine s_icmp_ge (tgt := 79) (q := 39) d_B_measure_36 (by decide) rfl (fun _ => ?_) (fun z9 => absurd (nI_le (Nat.le_refl n) (by omega)) z9)
    refine s_aload_n (q := 80) d_B_measure_79 rfl rfl (Or.inr ⟨_, rfl⟩) ?_
    refine s_aload_n (q := 81) d_B_measure_80 rfl rfl (Or.inr ⟨_, rfl⟩) ?_
    refine g_getv (v := lstV X o n) (q := 84) d_B_measure_81 rfl fl_B_53 hB.1 rfl (by simp [meX, up2, upd]) ?_
    refine s_iload_n (q := 85) d_B_measure_84 rfl rfl ?_
    refine s_ineg (q := 86) d_B_measure_85 rfl ?_
    refine s_max (q := 89) d_B_measure_86 rfl ml_B_65 (Nat.le_of_ble_eq_true rfl) (by decide) (by decide) ⟨Nat.le_refl _, Nat.le_refl _⟩ ?_
    refine g_puti (q := 92) d_B_measure_89 rfl fl_B_68 rfl (okV_int _) hB.1 rfl ?_
    refine s_aload_n (q := 93) d_B_measure_92 rfl rfl (Or.inr ⟨_, rfl⟩) ?_
    refine s_aload_n (q := 94) d_B_measure_93 rfl rfl (Or.inr ⟨_, rfl⟩) ?_
    refine g_getv (v := grtV X o n) (q := 97) d_B_measure_94 rfl fl_B_56 hB.1 rfl (by simp [meX, up2, upd]) ?_
    refine s_iload_n (q := 98) d_B_measure_97 rfl rfl ?_
    refine s_min (q := 101) d_B_measure_98 rfl ml_B_59 (Nat.le_of_ble_eq_true rfl) (by decide) (by decide) ⟨Nat.le_refl _, Nat.le_refl _⟩ ?_
    refine g_puti (q := 104) d_B_measure_101 rfl fl_B_71 rfl (okV_int _) hB.1 rfl ?_
    refine s_aload_n (q := 105) d_B_measure_104 rfl rfl (Or.inr ⟨_, rfl⟩) ?_
    refine s_aload_n (q := 106) d_B_measure_105 rfl rfl (Or.inr ⟨_, rfl⟩) ?_
    refine s_aload_n (q := 107) d_B_measure_106 rfl rfl (Or.inr ⟨_, rfl⟩) ?_
    refine g_getv (v := lstV X o n) (q := 110) d_B_measure_107 rfl fl_B_53 hB.1 rfl (by simp [meX, up2, upd]) ?_
    refine g_callV (q := 113) d_B_measure_110 rfl ml_B_74 mx_B_isKnownValue mv_B_isKnownValue (t_B_isKV hB (n := n) (by simp [meX, up2, upd, hsz]) hn) hB.1 rfl rfl (Nat.le_of_ble_eq_true rfl) (by decide) ?_
    rw [show kvP _ o (lstV X o n) = kvP X o (lstV X o n) from by funext i; simp [kvP, meX, up2]]
    refine g_puti (q := 116) d_B_measure_113 rfl fl_B_77 rfl (okBI _) hB.1 rfl ?_
    refine s_aload_n (q := 117) d_B_measure_116 rfl rfl (Or.inr ⟨_, rfl⟩) ?_
    refine s_aload_n (q := 118) d_B_measure_117 rfl rfl (Or.inr ⟨_, rfl⟩) ?_
    refine s_aload_n (q := 119) d_B_measure_118 rfl rfl (Or.inr ⟨_, rfl⟩) ?_
    refine g_getv (v := grtV X o n) (q := 122) d_B_measure_119 rfl fl_B_56 hB.1 rfl (by simp [meX, up2, upd]) ?_
    refine g_callV (q := 125) d_B_measure_122 rfl ml_B_74 mx_B_isKnownValue mv_B_isKnownValue (t_B_isKV hB (n := n) (by simp [meX, up2, upd, hsz]) hn) hB.1 rfl rfl (Nat.le_of_ble_eq_true rfl) (by decide) ?_
    rw [show kvP _ o (grtV X o n) = kvP X o (grtV X o n) from by funext i; simp [kvP, meX, up2]]
    refine g_puti (q := 128) d_B_measure_125 rfl fl_B_80 rfl (okBI _) hB.1 rfl ?_
    refine s_aload_n (q := 129) d_B_measure_128 rfl rfl (Or.inr ⟨_, rfl⟩) ?_
    refine s_iconst (v := 0) (q := 130) d_B_measure_129 rfl ki_0 ?_
    refine g_puti (q := 133) d_B_measure_130 rfl fl_B_49 rfl (okB (by first | exact Or.inl rfl | exact Or.inr rfl | assumption)) hB.1 rfl ?_
    exact g_ret d_B_measure_133 rfl rfl
  · skip
    refine s_iload_n (q := 32) d_B_measure_31 rfl rfl ?_
    refine s_aload_n (q := 33) d_B_measure_32 rfl rfl (Or.inr ⟨_, rfl⟩) ?_
    refine g_getv (v := nI n) (q := 36) d_B_measure_33 rfl fl_B_28 hB.1 rfl (by simp [meX, up2, upd, hsz]) ?_
    refine s_icmp_ge (tgt := 79) (q := 39) d_B_measure_36 (by decide) rfl (fun z9 => absurd z9 (nI_ge (by omega) (by omega))) (fun _ => ?_)
    refine s_aload_n (q := 40) d_B_measure_39 rfl rfl (Or.inr ⟨_, rfl⟩) ?_
    refine s_aload_n (q := 41) d_B_measure_40 rfl rfl (Or.inr ⟨_, rfl⟩) ?_
    refine g_getv (v := lstV X o (i + 1)) (q := 44) d_B_measure_41 rfl fl_B_53 hB.1 rfl (by simp [meX, up2, upd]) ?_
    refine s_aload_n (q := 45) d_B_measure_44 rfl rfl (Or.inr ⟨_, rfl⟩) ?_
    refine g_getr (q := 48) d_B_measure_45 rfl fl_B_18 hB.1 rfl ?_
    refine s_iload_n (q := 49) d_B_measure_48 rfl rfl ?_
    refine g_ialv (v := X (o + 3) (i + 1)) (q := 50) d_B_measure_49 rfl hB.2.2.2.1 (by omega) rfl (by omega) (by simp [meX, up2]) ?_
    refine s_min (q := 53) d_B_measure_50 rfl ml_B_59 (Nat.le_of_ble_eq_true rfl) (by decide) (by decide) ⟨Nat.le_refl _, Nat.le_refl _⟩ ?_
    rw [show (if X (o + 3) (i + 1) < lstV X o (i + 1) then X (o + 3) (i + 1) else lstV X o (i + 1)) = lstV X o (i + 2) from by simp [lstV, minF]]
    refine g_puti (q := 56) d_B_measure_53 rfl fl_B_53 rfl (okV_int _) hB.1 rfl ?_
    refine s_aload_n (q := 57) d_B_measure_56 rfl rfl (Or.inr ⟨_, rfl⟩) ?_
    refine s_aload_n (q := 58) d_B_measure_57 rfl rfl (Or.inr ⟨_, rfl⟩) ?_
    refine g_getv (v := grtV X o (i + 1)) (q := 61) d_B_measure_58 rfl fl_B_56 hB.1 rfl (by simp [meX, up2, upd]) ?_
    refine s_aload_n (q := 62) d_B_measure_61 rfl rfl (Or.inr ⟨_, rfl⟩) ?_
    refine g_getr (q := 65) d_B_measure_62 rfl fl_B_18 hB.1 rfl ?_
    refine s_iload_n (q := 66) d_B_measure_65 rfl rfl ?_
    refine g_ialv (v := X (o + 3) (i + 1)) (q := 67) d_B_measure_66 rfl hB.2.2.2.1 (by omega) rfl (by omega) (by simp [meX, up2]) ?_
    refine s_max (q := 70) d_B_measure_67 rfl ml_B_65 (Nat.le_of_ble_eq_true rfl) (by decide) (by decide) ⟨Nat.le_refl _, Nat.le_refl _⟩ ?_
    rw [show (if grtV X o (i + 1) < X (o + 3) (i + 1) then X (o + 3) (i + 1) else grtV X o (i + 1)) = grtV X o (i + 2) from by simp [grtV, maxF]]
    refine g_puti (q := 73) d_B_measure_70 rfl fl_B_56 rfl (okV_int _) hB.1 rfl ?_
    rw [meX_s]
    refine s_iinc (q := 76) d_B_measure_73 rfl rfl (by first | exact inc1 _ | rfl) (by decide) ?_
    refine s_goto (tgt := 31) d_B_measure_76 (by decide) ?_
    exact s_lv (lv' := [(0, .ref o), (1, .int a), (2, .int (nI ((i + 1) + 1)))]) ⟨rfl, rfl, rfl, trivial⟩ ih
theorem t_B_measure {X : RAM} {o n : Nat} {a : Int32} (hB : isB o) (hsz : X o 5 = nI n) (hn : n ≤ 12) : CG l D ac b y_B_measure c_B_measure 3 none 1 22 [.ref o, .int a] X none (msX X o n a) := by
  refine Ct_of false (by decide) (fun h => by cases h) (Nat.le_of_ble_eq_true rfl) ?_
  show V l D ac b "SpanStore$Block" c_B_measure 3 none false 1 22 0 0 (none, 144, mk (msX X o n a)) 0 0 0 [(0, .ref o), (1, .int a)] [] 144 (mk X)
  by_cases h0 : 0 < n
  · skip
    refine s_aload_n (q := 1) d_B_measure_0 rfl rfl (Or.inr ⟨_, rfl⟩) ?_
    refine s_aload_n (q := 2) d_B_measure_1 rfl rfl (Or.inr ⟨_, rfl⟩) ?_
    refine g_getv (v := nI n) (q := 5) d_B_measure_2 rfl fl_B_28 hB.1 rfl hsz ?_
    refine s_if_le (tgt := 17) (q := 8) d_B_measure_5 (by decide) rfl (fun z9 => absurd z9 (nI_nle h0 (by omega))) (fun _ => ?_)
    refine s_aload_n (q := 9) d_B_measure_8 rfl rfl (Or.inr ⟨_, rfl⟩) ?_
    refine g_getr (q := 12) d_B_measure_9 rfl fl_B_18 hB.1 rfl ?_
    refine s_iconst (v := 0) (q := 13) d_B_measure_12 rfl ki_0 ?_
    refine g_ialv (v := lstV X o 1) (q := 14) d_B_measure_13 rfl hB.2.2.2.1 (by omega) (rfl : (0 : Int32) = nI 0) (by decide) rfl ?_
    refine s_goto (tgt := 18) d_B_measure_14 (by decide) ?_
    refine g_puti (q := 21) d_B_measure_18 rfl fl_B_53 rfl (okV_int _) hB.1 rfl ?_
    refine s_aload_n (q := 22) d_B_measure_21 rfl rfl (Or.inr ⟨_, rfl⟩) ?_
    refine s_aload_n (q := 23) d_B_measure_22 rfl rfl (Or.inr ⟨_, rfl⟩) ?_
    refine g_getv (v := grtV X o 1) (q := 26) d_B_measure_23 rfl fl_B_53 hB.1 rfl (by simp [up2, upd, lstV, grtV, minF, maxF]) ?_
    refine g_puti (q := 29) d_B_measure_26 rfl fl_B_56 rfl (okV_int _) hB.1 rfl ?_
    refine s_iconst (v := 1) (q := 30) d_B_measure_29 rfl ki_1 ?_
    refine s_istore_n (q := 31) d_B_measure_30 rfl (by decide) ?_
    exact s_lv (lv' := [(0, .ref o), (1, .int a), (2, .int (nI (0 + 1)))]) ⟨rfl, rfl, rfl, trivial⟩ (lp_measure (l := l) (D := D) (ac := ac) (b := b) (a := a) hB hsz hn h0 0 (by omega))
  · have hz : n = 0 := by omega
    subst hz
    refine s_aload_n (q := 1) d_B_measure_0 rfl rfl (Or.inr ⟨_, rfl⟩) ?_
    refine s_aload_n (q := 2) d_B_measure_1 rfl rfl (Or.inr ⟨_, rfl⟩) ?_
    refine g_getv (v := 0) (q := 5) d_B_measure_2 rfl fl_B_28 hB.1 rfl hsz ?_
    refine s_if_le (tgt := 17) (q := 8) d_B_measure_5 (by decide) rfl (fun _ => ?_) (fun z9 => absurd (by decide) z9)
    refine s_iconst (v := 0) (q := 18) d_B_measure_17 rfl ki_0 ?_
    refine g_puti (q := 21) d_B_measure_18 rfl fl_B_53 rfl (okV_int _) hB.1 rfl ?_
    refine s_aload_n (q := 22) d_B_measure_21 rfl rfl (Or.inr ⟨_, rfl⟩) ?_
    refine s_aload_n (q := 23) d_B_measure_22 rfl rfl (Or.inr ⟨_, rfl⟩) ?_
    refine g_getv (v := 0) (q := 26) d_B_measure_23 rfl fl_B_53 hB.1 rfl (by simp [up2, upd]) ?_
    refine g_puti (q := 29) d_B_measure_26 rfl fl_B_56 rfl (okV_int _) hB.1 rfl ?_
    refine s_iconst (v := 1) (q := 30) d_B_measure_29 rfl ki_1 ?_
    refine s_istore_n (q := 31) d_B_measure_30 rfl (by decide) ?_
    refine s_iload_n (q := 32) d_B_measure_31 rfl rfl ?_
    refine s_aload_n (q := 33) d_B_measure_32 rfl rfl (Or.inr ⟨_, rfl⟩) ?_
    refine g_getv (v := 0) (q := 36) d_B_measure_33 rfl fl_B_28 hB.1 rfl (by simp [up2, upd, hsz]; rfl) ?_
    refine s_icmp_ge (tgt := 79) (q := 39) d_B_measure_36 (by decide) rfl (fun _ => ?_) (fun z9 => absurd (by decide) z9)
    refine s_aload_n (q := 80) d_B_measure_79 rfl rfl (Or.inr ⟨_, rfl⟩) ?_
    refine s_aload_n (q := 81) d_B_measure_80 rfl rfl (Or.inr ⟨_, rfl⟩) ?_
    refine g_getv (v := lstV X o 0) (q := 84) d_B_measure_81 rfl fl_B_53 hB.1 rfl (by simp [up2, upd, lstV]) ?_
    refine s_iload_n (q := 85) d_B_measure_84 rfl rfl ?_
    refine s_ineg (q := 86) d_B_measure_85 rfl ?_
    refine s_max (q := 89) d_B_measure_86 rfl ml_B_65 (Nat.le_of_ble_eq_true rfl) (by decide) (by decide) ⟨Nat.le_refl _, Nat.le_refl _⟩ ?_
    refine g_puti (q := 92) d_B_measure_89 rfl fl_B_68 rfl (okV_int _) hB.1 rfl ?_
    refine s_aload_n (q := 93) d_B_measure_92 rfl rfl (Or.inr ⟨_, rfl⟩) ?_
    refine s_aload_n (q := 94) d_B_measure_93 rfl rfl (Or.inr ⟨_, rfl⟩) ?_
    refine g_getv (v := grtV X o 0) (q := 97) d_B_measure_94 rfl fl_B_56 hB.1 rfl (by simp [up2, upd, grtV]) ?_
    refine s_iload_n (q := 98) d_B_measure_97 rfl rfl ?_
    refine s_min (q := 101) d_B_measure_98 rfl ml_B_59 (Nat.le_of_ble_eq_true rfl) (by decide) (by decide) ⟨Nat.le_refl _, Nat.le_refl _⟩ ?_
    refine g_puti (q := 104) d_B_measure_101 rfl fl_B_71 rfl (okV_int _) hB.1 rfl ?_
    refine s_aload_n (q := 105) d_B_measure_104 rfl rfl (Or.inr ⟨_, rfl⟩) ?_
    refine s_aload_n (q := 106) d_B_measure_105 rfl rfl (Or.inr ⟨_, rfl⟩) ?_
    refine s_aload_n (q := 107) d_B_measure_106 rfl rfl (Or.inr ⟨_, rfl⟩) ?_
    refine g_getv (v := lstV X o 0) (q := 110) d_B_measure_107 rfl fl_B_53 hB.1 rfl (by simp [up2, upd, lstV]) ?_
    refine g_callV (q := 113) d_B_measure_110 rfl ml_B_74 mx_B_isKnownValue mv_B_isKnownValue (t_B_isKV hB (n := 0) (by simp [up2, upd, hsz]) hn) hB.1 rfl rfl (Nat.le_of_ble_eq_true rfl) (by decide) ?_
    refine g_puti (q := 116) d_B_measure_113 rfl fl_B_77 rfl (okBI _) hB.1 rfl ?_
    refine s_aload_n (q := 117) d_B_measure_116 rfl rfl (Or.inr ⟨_, rfl⟩) ?_
    refine s_aload_n (q := 118) d_B_measure_117 rfl rfl (Or.inr ⟨_, rfl⟩) ?_
    refine s_aload_n (q := 119) d_B_measure_118 rfl rfl (Or.inr ⟨_, rfl⟩) ?_
    refine g_getv (v := grtV X o 0) (q := 122) d_B_measure_119 rfl fl_B_56 hB.1 rfl (by simp [up2, upd, grtV]) ?_
    refine g_callV (q := 125) d_B_measure_122 rfl ml_B_74 mx_B_isKnownValue mv_B_isKnownValue (t_B_isKV hB (n := 0) (by simp [up2, upd, hsz]) hn) hB.1 rfl rfl (Nat.le_of_ble_eq_true rfl) (by decide) ?_
    refine g_puti (q := 128) d_B_measure_125 rfl fl_B_80 rfl (okBI _) hB.1 rfl ?_
    refine s_aload_n (q := 129) d_B_measure_128 rfl rfl (Or.inr ⟨_, rfl⟩) ?_
    refine s_iconst (v := 0) (q := 130) d_B_measure_129 rfl ki_0 ?_
    refine g_puti (q := 133) d_B_measure_130 rfl fl_B_49 rfl (okB (by first | exact Or.inl rfl | exact Or.inr rfl | assumption)) hB.1 rfl ?_
    exact g_ret d_B_measure_133 rfl rfl
end P07
