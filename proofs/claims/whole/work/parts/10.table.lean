section P10
variable {l : Launch} {D : va_G} {ac : Nat → ClassId} {b : Nat}
def szN (X : RAM) (o : Nat) : Nat := (X o 5).toNatClampNeg
def okZ (X : RAM) (o : Nat) : Prop := ∀ j, j < 8 → X (o + 3 + 6 * j) 5 = nI (szN X (o + 3 + 6 * j)) ∧ szN X (o + 3 + 6 * j) ≤ 12
def sumI (f : Nat → Int32) : Nat → Int32
  | 0 => 0
  | i + 1 => sumI f i + f i
def sumL (f : Nat → Int64) : Nat → Int64
  | 0 => 0
  | i + 1 => sumL f i + f i
theorem le8 : (8 : Int32) ≤ nI 8 := by decide
theorem nle8 {i : Nat} (h : i < 8) : ¬ (8 : Int32) ≤ nI i := nI_ge (a := i) (b := 8) h (by decide)
theorem lp_T_rows {X : RAM} {o : Nat} (hT : isT o) : ∀ i, i ≤ 8 → V l D ac b "SpanStore$Table" c_T_rows 3 (some .int) false 0 0 0 0 ((some (.int (sumI (fun j => X (o + 3 + 6 * j) 5) 8))), 144, mk X) 0 0 4 [(0, .ref o), (1, .int (sumI (fun j => X (o + 3 + 6 * j) 5) i)), (2, .int (nI i))] [] 144 (mk X) := by
  refine nat_down ?_ (fun i hi ih => ?_)
  · skip
    refine s_iload_n (q := 5) d_T_rows_4 rfl rfl ?_
    refine s_bipush (v := 8) (q := 7) d_T_rows_5 rfl kb_8 ?_
    refine s_icmp_ge (tgt := 28) (q := 10) d_T_rows_7 (by decide) rfl (fun _ => ?_) (fun z9 => absurd le8 z9)
    refine s_iload_n (q := 29) d_T_rows_28 rfl rfl ?_
    exact g_iret d_T_rows_29 rfl rfl rfl rfl
  · skip
    refine s_iload_n (q := 5) d_T_rows_4 rfl rfl ?_
    refine s_bipush (v := 8) (q := 7) d_T_rows_5 rfl kb_8 ?_
    refine s_icmp_ge (tgt := 28) (q := 10) d_T_rows_7 (by decide) rfl (fun z9 => absurd z9 (nle8 hi)) (fun _ => ?_)
    refine s_iload_n (q := 11) d_T_rows_10 rfl rfl ?_
    refine s_aload_n (q := 12) d_T_rows_11 rfl rfl (Or.inr ⟨_, rfl⟩) ?_
    refine g_getr (q := 15) d_T_rows_12 rfl fl_T_11 hT.1 rfl ?_
    refine s_iload_n (q := 16) d_T_rows_15 rfl rfl ?_
    refine g_aald (q := 17) d_T_rows_16 rfl hT.2.1 (by decide) rfl (by decide) rfl hi (if_pos hi) ?_
    refine g_geti (q := 20) d_T_rows_17 rfl fl_T_52 (hT.2.2.2.1 _ hi).1 rfl ?_
    refine s_iadd (q := 21) d_T_rows_20 rfl ?_
    refine s_istore_n (q := 22) d_T_rows_21 rfl (by decide) ?_
    refine s_iinc (q := 25) d_T_rows_22 rfl rfl (by first | exact inc1 _ | rfl) (by decide) ?_
    refine s_goto (tgt := 4) d_T_rows_25 (by decide) ?_
    exact s_lv (lv' := [(0, .ref o), (1, .int (sumI (fun j => X (o + 3 + 6 * j) 5) (i + 1))), (2, .int (nI (i + 1)))]) ⟨rfl, rfl, rfl, trivial⟩ ih
theorem t_T_rows {X : RAM} {o : Nat} (hT : isT o) : CG l D ac b y_T_rows c_T_rows 3 (some .int) 0 0 [.ref o] X (some (.int (sumI (fun j => X (o + 3 + 6 * j) 5) 8))) (X) := by
  refine Ct_of false (by decide) (fun h => by cases h) (Nat.le_of_ble_eq_true rfl) ?_
  show V l D ac b "SpanStore$Table" c_T_rows 3 (some .int) false 0 0 0 0 ((some (.int (sumI (fun j => X (o + 3 + 6 * j) 5) 8))), 144, mk (X)) 0 0 0 [(0, .ref o)] [] 144 (mk X)
  refine s_iconst (v := 0) (q := 1) d_T_rows_0 rfl ki_0 ?_
  refine s_istore_n (q := 2) d_T_rows_1 rfl (by decide) ?_
  refine s_iconst (v := 0) (q := 3) d_T_rows_2 rfl ki_0 ?_
  refine s_istore_n (q := 4) d_T_rows_3 rfl (by decide) ?_
  exact s_lv (lv' := [(0, .ref o), (1, .int (sumI (fun j => X (o + 3 + 6 * j) 5) 0)), (2, .int (nI 0))]) ⟨rfl, rfl, rfl, trivial⟩ (lp_T_rows hT 0 (Nat.zero_le 8))
theorem lp_T_knownRows {X : RAM} {o : Nat} (hT : isT o) : ∀ i, i ≤ 8 → V l D ac b "SpanStore$Table" c_T_knownRows 3 (some .int) false 0 0 0 0 ((some (.int (sumI (fun j => X (o + 3 + 6 * j) 6) 8))), 144, mk X) 0 0 4 [(0, .ref o), (1, .int (sumI (fun j => X (o + 3 + 6 * j) 6) i)), (2, .int (nI i))] [] 144 (mk X) := by
  refine nat_down ?_ (fun i hi ih => ?_)
  · skip
    refine s_iload_n (q := 5) d_T_knownRows_4 rfl rfl ?_
    refine s_bipush (v := 8) (q := 7) d_T_knownRows_5 rfl kb_8 ?_
    refine s_icmp_ge (tgt := 28) (q := 10) d_T_knownRows_7 (by decide) rfl (fun _ => ?_) (fun z9 => absurd le8 z9)
    refine s_iload_n (q := 29) d_T_knownRows_28 rfl rfl ?_
    exact g_iret d_T_knownRows_29 rfl rfl rfl rfl
  · skip
    refine s_iload_n (q := 5) d_T_knownRows_4 rfl rfl ?_
    refine s_bipush (v := 8) (q := 7) d_T_knownRows_5 rfl kb_8 ?_
    refine s_icmp_ge (tgt := 28) (q := 10) d_T_knownRows_7 (by decide) rfl (fun z9 => absurd z9 (nle8 hi)) (fun _ => ?_)
    refine s_iload_n (q := 11) d_T_knownRows_10 rfl rfl ?_
    refine s_aload_n (q := 12) d_T_knownRows_11 rfl rfl (Or.inr ⟨_, rfl⟩) ?_
    refine g_getr (q := 15) d_T_knownRows_12 rfl fl_T_11 hT.1 rfl ?_
    refine s_iload_n (q := 16) d_T_knownRows_15 rfl rfl ?_
    refine g_aald (q := 17) d_T_knownRows_16 rfl hT.2.1 (by decide) rfl (by decide) rfl hi (if_pos hi) ?_
    refine g_geti (q := 20) d_T_knownRows_17 rfl fl_T_55 (hT.2.2.2.1 _ hi).1 rfl ?_
    refine s_iadd (q := 21) d_T_knownRows_20 rfl ?_
    refine s_istore_n (q := 22) d_T_knownRows_21 rfl (by decide) ?_
    refine s_iinc (q := 25) d_T_knownRows_22 rfl rfl (by first | exact inc1 _ | rfl) (by decide) ?_
    refine s_goto (tgt := 4) d_T_knownRows_25 (by decide) ?_
    exact s_lv (lv' := [(0, .ref o), (1, .int (sumI (fun j => X (o + 3 + 6 * j) 6) (i + 1))), (2, .int (nI (i + 1)))]) ⟨rfl, rfl, rfl, trivial⟩ ih
theorem t_T_knownRows {X : RAM} {o : Nat} (hT : isT o) : CG l D ac b y_T_knownRows c_T_knownRows 3 (some .int) 0 0 [.ref o] X (some (.int (sumI (fun j => X (o + 3 + 6 * j) 6) 8))) (X) := by
  refine Ct_of false (by decide) (fun h => by cases h) (Nat.le_of_ble_eq_true rfl) ?_
  show V l D ac b "SpanStore$Table" c_T_knownRows 3 (some .int) false 0 0 0 0 ((some (.int (sumI (fun j => X (o + 3 + 6 * j) 6) 8))), 144, mk (X)) 0 0 0 [(0, .ref o)] [] 144 (mk X)
  refine s_iconst (v := 0) (q := 1) d_T_knownRows_0 rfl ki_0 ?_
  refine s_istore_n (q := 2) d_T_knownRows_1 rfl (by decide) ?_
  refine s_iconst (v := 0) (q := 3) d_T_knownRows_2 rfl ki_0 ?_
  refine s_istore_n (q := 4) d_T_knownRows_3 rfl (by decide) ?_
  exact s_lv (lv' := [(0, .ref o), (1, .int (sumI (fun j => X (o + 3 + 6 * j) 6) 0)), (2, .int (nI 0))]) ⟨rfl, rfl, rfl, trivial⟩ (lp_T_knownRows hT 0 (Nat.zero_le 8))
def sumT (X : RAM) (o : Nat) (g e : Int32) : Int64 := sumL (fun j => sumV X (o + 3 + 6 * j) (szN X (o + 3 + 6 * j)) g e) 8
theorem lp_T_sumEnd {X : RAM} {o : Nat} {g e : Int32} (hT : isT o) (hZ : okZ X o) : ∀ i, i ≤ 8 → V l D ac b "SpanStore$Table" c_T_sumEnd 6 (some .long) false 4 88 0 0 ((some (.long (sumT X o g e))), 144, mk X) 0 0 5 [(0, .ref o), (1, .int g), (2, .int e), (3, .long (sumL (fun j => sumV X (o + 3 + 6 * j) (szN X (o + 3 + 6 * j)) g e) i)), (5, .int (nI i))] [] 144 (mk X) := by
  refine nat_down ?_ (fun i hi ih => ?_)
  · skip
    refine s_iload (q := 7) d_T_sumEnd_5 rfl rfl ?_
    refine s_bipush (v := 8) (q := 9) d_T_sumEnd_7 rfl kb_8 ?_
    refine s_icmp_ge (tgt := 33) (q := 12) d_T_sumEnd_9 (by decide) rfl (fun _ => ?_) (fun z9 => absurd le8 z9)
    refine s_lload_n (q := 34) d_T_sumEnd_33 rfl rfl ?_
    exact g_lret d_T_sumEnd_34 rfl rfl rfl
  · skip
    refine s_iload (q := 7) d_T_sumEnd_5 rfl rfl ?_
    refine s_bipush (v := 8) (q := 9) d_T_sumEnd_7 rfl kb_8 ?_
    refine s_icmp_ge (tgt := 33) (q := 12) d_T_sumEnd_9 (by decide) rfl (fun z9 => absurd z9 (nle8 hi)) (fun _ => ?_)
    refine s_lload_n (q := 13) d_T_sumEnd_12 rfl rfl ?_
    refine s_aload_n (q := 14) d_T_sumEnd_13 rfl rfl (Or.inr ⟨_, rfl⟩) ?_
    refine g_getr (q := 17) d_T_sumEnd_14 rfl fl_T_11 hT.1 rfl ?_
    refine s_iload (q := 19) d_T_sumEnd_17 rfl rfl ?_
    refine g_aald (q := 20) d_T_sumEnd_19 rfl hT.2.1 (by decide) rfl (by decide) rfl hi (if_pos hi) ?_
    refine s_iload_n (q := 21) d_T_sumEnd_20 rfl rfl ?_
    refine s_iload_n (q := 22) d_T_sumEnd_21 rfl rfl ?_
    refine g_callV (q := 25) d_T_sumEnd_22 rfl ml_T_67 mx_B_sumEnd mv_B_sumEnd (t_B_sumEnd (hT.2.2.2.1 _ hi) (hZ i hi).1 (hZ i hi).2) (hT.2.2.2.1 _ hi).1 rfl rfl (Nat.le_of_ble_eq_true rfl) (by decide) ?_
    refine s_ladd (q := 26) d_T_sumEnd_25 rfl ?_
    refine s_lstore_n (q := 27) d_T_sumEnd_26 rfl (by decide) ?_
    refine s_iinc (q := 30) d_T_sumEnd_27 rfl rfl (by first | exact inc1 _ | rfl) (by decide) ?_
    refine s_goto (tgt := 5) d_T_sumEnd_30 (by decide) ?_
    exact s_lv (lv' := [(0, .ref o), (1, .int g), (2, .int e), (3, .long (sumL (fun j => sumV X (o + 3 + 6 * j) (szN X (o + 3 + 6 * j)) g e) (i + 1))), (5, .int (nI (i + 1)))]) ⟨rfl, rfl, rfl, rfl, rfl, trivial⟩ ih
theorem t_T_sumEnd {X : RAM} {o : Nat} {g e : Int32} (hT : isT o) (hZ : okZ X o) : CG l D ac b y_T_sumEnd c_T_sumEnd 6 (some .long) 4 88 [.ref o, .int g, .int e] X (some (.long (sumT X o g e))) (X) := by
  refine Ct_of false (by decide) (fun h => by cases h) (Nat.le_of_ble_eq_true rfl) ?_
  show V l D ac b "SpanStore$Table" c_T_sumEnd 6 (some .long) false 4 88 0 0 ((some (.long (sumT X o g e))), 144, mk (X)) 0 0 0 [(0, .ref o), (1, .int g), (2, .int e)] [] 144 (mk X)
  refine s_lconst (v := 0) (q := 1) d_T_sumEnd_0 rfl kl_0 ?_
  refine s_lstore_n (q := 2) d_T_sumEnd_1 rfl (by decide) ?_
  refine s_iconst (v := 0) (q := 3) d_T_sumEnd_2 rfl ki_0 ?_
  refine s_istore (q := 5) d_T_sumEnd_3 rfl (by decide) ?_
  exact s_lv (lv' := [(0, .ref o), (1, .int g), (2, .int e), (3, .long (sumL (fun j => sumV X (o + 3 + 6 * j) (szN X (o + 3 + 6 * j)) g e) 0)), (5, .int (nI 0))]) ⟨rfl, rfl, rfl, rfl, rfl, trivial⟩ (lp_T_sumEnd hT hZ 0 (Nat.zero_le 8))
theorem t_T_apart {X : RAM} {o : Nat} {g : Int32} (hT : isT o) (hZ : okZ X o) : CG l D ac b y_T_apart c_T_apart 2 (some .long) 5 113 [.ref o, .int g] X (some (.long (sumT X o g 1 - sumT X o g 0))) (X) := by
  refine Ct_of false (by decide) (fun h => by cases h) (Nat.le_of_ble_eq_true rfl) ?_
  show V l D ac b "SpanStore$Table" c_T_apart 2 (some .long) false 5 113 0 0 ((some (.long (sumT X o g 1 - sumT X o g 0))), 144, mk (X)) 0 0 0 [(0, .ref o), (1, .int g)] [] 144 (mk X)
  refine s_aload_n (q := 1) d_T_apart_0 rfl rfl (Or.inr ⟨_, rfl⟩) ?_
  refine s_iload_n (q := 2) d_T_apart_1 rfl rfl ?_
  refine s_iconst (v := 1) (q := 3) d_T_apart_2 rfl ki_1 ?_
  refine g_callV (q := 6) d_T_apart_3 rfl ml_T_71 mx_T_sumEnd mv_T_sumEnd (t_T_sumEnd hT hZ) hT.1 rfl rfl (Nat.le_of_ble_eq_true rfl) (by decide) ?_
  refine s_aload_n (q := 7) d_T_apart_6 rfl rfl (Or.inr ⟨_, rfl⟩) ?_
  refine s_iload_n (q := 8) d_T_apart_7 rfl rfl ?_
  refine s_iconst (v := 0) (q := 9) d_T_apart_8 rfl ki_0 ?_
  refine g_callV (q := 12) d_T_apart_9 rfl ml_T_71 mx_T_sumEnd mv_T_sumEnd (t_T_sumEnd hT hZ) hT.1 rfl rfl (Nat.le_of_ble_eq_true rfl) (by decide) ?_
  refine s_lsub (q := 13) d_T_apart_12 rfl ?_
  exact g_lret d_T_apart_13 rfl rfl rfl
theorem lp_T_countEnd {X : RAM} {o : Nat} {x e : Int32} (hT : isT o) (hZ : okZ X o) : ∀ i, i ≤ 8 → V l D ac b "SpanStore$Table" c_T_countEnd 5 (some .int) false 4 87 0 0 ((some (.int (sumI (fun j => cntV X (o + 3 + 6 * j) (szN X (o + 3 + 6 * j)) x e) 8))), 144, mk X) 0 0 5 [(0, .ref o), (1, .int x), (2, .int e), (3, .int (sumI (fun j => cntV X (o + 3 + 6 * j) (szN X (o + 3 + 6 * j)) x e) i)), (4, .int (nI i))] [] 144 (mk X) := by
  refine nat_down ?_ (fun i hi ih => ?_)
  · skip
    refine s_iload (q := 7) d_T_countEnd_5 rfl rfl ?_
    refine s_bipush (v := 8) (q := 9) d_T_countEnd_7 rfl kb_8 ?_
    refine s_icmp_ge (tgt := 33) (q := 12) d_T_countEnd_9 (by decide) rfl (fun _ => ?_) (fun z9 => absurd le8 z9)
    refine s_iload_n (q := 34) d_T_countEnd_33 rfl rfl ?_
    exact g_iret d_T_countEnd_34 rfl rfl rfl rfl
  · skip
    refine s_iload (q := 7) d_T_countEnd_5 rfl rfl ?_
    refine s_bipush (v := 8) (q := 9) d_T_countEnd_7 rfl kb_8 ?_
    refine s_icmp_ge (tgt := 33) (q := 12) d_T_countEnd_9 (by decide) rfl (fun z9 => absurd z9 (nle8 hi)) (fun _ => ?_)
    refine s_iload_n (q := 13) d_T_countEnd_12 rfl rfl ?_
    refine s_aload_n (q := 14) d_T_countEnd_13 rfl rfl (Or.inr ⟨_, rfl⟩) ?_
    refine g_getr (q := 17) d_T_countEnd_14 rfl fl_T_11 hT.1 rfl ?_
    refine s_iload (q := 19) d_T_countEnd_17 rfl rfl ?_
    refine g_aald (q := 20) d_T_countEnd_19 rfl hT.2.1 (by decide) rfl (by decide) rfl hi (if_pos hi) ?_
    refine s_iload_n (q := 21) d_T_countEnd_20 rfl rfl ?_
    refine s_iload_n (q := 22) d_T_countEnd_21 rfl rfl ?_
    refine g_callV (q := 25) d_T_countEnd_22 rfl ml_T_72 mx_B_countEnd mv_B_countEnd (t_B_countEnd (hT.2.2.2.1 _ hi) (hZ i hi).1 (hZ i hi).2) (hT.2.2.2.1 _ hi).1 rfl rfl (Nat.le_of_ble_eq_true rfl) (by decide) ?_
    refine s_iadd (q := 26) d_T_countEnd_25 rfl ?_
    refine s_istore_n (q := 27) d_T_countEnd_26 rfl (by decide) ?_
    refine s_iinc (q := 30) d_T_countEnd_27 rfl rfl (by first | exact inc1 _ | rfl) (by decide) ?_
    refine s_goto (tgt := 5) d_T_countEnd_30 (by decide) ?_
    exact s_lv (lv' := [(0, .ref o), (1, .int x), (2, .int e), (3, .int (sumI (fun j => cntV X (o + 3 + 6 * j) (szN X (o + 3 + 6 * j)) x e) (i + 1))), (4, .int (nI (i + 1)))]) ⟨rfl, rfl, rfl, rfl, rfl, trivial⟩ ih
theorem t_T_countEnd {X : RAM} {o : Nat} {x e : Int32} (hT : isT o) (hZ : okZ X o) : CG l D ac b y_T_countEnd c_T_countEnd 5 (some .int) 4 87 [.ref o, .int x, .int e] X (some (.int (sumI (fun j => cntV X (o + 3 + 6 * j) (szN X (o + 3 + 6 * j)) x e) 8))) (X) := by
  refine Ct_of false (by decide) (fun h => by cases h) (Nat.le_of_ble_eq_true rfl) ?_
  show V l D ac b "SpanStore$Table" c_T_countEnd 5 (some .int) false 4 87 0 0 ((some (.int (sumI (fun j => cntV X (o + 3 + 6 * j) (szN X (o + 3 + 6 * j)) x e) 8))), 144, mk (X)) 0 0 0 [(0, .ref o), (1, .int x), (2, .int e)] [] 144 (mk X)
  refine s_iconst (v := 0) (q := 1) d_T_countEnd_0 rfl ki_0 ?_
  refine s_istore_n (q := 2) d_T_countEnd_1 rfl (by decide) ?_
  refine s_iconst (v := 0) (q := 3) d_T_countEnd_2 rfl ki_0 ?_
  refine s_istore (q := 5) d_T_countEnd_3 rfl (by decide) ?_
  exact s_lv (lv' := [(0, .ref o), (1, .int x), (2, .int e), (3, .int (sumI (fun j => cntV X (o + 3 + 6 * j) (szN X (o + 3 + 6 * j)) x e) 0)), (4, .int (nI 0))]) ⟨rfl, rfl, rfl, rfl, rfl, trivial⟩ (lp_T_countEnd hT hZ 0 (Nat.zero_le 8))
def apV (X : RAM) (o : Nat) (g : Int32) : Int64 := sumV X o (szN X o) g 1 - sumV X o (szN X o) g 0
def wdS (a : Nat → Int64) : Nat → Int32 × Int64
  | 0 => (-1, 0)
  | j + 1 => if (wdS a j).2 < a j then (nI j, a j) else wdS a j
def wdT (X : RAM) (o : Nat) (g : Int32) : Int32 := (wdS (fun j => apV X (o + 3 + 6 * j) g) 8).1
theorem lg_le {x y : Int64} : lg_cmp x y ≤ 0 ↔ ¬ y < x := by
  unfold lg_cmp
  by_cases h : y < x
  · rw [if_pos h]
    exact ⟨fun z => absurd z (by decide), fun z => absurd h z⟩
  · rw [if_neg h]
    refine ⟨fun _ => h, fun _ => ?_⟩
    split <;> decide
theorem lp_T_widest {X : RAM} {o : Nat} {g : Int32} (hT : isT o) (hZ : okZ X o) : ∀ i, i ≤ 8 → V l D ac b "SpanStore$Table" c_T_widestBlock 8 (some .int) false 5 109 0 0 ((some (.int (wdT X o g))), 144, mk X) 0 0 7 [(0, .ref o), (1, .int g), (2, .int (wdS (fun j => apV X (o + 3 + 6 * j) g) i).1), (3, .long (wdS (fun j => apV X (o + 3 + 6 * j) g) i).2), (5, .int (nI i))] [] 144 (mk X) := by
  refine nat_down ?_ (fun i hi ih => ?_)
  · skip
    refine s_iload (q := 9) d_T_widestBlock_7 rfl rfl ?_
    refine s_bipush (v := 8) (q := 11) d_T_widestBlock_9 rfl kb_8 ?_
    refine s_icmp_ge (tgt := 46) (q := 14) d_T_widestBlock_11 (by decide) rfl (fun _ => ?_) (fun z9 => absurd le8 z9)
    refine s_iload_n (q := 47) d_T_widestBlock_46 rfl rfl ?_
    exact g_iret d_T_widestBlock_47 rfl rfl rfl rfl
  · skip
    refine s_iload (q := 9) d_T_widestBlock_7 rfl rfl ?_
    refine s_bipush (v := 8) (q := 11) d_T_widestBlock_9 rfl kb_8 ?_
    refine s_icmp_ge (tgt := 46) (q := 14) d_T_widestBlock_11 (by decide) rfl (fun z9 => absurd z9 (nle8 hi)) (fun _ => ?_)
    refine s_aload_n (q := 15) d_T_widestBlock_14 rfl rfl (Or.inr ⟨_, rfl⟩) ?_
    refine g_getr (q := 18) d_T_widestBlock_15 rfl fl_T_11 hT.1 rfl ?_
    refine s_iload (q := 20) d_T_widestBlock_18 rfl rfl ?_
    refine g_aald (q := 21) d_T_widestBlock_20 rfl hT.2.1 (by decide) rfl (by decide) rfl hi (if_pos hi) ?_
    refine s_iload_n (q := 22) d_T_widestBlock_21 rfl rfl ?_
    refine g_callV (q := 25) d_T_widestBlock_22 rfl ml_T_76 mx_B_apart mv_B_apart (t_B_apart (hT.2.2.2.1 _ hi) (hZ i hi).1 (hZ i hi).2) (hT.2.2.2.1 _ hi).1 rfl rfl (Nat.le_of_ble_eq_true rfl) (by decide) ?_
    refine s_lstore (q := 27) d_T_widestBlock_25 rfl (by decide) ?_
    refine s_lload (q := 29) d_T_widestBlock_27 rfl rfl ?_
    refine s_lload_n (q := 30) d_T_widestBlock_29 rfl rfl ?_
    refine s_lcmp (q := 31) d_T_widestBlock_30 rfl ?_
    refine s_if_le (tgt := 40) (q := 34) d_T_widestBlock_31 (by decide) rfl (fun h_31 => ?_) (fun h_31 => ?_)
    · -- T 31
      rw [lg_le] at h_31
      rw [show wdS (fun j => apV X (o + 3 + 6 * j) g) (i + 1) = (wdS (fun j => apV X (o + 3 + 6 * j) g) i) from by rw [wdS]; exact if_neg h_31] at ih
      refine s_iinc (q := 43) d_T_widestBlock_40 rfl rfl (by first | exact inc1 _ | rfl) (by decide) ?_
      refine s_goto (tgt := 7) d_T_widestBlock_43 (by decide) ?_
      exact s_lv (lv' := [(0, .ref o), (1, .int g), (2, .int _), (3, .long _), (5, .int (nI (i + 1)))]) ⟨rfl, rfl, rfl, rfl, rfl, trivial⟩ ih
    · -- F 31
      rw [lg_le, Classical.not_not] at h_31
      rw [show wdS (fun j => apV X (o + 3 + 6 * j) g) (i + 1) = (nI i, apV X (o + 3 + 6 * i) g) from by rw [wdS]; exact if_pos h_31] at ih
      refine s_lload (q := 36) d_T_widestBlock_34 rfl rfl ?_
      refine s_lstore_n (q := 37) d_T_widestBlock_36 rfl (by decide) ?_
      refine s_iload (q := 39) d_T_widestBlock_37 rfl rfl ?_
      refine s_istore_n (q := 40) d_T_widestBlock_39 rfl (by decide) ?_
      refine s_iinc (q := 43) d_T_widestBlock_40 rfl rfl (by first | exact inc1 _ | rfl) (by decide) ?_
      refine s_goto (tgt := 7) d_T_widestBlock_43 (by decide) ?_
      exact s_lv (lv' := [(0, .ref o), (1, .int g), (2, .int _), (3, .long _), (5, .int (nI (i + 1)))]) ⟨rfl, rfl, rfl, rfl, rfl, trivial⟩ ih
theorem t_T_widest {X : RAM} {o : Nat} {g : Int32} (hT : isT o) (hZ : okZ X o) : CG l D ac b y_T_widestBlock c_T_widestBlock 8 (some .int) 5 109 [.ref o, .int g] X (some (.int (wdT X o g))) (X) := by
  refine Ct_of false (by decide) (fun h => by cases h) (Nat.le_of_ble_eq_true rfl) ?_
  show V l D ac b "SpanStore$Table" c_T_widestBlock 8 (some .int) false 5 109 0 0 ((some (.int (wdT X o g))), 144, mk (X)) 0 0 0 [(0, .ref o), (1, .int g)] [] 144 (mk X)
  refine s_iconst (v := (-1)) (q := 1) d_T_widestBlock_0 rfl ki_m1 ?_
  refine s_istore_n (q := 2) d_T_widestBlock_1 rfl (by decide) ?_
  refine s_lconst (v := 0) (q := 3) d_T_widestBlock_2 rfl kl_0 ?_
  refine s_lstore_n (q := 4) d_T_widestBlock_3 rfl (by decide) ?_
  refine s_iconst (v := 0) (q := 5) d_T_widestBlock_4 rfl ki_0 ?_
  refine s_istore (q := 7) d_T_widestBlock_5 rfl (by decide) ?_
  exact s_lv (lv' := [(0, .ref o), (1, .int g), (2, .int (wdS (fun j => apV X (o + 3 + 6 * j) g) 0).1), (3, .long (wdS (fun j => apV X (o + 3 + 6 * j) g) 0).2), (5, .int (nI 0))]) ⟨rfl, rfl, rfl, rfl, rfl, trivial⟩ (lp_T_widest hT hZ 0 (Nat.zero_le 8))
def mbS (X : RAM) (o : Nat) (h : Int64) : Nat → Int64
  | 0 => h
  | j + 1 => mxV X (o + 3 + 6 * j) (szN X (o + 3 + 6 * j)) (mbS X o h j)
def mtV (X : RAM) (o : Nat) (h : Int64) : Int64 := 31 * (31 * mbS X o h 8 + sumT X o (-1) 0) + sumT X o (-1) 1
theorem lp_T_mix {X : RAM} {o : Nat} {h : Int64} (hT : isT o) (hZ : okZ X o) : ∀ i, i ≤ 8 → V l D ac b "SpanStore$Table" c_T_mixedInto 6 (some .long) false 5 113 0 0 ((some (.long (mtV X o h))), 144, mk X) 0 0 5 [(0, .ref o), (1, .long h), (3, .long (mbS X o h i)), (5, .int (nI i))] [] 144 (mk X) := by
  refine nat_down ?_ (fun i hi ih => ?_)
  · skip
    refine s_iload (q := 7) d_T_mixedInto_5 rfl rfl ?_
    refine s_bipush (v := 8) (q := 9) d_T_mixedInto_7 rfl kb_8 ?_
    refine s_icmp_ge (tgt := 30) (q := 12) d_T_mixedInto_9 (by decide) rfl (fun _ => ?_) (fun z9 => absurd le8 z9)
    refine s_lload_n (q := 31) d_T_mixedInto_30 rfl rfl ?_
    refine s_aload_n (q := 32) d_T_mixedInto_31 rfl rfl (Or.inr ⟨_, rfl⟩) ?_
    refine s_iconst (v := (-1)) (q := 33) d_T_mixedInto_32 rfl ki_m1 ?_
    refine s_iconst (v := 0) (q := 34) d_T_mixedInto_33 rfl ki_0 ?_
    refine g_callV (q := 37) d_T_mixedInto_34 rfl ml_T_71 mx_T_sumEnd mv_T_sumEnd (t_T_sumEnd hT hZ) hT.1 rfl rfl (Nat.le_of_ble_eq_true rfl) (by decide) ?_
    refine g_callN (q := 40) d_T_mixedInto_37 rfl (by decide) mx_C_mixed ms_C_mixed t_C_mixed rfl rfl (Nat.le_of_ble_eq_true rfl) (by decide) ?_
    refine s_lstore_n (q := 41) d_T_mixedInto_40 rfl (by decide) ?_
    refine s_lload_n (q := 42) d_T_mixedInto_41 rfl rfl ?_
    refine s_aload_n (q := 43) d_T_mixedInto_42 rfl rfl (Or.inr ⟨_, rfl⟩) ?_
    refine s_iconst (v := (-1)) (q := 44) d_T_mixedInto_43 rfl ki_m1 ?_
    refine s_iconst (v := 1) (q := 45) d_T_mixedInto_44 rfl ki_1 ?_
    refine g_callV (q := 48) d_T_mixedInto_45 rfl ml_T_71 mx_T_sumEnd mv_T_sumEnd (t_T_sumEnd hT hZ) hT.1 rfl rfl (Nat.le_of_ble_eq_true rfl) (by decide) ?_
    refine g_callN (q := 51) d_T_mixedInto_48 rfl (by decide) mx_C_mixed ms_C_mixed t_C_mixed rfl rfl (Nat.le_of_ble_eq_true rfl) (by decide) ?_
    exact g_lret d_T_mixedInto_51 rfl rfl rfl
  · skip
    refine s_iload (q := 7) d_T_mixedInto_5 rfl rfl ?_
    refine s_bipush (v := 8) (q := 9) d_T_mixedInto_7 rfl kb_8 ?_
    refine s_icmp_ge (tgt := 30) (q := 12) d_T_mixedInto_9 (by decide) rfl (fun z9 => absurd z9 (nle8 hi)) (fun _ => ?_)
    refine s_aload_n (q := 13) d_T_mixedInto_12 rfl rfl (Or.inr ⟨_, rfl⟩) ?_
    refine g_getr (q := 16) d_T_mixedInto_13 rfl fl_T_11 hT.1 rfl ?_
    refine s_iload (q := 18) d_T_mixedInto_16 rfl rfl ?_
    refine g_aald (q := 19) d_T_mixedInto_18 rfl hT.2.1 (by decide) rfl (by decide) rfl hi (if_pos hi) ?_
    refine s_lload_n (q := 20) d_T_mixedInto_19 rfl rfl ?_
    refine g_callV (q := 23) d_T_mixedInto_20 rfl ml_T_80 mx_B_mixedInto mv_B_mixedInto (t_B_mixedInto (hT.2.2.2.1 _ hi) (hZ i hi).1 (hZ i hi).2) (hT.2.2.2.1 _ hi).1 rfl rfl (Nat.le_of_ble_eq_true rfl) (by decide) ?_
    refine s_lstore_n (q := 24) d_T_mixedInto_23 rfl (by decide) ?_
    refine s_iinc (q := 27) d_T_mixedInto_24 rfl rfl (by first | exact inc1 _ | rfl) (by decide) ?_
    refine s_goto (tgt := 5) d_T_mixedInto_27 (by decide) ?_
    exact s_lv (lv' := [(0, .ref o), (1, .long h), (3, .long (mbS X o h (i + 1))), (5, .int (nI (i + 1)))]) ⟨rfl, rfl, rfl, rfl, trivial⟩ ih
theorem t_T_mix {X : RAM} {o : Nat} {h : Int64} (hT : isT o) (hZ : okZ X o) : CG l D ac b y_T_mixedInto c_T_mixedInto 6 (some .long) 5 113 [.ref o, .long h] X (some (.long (mtV X o h))) (X) := by
  refine Ct_of false (by decide) (fun h => by cases h) (Nat.le_of_ble_eq_true rfl) ?_
  show V l D ac b "SpanStore$Table" c_T_mixedInto 6 (some .long) false 5 113 0 0 ((some (.long (mtV X o h))), 144, mk (X)) 0 0 0 [(0, .ref o), (1, .long h)] [] 144 (mk X)
  refine s_lload_n (q := 1) d_T_mixedInto_0 rfl rfl ?_
  refine s_lstore_n (q := 2) d_T_mixedInto_1 rfl (by decide) ?_
  refine s_iconst (v := 0) (q := 3) d_T_mixedInto_2 rfl ki_0 ?_
  refine s_istore (q := 5) d_T_mixedInto_3 rfl (by decide) ?_
  exact s_lv (lv' := [(0, .ref o), (1, .long h), (3, .long (mbS X o h 0)), (5, .int (nI 0))]) ⟨rfl, rfl, rfl, rfl, trivial⟩ (lp_T_mix hT hZ 0 (Nat.zero_le 8))
def hkP (X : RAM) (o : Nat) (a b : Int32) (k : Nat) : Bool := decide (X (o + 51 + k) 0 = 2 ∧ X (o + 51 + k) 1 = a ∧ X (o + 51 + k) 2 = b)
theorem lp_T_hasKeyed {X : RAM} {o c : Nat} {a m : Int32} (hT : isT o) (hc : X o 2 = nI c) (hc4 : c ≤ 4) : ∀ i, i ≤ c → (∀ j, j < i → hkP X o a m j = false) → V l D ac b "SpanStore$Table" c_T_hasKeyed 5 (some .boolean) false 0 0 0 0 ((some (.int (bI (anyB (hkP X o a m) c)))), 144, mk X) 0 0 2 [(0, .ref o), (1, .int a), (2, .int m), (3, .int (nI i))] [] 144 (mk X) := by
  refine nat_down ?_ (fun i hi ih => ?_)
  · skip
    intro hp
    refine s_iload_n (q := 3) d_T_hasKeyed_2 rfl rfl ?_
    refine s_aload_n (q := 4) d_T_hasKeyed_3 rfl rfl (Or.inr ⟨_, rfl⟩) ?_
    refine g_getv (v := nI c) (q := 7) d_T_hasKeyed_4 rfl fl_T_25 hT.1 rfl hc ?_
    refine s_icmp_ge (tgt := 53) (q := 10) d_T_hasKeyed_7 (by decide) rfl (fun _ => ?_) (fun z9 => absurd (nI_le (Nat.le_refl c) (by omega)) z9)
    refine s_iconst (v := 0) (q := 54) d_T_hasKeyed_53 rfl ki_0 ?_
    exact g_iret d_T_hasKeyed_54 rfl rfl (bI_f (anyB_f hp)).symm rfl
  · skip
    intro hp
    refine s_iload_n (q := 3) d_T_hasKeyed_2 rfl rfl ?_
    refine s_aload_n (q := 4) d_T_hasKeyed_3 rfl rfl (Or.inr ⟨_, rfl⟩) ?_
    refine g_getv (v := nI c) (q := 7) d_T_hasKeyed_4 rfl fl_T_25 hT.1 rfl hc ?_
    refine s_icmp_ge (tgt := 53) (q := 10) d_T_hasKeyed_7 (by decide) rfl (fun z9 => absurd z9 (nI_ge hi (by omega))) (fun _ => ?_)
    refine s_aload_n (q := 11) d_T_hasKeyed_10 rfl rfl (Or.inr ⟨_, rfl⟩) ?_
    refine g_getr (q := 14) d_T_hasKeyed_11 rfl fl_T_19 hT.1 rfl ?_
    refine s_iload_n (q := 15) d_T_hasKeyed_14 rfl rfl ?_
    refine g_aald (q := 16) d_T_hasKeyed_15 rfl hT.2.2.1 (by decide) rfl (by decide) rfl (by omega) (if_pos (by omega)) ?_
    refine s_astore (q := 18) d_T_hasKeyed_16 rfl (by decide) (Or.inr ⟨_, rfl⟩) ?_
    refine s_aload (q := 20) d_T_hasKeyed_18 rfl rfl (Or.inr ⟨_, rfl⟩) ?_
    refine g_geti (q := 23) d_T_hasKeyed_20 rfl fl_T_58 (hT.2.2.2.2 _ (by omega)) rfl ?_
    refine s_iconst (v := 2) (q := 24) d_T_hasKeyed_23 rfl ki_2 ?_
    refine s_icmp_ne (tgt := 47) (q := 27) d_T_hasKeyed_24 (by decide) rfl (fun h_24 => ?_) (fun h_24 => ?_)
    · -- T 24
      refine s_iinc (q := 50) d_T_hasKeyed_47 rfl rfl (by first | exact inc1 _ | rfl) (by decide) ?_
      refine s_goto (tgt := 2) d_T_hasKeyed_50 (by decide) ?_
      refine s_lv (lv' := [(0, .ref o), (1, .int a), (2, .int m), (3, .int (nI (i + 1)))]) ⟨rfl, rfl, rfl, rfl, trivial⟩ (ih (fun j hj => ?_))
      by_cases hji : j = i
      · subst hji; simp [hkP, *]
      · exact hp j (by omega)
    · -- F 24
      refine s_aload (q := 29) d_T_hasKeyed_27 rfl rfl (Or.inr ⟨_, rfl⟩) ?_
      refine g_geti (q := 32) d_T_hasKeyed_29 rfl fl_T_61 (hT.2.2.2.2 _ (by omega)) rfl ?_
      refine s_iload_n (q := 33) d_T_hasKeyed_32 rfl rfl ?_
      refine s_icmp_ne (tgt := 47) (q := 36) d_T_hasKeyed_33 (by decide) rfl (fun h_33 => ?_) (fun h_33 => ?_)
      · -- T 33
        refine s_iinc (q := 50) d_T_hasKeyed_47 rfl rfl (by first | exact inc1 _ | rfl) (by decide) ?_
        refine s_goto (tgt := 2) d_T_hasKeyed_50 (by decide) ?_
        refine s_lv (lv' := [(0, .ref o), (1, .int a), (2, .int m), (3, .int (nI (i + 1)))]) ⟨rfl, rfl, rfl, rfl, trivial⟩ (ih (fun j hj => ?_))
        by_cases hji : j = i
        · subst hji; simp [hkP, *]
        · exact hp j (by omega)
      · -- F 33
        refine s_aload (q := 38) d_T_hasKeyed_36 rfl rfl (Or.inr ⟨_, rfl⟩) ?_
        refine g_geti (q := 41) d_T_hasKeyed_38 rfl fl_T_64 (hT.2.2.2.2 _ (by omega)) rfl ?_
        refine s_iload_n (q := 42) d_T_hasKeyed_41 rfl rfl ?_
        refine s_icmp_ne (tgt := 47) (q := 45) d_T_hasKeyed_42 (by decide) rfl (fun h_42 => ?_) (fun h_42 => ?_)
        · -- T 42
          refine s_iinc (q := 50) d_T_hasKeyed_47 rfl rfl (by first | exact inc1 _ | rfl) (by decide) ?_
          refine s_goto (tgt := 2) d_T_hasKeyed_50 (by decide) ?_
          refine s_lv (lv' := [(0, .ref o), (1, .int a), (2, .int m), (3, .int (nI (i + 1)))]) ⟨rfl, rfl, rfl, rfl, trivial⟩ (ih (fun j hj => ?_))
          by_cases hji : j = i
          · subst hji; simp [hkP, *]
          · exact hp j (by omega)
        · -- F 42
          refine s_iconst (v := 1) (q := 46) d_T_hasKeyed_45 rfl ki_1 ?_
          exact g_iret d_T_hasKeyed_46 rfl rfl (bI_t (anyB_t hi (by simp [hkP, *]))).symm rfl
theorem t_T_hasKeyed {X : RAM} {o c : Nat} {a m : Int32} (hT : isT o) (hc : X o 2 = nI c) (hc4 : c ≤ 4) : CG l D ac b y_T_hasKeyed c_T_hasKeyed 5 (some .boolean) 0 0 [.ref o, .int a, .int m] X (some (.int (bI (anyB (hkP X o a m) c)))) (X) := by
  refine Ct_of false (by decide) (fun h => by cases h) (Nat.le_of_ble_eq_true rfl) ?_
  show V l D ac b "SpanStore$Table" c_T_hasKeyed 5 (some .boolean) false 0 0 0 0 ((some (.int (bI (anyB (hkP X o a m) c)))), 144, mk (X)) 0 0 0 [(0, .ref o), (1, .int a), (2, .int m)] [] 144 (mk X)
  refine s_iconst (v := 0) (q := 1) d_T_hasKeyed_0 rfl ki_0 ?_
  refine s_istore_n (q := 2) d_T_hasKeyed_1 rfl (by decide) ?_
  exact s_lv (lv' := [(0, .ref o), (1, .int a), (2, .int m), (3, .int (nI 0))]) ⟨rfl, rfl, rfl, rfl, trivial⟩ (lp_T_hasKeyed hT hc hc4 0 (Nat.zero_le c) (fun j hj => by omega))
def thS (X : RAM) (o : Nat) : Nat → Int32
  | 0 => 1000
  | k + 1 => if X (o + 51 + k) 0 = 3 then (if X (o + 51 + k) 1 - 1 < thS X o k then X (o + 51 + k) 1 - 1 else thS X o k) else thS X o k
theorem lp_T_top {X : RAM} {o c : Nat} (hT : isT o) (hc : X o 2 = nI c) (hc4 : c ≤ 4) : ∀ i, i ≤ c → V l D ac b "SpanStore$Table" c_T_topHiddenAmount 3 (some .int) false 1 21 0 0 ((some (.int (thS X o c))), 144, mk X) 0 0 6 [(0, .ref o), (1, .int (thS X o i)), (2, .int (nI i))] [] 144 (mk X) := by
  refine nat_down ?_ (fun i hi ih => ?_)
  · skip
    refine s_iload_n (q := 7) d_T_topHiddenAmount_6 rfl rfl ?_
    refine s_aload_n (q := 8) d_T_topHiddenAmount_7 rfl rfl (Or.inr ⟨_, rfl⟩) ?_
    refine g_getv (v := nI c) (q := 11) d_T_topHiddenAmount_8 rfl fl_T_25 hT.1 rfl hc ?_
    refine s_icmp_ge (tgt := 49) (q := 14) d_T_topHiddenAmount_11 (by decide) rfl (fun _ => ?_) (fun z9 => absurd (nI_le (Nat.le_refl c) (by omega)) z9)
    refine s_iload_n (q := 50) d_T_topHiddenAmount_49 rfl rfl ?_
    exact g_iret d_T_topHiddenAmount_50 rfl rfl rfl rfl
  · skip
    refine s_iload_n (q := 7) d_T_topHiddenAmount_6 rfl rfl ?_
    refine s_aload_n (q := 8) d_T_topHiddenAmount_7 rfl rfl (Or.inr ⟨_, rfl⟩) ?_
    refine g_getv (v := nI c) (q := 11) d_T_topHiddenAmount_8 rfl fl_T_25 hT.1 rfl hc ?_
    refine s_icmp_ge (tgt := 49) (q := 14) d_T_topHiddenAmount_11 (by decide) rfl (fun z9 => absurd z9 (nI_ge hi (by omega))) (fun _ => ?_)
    refine s_aload_n (q := 15) d_T_topHiddenAmount_14 rfl rfl (Or.inr ⟨_, rfl⟩) ?_
    refine g_getr (q := 18) d_T_topHiddenAmount_15 rfl fl_T_19 hT.1 rfl ?_
    refine s_iload_n (q := 19) d_T_topHiddenAmount_18 rfl rfl ?_
    refine g_aald (q := 20) d_T_topHiddenAmount_19 rfl hT.2.2.1 (by decide) rfl (by decide) rfl (by omega) (if_pos (by omega)) ?_
    refine g_geti (q := 23) d_T_topHiddenAmount_20 rfl fl_T_58 (hT.2.2.2.2 _ (by omega)) rfl ?_
    refine s_iconst (v := 3) (q := 24) d_T_topHiddenAmount_23 rfl ki_3 ?_
    refine s_icmp_ne (tgt := 43) (q := 27) d_T_topHiddenAmount_24 (by decide) rfl (fun h_24 => ?_) (fun h_24 => ?_)
    · -- T 24
      rw [show thS X o (i + 1) = thS X o i from by simp [thS, h_24]] at ih
      refine s_iinc (q := 46) d_T_topHiddenAmount_43 rfl rfl (by first | exact inc1 _ | rfl) (by decide) ?_
      refine s_goto (tgt := 6) d_T_topHiddenAmount_46 (by decide) ?_
      exact s_lv (lv' := [(0, .ref o), (1, .int _), (2, .int (nI (i + 1)))]) ⟨rfl, rfl, rfl, trivial⟩ ih
    · -- F 24
      rw [show thS X o (i + 1) = (if X (o + 51 + i) 1 - 1 < thS X o i then X (o + 51 + i) 1 - 1 else thS X o i) from by simp [thS, h_24]] at ih
      refine s_iload_n (q := 28) d_T_topHiddenAmount_27 rfl rfl ?_
      refine s_aload_n (q := 29) d_T_topHiddenAmount_28 rfl rfl (Or.inr ⟨_, rfl⟩) ?_
      refine g_getr (q := 32) d_T_topHiddenAmount_29 rfl fl_T_19 hT.1 rfl ?_
      refine s_iload_n (q := 33) d_T_topHiddenAmount_32 rfl rfl ?_
      refine g_aald (q := 34) d_T_topHiddenAmount_33 rfl hT.2.2.1 (by decide) rfl (by decide) rfl (by omega) (if_pos (by omega)) ?_
      refine g_geti (q := 37) d_T_topHiddenAmount_34 rfl fl_T_61 (hT.2.2.2.2 _ (by omega)) rfl ?_
      refine s_iconst (v := 1) (q := 38) d_T_topHiddenAmount_37 rfl ki_1 ?_
      refine s_isub (q := 39) d_T_topHiddenAmount_38 rfl ?_
      refine s_min (q := 42) d_T_topHiddenAmount_39 rfl ml_T_88 (Nat.le_of_ble_eq_true rfl) (by decide) (by decide) ⟨Nat.le_refl _, Nat.le_refl _⟩ ?_
      refine s_istore_n (q := 43) d_T_topHiddenAmount_42 rfl (by decide) ?_
      refine s_iinc (q := 46) d_T_topHiddenAmount_43 rfl rfl (by first | exact inc1 _ | rfl) (by decide) ?_
      refine s_goto (tgt := 6) d_T_topHiddenAmount_46 (by decide) ?_
      exact s_lv (lv' := [(0, .ref o), (1, .int _), (2, .int (nI (i + 1)))]) ⟨rfl, rfl, rfl, trivial⟩ ih
theorem t_T_top {X : RAM} {o c : Nat} (hT : isT o) (hc : X o 2 = nI c) (hc4 : c ≤ 4) : CG l D ac b y_T_topHiddenAmount c_T_topHiddenAmount 3 (some .int) 1 21 [.ref o] X (some (.int (thS X o c))) (X) := by
  refine Ct_of false (by decide) (fun h => by cases h) (Nat.le_of_ble_eq_true rfl) ?_
  show V l D ac b "SpanStore$Table" c_T_topHiddenAmount 3 (some .int) false 1 21 0 0 ((some (.int (thS X o c))), 144, mk (X)) 0 0 0 [(0, .ref o)] [] 144 (mk X)
  refine s_sipush (v := 1000) (q := 3) d_T_topHiddenAmount_0 rfl kh_1000 ?_
  refine s_istore_n (q := 4) d_T_topHiddenAmount_3 rfl (by decide) ?_
  refine s_iconst (v := 0) (q := 5) d_T_topHiddenAmount_4 rfl ki_0 ?_
  refine s_istore_n (q := 6) d_T_topHiddenAmount_5 rfl (by decide) ?_
  exact s_lv (lv' := [(0, .ref o), (1, .int (thS X o 0)), (2, .int (nI 0))]) ⟨rfl, rfl, rfl, trivial⟩ (lp_T_top hT hc hc4 0 (Nat.zero_le c))
def ikP (X : RAM) (o bo k : Nat) (i : Nat) : Bool := kpV X (o + 51 + i) bo k
theorem lp_T_isKept {X : RAM} {o c bo n k : Nat} (hT : isT o) (hc : X o 2 = nI c) (hc4 : c ≤ 4) (hB : isB bo) (hsz : X bo 5 = nI n) (hn : n ≤ 12) (hk : k < n) : ∀ i, i ≤ c → (∀ j, j < i → ikP X o bo k j = false) → V l D ac b "SpanStore$Table" c_T_isKept 4 (some .boolean) false 2 45 0 0 ((some (.int (bI (anyB (ikP X o bo k) c)))), 144, mk X) 0 0 2 [(0, .ref o), (1, .ref bo), (2, .int (nI k)), (3, .int (nI i))] [] 144 (mk X) := by
  refine nat_down ?_ (fun i hi ih => ?_)
  · skip
    intro hp
    refine s_iload_n (q := 3) d_T_isKept_2 rfl rfl ?_
    refine s_aload_n (q := 4) d_T_isKept_3 rfl rfl (Or.inr ⟨_, rfl⟩) ?_
    refine g_getv (v := nI c) (q := 7) d_T_isKept_4 rfl fl_T_25 hT.1 rfl hc ?_
    refine s_icmp_ge (tgt := 32) (q := 10) d_T_isKept_7 (by decide) rfl (fun _ => ?_) (fun z9 => absurd (nI_le (Nat.le_refl c) (by omega)) z9)
    refine s_iconst (v := 0) (q := 33) d_T_isKept_32 rfl ki_0 ?_
    exact g_iret d_T_isKept_33 rfl rfl (bI_f (anyB_f hp)).symm rfl
  · skip
    intro hp
    refine s_iload_n (q := 3) d_T_isKept_2 rfl rfl ?_
    refine s_aload_n (q := 4) d_T_isKept_3 rfl rfl (Or.inr ⟨_, rfl⟩) ?_
    refine g_getv (v := nI c) (q := 7) d_T_isKept_4 rfl fl_T_25 hT.1 rfl hc ?_
    refine s_icmp_ge (tgt := 32) (q := 10) d_T_isKept_7 (by decide) rfl (fun z9 => absurd z9 (nI_ge hi (by omega))) (fun _ => ?_)
    refine s_aload_n (q := 11) d_T_isKept_10 rfl rfl (Or.inr ⟨_, rfl⟩) ?_
    refine g_getr (q := 14) d_T_isKept_11 rfl fl_T_19 hT.1 rfl ?_
    refine s_iload_n (q := 15) d_T_isKept_14 rfl rfl ?_
    refine g_aald (q := 16) d_T_isKept_15 rfl hT.2.2.1 (by decide) rfl (by decide) rfl (by omega) (if_pos (by omega)) ?_
    refine s_aload_n (q := 17) d_T_isKept_16 rfl rfl (Or.inr ⟨_, rfl⟩) ?_
    refine s_iload_n (q := 18) d_T_isKept_17 rfl rfl ?_
    refine g_callV (q := 21) d_T_isKept_18 rfl ml_T_100 mx_K_keeps mv_K_keeps (t_K_keeps (hT.2.2.2.2 _ (by omega)) hB hsz hn hk) (hT.2.2.2.2 _ (by omega)) rfl rfl (Nat.le_of_ble_eq_true rfl) (by decide) ?_
    refine s_if_eq (tgt := 26) (q := 24) d_T_isKept_21 (by decide) rfl (fun h_21 => ?_) (fun h_21 => ?_)
    · -- T 21
      refine s_iinc (q := 29) d_T_isKept_26 rfl rfl (by first | exact inc1 _ | rfl) (by decide) ?_
      refine s_goto (tgt := 2) d_T_isKept_29 (by decide) ?_
      refine s_lv (lv' := [(0, .ref o), (1, .ref bo), (2, .int (nI k)), (3, .int (nI (i + 1)))]) ⟨rfl, rfl, rfl, rfl, trivial⟩ (ih (fun j hj => ?_))
      by_cases hji : j = i
      · subst hji; rw [bI_0] at h_21; exact h_21
      · exact hp j (by omega)
    · -- F 21
      refine s_iconst (v := 1) (q := 25) d_T_isKept_24 rfl ki_1 ?_
      exact g_iret d_T_isKept_25 rfl rfl (bI_t (anyB_t hi (bI_n0.mp h_21))).symm rfl
theorem t_T_isKept {X : RAM} {o c bo n k : Nat} (hT : isT o) (hc : X o 2 = nI c) (hc4 : c ≤ 4) (hB : isB bo) (hsz : X bo 5 = nI n) (hn : n ≤ 12) (hk : k < n) : CG l D ac b y_T_isKept c_T_isKept 4 (some .boolean) 2 45 [.ref o, .ref bo, .int (nI k)] X (some (.int (bI (anyB (ikP X o bo k) c)))) (X) := by
  refine Ct_of false (by decide) (fun h => by cases h) (Nat.le_of_ble_eq_true rfl) ?_
  show V l D ac b "SpanStore$Table" c_T_isKept 4 (some .boolean) false 2 45 0 0 ((some (.int (bI (anyB (ikP X o bo k) c)))), 144, mk (X)) 0 0 0 [(0, .ref o), (1, .ref bo), (2, .int (nI k))] [] 144 (mk X)
  refine s_iconst (v := 0) (q := 1) d_T_isKept_0 rfl ki_0 ?_
  refine s_istore_n (q := 2) d_T_isKept_1 rfl (by decide) ?_
  exact s_lv (lv' := [(0, .ref o), (1, .ref bo), (2, .int (nI k)), (3, .int (nI 0))]) ⟨rfl, rfl, rfl, rfl, trivial⟩ (lp_T_isKept hT hc hc4 hB hsz hn hk 0 (Nat.zero_le c) (fun j hj => by omega))
def krS (X : RAM) (o bo c : Nat) : Nat → RAM
  | 0 => X
  | i + 1 => if anyB (ikP X o bo i) c = true then kwX (krS X o bo c i) bo i else krS X o bo c i
theorem kwX_ne {X : RAM} {o k a : Nat} (h1 : a ≠ o) (h2 : a ≠ o + 4) : kwX X o k a = X a := by
  unfold kwX
  split
  · rw [up2_ne h1, up2_ne h2]
  · rfl
theorem krS_ne {X : RAM} {o bo c a : Nat} (h1 : a ≠ bo) (h2 : a ≠ bo + 4) (i : Nat) : krS X o bo c i a = X a := by
  induction i with
  | zero => rfl
  | succ i ih =>
    unfold krS
    split
    · exact (kwX_ne h1 h2).trans ih
    · exact ih
theorem krS_o {X : RAM} {o bo c j : Nat} (h : j ≠ 6) (i : Nat) : krS X o bo c i bo j = X bo j := by
  induction i with
  | zero => rfl
  | succ i ih =>
    unfold krS
    split
    · exact (kwX_o h).trans ih
    · exact ih
theorem kpV_same {X Y : RAM} {ko o k : Nat} (h0 : Y ko = X ko) (h1 : Y (o + 1) = X (o + 1)) (h2 : Y (o + 2) = X (o + 2)) (h3 : Y (o + 3) = X (o + 3)) : kpV Y ko o k = kpV X ko o k := by
  have : eqG Y o k = eqG X o k := by unfold eqG; rw [h2]
  unfold kpV
  rw [h0, h1, h3, this]
theorem anyB_congr {p q : Nat → Bool} {n : Nat} (h : ∀ i, i < n → p i = q i) : anyB p n = anyB q n := by
  induction n with
  | zero => rfl
  | succ n ih => unfold anyB; rw [ih (fun i hi => h i (by omega)), h n (by omega)]
theorem ikP_same {X : RAM} {o bo c k c2 i : Nat} (hk : ∀ k, k < c2 → o + 51 + k ≠ bo ∧ o + 51 + k ≠ bo + 4) : anyB (ikP (krS X o bo c i) o bo k) c2 = anyB (ikP X o bo k) c2 :=
  anyB_congr (fun j hj => kpV_same (krS_ne (hk j hj).1 (hk j hj).2 i) (krS_ne (by omega) (by omega) i) (krS_ne (by omega) (by omega) i) (krS_ne (by omega) (by omega) i))
theorem lp_T_keepRows {X : RAM} {o c bo n : Nat} (hT : isT o) (hc : X o 2 = nI c) (hc4 : c ≤ 4) (hB : isB bo) (hsz : X bo 5 = nI n) (hn : n ≤ 12) (ho : o < bo ∧ bo + 5 < o + 51) : ∀ i, i ≤ n → V l D ac b "SpanStore$Table" c_T_keepRows 3 none false 3 68 0 0 (none, 144, mk (krS X o bo c n)) 0 0 2 [(0, .ref o), (1, .ref bo), (2, .int (nI i))] [] 144 (mk (krS X o bo c i)) := by
  refine nat_down ?_ (fun i hi ih => ?_)
  · skip
    refine s_iload_n (q := 3) d_T_keepRows_2 rfl rfl ?_
    refine s_aload_n (q := 4) d_T_keepRows_3 rfl rfl (Or.inr ⟨_, rfl⟩) ?_
    refine g_getv (v := nI n) (q := 7) d_T_keepRows_4 rfl fl_T_52 hB.1 rfl ((krS_o (by decide) _).trans hsz) ?_
    refine s_icmp_ge (tgt := 30) (q := 10) d_T_keepRows_7 (by decide) rfl (fun _ => ?_) (fun z9 => absurd (nI_le (Nat.le_refl n) (by omega)) z9)
    exact g_ret d_T_keepRows_30 rfl rfl
  · skip
    refine s_iload_n (q := 3) d_T_keepRows_2 rfl rfl ?_
    refine s_aload_n (q := 4) d_T_keepRows_3 rfl rfl (Or.inr ⟨_, rfl⟩) ?_
    refine g_getv (v := nI n) (q := 7) d_T_keepRows_4 rfl fl_T_52 hB.1 rfl ((krS_o (by decide) _).trans hsz) ?_
    refine s_icmp_ge (tgt := 30) (q := 10) d_T_keepRows_7 (by decide) rfl (fun z9 => absurd z9 (nI_ge hi (by omega))) (fun _ => ?_)
    refine s_aload_n (q := 11) d_T_keepRows_10 rfl rfl (Or.inr ⟨_, rfl⟩) ?_
    refine s_aload_n (q := 12) d_T_keepRows_11 rfl rfl (Or.inr ⟨_, rfl⟩) ?_
    refine s_iload_n (q := 13) d_T_keepRows_12 rfl rfl ?_
    refine g_callV (q := 16) d_T_keepRows_13 rfl ml_T_93 mx_T_isKept mv_T_isKept (t_T_isKept (c := c) hT (by rw [krS_ne (by omega) (by omega), hc]) hc4 hB ((krS_o (by decide) _).trans hsz) hn hi) hT.1 rfl rfl (Nat.le_of_ble_eq_true rfl) (by decide) ?_
    rw [ikP_same (fun k hk => by omega)]
    refine s_if_eq (tgt := 24) (q := 19) d_T_keepRows_16 (by decide) rfl (fun h_16 => ?_) (fun h_16 => ?_)
    · -- T 16
      rw [bI_0] at h_16
      rw [show krS X o bo c (i + 1) = krS X o bo c i from by simp [krS, h_16]] at ih
      refine s_iinc (q := 27) d_T_keepRows_24 rfl rfl (by first | exact inc1 _ | rfl) (by decide) ?_
      refine s_goto (tgt := 2) d_T_keepRows_27 (by decide) ?_
      exact s_lv (lv' := [(0, .ref o), (1, .ref bo), (2, .int (nI (i + 1)))]) ⟨rfl, rfl, rfl, trivial⟩ ih
    · -- F 16
      rw [bI_n0] at h_16
      rw [show krS X o bo c (i + 1) = kwX (krS X o bo c i) bo i from by simp [krS, h_16]] at ih
      refine s_aload_n (q := 20) d_T_keepRows_19 rfl rfl (Or.inr ⟨_, rfl⟩) ?_
      refine s_iload_n (q := 21) d_T_keepRows_20 rfl rfl ?_
      refine g_callV (q := 24) d_T_keepRows_21 rfl ml_T_97 mx_B_know mv_B_know (t_B_know hB ((krS_o (by decide) _).trans hsz) hn hi) hB.1 rfl rfl (Nat.le_of_ble_eq_true rfl) (by decide) ?_
      refine s_iinc (q := 27) d_T_keepRows_24 rfl rfl (by first | exact inc1 _ | rfl) (by decide) ?_
      refine s_goto (tgt := 2) d_T_keepRows_27 (by decide) ?_
      exact s_lv (lv' := [(0, .ref o), (1, .ref bo), (2, .int (nI (i + 1)))]) ⟨rfl, rfl, rfl, trivial⟩ ih
theorem t_T_keepRows {X : RAM} {o c bo n : Nat} (hT : isT o) (hc : X o 2 = nI c) (hc4 : c ≤ 4) (hB : isB bo) (hsz : X bo 5 = nI n) (hn : n ≤ 12) (ho : o < bo ∧ bo + 5 < o + 51) : CG l D ac b y_T_keepRows c_T_keepRows 3 none 3 68 [.ref o, .ref bo] X (none) (krS X o bo c n) := by
  refine Ct_of false (by decide) (fun h => by cases h) (Nat.le_of_ble_eq_true rfl) ?_
  show V l D ac b "SpanStore$Table" c_T_keepRows 3 none false 3 68 0 0 ((none), 144, mk (krS X o bo c n)) 0 0 0 [(0, .ref o), (1, .ref bo)] [] 144 (mk X)
  refine s_iconst (v := 0) (q := 1) d_T_keepRows_0 rfl ki_0 ?_
  refine s_istore_n (q := 2) d_T_keepRows_1 rfl (by decide) ?_
  exact s_lv (lv' := [(0, .ref o), (1, .ref bo), (2, .int (nI 0))]) ⟨rfl, rfl, rfl, trivial⟩ (lp_T_keepRows hT hc hc4 hB hsz hn ho 0 (Nat.zero_le n))
def clB (X Y : RAM) (o c bo : Nat) : RAM := msX (krS Y o bo c (szN X bo)) bo (szN X bo) (thS X o c)
def clS (X : RAM) (o c : Nat) : Nat → RAM
  | 0 => X
  | j + 1 => clB X (clS X o c j) o c (o + 3 + 6 * j)
theorem msX_ne {X : RAM} {o n a : Nat} {m : Int32} (h : a ≠ o) : msX X o n m a = X a := by
  unfold msX meX
  simp only [up2_ne h]
theorem msX_5 {X : RAM} {o n j : Nat} {m : Int32} (h : j < 7) : msX X o n m o j = X o j := by
  unfold msX meX
  rw [up2_same (by omega), up2_same (by omega), up2_same (by omega), up2_same (by omega), up2_same (by omega), up2_same (by omega), up2_same (by omega)]
theorem clB_ne {X Y : RAM} {o c bo a : Nat} (h1 : a ≠ bo) (h2 : a ≠ bo + 4) : clB X Y o c bo a = Y a := by
  unfold clB
  rw [msX_ne h1, krS_ne h1 h2]
theorem clS_ne {X : RAM} {o c a : Nat} (h : ∀ j, j < 8 → a ≠ o + 3 + 6 * j ∧ a ≠ o + 3 + 6 * j + 4) (i : Nat) (hi : i ≤ 8) : clS X o c i a = X a := by
  induction i with
  | zero => rfl
  | succ i ih =>
    unfold clS
    rw [clB_ne (h i (by omega)).1 (h i (by omega)).2]
    exact ih (by omega)
theorem clS_5 {X : RAM} {o c : Nat} (k : Nat) (i : Nat) : clS X o c i (o + 3 + 6 * k) 5 = X (o + 3 + 6 * k) 5 := by
  induction i with
  | zero => rfl
  | succ i ih =>
    unfold clS
    by_cases h : k = i
    · subst h
      unfold clB
      rw [msX_5 (by decide), krS_o (by decide)]
      exact ih
    · rw [clB_ne (by omega) (by omega)]
      exact ih
def clX (X : RAM) (o c : Nat) : RAM := up2 (clS X o c 8) o 3 1
theorem lp_T_close {X : RAM} {o c : Nat} (hT : isT o) (hc : X o 2 = nI c) (hc4 : c ≤ 4) (hZ : okZ X o) : ∀ i, i ≤ 8 → V l D ac b "SpanStore$Table" c_T_close 3 none false 4 90 0 0 (none, 144, mk (clX X o c)) 0 0 7 [(0, .ref o), (1, .int (thS X o c)), (2, .int (nI i))] [] 144 (mk (clS X o c i)) := by
  refine nat_down ?_ (fun i hi ih => ?_)
  · skip
    refine s_iload_n (q := 8) d_T_close_7 rfl rfl ?_
    refine s_bipush (v := 8) (q := 10) d_T_close_8 rfl kb_8 ?_
    refine s_icmp_ge (tgt := 39) (q := 13) d_T_close_10 (by decide) rfl (fun _ => ?_) (fun z9 => absurd le8 z9)
    refine s_aload_n (q := 40) d_T_close_39 rfl rfl (Or.inr ⟨_, rfl⟩) ?_
    refine s_iconst (v := 1) (q := 41) d_T_close_40 rfl ki_1 ?_
    refine g_puti (q := 44) d_T_close_41 rfl fl_T_45 rfl (okB (by first | exact Or.inl rfl | exact Or.inr rfl | assumption)) hT.1 rfl ?_
    exact g_ret d_T_close_44 rfl rfl
  · skip
    refine s_iload_n (q := 8) d_T_close_7 rfl rfl ?_
    refine s_bipush (v := 8) (q := 10) d_T_close_8 rfl kb_8 ?_
    refine s_icmp_ge (tgt := 39) (q := 13) d_T_close_10 (by decide) rfl (fun z9 => absurd z9 (nle8 hi)) (fun _ => ?_)
    refine s_aload_n (q := 14) d_T_close_13 rfl rfl (Or.inr ⟨_, rfl⟩) ?_
    refine s_aload_n (q := 15) d_T_close_14 rfl rfl (Or.inr ⟨_, rfl⟩) ?_
    refine g_getr (q := 18) d_T_close_15 rfl fl_T_11 hT.1 rfl ?_
    refine s_iload_n (q := 19) d_T_close_18 rfl rfl ?_
    refine g_aald (q := 20) d_T_close_19 rfl hT.2.1 (by decide) rfl (by decide) rfl hi (if_pos hi) ?_
    refine g_callV (q := 23) d_T_close_20 rfl ml_T_37 mx_T_keepRows mv_T_keepRows (t_T_keepRows (c := c) hT (by rw [clS_ne (fun j hj => by omega) i (by omega), hc]) hc4 (hT.2.2.2.1 _ hi) ((clS_5 i i).trans (hZ i hi).1) (hZ i hi).2 (by omega)) hT.1 rfl rfl (Nat.le_of_ble_eq_true rfl) (by decide) ?_
    refine s_aload_n (q := 24) d_T_close_23 rfl rfl (Or.inr ⟨_, rfl⟩) ?_
    refine g_getr (q := 27) d_T_close_24 rfl fl_T_11 hT.1 rfl ?_
    refine s_iload_n (q := 28) d_T_close_27 rfl rfl ?_
    refine g_aald (q := 29) d_T_close_28 rfl hT.2.1 (by decide) rfl (by decide) rfl hi (if_pos hi) ?_
    refine s_iload_n (q := 30) d_T_close_29 rfl rfl ?_
    refine g_callV (q := 33) d_T_close_30 rfl ml_T_41 mx_B_measure mv_B_measure (t_B_measure (hT.2.2.2.1 _ hi) ((krS_o (by decide) _).trans ((clS_5 i i).trans (hZ i hi).1)) (hZ i hi).2) (hT.2.2.2.1 _ hi).1 rfl rfl (Nat.le_of_ble_eq_true rfl) (by decide) ?_
    refine s_iinc (q := 36) d_T_close_33 rfl rfl (by first | exact inc1 _ | rfl) (by decide) ?_
    refine s_goto (tgt := 7) d_T_close_36 (by decide) ?_
    exact s_lv (lv' := [(0, .ref o), (1, .int (thS X o c)), (2, .int (nI (i + 1)))]) ⟨rfl, rfl, rfl, trivial⟩ ih
theorem t_T_close {X : RAM} {o c : Nat} (hT : isT o) (hc : X o 2 = nI c) (hc4 : c ≤ 4) (hZ : okZ X o) : CG l D ac b y_T_close c_T_close 3 none 4 90 [.ref o] X (none) (clX X o c) := by
  refine Ct_of false (by decide) (fun h => by cases h) (Nat.le_of_ble_eq_true rfl) ?_
  show V l D ac b "SpanStore$Table" c_T_close 3 none false 4 90 0 0 ((none), 144, mk (clX X o c)) 0 0 0 [(0, .ref o)] [] 144 (mk X)
  refine s_aload_n (q := 1) d_T_close_0 rfl rfl (Or.inr ⟨_, rfl⟩) ?_
  refine g_callV (q := 4) d_T_close_1 rfl ml_T_33 mx_T_topHiddenAmount mv_T_topHiddenAmount (t_T_top hT hc hc4) hT.1 rfl rfl (Nat.le_of_ble_eq_true rfl) (by decide) ?_
  refine s_istore_n (q := 5) d_T_close_4 rfl (by decide) ?_
  refine s_iconst (v := 0) (q := 6) d_T_close_5 rfl ki_0 ?_
  refine s_istore_n (q := 7) d_T_close_6 rfl (by decide) ?_
  exact s_lv (lv' := [(0, .ref o), (1, .int (thS X o c)), (2, .int (nI 0))]) ⟨rfl, rfl, rfl, trivial⟩ (lp_T_close hT hc hc4 hZ 0 (Nat.zero_le 8))
def emB (X : RAM) (bo : Nat) : RAM := filA (up2 (up2 X bo 5 0) bo 6 0) (bo + 5) 4 0
def emS (X : RAM) (o : Nat) : Nat → RAM
  | 0 => X
  | j + 1 => emB (emS X o j) (o + 3 + 6 * j)
def emX (X : RAM) (o : Nat) : RAM := up2 (up2 (emS X o 8) o 2 0) o 3 0
theorem lp_T_empty {X : RAM} {o : Nat} (hT : isT o) : ∀ i, i ≤ 8 → V l D ac b "SpanStore$Table" c_T_empty 2 none false 2 43 0 0 (none, 144, mk (emX X o)) 0 0 2 [(0, .ref o), (1, .int (nI i))] [] 144 (mk (emS X o i)) := by
  refine nat_down ?_ (fun i hi ih => ?_)
  · skip
    refine s_iload_n (q := 3) d_T_empty_2 rfl rfl ?_
    refine s_bipush (v := 8) (q := 5) d_T_empty_3 rfl kb_8 ?_
    refine s_icmp_ge (tgt := 23) (q := 8) d_T_empty_5 (by decide) rfl (fun _ => ?_) (fun z9 => absurd le8 z9)
    refine s_aload_n (q := 24) d_T_empty_23 rfl rfl (Or.inr ⟨_, rfl⟩) ?_
    refine s_iconst (v := 0) (q := 25) d_T_empty_24 rfl ki_0 ?_
    refine g_puti (q := 28) d_T_empty_25 rfl fl_T_25 rfl (okV_int _) hT.1 rfl ?_
    refine s_aload_n (q := 29) d_T_empty_28 rfl rfl (Or.inr ⟨_, rfl⟩) ?_
    refine s_iconst (v := 0) (q := 30) d_T_empty_29 rfl ki_0 ?_
    refine g_puti (q := 33) d_T_empty_30 rfl fl_T_45 rfl (okB (by first | exact Or.inl rfl | exact Or.inr rfl | assumption)) hT.1 rfl ?_
    exact g_ret d_T_empty_33 rfl rfl
  · skip
    refine s_iload_n (q := 3) d_T_empty_2 rfl rfl ?_
    refine s_bipush (v := 8) (q := 5) d_T_empty_3 rfl kb_8 ?_
    refine s_icmp_ge (tgt := 23) (q := 8) d_T_empty_5 (by decide) rfl (fun z9 => absurd z9 (nle8 hi)) (fun _ => ?_)
    refine s_aload_n (q := 9) d_T_empty_8 rfl rfl (Or.inr ⟨_, rfl⟩) ?_
    refine g_getr (q := 12) d_T_empty_9 rfl fl_T_11 hT.1 rfl ?_
    refine s_iload_n (q := 13) d_T_empty_12 rfl rfl ?_
    refine g_aald (q := 14) d_T_empty_13 rfl hT.2.1 (by decide) rfl (by decide) rfl hi (if_pos hi) ?_
    refine g_callV (q := 17) d_T_empty_14 rfl ml_T_49 mx_B_empty mv_B_empty (t_B_empty (hT.2.2.2.1 _ hi)) (hT.2.2.2.1 _ hi).1 rfl rfl (Nat.le_of_ble_eq_true rfl) (by decide) ?_
    refine s_iinc (q := 20) d_T_empty_17 rfl rfl (by first | exact inc1 _ | rfl) (by decide) ?_
    refine s_goto (tgt := 2) d_T_empty_20 (by decide) ?_
    exact s_lv (lv' := [(0, .ref o), (1, .int (nI (i + 1)))]) ⟨rfl, rfl, trivial⟩ ih
theorem t_T_empty {X : RAM} {o : Nat} (hT : isT o) : CG l D ac b y_T_empty c_T_empty 2 none 2 43 [.ref o] X (none) (emX X o) := by
  refine Ct_of false (by decide) (fun h => by cases h) (Nat.le_of_ble_eq_true rfl) ?_
  show V l D ac b "SpanStore$Table" c_T_empty 2 none false 2 43 0 0 ((none), 144, mk (emX X o)) 0 0 0 [(0, .ref o)] [] 144 (mk X)
  refine s_iconst (v := 0) (q := 1) d_T_empty_0 rfl ki_0 ?_
  refine s_istore_n (q := 2) d_T_empty_1 rfl (by decide) ?_
  exact s_lv (lv' := [(0, .ref o), (1, .int (nI 0))]) ⟨rfl, rfl, trivial⟩ (lp_T_empty hT 0 (Nat.zero_le 8))
def akpX (X : RAM) (o c : Nat) (kd a m : Int32) : RAM := up2 (up2 (up2 (up2 X (o + 51 + c) 0 kd) (o + 51 + c) 1 a) (o + 51 + c) 2 m) o 2 (nI (c + 1))
theorem t_T_addKeeper {X : RAM} {o c : Nat} {kd a m : Int32} (hT : isT o) (hc : X o 2 = nI c) (hc4 : c < 4) : CG l D ac b y_T_addKeeper c_T_addKeeper 4 none 1 23 [.ref o, .int kd, .int a, .int m] X (none) (akpX X o c kd a m) := by
  refine Ct_of false (by decide) (fun h => by cases h) (Nat.le_of_ble_eq_true rfl) ?_
  show V l D ac b "SpanStore$Table" c_T_addKeeper 4 none false 1 23 0 0 ((none), 144, mk (akpX X o c kd a m)) 0 0 0 [(0, .ref o), (1, .int kd), (2, .int a), (3, .int m)] [] 144 (mk X)
  refine s_aload_n (q := 1) d_T_addKeeper_0 rfl rfl (Or.inr ⟨_, rfl⟩) ?_
  refine g_getv (v := nI c) (q := 4) d_T_addKeeper_1 rfl fl_T_25 hT.1 rfl hc ?_
  refine s_if_lt (tgt := 40) (q := 7) d_T_addKeeper_4 (by decide) rfl (fun z9 => absurd z9 (nI_pos (by omega))) (fun _ => ?_)
  refine s_aload_n (q := 8) d_T_addKeeper_7 rfl rfl (Or.inr ⟨_, rfl⟩) ?_
  refine g_getv (v := nI c) (q := 11) d_T_addKeeper_8 rfl fl_T_25 hT.1 rfl hc ?_
  refine s_iconst (v := 4) (q := 12) d_T_addKeeper_11 rfl ki_4 ?_
  refine s_icmp_ge (tgt := 40) (q := 15) d_T_addKeeper_12 (by decide) rfl (fun z9 => absurd z9 (nI_ge (a := c) (b := 4) hc4 (by decide))) (fun _ => ?_)
  refine s_aload_n (q := 16) d_T_addKeeper_15 rfl rfl (Or.inr ⟨_, rfl⟩) ?_
  refine g_getr (q := 19) d_T_addKeeper_16 rfl fl_T_19 hT.1 rfl ?_
  refine s_aload_n (q := 20) d_T_addKeeper_19 rfl rfl (Or.inr ⟨_, rfl⟩) ?_
  refine g_getv (v := nI c) (q := 23) d_T_addKeeper_20 rfl fl_T_25 hT.1 rfl hc ?_
  refine g_aald (q := 24) d_T_addKeeper_23 rfl hT.2.2.1 (by decide) rfl (by decide) rfl hc4 (if_pos hc4) ?_
  refine s_iload_n (q := 25) d_T_addKeeper_24 rfl rfl ?_
  refine s_iload_n (q := 26) d_T_addKeeper_25 rfl rfl ?_
  refine s_iload_n (q := 27) d_T_addKeeper_26 rfl rfl ?_
  refine g_callV (q := 30) d_T_addKeeper_27 rfl ml_T_29 mx_K_become mv_K_become (t_K_become (hT.2.2.2.2 _ hc4)) (hT.2.2.2.2 _ hc4) rfl rfl (Nat.le_of_ble_eq_true rfl) (by decide) ?_
  refine s_aload_n (q := 31) d_T_addKeeper_30 rfl rfl (Or.inr ⟨_, rfl⟩) ?_
  refine s_dup (q := 32) d_T_addKeeper_31 rfl rfl ?_
  refine g_getv (v := nI c) (q := 35) d_T_addKeeper_32 rfl fl_T_25 hT.1 rfl (by rw [up2_ne (by omega), up2_ne (by omega), up2_ne (by omega), hc]) ?_
  refine s_iconst (v := 1) (q := 36) d_T_addKeeper_35 rfl ki_1 ?_
  refine s_iadd (q := 37) d_T_addKeeper_36 rfl ?_
  refine g_puti (q := 40) d_T_addKeeper_37 rfl fl_T_25 rfl (okV_int _) hT.1 rfl ?_
  exact g_ret d_T_addKeeper_40 rfl (by rw [nI_s]; rfl)
end P10
