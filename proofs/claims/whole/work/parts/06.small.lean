section P06
variable {l : Launch} {D : va_G} {ac : Nat → ClassId} {b : Nat}
def filA (X : RAM) (a n : Nat) (v : Int32) : RAM := upA X a (fun k => if k < n then v else X a k)
theorem filA_0 (X : RAM) (a : Nat) (v : Int32) : filA X a 0 v = X := by
  funext i
  by_cases h : i = a
  · subst h; simp [filA, upA]
  · simp [filA, upA, h]
theorem filA_s (X : RAM) (a i : Nat) (v : Int32) : up2 (filA X a i v) a i v = filA X a (i + 1) v := by
  unfold filA
  rw [up2_upA]
  congr 1
  funext k
  by_cases h : k = i
  · subst h; simp [upd]
  · simp only [upd, h, if_false]
    by_cases h2 : k < i
    · rw [if_pos h2, if_pos (by omega)]
    · rw [if_neg h2, if_neg (by omega)]
theorem lp_fill {X : RAM} {a n : Nat} {v : Int32} (hS : sk a = .inl (0, n, none)) (hn : n < 2147483648) : ∀ i, i ≤ n → V l D ac b "java/util/Arrays" c_J_fill 4 none false 0 0 0 0 (none, 144, mk (filA X a n v)) 0 0 5 [(0, .ref a), (1, .int v), (2, .int (nI i)), (3, .int (nI n))] [] 144 (mk (filA X a i v)) := by
  refine nat_down ?_ (fun i hi ih => ?_)
  · -- exit
    refine s_iload_n (q := 6) d_J_fill_5 rfl rfl ?_
    refine s_iload_n (q := 7) d_J_fill_6 rfl rfl ?_
    refine s_icmp_ge (tgt := 20) (q := 10) d_J_fill_7 (by decide) rfl (fun _ => ?_) (fun z9 => absurd (nI_le (Nat.le_refl n) hn) z9)
    exact g_ret d_J_fill_20 rfl rfl
  · -- step
    refine s_iload_n (q := 6) d_J_fill_5 rfl rfl ?_
    refine s_iload_n (q := 7) d_J_fill_6 rfl rfl ?_
    refine s_icmp_ge (tgt := 20) (q := 10) d_J_fill_7 (by decide) rfl (fun z9 => absurd z9 (nI_ge hi hn)) (fun _ => ?_)
    refine s_aload_n (q := 11) d_J_fill_10 rfl rfl (Or.inr ⟨_, rfl⟩) ?_
    refine s_iload_n (q := 12) d_J_fill_11 rfl rfl ?_
    refine s_iload_n (q := 13) d_J_fill_12 rfl rfl ?_
    refine g_iast (q := 14) d_J_fill_13 rfl hS (by omega) rfl hi ?_
    rw [filA_s]
    refine s_iinc (q := 17) d_J_fill_14 rfl rfl (by first | exact inc1 _ | rfl) (by decide) ?_
    refine s_goto (tgt := 5) d_J_fill_17 (by decide) ?_
    refine s_lv (lv' := [(0, .ref a), (1, .int v), (2, .int (nI (i + 1))), (3, .int (nI n))]) ⟨rfl, rfl, rfl, rfl, trivial⟩ ih
theorem t_J_fill {X : RAM} {a n : Nat} {v : Int32} (hS : sk a = .inl (0, n, none)) (hn : n < 2147483648) : CG l D ac b y_J_fill c_J_fill 4 none 0 0 [.ref a, .int v] X (none) (filA X a n v) := by
  refine Ct_of false (by decide) (fun h => by cases h) (Nat.le_of_ble_eq_true rfl) ?_
  show V l D ac b "java/util/Arrays" c_J_fill 4 none false 0 0 0 0 ((none), 144, mk (filA X a n v)) 0 0 0 [(0, .ref a), (1, .int v)] [] 144 (mk X)
  refine s_iconst (v := 0) (q := 1) d_J_fill_0 rfl ki_0 ?_
  refine s_istore_n (q := 2) d_J_fill_1 rfl (by decide) ?_
  refine s_aload_n (q := 3) d_J_fill_2 rfl rfl (Or.inr ⟨_, rfl⟩) ?_
  refine g_alen (q := 4) d_J_fill_3 rfl hS (by decide) ?_
  refine s_istore_n (q := 5) d_J_fill_4 rfl (by decide) ?_
  have h := lp_fill (l := l) (D := D) (ac := ac) (b := b) (X := X) (v := v) hS hn 0 (Nat.zero_le n)
  rw [filA_0] at h
  exact s_lv (lv' := [(0, .ref a), (1, .int v), (2, .int (nI 0)), (3, .int (nI n))]) ⟨rfl, rfl, rfl, rfl, trivial⟩ h
theorem t_S_renew {X : RAM} {o : Nat} {f n : Int32} (hS : isS o) : CG l D ac b y_S_renew c_S_renew 3 none 1 23 [.ref o, .int f, .int n] X (none) (up2 (up2 (up2 (filA X (o + 1) 40 0) o 1 f) o 2 n) o 3 0) := by
  refine Ct_of false (by decide) (fun h => by cases h) (Nat.le_of_ble_eq_true rfl) ?_
  show V l D ac b "SpanStore$Sheet" c_S_renew 3 none false 1 23 0 0 ((none), 144, mk (up2 (up2 (up2 (filA X (o + 1) 40 0) o 1 f) o 2 n) o 3 0)) 0 0 0 [(0, .ref o), (1, .int f), (2, .int n)] [] 144 (mk X)
  refine s_aload_n (q := 1) d_S_renew_0 rfl rfl (Or.inr ⟨_, rfl⟩) ?_
  refine g_getr (q := 4) d_S_renew_1 rfl fl_S_9 hS.1 rfl ?_
  refine s_iconst (v := 0) (q := 5) d_S_renew_4 rfl ki_0 ?_
  refine g_callS (q := 8) d_S_renew_5 rfl ml_S_19 mx_J_fill ms_J_fill (t_J_fill hS.2 (by decide)) rfl rfl (Nat.le_of_ble_eq_true rfl) (by decide) ?_
  refine s_aload_n (q := 9) d_S_renew_8 rfl rfl (Or.inr ⟨_, rfl⟩) ?_
  refine s_iload_n (q := 10) d_S_renew_9 rfl rfl ?_
  refine g_puti (q := 13) d_S_renew_10 rfl fl_S_25 rfl (okV_int _) hS.1 rfl ?_
  refine s_aload_n (q := 14) d_S_renew_13 rfl rfl (Or.inr ⟨_, rfl⟩) ?_
  refine s_iload_n (q := 15) d_S_renew_14 rfl rfl ?_
  refine g_puti (q := 18) d_S_renew_15 rfl fl_S_29 rfl (okV_int _) hS.1 rfl ?_
  refine s_aload_n (q := 19) d_S_renew_18 rfl rfl (Or.inr ⟨_, rfl⟩) ?_
  refine s_iconst (v := 0) (q := 20) d_S_renew_19 rfl ki_0 ?_
  refine g_puti (q := 23) d_S_renew_20 rfl fl_S_15 rfl (okB (by first | exact Or.inl rfl | exact Or.inr rfl | assumption)) hS.1 rfl ?_
  exact g_ret d_S_renew_23 rfl rfl
def faultV (X : RAM) (o : Nat) (f i : Int32) : Int32 := if X o 3 = 0 then (if X o 1 = f then (if i < 0 then 2 else if X o 2 ≤ i then 2 else 0) else 3) else 1
theorem t_S_faultOf {X : RAM} {o : Nat} {f i : Int32} (hS : isS o) : CG l D ac b y_S_faultOf c_S_faultOf 3 (some .int) 0 0 [.ref o, .int f, .int i] X (some (.int (faultV X o f i))) (X) := by
  refine Ct_of false (by decide) (fun h => by cases h) (Nat.le_of_ble_eq_true rfl) ?_
  show V l D ac b "SpanStore$Sheet" c_S_faultOf 3 (some .int) false 0 0 0 0 ((some (.int (faultV X o f i))), 144, mk (X)) 0 0 0 [(0, .ref o), (1, .int f), (2, .int i)] [] 144 (mk X)
  refine s_aload_n (q := 1) d_S_faultOf_0 rfl rfl (Or.inr ⟨_, rfl⟩) ?_
  refine g_geti (q := 4) d_S_faultOf_1 rfl fl_S_15 hS.1 rfl ?_
  refine s_if_eq (tgt := 9) (q := 7) d_S_faultOf_4 (by decide) rfl (fun h_4 => ?_) (fun h_4 => ?_)
  · -- T 4
    refine s_aload_n (q := 10) d_S_faultOf_9 rfl rfl (Or.inr ⟨_, rfl⟩) ?_
    refine g_geti (q := 13) d_S_faultOf_10 rfl fl_S_25 hS.1 rfl ?_
    refine s_iload_n (q := 14) d_S_faultOf_13 rfl rfl ?_
    refine s_icmp_eq (tgt := 19) (q := 17) d_S_faultOf_14 (by decide) rfl (fun h_14 => ?_) (fun h_14 => ?_)
    · -- T 14
      refine s_iload_n (q := 20) d_S_faultOf_19 rfl rfl ?_
      refine s_if_lt (tgt := 31) (q := 23) d_S_faultOf_20 (by decide) rfl (fun h_20 => ?_) (fun h_20 => ?_)
      · -- T 20
        refine s_iconst (v := 2) (q := 32) d_S_faultOf_31 rfl ki_2 ?_
        refine s_goto (tgt := 36) d_S_faultOf_32 (by decide) ?_
        exact g_iret d_S_faultOf_36 rfl rfl (by simp [faultV, *]) rfl
      · -- F 20
        refine s_iload_n (q := 24) d_S_faultOf_23 rfl rfl ?_
        refine s_aload_n (q := 25) d_S_faultOf_24 rfl rfl (Or.inr ⟨_, rfl⟩) ?_
        refine g_geti (q := 28) d_S_faultOf_25 rfl fl_S_29 hS.1 rfl ?_
        refine s_icmp_lt (tgt := 35) (q := 31) d_S_faultOf_28 (by decide) rfl (fun h_28 => ?_) (fun h_28 => ?_)
        · -- T 28
          refine s_iconst (v := 0) (q := 36) d_S_faultOf_35 rfl ki_0 ?_
          exact g_iret d_S_faultOf_36 rfl rfl (by simp [faultV, *]) rfl
        · -- F 28
          refine s_iconst (v := 2) (q := 32) d_S_faultOf_31 rfl ki_2 ?_
          refine s_goto (tgt := 36) d_S_faultOf_32 (by decide) ?_
          exact g_iret d_S_faultOf_36 rfl rfl (by simp [faultV, *]) rfl
    · -- F 14
      refine s_iconst (v := 3) (q := 18) d_S_faultOf_17 rfl ki_3 ?_
      exact g_iret d_S_faultOf_18 rfl rfl (by simp [faultV, *]) rfl
  · -- F 4
    refine s_iconst (v := 1) (q := 8) d_S_faultOf_7 rfl ki_1 ?_
    exact g_iret d_S_faultOf_8 rfl rfl (by simp [faultV, *]) rfl
def strV (n f z : Int32) : Bool := decide (¬ f < 0 ∧ ¬ z < 0 ∧ f ≤ n ∧ z ≤ n - f)
theorem t_S_hasStretch {X : RAM} {o : Nat} {f z : Int32} (hS : isS o) : CG l D ac b y_S_hasStretch c_S_hasStretch 3 (some .boolean) 0 0 [.ref o, .int f, .int z] X (some (.int (bI (strV (X o 2) f z)))) (X) := by
  refine Ct_of false (by decide) (fun h => by cases h) (Nat.le_of_ble_eq_true rfl) ?_
  show V l D ac b "SpanStore$Sheet" c_S_hasStretch 3 (some .boolean) false 0 0 0 0 ((some (.int (bI (strV (X o 2) f z)))), 144, mk (X)) 0 0 0 [(0, .ref o), (1, .int f), (2, .int z)] [] 144 (mk X)
  refine s_iload_n (q := 1) d_S_hasStretch_0 rfl rfl ?_
  refine s_if_lt (tgt := 30) (q := 4) d_S_hasStretch_1 (by decide) rfl (fun h_1 => ?_) (fun h_1 => ?_)
  · -- T 1
    refine s_iconst (v := 0) (q := 31) d_S_hasStretch_30 rfl ki_0 ?_
    exact g_iret d_S_hasStretch_31 rfl rfl (by first | exact bI_is1 (by (try simp only [bI_d, bI_dn, strV, remI] at *); simp only [i_le, i_lt, i_eq, tI_0, tI_1, tI_2, tI_3, tI_4, tI_7, tI_8, tI_10, tI_12, tI_13, tI_14, tI_40, tI_99, tI_100, tI_1000, tI_m1000, tI_m1, tI_mil] at *; omega) | exact bI_is0 (by (try simp only [bI_d, bI_dn, strV, remI] at *); simp only [i_le, i_lt, i_eq, tI_0, tI_1, tI_2, tI_3, tI_4, tI_7, tI_8, tI_10, tI_12, tI_13, tI_14, tI_40, tI_99, tI_100, tI_1000, tI_m1000, tI_m1, tI_mil] at *; omega)) rfl
  · -- F 1
    refine s_iload_n (q := 5) d_S_hasStretch_4 rfl rfl ?_
    refine s_if_lt (tgt := 30) (q := 8) d_S_hasStretch_5 (by decide) rfl (fun h_5 => ?_) (fun h_5 => ?_)
    · -- T 5
      refine s_iconst (v := 0) (q := 31) d_S_hasStretch_30 rfl ki_0 ?_
      exact g_iret d_S_hasStretch_31 rfl rfl (by first | exact bI_is1 (by (try simp only [bI_d, bI_dn, strV, remI] at *); simp only [i_le, i_lt, i_eq, tI_0, tI_1, tI_2, tI_3, tI_4, tI_7, tI_8, tI_10, tI_12, tI_13, tI_14, tI_40, tI_99, tI_100, tI_1000, tI_m1000, tI_m1, tI_mil] at *; omega) | exact bI_is0 (by (try simp only [bI_d, bI_dn, strV, remI] at *); simp only [i_le, i_lt, i_eq, tI_0, tI_1, tI_2, tI_3, tI_4, tI_7, tI_8, tI_10, tI_12, tI_13, tI_14, tI_40, tI_99, tI_100, tI_1000, tI_m1000, tI_m1, tI_mil] at *; omega)) rfl
    · -- F 5
      refine s_iload_n (q := 9) d_S_hasStretch_8 rfl rfl ?_
      refine s_aload_n (q := 10) d_S_hasStretch_9 rfl rfl (Or.inr ⟨_, rfl⟩) ?_
      refine g_geti (q := 13) d_S_hasStretch_10 rfl fl_S_29 hS.1 rfl ?_
      refine s_icmp_gt (tgt := 30) (q := 16) d_S_hasStretch_13 (by decide) rfl (fun h_13 => ?_) (fun h_13 => ?_)
      · -- T 13
        refine s_iconst (v := 0) (q := 31) d_S_hasStretch_30 rfl ki_0 ?_
        exact g_iret d_S_hasStretch_31 rfl rfl (by first | exact bI_is1 (by (try simp only [bI_d, bI_dn, strV, remI] at *); simp only [i_le, i_lt, i_eq, tI_0, tI_1, tI_2, tI_3, tI_4, tI_7, tI_8, tI_10, tI_12, tI_13, tI_14, tI_40, tI_99, tI_100, tI_1000, tI_m1000, tI_m1, tI_mil] at *; omega) | exact bI_is0 (by (try simp only [bI_d, bI_dn, strV, remI] at *); simp only [i_le, i_lt, i_eq, tI_0, tI_1, tI_2, tI_3, tI_4, tI_7, tI_8, tI_10, tI_12, tI_13, tI_14, tI_40, tI_99, tI_100, tI_1000, tI_m1000, tI_m1, tI_mil] at *; omega)) rfl
      · -- F 13
        refine s_iload_n (q := 17) d_S_hasStretch_16 rfl rfl ?_
        refine s_aload_n (q := 18) d_S_hasStretch_17 rfl rfl (Or.inr ⟨_, rfl⟩) ?_
        refine g_geti (q := 21) d_S_hasStretch_18 rfl fl_S_29 hS.1 rfl ?_
        refine s_iload_n (q := 22) d_S_hasStretch_21 rfl rfl ?_
        refine s_isub (q := 23) d_S_hasStretch_22 rfl ?_
        refine s_icmp_gt (tgt := 30) (q := 26) d_S_hasStretch_23 (by decide) rfl (fun h_23 => ?_) (fun h_23 => ?_)
        · -- T 23
          refine s_iconst (v := 0) (q := 31) d_S_hasStretch_30 rfl ki_0 ?_
          exact g_iret d_S_hasStretch_31 rfl rfl (by first | exact bI_is1 (by (try simp only [bI_d, bI_dn, strV, remI] at *); simp only [i_le, i_lt, i_eq, tI_0, tI_1, tI_2, tI_3, tI_4, tI_7, tI_8, tI_10, tI_12, tI_13, tI_14, tI_40, tI_99, tI_100, tI_1000, tI_m1000, tI_m1, tI_mil] at *; omega) | exact bI_is0 (by (try simp only [bI_d, bI_dn, strV, remI] at *); simp only [i_le, i_lt, i_eq, tI_0, tI_1, tI_2, tI_3, tI_4, tI_7, tI_8, tI_10, tI_12, tI_13, tI_14, tI_40, tI_99, tI_100, tI_1000, tI_m1000, tI_m1, tI_mil] at *; omega)) rfl
        · -- F 23
          refine s_iconst (v := 1) (q := 27) d_S_hasStretch_26 rfl ki_1 ?_
          refine s_goto (tgt := 31) d_S_hasStretch_27 (by decide) ?_
          exact g_iret d_S_hasStretch_31 rfl rfl (by first | exact bI_is1 (by (try simp only [bI_d, bI_dn, strV, remI] at *); simp only [i_le, i_lt, i_eq, tI_0, tI_1, tI_2, tI_3, tI_4, tI_7, tI_8, tI_10, tI_12, tI_13, tI_14, tI_40, tI_99, tI_100, tI_1000, tI_m1000, tI_m1, tI_mil] at *; omega) | exact bI_is0 (by (try simp only [bI_d, bI_dn, strV, remI] at *); simp only [i_le, i_lt, i_eq, tI_0, tI_1, tI_2, tI_3, tI_4, tI_7, tI_8, tI_10, tI_12, tI_13, tI_14, tI_40, tI_99, tI_100, tI_1000, tI_m1000, tI_m1, tI_mil] at *; omega)) rfl
def cutV (f v : Int32) : Int32 := if f = 0 then v.toInt8.toInt32 else if f = 1 then v.toInt16.toInt32 else v
theorem t_S_cut {X : RAM} {o : Nat} {v : Int32} (hS : isS o) : CG l D ac b y_S_cut c_S_cut 2 (some .int) 0 0 [.ref o, .int v] X (some (.int (cutV (X o 1) v))) X := by
  refine Ct_of false (by decide) (fun h => by cases h) (Nat.le_of_ble_eq_true rfl) ?_
  show V l D ac b "SpanStore$Sheet" c_S_cut 2 (some .int) false 0 0 0 0 ((some (.int (cutV (X o 1) v))), 144, mk X) 0 0 0 [(0, .ref o), (1, .int v)] [] 144 (mk X)
  by_cases h0 : X o 1 = 0
  · skip
    refine s_aload_n (q := 1) d_S_cut_0 rfl rfl (Or.inr ⟨_, rfl⟩) ?_
    refine g_geti (q := 4) d_S_cut_1 rfl fl_S_25 hS.1 rfl ?_
    refine s_ls (tgt := 32) d_S_cut_4 (by decide) (by rw [h0]) (by decide) ?_
    refine s_iload_n (q := 33) d_S_cut_32 rfl rfl ?_
    refine s_i2b (q := 34) d_S_cut_33 rfl ?_
    exact g_iret d_S_cut_34 rfl rfl (by simp [cutV, h0]) rfl
  by_cases h1 : X o 1 = 1
  · skip
    refine s_aload_n (q := 1) d_S_cut_0 rfl rfl (Or.inr ⟨_, rfl⟩) ?_
    refine g_geti (q := 4) d_S_cut_1 rfl fl_S_25 hS.1 rfl ?_
    refine s_ls (tgt := 35) d_S_cut_4 (by decide) (by rw [h1]) (by decide) ?_
    refine s_iload_n (q := 36) d_S_cut_35 rfl rfl ?_
    refine s_i2s (q := 37) d_S_cut_36 rfl ?_
    exact g_iret d_S_cut_37 rfl rfl (by simp [cutV, h1]) rfl
  · skip
    refine s_aload_n (q := 1) d_S_cut_0 rfl rfl (Or.inr ⟨_, rfl⟩) ?_
    refine g_geti (q := 4) d_S_cut_1 rfl fl_S_25 hS.1 rfl ?_
    refine s_ls (tgt := 38) d_S_cut_4 (by decide) (by simp [Op.lookupswitch.offset]; rw [if_neg (fun h => h0 ((i_eq _ _).mpr h.symm)), if_neg (fun h => h1 ((i_eq _ _).mpr h.symm))]) (by decide) ?_
    refine s_iload_n (q := 39) d_S_cut_38 rfl rfl ?_
    exact g_iret d_S_cut_39 rfl rfl (by simp [cutV, h0, h1]) rfl
theorem t_S_store {X : RAM} {o k n : Nat} {v : Int32} (hS : isS o) (hsz : X o 2 = nI n) (hk : k < n) (hn : n ≤ 40) : CG l D ac b y_S_store c_S_store 3 none 1 21 [.ref o, .int (nI k), .int v] X (none) (up2 X (o + 1) k (cutV (X o 1) v)) := by
  refine Ct_of false (by decide) (fun h => by cases h) (Nat.le_of_ble_eq_true rfl) ?_
  show V l D ac b "SpanStore$Sheet" c_S_store 3 none false 1 21 0 0 ((none), 144, mk (up2 X (o + 1) k (cutV (X o 1) v))) 0 0 0 [(0, .ref o), (1, .int (nI k)), (2, .int v)] [] 144 (mk X)
  refine s_iload_n (q := 1) d_S_store_0 rfl rfl ?_
  refine s_if_lt (tgt := 23) (q := 4) d_S_store_1 (by decide) rfl (fun z9 => absurd z9 (nI_pos (by omega))) (fun _ => ?_)
  refine s_iload_n (q := 5) d_S_store_4 rfl rfl ?_
  refine s_aload_n (q := 6) d_S_store_5 rfl rfl (Or.inr ⟨_, rfl⟩) ?_
  refine g_geti (q := 9) d_S_store_6 rfl fl_S_29 hS.1 rfl ?_
  refine s_icmp_ge (tgt := 23) (q := 12) d_S_store_9 (by decide) rfl (fun z9 => absurd z9 (by rw [hsz]; exact nI_ge hk (by omega))) (fun _ => ?_)
  refine s_aload_n (q := 13) d_S_store_12 rfl rfl (Or.inr ⟨_, rfl⟩) ?_
  refine g_getr (q := 16) d_S_store_13 rfl fl_S_9 hS.1 rfl ?_
  refine s_iload_n (q := 17) d_S_store_16 rfl rfl ?_
  refine s_aload_n (q := 18) d_S_store_17 rfl rfl (Or.inr ⟨_, rfl⟩) ?_
  refine s_iload_n (q := 19) d_S_store_18 rfl rfl ?_
  refine g_callV (q := 22) d_S_store_19 rfl ml_S_32 mx_S_cut mv_S_cut (t_S_cut hS) hS.1 rfl rfl (Nat.le_of_ble_eq_true rfl) (by decide) ?_
  refine g_iast (q := 23) d_S_store_22 rfl hS.2 (by omega) rfl (by omega) ?_
  exact g_ret d_S_store_23 rfl rfl
theorem t_K_become {X : RAM} {o : Nat} {kd a c : Int32} (hK : isK o) : CG l D ac b y_K_become c_K_become 4 none 0 0 [.ref o, .int kd, .int a, .int c] X (none) (up2 (up2 (up2 X o 0 kd) o 1 a) o 2 c) := by
  refine Ct_of false (by decide) (fun h => by cases h) (Nat.le_of_ble_eq_true rfl) ?_
  show V l D ac b "SpanStore$Keeper" c_K_become 4 none false 0 0 0 0 ((none), 144, mk (up2 (up2 (up2 X o 0 kd) o 1 a) o 2 c)) 0 0 0 [(0, .ref o), (1, .int kd), (2, .int a), (3, .int c)] [] 144 (mk X)
  refine s_aload_n (q := 1) d_K_become_0 rfl rfl (Or.inr ⟨_, rfl⟩) ?_
  refine s_iload_n (q := 2) d_K_become_1 rfl rfl ?_
  refine g_puti (q := 5) d_K_become_2 rfl fl_K_9 rfl (okV_int _) hK rfl ?_
  refine s_aload_n (q := 6) d_K_become_5 rfl rfl (Or.inr ⟨_, rfl⟩) ?_
  refine s_iload_n (q := 7) d_K_become_6 rfl rfl ?_
  refine g_puti (q := 10) d_K_become_7 rfl fl_K_15 rfl (okV_int _) hK rfl ?_
  refine s_aload_n (q := 11) d_K_become_10 rfl rfl (Or.inr ⟨_, rfl⟩) ?_
  refine s_iload_n (q := 12) d_K_become_11 rfl rfl ?_
  refine g_puti (q := 15) d_K_become_12 rfl fl_K_18 rfl (okV_int _) hK rfl ?_
  exact g_ret d_K_become_15 rfl rfl
def inV (v a c : Int32) : Prop := a ≤ v ∧ v ≤ c
theorem t_C_isValue {X : RAM} {v : Int32} : CG l D ac b y_C_isValue c_C_isValue 1 (some .boolean) 0 0 [.int v] X (some (.int (bI (decide ((-1000) ≤ v ∧ v ≤ 1000))))) (X) := by
  refine Ct_of false (by decide) (fun h => by cases h) (Nat.le_of_ble_eq_true rfl) ?_
  show V l D ac b "SpanStore" c_C_isValue 1 (some .boolean) false 0 0 0 0 ((some (.int (bI (decide ((-1000) ≤ v ∧ v ≤ 1000))))), 144, mk (X)) 0 0 0 [(0, .int v)] [] 144 (mk X)
  refine s_iload_n (q := 1) d_C_isValue_0 rfl rfl ?_
  refine s_sipush (v := (-1000)) (q := 4) d_C_isValue_1 rfl kh_m1000 ?_
  refine s_icmp_lt (tgt := 18) (q := 7) d_C_isValue_4 (by decide) rfl (fun h_4 => ?_) (fun h_4 => ?_)
  · -- T 4
    refine s_iconst (v := 0) (q := 19) d_C_isValue_18 rfl ki_0 ?_
    exact g_iret d_C_isValue_19 rfl rfl (by first | exact bI_is1 (by (try simp only [bI_d, bI_dn, strV, remI] at *); simp only [i_le, i_lt, i_eq, tI_0, tI_1, tI_2, tI_3, tI_4, tI_7, tI_8, tI_10, tI_12, tI_13, tI_14, tI_40, tI_99, tI_100, tI_1000, tI_m1000, tI_m1, tI_mil] at *; omega) | exact bI_is0 (by (try simp only [bI_d, bI_dn, strV, remI] at *); simp only [i_le, i_lt, i_eq, tI_0, tI_1, tI_2, tI_3, tI_4, tI_7, tI_8, tI_10, tI_12, tI_13, tI_14, tI_40, tI_99, tI_100, tI_1000, tI_m1000, tI_m1, tI_mil] at *; omega)) rfl
  · -- F 4
    refine s_iload_n (q := 8) d_C_isValue_7 rfl rfl ?_
    refine s_sipush (v := 1000) (q := 11) d_C_isValue_8 rfl kh_1000 ?_
    refine s_icmp_gt (tgt := 18) (q := 14) d_C_isValue_11 (by decide) rfl (fun h_11 => ?_) (fun h_11 => ?_)
    · -- T 11
      refine s_iconst (v := 0) (q := 19) d_C_isValue_18 rfl ki_0 ?_
      exact g_iret d_C_isValue_19 rfl rfl (by first | exact bI_is1 (by (try simp only [bI_d, bI_dn, strV, remI] at *); simp only [i_le, i_lt, i_eq, tI_0, tI_1, tI_2, tI_3, tI_4, tI_7, tI_8, tI_10, tI_12, tI_13, tI_14, tI_40, tI_99, tI_100, tI_1000, tI_m1000, tI_m1, tI_mil] at *; omega) | exact bI_is0 (by (try simp only [bI_d, bI_dn, strV, remI] at *); simp only [i_le, i_lt, i_eq, tI_0, tI_1, tI_2, tI_3, tI_4, tI_7, tI_8, tI_10, tI_12, tI_13, tI_14, tI_40, tI_99, tI_100, tI_1000, tI_m1000, tI_m1, tI_mil] at *; omega)) rfl
    · -- F 11
      refine s_iconst (v := 1) (q := 15) d_C_isValue_14 rfl ki_1 ?_
      refine s_goto (tgt := 19) d_C_isValue_15 (by decide) ?_
      exact g_iret d_C_isValue_19 rfl rfl (by first | exact bI_is1 (by (try simp only [bI_d, bI_dn, strV, remI] at *); simp only [i_le, i_lt, i_eq, tI_0, tI_1, tI_2, tI_3, tI_4, tI_7, tI_8, tI_10, tI_12, tI_13, tI_14, tI_40, tI_99, tI_100, tI_1000, tI_m1000, tI_m1, tI_mil] at *; omega) | exact bI_is0 (by (try simp only [bI_d, bI_dn, strV, remI] at *); simp only [i_le, i_lt, i_eq, tI_0, tI_1, tI_2, tI_3, tI_4, tI_7, tI_8, tI_10, tI_12, tI_13, tI_14, tI_40, tI_99, tI_100, tI_1000, tI_m1000, tI_m1, tI_mil] at *; omega)) rfl
theorem t_C_isRow {X : RAM} {k g v : Int32} : CG l D ac b y_C_isRow c_C_isRow 3 (some .boolean) 1 20 [.int k, .int g, .int v] X (some (.int (bI (decide ((¬ k < 0 ∧ k < 100) ∧ (¬ g < 0 ∧ g < 4) ∧ (-1000) ≤ v ∧ v ≤ 1000))))) (X) := by
  refine Ct_of false (by decide) (fun h => by cases h) (Nat.le_of_ble_eq_true rfl) ?_
  show V l D ac b "SpanStore" c_C_isRow 3 (some .boolean) false 1 20 0 0 ((some (.int (bI (decide ((¬ k < 0 ∧ k < 100) ∧ (¬ g < 0 ∧ g < 4) ∧ (-1000) ≤ v ∧ v ≤ 1000))))), 144, mk (X)) 0 0 0 [(0, .int k), (1, .int g), (2, .int v)] [] 144 (mk X)
  refine s_iload_n (q := 1) d_C_isRow_0 rfl rfl ?_
  refine s_if_lt (tgt := 30) (q := 4) d_C_isRow_1 (by decide) rfl (fun h_1 => ?_) (fun h_1 => ?_)
  · -- T 1
    refine s_iconst (v := 0) (q := 31) d_C_isRow_30 rfl ki_0 ?_
    exact g_iret d_C_isRow_31 rfl rfl (by first | exact bI_is1 (by (try simp only [bI_d, bI_dn, strV, remI] at *); simp only [i_le, i_lt, i_eq, tI_0, tI_1, tI_2, tI_3, tI_4, tI_7, tI_8, tI_10, tI_12, tI_13, tI_14, tI_40, tI_99, tI_100, tI_1000, tI_m1000, tI_m1, tI_mil] at *; omega) | exact bI_is0 (by (try simp only [bI_d, bI_dn, strV, remI] at *); simp only [i_le, i_lt, i_eq, tI_0, tI_1, tI_2, tI_3, tI_4, tI_7, tI_8, tI_10, tI_12, tI_13, tI_14, tI_40, tI_99, tI_100, tI_1000, tI_m1000, tI_m1, tI_mil] at *; omega)) rfl
  · -- F 1
    refine s_iload_n (q := 5) d_C_isRow_4 rfl rfl ?_
    refine s_bipush (v := 100) (q := 7) d_C_isRow_5 rfl kb_100 ?_
    refine s_icmp_ge (tgt := 30) (q := 10) d_C_isRow_7 (by decide) rfl (fun h_7 => ?_) (fun h_7 => ?_)
    · -- T 7
      refine s_iconst (v := 0) (q := 31) d_C_isRow_30 rfl ki_0 ?_
      exact g_iret d_C_isRow_31 rfl rfl (by first | exact bI_is1 (by (try simp only [bI_d, bI_dn, strV, remI] at *); simp only [i_le, i_lt, i_eq, tI_0, tI_1, tI_2, tI_3, tI_4, tI_7, tI_8, tI_10, tI_12, tI_13, tI_14, tI_40, tI_99, tI_100, tI_1000, tI_m1000, tI_m1, tI_mil] at *; omega) | exact bI_is0 (by (try simp only [bI_d, bI_dn, strV, remI] at *); simp only [i_le, i_lt, i_eq, tI_0, tI_1, tI_2, tI_3, tI_4, tI_7, tI_8, tI_10, tI_12, tI_13, tI_14, tI_40, tI_99, tI_100, tI_1000, tI_m1000, tI_m1, tI_mil] at *; omega)) rfl
    · -- F 7
      refine s_iload_n (q := 11) d_C_isRow_10 rfl rfl ?_
      refine s_if_lt (tgt := 30) (q := 14) d_C_isRow_11 (by decide) rfl (fun h_11 => ?_) (fun h_11 => ?_)
      · -- T 11
        refine s_iconst (v := 0) (q := 31) d_C_isRow_30 rfl ki_0 ?_
        exact g_iret d_C_isRow_31 rfl rfl (by first | exact bI_is1 (by (try simp only [bI_d, bI_dn, strV, remI] at *); simp only [i_le, i_lt, i_eq, tI_0, tI_1, tI_2, tI_3, tI_4, tI_7, tI_8, tI_10, tI_12, tI_13, tI_14, tI_40, tI_99, tI_100, tI_1000, tI_m1000, tI_m1, tI_mil] at *; omega) | exact bI_is0 (by (try simp only [bI_d, bI_dn, strV, remI] at *); simp only [i_le, i_lt, i_eq, tI_0, tI_1, tI_2, tI_3, tI_4, tI_7, tI_8, tI_10, tI_12, tI_13, tI_14, tI_40, tI_99, tI_100, tI_1000, tI_m1000, tI_m1, tI_mil] at *; omega)) rfl
      · -- F 11
        refine s_iload_n (q := 15) d_C_isRow_14 rfl rfl ?_
        refine s_iconst (v := 4) (q := 16) d_C_isRow_15 rfl ki_4 ?_
        refine s_icmp_ge (tgt := 30) (q := 19) d_C_isRow_16 (by decide) rfl (fun h_16 => ?_) (fun h_16 => ?_)
        · -- T 16
          refine s_iconst (v := 0) (q := 31) d_C_isRow_30 rfl ki_0 ?_
          exact g_iret d_C_isRow_31 rfl rfl (by first | exact bI_is1 (by (try simp only [bI_d, bI_dn, strV, remI] at *); simp only [i_le, i_lt, i_eq, tI_0, tI_1, tI_2, tI_3, tI_4, tI_7, tI_8, tI_10, tI_12, tI_13, tI_14, tI_40, tI_99, tI_100, tI_1000, tI_m1000, tI_m1, tI_mil] at *; omega) | exact bI_is0 (by (try simp only [bI_d, bI_dn, strV, remI] at *); simp only [i_le, i_lt, i_eq, tI_0, tI_1, tI_2, tI_3, tI_4, tI_7, tI_8, tI_10, tI_12, tI_13, tI_14, tI_40, tI_99, tI_100, tI_1000, tI_m1000, tI_m1, tI_mil] at *; omega)) rfl
        · -- F 16
          refine s_iload_n (q := 20) d_C_isRow_19 rfl rfl ?_
          refine g_callS (q := 23) d_C_isRow_20 rfl ml_C_98 mx_C_isValue ms_C_isValue t_C_isValue rfl rfl (Nat.le_of_ble_eq_true rfl) (by decide) ?_
          refine s_if_eq (tgt := 30) (q := 26) d_C_isRow_23 (by decide) rfl (fun h_23 => ?_) (fun h_23 => ?_)
          · -- T 23
            rw [bI_d] at h_23
            refine s_iconst (v := 0) (q := 31) d_C_isRow_30 rfl ki_0 ?_
            exact g_iret d_C_isRow_31 rfl rfl (by first | exact bI_is1 (by (try simp only [bI_d, bI_dn, strV, remI] at *); simp only [i_le, i_lt, i_eq, tI_0, tI_1, tI_2, tI_3, tI_4, tI_7, tI_8, tI_10, tI_12, tI_13, tI_14, tI_40, tI_99, tI_100, tI_1000, tI_m1000, tI_m1, tI_mil] at *; omega) | exact bI_is0 (by (try simp only [bI_d, bI_dn, strV, remI] at *); simp only [i_le, i_lt, i_eq, tI_0, tI_1, tI_2, tI_3, tI_4, tI_7, tI_8, tI_10, tI_12, tI_13, tI_14, tI_40, tI_99, tI_100, tI_1000, tI_m1000, tI_m1, tI_mil] at *; omega)) rfl
          · -- F 23
            rw [bI_dn] at h_23
            refine s_iconst (v := 1) (q := 27) d_C_isRow_26 rfl ki_1 ?_
            refine s_goto (tgt := 31) d_C_isRow_27 (by decide) ?_
            exact g_iret d_C_isRow_31 rfl rfl (by first | exact bI_is1 (by (try simp only [bI_d, bI_dn, strV, remI] at *); simp only [i_le, i_lt, i_eq, tI_0, tI_1, tI_2, tI_3, tI_4, tI_7, tI_8, tI_10, tI_12, tI_13, tI_14, tI_40, tI_99, tI_100, tI_1000, tI_m1000, tI_m1, tI_mil] at *; omega) | exact bI_is0 (by (try simp only [bI_d, bI_dn, strV, remI] at *); simp only [i_le, i_lt, i_eq, tI_0, tI_1, tI_2, tI_3, tI_4, tI_7, tI_8, tI_10, tI_12, tI_13, tI_14, tI_40, tI_99, tI_100, tI_1000, tI_m1000, tI_m1, tI_mil] at *; omega)) rfl
theorem t_C_isModulus {X : RAM} {a c : Int32} : CG l D ac b y_C_isModulus c_C_isModulus 2 (some .boolean) 0 0 [.int a, .int c] X (some (.int (bI (decide ((1 ≤ a ∧ a ≤ 100) ∧ ¬ c < 0 ∧ c < a))))) (X) := by
  refine Ct_of false (by decide) (fun h => by cases h) (Nat.le_of_ble_eq_true rfl) ?_
  show V l D ac b "SpanStore" c_C_isModulus 2 (some .boolean) false 0 0 0 0 ((some (.int (bI (decide ((1 ≤ a ∧ a ≤ 100) ∧ ¬ c < 0 ∧ c < a))))), 144, mk (X)) 0 0 0 [(0, .int a), (1, .int c)] [] 144 (mk X)
  refine s_iload_n (q := 1) d_C_isModulus_0 rfl rfl ?_
  refine s_iconst (v := 1) (q := 2) d_C_isModulus_1 rfl ki_1 ?_
  refine s_icmp_lt (tgt := 24) (q := 5) d_C_isModulus_2 (by decide) rfl (fun h_2 => ?_) (fun h_2 => ?_)
  · -- T 2
    refine s_iconst (v := 0) (q := 25) d_C_isModulus_24 rfl ki_0 ?_
    exact g_iret d_C_isModulus_25 rfl rfl (by first | exact bI_is1 (by (try simp only [bI_d, bI_dn, strV, remI] at *); simp only [i_le, i_lt, i_eq, tI_0, tI_1, tI_2, tI_3, tI_4, tI_7, tI_8, tI_10, tI_12, tI_13, tI_14, tI_40, tI_99, tI_100, tI_1000, tI_m1000, tI_m1, tI_mil] at *; omega) | exact bI_is0 (by (try simp only [bI_d, bI_dn, strV, remI] at *); simp only [i_le, i_lt, i_eq, tI_0, tI_1, tI_2, tI_3, tI_4, tI_7, tI_8, tI_10, tI_12, tI_13, tI_14, tI_40, tI_99, tI_100, tI_1000, tI_m1000, tI_m1, tI_mil] at *; omega)) rfl
  · -- F 2
    refine s_iload_n (q := 6) d_C_isModulus_5 rfl rfl ?_
    refine s_bipush (v := 100) (q := 8) d_C_isModulus_6 rfl kb_100 ?_
    refine s_icmp_gt (tgt := 24) (q := 11) d_C_isModulus_8 (by decide) rfl (fun h_8 => ?_) (fun h_8 => ?_)
    · -- T 8
      refine s_iconst (v := 0) (q := 25) d_C_isModulus_24 rfl ki_0 ?_
      exact g_iret d_C_isModulus_25 rfl rfl (by first | exact bI_is1 (by (try simp only [bI_d, bI_dn, strV, remI] at *); simp only [i_le, i_lt, i_eq, tI_0, tI_1, tI_2, tI_3, tI_4, tI_7, tI_8, tI_10, tI_12, tI_13, tI_14, tI_40, tI_99, tI_100, tI_1000, tI_m1000, tI_m1, tI_mil] at *; omega) | exact bI_is0 (by (try simp only [bI_d, bI_dn, strV, remI] at *); simp only [i_le, i_lt, i_eq, tI_0, tI_1, tI_2, tI_3, tI_4, tI_7, tI_8, tI_10, tI_12, tI_13, tI_14, tI_40, tI_99, tI_100, tI_1000, tI_m1000, tI_m1, tI_mil] at *; omega)) rfl
    · -- F 8
      refine s_iload_n (q := 12) d_C_isModulus_11 rfl rfl ?_
      refine s_if_lt (tgt := 24) (q := 15) d_C_isModulus_12 (by decide) rfl (fun h_12 => ?_) (fun h_12 => ?_)
      · -- T 12
        refine s_iconst (v := 0) (q := 25) d_C_isModulus_24 rfl ki_0 ?_
        exact g_iret d_C_isModulus_25 rfl rfl (by first | exact bI_is1 (by (try simp only [bI_d, bI_dn, strV, remI] at *); simp only [i_le, i_lt, i_eq, tI_0, tI_1, tI_2, tI_3, tI_4, tI_7, tI_8, tI_10, tI_12, tI_13, tI_14, tI_40, tI_99, tI_100, tI_1000, tI_m1000, tI_m1, tI_mil] at *; omega) | exact bI_is0 (by (try simp only [bI_d, bI_dn, strV, remI] at *); simp only [i_le, i_lt, i_eq, tI_0, tI_1, tI_2, tI_3, tI_4, tI_7, tI_8, tI_10, tI_12, tI_13, tI_14, tI_40, tI_99, tI_100, tI_1000, tI_m1000, tI_m1, tI_mil] at *; omega)) rfl
      · -- F 12
        refine s_iload_n (q := 16) d_C_isModulus_15 rfl rfl ?_
        refine s_iload_n (q := 17) d_C_isModulus_16 rfl rfl ?_
        refine s_icmp_ge (tgt := 24) (q := 20) d_C_isModulus_17 (by decide) rfl (fun h_17 => ?_) (fun h_17 => ?_)
        · -- T 17
          refine s_iconst (v := 0) (q := 25) d_C_isModulus_24 rfl ki_0 ?_
          exact g_iret d_C_isModulus_25 rfl rfl (by first | exact bI_is1 (by (try simp only [bI_d, bI_dn, strV, remI] at *); simp only [i_le, i_lt, i_eq, tI_0, tI_1, tI_2, tI_3, tI_4, tI_7, tI_8, tI_10, tI_12, tI_13, tI_14, tI_40, tI_99, tI_100, tI_1000, tI_m1000, tI_m1, tI_mil] at *; omega) | exact bI_is0 (by (try simp only [bI_d, bI_dn, strV, remI] at *); simp only [i_le, i_lt, i_eq, tI_0, tI_1, tI_2, tI_3, tI_4, tI_7, tI_8, tI_10, tI_12, tI_13, tI_14, tI_40, tI_99, tI_100, tI_1000, tI_m1000, tI_m1, tI_mil] at *; omega)) rfl
        · -- F 17
          refine s_iconst (v := 1) (q := 21) d_C_isModulus_20 rfl ki_1 ?_
          refine s_goto (tgt := 25) d_C_isModulus_21 (by decide) ?_
          exact g_iret d_C_isModulus_25 rfl rfl (by first | exact bI_is1 (by (try simp only [bI_d, bI_dn, strV, remI] at *); simp only [i_le, i_lt, i_eq, tI_0, tI_1, tI_2, tI_3, tI_4, tI_7, tI_8, tI_10, tI_12, tI_13, tI_14, tI_40, tI_99, tI_100, tI_1000, tI_m1000, tI_m1, tI_mil] at *; omega) | exact bI_is0 (by (try simp only [bI_d, bI_dn, strV, remI] at *); simp only [i_le, i_lt, i_eq, tI_0, tI_1, tI_2, tI_3, tI_4, tI_7, tI_8, tI_10, tI_12, tI_13, tI_14, tI_40, tI_99, tI_100, tI_1000, tI_m1000, tI_m1, tI_mil] at *; omega)) rfl
def remI (x y : Int32) : Int32 := x - x / y * y
theorem t_C_isCongruent {X : RAM} {k a c : Int32} : CG l D ac b y_C_isCongruent c_C_isCongruent 3 (some .boolean) 0 0 [.int k, .int a, .int c] X (some (.int (bI (decide (0 < a ∧ remI k a = c))))) (X) := by
  refine Ct_of false (by decide) (fun h => by cases h) (Nat.le_of_ble_eq_true rfl) ?_
  show V l D ac b "SpanStore" c_C_isCongruent 3 (some .boolean) false 0 0 0 0 ((some (.int (bI (decide (0 < a ∧ remI k a = c))))), 144, mk (X)) 0 0 0 [(0, .int k), (1, .int a), (2, .int c)] [] 144 (mk X)
  refine s_iload_n (q := 1) d_C_isCongruent_0 rfl rfl ?_
  refine s_if_le (tgt := 15) (q := 4) d_C_isCongruent_1 (by decide) rfl (fun h_1 => ?_) (fun h_1 => ?_)
  · -- T 1
    refine s_iconst (v := 0) (q := 16) d_C_isCongruent_15 rfl ki_0 ?_
    exact g_iret d_C_isCongruent_16 rfl rfl (by first | exact bI_is1 (by (try simp only [bI_d, bI_dn, strV, remI] at *); simp only [i_le, i_lt, i_eq, tI_0, tI_1, tI_2, tI_3, tI_4, tI_7, tI_8, tI_10, tI_12, tI_13, tI_14, tI_40, tI_99, tI_100, tI_1000, tI_m1000, tI_m1, tI_mil] at *; omega) | exact bI_is0 (by (try simp only [bI_d, bI_dn, strV, remI] at *); simp only [i_le, i_lt, i_eq, tI_0, tI_1, tI_2, tI_3, tI_4, tI_7, tI_8, tI_10, tI_12, tI_13, tI_14, tI_40, tI_99, tI_100, tI_1000, tI_m1000, tI_m1, tI_mil] at *; omega)) rfl
  · -- F 1
    refine s_iload_n (q := 5) d_C_isCongruent_4 rfl rfl ?_
    refine s_iload_n (q := 6) d_C_isCongruent_5 rfl rfl ?_
    refine s_irem (q := 7) d_C_isCongruent_6 rfl (fun z => by rw [z] at h_1; exact h_1 (by decide)) ?_
    refine s_iload_n (q := 8) d_C_isCongruent_7 rfl rfl ?_
    refine s_icmp_ne (tgt := 15) (q := 11) d_C_isCongruent_8 (by decide) rfl (fun h_8 => ?_) (fun h_8 => ?_)
    · -- T 8
      refine s_iconst (v := 0) (q := 16) d_C_isCongruent_15 rfl ki_0 ?_
      exact g_iret d_C_isCongruent_16 rfl rfl (by first | exact bI_is1 (by (try simp only [bI_d, bI_dn, strV, remI] at *); simp only [i_le, i_lt, i_eq, tI_0, tI_1, tI_2, tI_3, tI_4, tI_7, tI_8, tI_10, tI_12, tI_13, tI_14, tI_40, tI_99, tI_100, tI_1000, tI_m1000, tI_m1, tI_mil] at *; omega) | exact bI_is0 (by (try simp only [bI_d, bI_dn, strV, remI] at *); simp only [i_le, i_lt, i_eq, tI_0, tI_1, tI_2, tI_3, tI_4, tI_7, tI_8, tI_10, tI_12, tI_13, tI_14, tI_40, tI_99, tI_100, tI_1000, tI_m1000, tI_m1, tI_mil] at *; omega)) rfl
    · -- F 8
      refine s_iconst (v := 1) (q := 12) d_C_isCongruent_11 rfl ki_1 ?_
      refine s_goto (tgt := 16) d_C_isCongruent_12 (by decide) ?_
      exact g_iret d_C_isCongruent_16 rfl rfl (by first | exact bI_is1 (by (try simp only [bI_d, bI_dn, strV, remI] at *); simp only [i_le, i_lt, i_eq, tI_0, tI_1, tI_2, tI_3, tI_4, tI_7, tI_8, tI_10, tI_12, tI_13, tI_14, tI_40, tI_99, tI_100, tI_1000, tI_m1000, tI_m1, tI_mil] at *; omega) | exact bI_is0 (by (try simp only [bI_d, bI_dn, strV, remI] at *); simp only [i_le, i_lt, i_eq, tI_0, tI_1, tI_2, tI_3, tI_4, tI_7, tI_8, tI_10, tI_12, tI_13, tI_14, tI_40, tI_99, tI_100, tI_1000, tI_m1000, tI_m1, tI_mil] at *; omega)) rfl
theorem t_C_isGroupOrAll {X : RAM} {g : Int32} : CG l D ac b y_C_isGroupOrAll c_C_isGroupOrAll 1 (some .boolean) 0 0 [.int g] X (some (.int (bI (decide ((-1) ≤ g ∧ g < 4))))) (X) := by
  refine Ct_of false (by decide) (fun h => by cases h) (Nat.le_of_ble_eq_true rfl) ?_
  show V l D ac b "SpanStore" c_C_isGroupOrAll 1 (some .boolean) false 0 0 0 0 ((some (.int (bI (decide ((-1) ≤ g ∧ g < 4))))), 144, mk (X)) 0 0 0 [(0, .int g)] [] 144 (mk X)
  refine s_iload_n (q := 1) d_C_isGroupOrAll_0 rfl rfl ?_
  refine s_iconst (v := (-1)) (q := 2) d_C_isGroupOrAll_1 rfl ki_m1 ?_
  refine s_icmp_lt (tgt := 14) (q := 5) d_C_isGroupOrAll_2 (by decide) rfl (fun h_2 => ?_) (fun h_2 => ?_)
  · -- T 2
    refine s_iconst (v := 0) (q := 15) d_C_isGroupOrAll_14 rfl ki_0 ?_
    exact g_iret d_C_isGroupOrAll_15 rfl rfl (by first | exact bI_is1 (by (try simp only [bI_d, bI_dn, strV, remI] at *); simp only [i_le, i_lt, i_eq, tI_0, tI_1, tI_2, tI_3, tI_4, tI_7, tI_8, tI_10, tI_12, tI_13, tI_14, tI_40, tI_99, tI_100, tI_1000, tI_m1000, tI_m1, tI_mil] at *; omega) | exact bI_is0 (by (try simp only [bI_d, bI_dn, strV, remI] at *); simp only [i_le, i_lt, i_eq, tI_0, tI_1, tI_2, tI_3, tI_4, tI_7, tI_8, tI_10, tI_12, tI_13, tI_14, tI_40, tI_99, tI_100, tI_1000, tI_m1000, tI_m1, tI_mil] at *; omega)) rfl
  · -- F 2
    refine s_iload_n (q := 6) d_C_isGroupOrAll_5 rfl rfl ?_
    refine s_iconst (v := 4) (q := 7) d_C_isGroupOrAll_6 rfl ki_4 ?_
    refine s_icmp_ge (tgt := 14) (q := 10) d_C_isGroupOrAll_7 (by decide) rfl (fun h_7 => ?_) (fun h_7 => ?_)
    · -- T 7
      refine s_iconst (v := 0) (q := 15) d_C_isGroupOrAll_14 rfl ki_0 ?_
      exact g_iret d_C_isGroupOrAll_15 rfl rfl (by first | exact bI_is1 (by (try simp only [bI_d, bI_dn, strV, remI] at *); simp only [i_le, i_lt, i_eq, tI_0, tI_1, tI_2, tI_3, tI_4, tI_7, tI_8, tI_10, tI_12, tI_13, tI_14, tI_40, tI_99, tI_100, tI_1000, tI_m1000, tI_m1, tI_mil] at *; omega) | exact bI_is0 (by (try simp only [bI_d, bI_dn, strV, remI] at *); simp only [i_le, i_lt, i_eq, tI_0, tI_1, tI_2, tI_3, tI_4, tI_7, tI_8, tI_10, tI_12, tI_13, tI_14, tI_40, tI_99, tI_100, tI_1000, tI_m1000, tI_m1, tI_mil] at *; omega)) rfl
    · -- F 7
      refine s_iconst (v := 1) (q := 11) d_C_isGroupOrAll_10 rfl ki_1 ?_
      refine s_goto (tgt := 15) d_C_isGroupOrAll_11 (by decide) ?_
      exact g_iret d_C_isGroupOrAll_15 rfl rfl (by first | exact bI_is1 (by (try simp only [bI_d, bI_dn, strV, remI] at *); simp only [i_le, i_lt, i_eq, tI_0, tI_1, tI_2, tI_3, tI_4, tI_7, tI_8, tI_10, tI_12, tI_13, tI_14, tI_40, tI_99, tI_100, tI_1000, tI_m1000, tI_m1, tI_mil] at *; omega) | exact bI_is0 (by (try simp only [bI_d, bI_dn, strV, remI] at *); simp only [i_le, i_lt, i_eq, tI_0, tI_1, tI_2, tI_3, tI_4, tI_7, tI_8, tI_10, tI_12, tI_13, tI_14, tI_40, tI_99, tI_100, tI_1000, tI_m1000, tI_m1, tI_mil] at *; omega)) rfl
theorem t_C_isEnd {X : RAM} {e : Int32} : CG l D ac b y_C_isEnd c_C_isEnd 1 (some .boolean) 0 0 [.int e] X (some (.int (bI (decide (e = 0 ∨ e = 1))))) (X) := by
  refine Ct_of false (by decide) (fun h => by cases h) (Nat.le_of_ble_eq_true rfl) ?_
  show V l D ac b "SpanStore" c_C_isEnd 1 (some .boolean) false 0 0 0 0 ((some (.int (bI (decide (e = 0 ∨ e = 1))))), 144, mk (X)) 0 0 0 [(0, .int e)] [] 144 (mk X)
  refine s_iload_n (q := 1) d_C_isEnd_0 rfl rfl ?_
  refine s_if_eq (tgt := 9) (q := 4) d_C_isEnd_1 (by decide) rfl (fun h_1 => ?_) (fun h_1 => ?_)
  · -- T 1
    refine s_iconst (v := 1) (q := 10) d_C_isEnd_9 rfl ki_1 ?_
    refine s_goto (tgt := 14) d_C_isEnd_10 (by decide) ?_
    exact g_iret d_C_isEnd_14 rfl rfl (by first | exact bI_is1 (by (try simp only [bI_d, bI_dn, strV, remI] at *); simp only [i_le, i_lt, i_eq, tI_0, tI_1, tI_2, tI_3, tI_4, tI_7, tI_8, tI_10, tI_12, tI_13, tI_14, tI_40, tI_99, tI_100, tI_1000, tI_m1000, tI_m1, tI_mil] at *; omega) | exact bI_is0 (by (try simp only [bI_d, bI_dn, strV, remI] at *); simp only [i_le, i_lt, i_eq, tI_0, tI_1, tI_2, tI_3, tI_4, tI_7, tI_8, tI_10, tI_12, tI_13, tI_14, tI_40, tI_99, tI_100, tI_1000, tI_m1000, tI_m1, tI_mil] at *; omega)) rfl
  · -- F 1
    refine s_iload_n (q := 5) d_C_isEnd_4 rfl rfl ?_
    refine s_iconst (v := 1) (q := 6) d_C_isEnd_5 rfl ki_1 ?_
    refine s_icmp_ne (tgt := 13) (q := 9) d_C_isEnd_6 (by decide) rfl (fun h_6 => ?_) (fun h_6 => ?_)
    · -- T 6
      refine s_iconst (v := 0) (q := 14) d_C_isEnd_13 rfl ki_0 ?_
      exact g_iret d_C_isEnd_14 rfl rfl (by first | exact bI_is1 (by (try simp only [bI_d, bI_dn, strV, remI] at *); simp only [i_le, i_lt, i_eq, tI_0, tI_1, tI_2, tI_3, tI_4, tI_7, tI_8, tI_10, tI_12, tI_13, tI_14, tI_40, tI_99, tI_100, tI_1000, tI_m1000, tI_m1, tI_mil] at *; omega) | exact bI_is0 (by (try simp only [bI_d, bI_dn, strV, remI] at *); simp only [i_le, i_lt, i_eq, tI_0, tI_1, tI_2, tI_3, tI_4, tI_7, tI_8, tI_10, tI_12, tI_13, tI_14, tI_40, tI_99, tI_100, tI_1000, tI_m1000, tI_m1, tI_mil] at *; omega)) rfl
    · -- F 6
      refine s_iconst (v := 1) (q := 10) d_C_isEnd_9 rfl ki_1 ?_
      refine s_goto (tgt := 14) d_C_isEnd_10 (by decide) ?_
      exact g_iret d_C_isEnd_14 rfl rfl (by first | exact bI_is1 (by (try simp only [bI_d, bI_dn, strV, remI] at *); simp only [i_le, i_lt, i_eq, tI_0, tI_1, tI_2, tI_3, tI_4, tI_7, tI_8, tI_10, tI_12, tI_13, tI_14, tI_40, tI_99, tI_100, tI_1000, tI_m1000, tI_m1, tI_mil] at *; omega) | exact bI_is0 (by (try simp only [bI_d, bI_dn, strV, remI] at *); simp only [i_le, i_lt, i_eq, tI_0, tI_1, tI_2, tI_3, tI_4, tI_7, tI_8, tI_10, tI_12, tI_13, tI_14, tI_40, tI_99, tI_100, tI_1000, tI_m1000, tI_m1, tI_mil] at *; omega)) rfl
theorem t_C_isForm {X : RAM} {f : Int32} : CG l D ac b y_C_isForm c_C_isForm 1 (some .boolean) 0 0 [.int f] X (some (.int (bI (decide (¬ f < 0 ∧ f ≤ 2))))) (X) := by
  refine Ct_of false (by decide) (fun h => by cases h) (Nat.le_of_ble_eq_true rfl) ?_
  show V l D ac b "SpanStore" c_C_isForm 1 (some .boolean) false 0 0 0 0 ((some (.int (bI (decide (¬ f < 0 ∧ f ≤ 2))))), 144, mk (X)) 0 0 0 [(0, .int f)] [] 144 (mk X)
  refine s_iload_n (q := 1) d_C_isForm_0 rfl rfl ?_
  refine s_if_lt (tgt := 13) (q := 4) d_C_isForm_1 (by decide) rfl (fun h_1 => ?_) (fun h_1 => ?_)
  · -- T 1
    refine s_iconst (v := 0) (q := 14) d_C_isForm_13 rfl ki_0 ?_
    exact g_iret d_C_isForm_14 rfl rfl (by first | exact bI_is1 (by (try simp only [bI_d, bI_dn, strV, remI] at *); simp only [i_le, i_lt, i_eq, tI_0, tI_1, tI_2, tI_3, tI_4, tI_7, tI_8, tI_10, tI_12, tI_13, tI_14, tI_40, tI_99, tI_100, tI_1000, tI_m1000, tI_m1, tI_mil] at *; omega) | exact bI_is0 (by (try simp only [bI_d, bI_dn, strV, remI] at *); simp only [i_le, i_lt, i_eq, tI_0, tI_1, tI_2, tI_3, tI_4, tI_7, tI_8, tI_10, tI_12, tI_13, tI_14, tI_40, tI_99, tI_100, tI_1000, tI_m1000, tI_m1, tI_mil] at *; omega)) rfl
  · -- F 1
    refine s_iload_n (q := 5) d_C_isForm_4 rfl rfl ?_
    refine s_iconst (v := 2) (q := 6) d_C_isForm_5 rfl ki_2 ?_
    refine s_icmp_gt (tgt := 13) (q := 9) d_C_isForm_6 (by decide) rfl (fun h_6 => ?_) (fun h_6 => ?_)
    · -- T 6
      refine s_iconst (v := 0) (q := 14) d_C_isForm_13 rfl ki_0 ?_
      exact g_iret d_C_isForm_14 rfl rfl (by first | exact bI_is1 (by (try simp only [bI_d, bI_dn, strV, remI] at *); simp only [i_le, i_lt, i_eq, tI_0, tI_1, tI_2, tI_3, tI_4, tI_7, tI_8, tI_10, tI_12, tI_13, tI_14, tI_40, tI_99, tI_100, tI_1000, tI_m1000, tI_m1, tI_mil] at *; omega) | exact bI_is0 (by (try simp only [bI_d, bI_dn, strV, remI] at *); simp only [i_le, i_lt, i_eq, tI_0, tI_1, tI_2, tI_3, tI_4, tI_7, tI_8, tI_10, tI_12, tI_13, tI_14, tI_40, tI_99, tI_100, tI_1000, tI_m1000, tI_m1, tI_mil] at *; omega)) rfl
    · -- F 6
      refine s_iconst (v := 1) (q := 10) d_C_isForm_9 rfl ki_1 ?_
      refine s_goto (tgt := 14) d_C_isForm_10 (by decide) ?_
      exact g_iret d_C_isForm_14 rfl rfl (by first | exact bI_is1 (by (try simp only [bI_d, bI_dn, strV, remI] at *); simp only [i_le, i_lt, i_eq, tI_0, tI_1, tI_2, tI_3, tI_4, tI_7, tI_8, tI_10, tI_12, tI_13, tI_14, tI_40, tI_99, tI_100, tI_1000, tI_m1000, tI_m1, tI_mil] at *; omega) | exact bI_is0 (by (try simp only [bI_d, bI_dn, strV, remI] at *); simp only [i_le, i_lt, i_eq, tI_0, tI_1, tI_2, tI_3, tI_4, tI_7, tI_8, tI_10, tI_12, tI_13, tI_14, tI_40, tI_99, tI_100, tI_1000, tI_m1000, tI_m1, tI_mil] at *; omega)) rfl
theorem t_M_in {X : RAM} {v a c : Int32} : CG l D ac b y_M_in c_M_in 3 (some .boolean) 0 0 [.int v, .int a, .int c] X (some (.int (bI (decide (a ≤ v ∧ v ≤ c))))) (X) := by
  refine Ct_of false (by decide) (fun h => by cases h) (Nat.le_of_ble_eq_true rfl) ?_
  show V l D ac b "SpanStoreModel" c_M_in 3 (some .boolean) false 0 0 0 0 ((some (.int (bI (decide (a ≤ v ∧ v ≤ c))))), 144, mk (X)) 0 0 0 [(0, .int v), (1, .int a), (2, .int c)] [] 144 (mk X)
  refine s_iload_n (q := 1) d_M_in_0 rfl rfl ?_
  refine s_iload_n (q := 2) d_M_in_1 rfl rfl ?_
  refine s_icmp_lt (tgt := 14) (q := 5) d_M_in_2 (by decide) rfl (fun h_2 => ?_) (fun h_2 => ?_)
  · -- T 2
    refine s_iconst (v := 0) (q := 15) d_M_in_14 rfl ki_0 ?_
    exact g_iret d_M_in_15 rfl rfl (by first | exact bI_is1 (by (try simp only [bI_d, bI_dn, strV, remI] at *); simp only [i_le, i_lt, i_eq, tI_0, tI_1, tI_2, tI_3, tI_4, tI_7, tI_8, tI_10, tI_12, tI_13, tI_14, tI_40, tI_99, tI_100, tI_1000, tI_m1000, tI_m1, tI_mil] at *; omega) | exact bI_is0 (by (try simp only [bI_d, bI_dn, strV, remI] at *); simp only [i_le, i_lt, i_eq, tI_0, tI_1, tI_2, tI_3, tI_4, tI_7, tI_8, tI_10, tI_12, tI_13, tI_14, tI_40, tI_99, tI_100, tI_1000, tI_m1000, tI_m1, tI_mil] at *; omega)) rfl
  · -- F 2
    refine s_iload_n (q := 6) d_M_in_5 rfl rfl ?_
    refine s_iload_n (q := 7) d_M_in_6 rfl rfl ?_
    refine s_icmp_gt (tgt := 14) (q := 10) d_M_in_7 (by decide) rfl (fun h_7 => ?_) (fun h_7 => ?_)
    · -- T 7
      refine s_iconst (v := 0) (q := 15) d_M_in_14 rfl ki_0 ?_
      exact g_iret d_M_in_15 rfl rfl (by first | exact bI_is1 (by (try simp only [bI_d, bI_dn, strV, remI] at *); simp only [i_le, i_lt, i_eq, tI_0, tI_1, tI_2, tI_3, tI_4, tI_7, tI_8, tI_10, tI_12, tI_13, tI_14, tI_40, tI_99, tI_100, tI_1000, tI_m1000, tI_m1, tI_mil] at *; omega) | exact bI_is0 (by (try simp only [bI_d, bI_dn, strV, remI] at *); simp only [i_le, i_lt, i_eq, tI_0, tI_1, tI_2, tI_3, tI_4, tI_7, tI_8, tI_10, tI_12, tI_13, tI_14, tI_40, tI_99, tI_100, tI_1000, tI_m1000, tI_m1, tI_mil] at *; omega)) rfl
    · -- F 7
      refine s_iconst (v := 1) (q := 11) d_M_in_10 rfl ki_1 ?_
      refine s_goto (tgt := 15) d_M_in_11 (by decide) ?_
      exact g_iret d_M_in_15 rfl rfl (by first | exact bI_is1 (by (try simp only [bI_d, bI_dn, strV, remI] at *); simp only [i_le, i_lt, i_eq, tI_0, tI_1, tI_2, tI_3, tI_4, tI_7, tI_8, tI_10, tI_12, tI_13, tI_14, tI_40, tI_99, tI_100, tI_1000, tI_m1000, tI_m1, tI_mil] at *; omega) | exact bI_is0 (by (try simp only [bI_d, bI_dn, strV, remI] at *); simp only [i_le, i_lt, i_eq, tI_0, tI_1, tI_2, tI_3, tI_4, tI_7, tI_8, tI_10, tI_12, tI_13, tI_14, tI_40, tI_99, tI_100, tI_1000, tI_m1000, tI_m1, tI_mil] at *; omega)) rfl
end P06
