section P11
variable {l : Launch} {D : va_G} {ac : Nat → ClassId} {b : Nat}
theorem ix2 {x : Int32} : (x < 0 ∨ 2 ≤ x) ∨ ∃ t, t < 2 ∧ x = nI t := by
  rcases pk_ix x (n := 2) (by decide) with h | h | h
  · exact Or.inl (Or.inl h)
  · exact Or.inl (Or.inr h)
  · exact Or.inr h
theorem ix8 {x : Int32} : (x < 0 ∨ 8 ≤ x) ∨ ∃ t, t < 8 ∧ x = nI t := by
  rcases pk_ix x (n := 8) (by decide) with h | h | h
  · exact Or.inl (Or.inl h)
  · exact Or.inl (Or.inr h)
  · exact Or.inr h
theorem ix4 {x : Int32} : (x < 0 ∨ 4 ≤ x) ∨ ∃ t, t < 4 ∧ x = nI t := by
  rcases pk_ix x (n := 4) (by decide) with h | h | h
  · exact Or.inl (Or.inl h)
  · exact Or.inl (Or.inr h)
  · exact Or.inr h
abbrev RowOK (k g v : Int32) : Prop := (¬ k < 0 ∧ k < 100) ∧ (¬ g < 0 ∧ g < 4) ∧ (-1000) ≤ v ∧ v ≤ 1000
theorem t_C_tableAt_ok {X : RAM} {t : Nat} (ht : t < 2) : CG l D ac b y_C_tableAt c_C_tableAt 2 (some (.object "SpanStore$Table")) 0 0 [.ref 0, .int (nI t)] X (some (.ref (4 + 55 * t))) (X) := by
  refine Ct_of false (by decide) (fun h => by cases h) (Nat.le_of_ble_eq_true rfl) ?_
  show V l D ac b "SpanStore" c_C_tableAt 2 (some (.object "SpanStore$Table")) false 0 0 0 0 ((some (.ref (4 + 55 * t))), 144, mk (X)) 0 0 0 [(0, .ref 0), (1, .int (nI t))] [] 144 (mk X)
  refine s_iload_n (q := 1) d_C_tableAt_0 rfl rfl ?_
  refine s_if_lt (tgt := 18) (q := 4) d_C_tableAt_1 (by decide) rfl (fun z9 => absurd z9 (nI_pos (by omega))) (fun _ => ?_)
  refine s_iload_n (q := 5) d_C_tableAt_4 rfl rfl ?_
  refine s_iconst (v := 2) (q := 6) d_C_tableAt_5 rfl ki_2 ?_
  refine s_icmp_ge (tgt := 18) (q := 9) d_C_tableAt_6 (by decide) rfl (fun z9 => absurd z9 (nI_ge (a := t) (b := 2) ht (by decide))) (fun _ => ?_)
  refine s_aload_n (q := 10) d_C_tableAt_9 rfl rfl (Or.inr ⟨_, rfl⟩) ?_
  refine g_getr (q := 13) d_C_tableAt_10 rfl fl_C_11 hC.1 rfl ?_
  refine s_iload_n (q := 14) d_C_tableAt_13 rfl rfl ?_
  refine g_aald (q := 15) d_C_tableAt_14 rfl hC.2.1 (by decide) rfl (by decide) rfl ht (if_pos ht) ?_
  refine s_goto (tgt := 19) d_C_tableAt_15 (by decide) ?_
  exact g_aret d_C_tableAt_19 rfl (Or.inr ⟨_, rfl⟩) rfl rfl
theorem t_C_tableAt_no {X : RAM} {x : Int32} (hx : x < 0 ∨ 2 ≤ x) : CG l D ac b y_C_tableAt c_C_tableAt 2 (some (.object "SpanStore$Table")) 0 0 [.ref 0, .int x] X (some .null) (X) := by
  refine Ct_of false (by decide) (fun h => by cases h) (Nat.le_of_ble_eq_true rfl) ?_
  show V l D ac b "SpanStore" c_C_tableAt 2 (some (.object "SpanStore$Table")) false 0 0 0 0 ((some .null), 144, mk (X)) 0 0 0 [(0, .ref 0), (1, .int x)] [] 144 (mk X)
  refine s_iload_n (q := 1) d_C_tableAt_0 rfl rfl ?_
  refine s_if_lt (tgt := 18) (q := 4) d_C_tableAt_1 (by decide) rfl (fun h_1 => ?_) (fun h_1 => ?_)
  · -- T 1
    refine s_aconst (q := 19) d_C_tableAt_18 rfl ?_
    exact g_aret d_C_tableAt_19 rfl (Or.inl rfl) rfl rfl
  · -- F 1
    refine s_iload_n (q := 5) d_C_tableAt_4 rfl rfl ?_
    refine s_iconst (v := 2) (q := 6) d_C_tableAt_5 rfl ki_2 ?_
    refine s_icmp_ge (tgt := 18) (q := 9) d_C_tableAt_6 (by decide) rfl (fun h_6 => ?_) (fun h_6 => ?_)
    · -- T 6
      refine s_aconst (q := 19) d_C_tableAt_18 rfl ?_
      exact g_aret d_C_tableAt_19 rfl (Or.inl rfl) rfl rfl
    · -- F 6
      exact absurd hx (fun q => q.elim h_1 h_6) --done
theorem t_C_sheetAt_ok {X : RAM} {k : Nat} (hk : k < 4) : CG l D ac b y_C_sheetAt c_C_sheetAt 2 (some (.object "SpanStore$Sheet")) 0 0 [.ref 0, .int (nI k)] X (some (.ref (114 + 2 * k))) (X) := by
  refine Ct_of false (by decide) (fun h => by cases h) (Nat.le_of_ble_eq_true rfl) ?_
  show V l D ac b "SpanStore" c_C_sheetAt 2 (some (.object "SpanStore$Sheet")) false 0 0 0 0 ((some (.ref (114 + 2 * k))), 144, mk (X)) 0 0 0 [(0, .ref 0), (1, .int (nI k))] [] 144 (mk X)
  refine s_iload_n (q := 1) d_C_sheetAt_0 rfl rfl ?_
  refine s_if_lt (tgt := 18) (q := 4) d_C_sheetAt_1 (by decide) rfl (fun z9 => absurd z9 (nI_pos (by omega))) (fun _ => ?_)
  refine s_iload_n (q := 5) d_C_sheetAt_4 rfl rfl ?_
  refine s_iconst (v := 4) (q := 6) d_C_sheetAt_5 rfl ki_4 ?_
  refine s_icmp_ge (tgt := 18) (q := 9) d_C_sheetAt_6 (by decide) rfl (fun z9 => absurd z9 (nI_ge (a := k) (b := 4) hk (by decide))) (fun _ => ?_)
  refine s_aload_n (q := 10) d_C_sheetAt_9 rfl rfl (Or.inr ⟨_, rfl⟩) ?_
  refine g_getr (q := 13) d_C_sheetAt_10 rfl fl_C_17 hC.1 rfl ?_
  refine s_iload_n (q := 14) d_C_sheetAt_13 rfl rfl ?_
  refine g_aald (q := 15) d_C_sheetAt_14 rfl hC.2.2.1 (by decide) rfl (by decide) rfl hk (if_pos hk) ?_
  refine s_goto (tgt := 19) d_C_sheetAt_15 (by decide) ?_
  exact g_aret d_C_sheetAt_19 rfl (Or.inr ⟨_, rfl⟩) rfl rfl
theorem t_C_sheetAt_no {X : RAM} {x : Int32} (hx : x < 0 ∨ 4 ≤ x) : CG l D ac b y_C_sheetAt c_C_sheetAt 2 (some (.object "SpanStore$Sheet")) 0 0 [.ref 0, .int x] X (some .null) (X) := by
  refine Ct_of false (by decide) (fun h => by cases h) (Nat.le_of_ble_eq_true rfl) ?_
  show V l D ac b "SpanStore" c_C_sheetAt 2 (some (.object "SpanStore$Sheet")) false 0 0 0 0 ((some .null), 144, mk (X)) 0 0 0 [(0, .ref 0), (1, .int x)] [] 144 (mk X)
  refine s_iload_n (q := 1) d_C_sheetAt_0 rfl rfl ?_
  refine s_if_lt (tgt := 18) (q := 4) d_C_sheetAt_1 (by decide) rfl (fun h_1 => ?_) (fun h_1 => ?_)
  · -- T 1
    refine s_aconst (q := 19) d_C_sheetAt_18 rfl ?_
    exact g_aret d_C_sheetAt_19 rfl (Or.inl rfl) rfl rfl
  · -- F 1
    refine s_iload_n (q := 5) d_C_sheetAt_4 rfl rfl ?_
    refine s_iconst (v := 4) (q := 6) d_C_sheetAt_5 rfl ki_4 ?_
    refine s_icmp_ge (tgt := 18) (q := 9) d_C_sheetAt_6 (by decide) rfl (fun h_6 => ?_) (fun h_6 => ?_)
    · -- T 6
      refine s_aconst (q := 19) d_C_sheetAt_18 rfl ?_
      exact g_aret d_C_sheetAt_19 rfl (Or.inl rfl) rfl rfl
    · -- F 6
      exact absurd hx (fun q => q.elim h_1 h_6) --done
theorem t_C_blockAt_ok {X : RAM} {o j : Nat} (hT : isT o) (hj : j < 8) : CG l D ac b y_C_blockAt c_C_blockAt 2 (some (.object "SpanStore$Block")) 0 0 [.ref o, .int (nI j)] X (some (.ref (o + 3 + 6 * j))) (X) := by
  refine Ct_of false (by decide) (fun h => by cases h) (Nat.le_of_ble_eq_true rfl) ?_
  show V l D ac b "SpanStore" c_C_blockAt 2 (some (.object "SpanStore$Block")) false 0 0 0 0 ((some (.ref (o + 3 + 6 * j))), 144, mk (X)) 0 0 0 [(0, .ref o), (1, .int (nI j))] [] 144 (mk X)
  refine s_aload_n (q := 1) d_C_blockAt_0 rfl rfl (Or.inr ⟨_, rfl⟩) ?_
  refine s_ifnull_r (q := 4) d_C_blockAt_1 rfl ?_
  refine s_iload_n (q := 5) d_C_blockAt_4 rfl rfl ?_
  refine s_if_lt (tgt := 23) (q := 8) d_C_blockAt_5 (by decide) rfl (fun z9 => absurd z9 (nI_pos (by omega))) (fun _ => ?_)
  refine s_iload_n (q := 9) d_C_blockAt_8 rfl rfl ?_
  refine s_bipush (v := 8) (q := 11) d_C_blockAt_9 rfl kb_8 ?_
  refine s_icmp_ge (tgt := 23) (q := 14) d_C_blockAt_11 (by decide) rfl (fun z9 => absurd z9 (nI_ge (a := j) (b := 8) hj (by decide))) (fun _ => ?_)
  refine s_aload_n (q := 15) d_C_blockAt_14 rfl rfl (Or.inr ⟨_, rfl⟩) ?_
  refine g_getr (q := 18) d_C_blockAt_15 rfl fl_C_182 hT.1 rfl ?_
  refine s_iload_n (q := 19) d_C_blockAt_18 rfl rfl ?_
  refine g_aald (q := 20) d_C_blockAt_19 rfl hT.2.1 (by decide) rfl (by decide) rfl hj (if_pos hj) ?_
  refine s_goto (tgt := 24) d_C_blockAt_20 (by decide) ?_
  exact g_aret d_C_blockAt_24 rfl (Or.inr ⟨_, rfl⟩) rfl rfl
theorem t_C_blockAt_no {X : RAM} {o : Nat} {y : Int32} (hT : isT o) (hy : y < 0 ∨ 8 ≤ y) : CG l D ac b y_C_blockAt c_C_blockAt 2 (some (.object "SpanStore$Block")) 0 0 [.ref o, .int y] X (some .null) (X) := by
  refine Ct_of false (by decide) (fun h => by cases h) (Nat.le_of_ble_eq_true rfl) ?_
  show V l D ac b "SpanStore" c_C_blockAt 2 (some (.object "SpanStore$Block")) false 0 0 0 0 ((some .null), 144, mk (X)) 0 0 0 [(0, .ref o), (1, .int y)] [] 144 (mk X)
  refine s_aload_n (q := 1) d_C_blockAt_0 rfl rfl (Or.inr ⟨_, rfl⟩) ?_
  refine s_ifnull_r (q := 4) d_C_blockAt_1 rfl ?_
  refine s_iload_n (q := 5) d_C_blockAt_4 rfl rfl ?_
  refine s_if_lt (tgt := 23) (q := 8) d_C_blockAt_5 (by decide) rfl (fun h_5 => ?_) (fun h_5 => ?_)
  · -- T 5
    refine s_aconst (q := 24) d_C_blockAt_23 rfl ?_
    exact g_aret d_C_blockAt_24 rfl (Or.inl rfl) rfl rfl
  · -- F 5
    refine s_iload_n (q := 9) d_C_blockAt_8 rfl rfl ?_
    refine s_bipush (v := 8) (q := 11) d_C_blockAt_9 rfl kb_8 ?_
    refine s_icmp_ge (tgt := 23) (q := 14) d_C_blockAt_11 (by decide) rfl (fun h_11 => ?_) (fun h_11 => ?_)
    · -- T 11
      refine s_aconst (q := 24) d_C_blockAt_23 rfl ?_
      exact g_aret d_C_blockAt_24 rfl (Or.inl rfl) rfl rfl
    · -- F 11
      exact absurd hy (fun q => q.elim h_5 h_11) --done
theorem t_C_blockAt_nt {X : RAM} {y : Int32} : CG l D ac b y_C_blockAt c_C_blockAt 2 (some (.object "SpanStore$Block")) 0 0 [.null, .int y] X (some .null) (X) := by
  refine Ct_of false (by decide) (fun h => by cases h) (Nat.le_of_ble_eq_true rfl) ?_
  show V l D ac b "SpanStore" c_C_blockAt 2 (some (.object "SpanStore$Block")) false 0 0 0 0 ((some .null), 144, mk (X)) 0 0 0 [(0, .null), (1, .int y)] [] 144 (mk X)
  refine s_aload_n (q := 1) d_C_blockAt_0 rfl rfl (Or.inl rfl) ?_
  refine s_ifnull_n (tgt := 23) d_C_blockAt_1 (by decide) ?_
  refine s_aconst (q := 24) d_C_blockAt_23 rfl ?_
  exact g_aret d_C_blockAt_24 rfl (Or.inl rfl) rfl rfl
theorem t_C_found {X : RAM} {z : Int32} : CG l D ac b y_C_found c_C_found 2 (some .int) 0 0 [.ref 0, .int z] X (some (.int (-10 - z))) (up2 X 0 4 z) := by
  refine Ct_of false (by decide) (fun h => by cases h) (Nat.le_of_ble_eq_true rfl) ?_
  show V l D ac b "SpanStore" c_C_found 2 (some .int) false 0 0 0 0 ((some (.int (-10 - z))), 144, mk (up2 X 0 4 z)) 0 0 0 [(0, .ref 0), (1, .int z)] [] 144 (mk X)
  refine s_aload_n (q := 1) d_C_found_0 rfl rfl (Or.inr ⟨_, rfl⟩) ?_
  refine s_iload_n (q := 2) d_C_found_1 rfl rfl ?_
  refine g_puti (q := 5) d_C_found_2 rfl fl_C_193 rfl (okV_int _) hC.1 rfl ?_
  refine s_bipush (v := (-10)) (q := 7) d_C_found_5 rfl kb_m10 ?_
  refine s_iload_n (q := 8) d_C_found_7 rfl rfl ?_
  refine s_isub (q := 9) d_C_found_8 rfl ?_
  exact g_iret d_C_found_9 rfl rfl rfl rfl
def rbX (X : RAM) (o n : Nat) : RAM := if X o 5 - X o 6 ≤ 0 then X else up2 (kwA X o n) 0 3 (X 0 3 + 1)
theorem kwA_ne {X : RAM} {o a : Nat} (h1 : a ≠ o) (h2 : a ≠ o + 4) (i : Nat) : kwA X o i a = X a := by
  induction i with
  | zero => rfl
  | succ i ih => exact (kwX_ne h1 h2).trans ih
theorem t_C_readBlock {X : RAM} {o n : Nat} (hB : isB o) (hsz : X o 5 = nI n) (hn : n ≤ 12) (h7 : 7 ≤ o) : CG l D ac b y_C_readBlock c_C_readBlock 3 (some .int) 3 63 [.ref 0, .ref o] X (some (.int (X o 5 - X o 6))) (rbX X o n) := by
  refine Ct_of false (by decide) (fun h => by cases h) (Nat.le_of_ble_eq_true rfl) ?_
  show V l D ac b "SpanStore" c_C_readBlock 3 (some .int) false 3 63 0 0 ((some (.int (X o 5 - X o 6))), 144, mk (rbX X o n)) 0 0 0 [(0, .ref 0), (1, .ref o)] [] 144 (mk X)
  refine s_aload_n (q := 1) d_C_readBlock_0 rfl rfl (Or.inr ⟨_, rfl⟩) ?_
  refine g_geti (q := 4) d_C_readBlock_1 rfl fl_C_43 hB.1 rfl ?_
  refine s_aload_n (q := 5) d_C_readBlock_4 rfl rfl (Or.inr ⟨_, rfl⟩) ?_
  refine g_geti (q := 8) d_C_readBlock_5 rfl fl_C_209 hB.1 rfl ?_
  refine s_isub (q := 9) d_C_readBlock_8 rfl ?_
  refine s_istore_n (q := 10) d_C_readBlock_9 rfl (by decide) ?_
  refine s_iload_n (q := 11) d_C_readBlock_10 rfl rfl ?_
  refine s_if_le (tgt := 28) (q := 14) d_C_readBlock_11 (by decide) rfl (fun h_11 => ?_) (fun h_11 => ?_)
  · -- T 11
    refine s_iload_n (q := 29) d_C_readBlock_28 rfl rfl ?_
    exact g_iret d_C_readBlock_29 rfl rfl rfl (by simp [rbX, h_11])
  · -- F 11
    refine s_aload_n (q := 15) d_C_readBlock_14 rfl rfl (Or.inr ⟨_, rfl⟩) ?_
    refine g_callV (q := 18) d_C_readBlock_15 rfl ml_C_212 mx_B_knowAll mv_B_knowAll (t_B_knowAll hB hsz hn) hB.1 rfl rfl (Nat.le_of_ble_eq_true rfl) (by decide) ?_
    refine s_aload_n (q := 19) d_C_readBlock_18 rfl rfl (Or.inr ⟨_, rfl⟩) ?_
    refine s_dup (q := 20) d_C_readBlock_19 rfl rfl ?_
    refine g_getv (v := X 0 3) (q := 23) d_C_readBlock_20 rfl fl_C_190 hC.1 rfl (by rw [kwA_ne (by omega) (by omega)]) ?_
    refine s_iconst (v := 1) (q := 24) d_C_readBlock_23 rfl ki_1 ?_
    refine s_iadd (q := 25) d_C_readBlock_24 rfl ?_
    refine g_puti (q := 28) d_C_readBlock_25 rfl fl_C_190 rfl (okV_int _) hC.1 rfl ?_
    refine s_iload_n (q := 29) d_C_readBlock_28 rfl rfl ?_
    exact g_iret d_C_readBlock_29 rfl rfl rfl (by simp [rbX, h_11])
theorem t_C_row_T {X : RAM} {x y k g v : Int32} (hx : x < 0 ∨ 2 ≤ x) : CG l D ac b y_C_row c_C_row 8 (some .int) 2 42 [.ref 0, .int x, .int y, .int k, .int g, .int v] X (some (.int (-2))) (X) := by
  refine Ct_of false (by decide) (fun h => by cases h) (Nat.le_of_ble_eq_true rfl) ?_
  show V l D ac b "SpanStore" c_C_row 8 (some .int) false 2 42 0 0 ((some (.int (-2))), 144, mk (X)) 0 0 0 [(0, .ref 0), (1, .int x), (2, .int y), (3, .int k), (4, .int g), (5, .int v)] [] 144 (mk X)
  refine s_aload_n (q := 1) d_C_row_0 rfl rfl (Or.inr ⟨_, rfl⟩) ?_
  refine s_iload_n (q := 2) d_C_row_1 rfl rfl ?_
  refine g_callV (q := 5) d_C_row_2 rfl ml_C_27 mx_C_tableAt mv_C_tableAt (t_C_tableAt_no hx) hC.1 rfl rfl (Nat.le_of_ble_eq_true rfl) (by decide) ?_
  refine s_astore (q := 7) d_C_row_5 rfl (by decide) (Or.inl rfl) ?_
  refine s_aload (q := 9) d_C_row_7 rfl rfl (Or.inl rfl) ?_
  refine s_iload_n (q := 10) d_C_row_9 rfl rfl ?_
  refine g_callS (q := 13) d_C_row_10 rfl ml_C_31 mx_C_blockAt ms_C_blockAt t_C_blockAt_nt rfl rfl (Nat.le_of_ble_eq_true rfl) (by decide) ?_
  refine s_astore (q := 15) d_C_row_13 rfl (by decide) (Or.inl rfl) ?_
  refine s_aload (q := 17) d_C_row_15 rfl rfl (Or.inl rfl) ?_
  refine s_ifnull_n (tgt := 36) d_C_row_17 (by decide) ?_
  refine s_bipush (v := (-2)) (q := 38) d_C_row_36 rfl kb_m2 ?_
  exact g_iret d_C_row_38 rfl rfl rfl rfl
theorem t_C_row_B {X : RAM} {t : Nat} {y k g v : Int32} (ht : t < 2) (hy : y < 0 ∨ 8 ≤ y) : CG l D ac b y_C_row c_C_row 8 (some .int) 2 42 [.ref 0, .int (nI t), .int y, .int k, .int g, .int v] X (some (.int (-2))) (X) := by
  refine Ct_of false (by decide) (fun h => by cases h) (Nat.le_of_ble_eq_true rfl) ?_
  show V l D ac b "SpanStore" c_C_row 8 (some .int) false 2 42 0 0 ((some (.int (-2))), 144, mk (X)) 0 0 0 [(0, .ref 0), (1, .int (nI t)), (2, .int y), (3, .int k), (4, .int g), (5, .int v)] [] 144 (mk X)
  refine s_aload_n (q := 1) d_C_row_0 rfl rfl (Or.inr ⟨_, rfl⟩) ?_
  refine s_iload_n (q := 2) d_C_row_1 rfl rfl ?_
  refine g_callV (q := 5) d_C_row_2 rfl ml_C_27 mx_C_tableAt mv_C_tableAt (t_C_tableAt_ok ht) hC.1 rfl rfl (Nat.le_of_ble_eq_true rfl) (by decide) ?_
  refine s_astore (q := 7) d_C_row_5 rfl (by decide) (Or.inr ⟨_, rfl⟩) ?_
  refine s_aload (q := 9) d_C_row_7 rfl rfl (Or.inr ⟨_, rfl⟩) ?_
  refine s_iload_n (q := 10) d_C_row_9 rfl rfl ?_
  refine g_callS (q := 13) d_C_row_10 rfl ml_C_31 mx_C_blockAt ms_C_blockAt (t_C_blockAt_no (hC.2.2.2.2.1 _ ht) hy) rfl rfl (Nat.le_of_ble_eq_true rfl) (by decide) ?_
  refine s_astore (q := 15) d_C_row_13 rfl (by decide) (Or.inl rfl) ?_
  refine s_aload (q := 17) d_C_row_15 rfl rfl (Or.inr ⟨_, rfl⟩) ?_
  refine s_ifnull_r (q := 20) d_C_row_17 rfl ?_
  refine s_aload (q := 22) d_C_row_20 rfl rfl (Or.inl rfl) ?_
  refine s_ifnull_n (tgt := 36) d_C_row_22 (by decide) ?_
  refine s_bipush (v := (-2)) (q := 38) d_C_row_36 rfl kb_m2 ?_
  exact g_iret d_C_row_38 rfl rfl rfl rfl
theorem t_C_row_R {X : RAM} {t j : Nat} {k g v : Int32} (ht : t < 2) (hj : j < 8) (hr : ¬ RowOK k g v) : CG l D ac b y_C_row c_C_row 8 (some .int) 2 42 [.ref 0, .int (nI t), .int (nI j), .int k, .int g, .int v] X (some (.int (-2))) (X) := by
  refine Ct_of false (by decide) (fun h => by cases h) (Nat.le_of_ble_eq_true rfl) ?_
  show V l D ac b "SpanStore" c_C_row 8 (some .int) false 2 42 0 0 ((some (.int (-2))), 144, mk (X)) 0 0 0 [(0, .ref 0), (1, .int (nI t)), (2, .int (nI j)), (3, .int k), (4, .int g), (5, .int v)] [] 144 (mk X)
  refine s_aload_n (q := 1) d_C_row_0 rfl rfl (Or.inr ⟨_, rfl⟩) ?_
  refine s_iload_n (q := 2) d_C_row_1 rfl rfl ?_
  refine g_callV (q := 5) d_C_row_2 rfl ml_C_27 mx_C_tableAt mv_C_tableAt (t_C_tableAt_ok ht) hC.1 rfl rfl (Nat.le_of_ble_eq_true rfl) (by decide) ?_
  refine s_astore (q := 7) d_C_row_5 rfl (by decide) (Or.inr ⟨_, rfl⟩) ?_
  refine s_aload (q := 9) d_C_row_7 rfl rfl (Or.inr ⟨_, rfl⟩) ?_
  refine s_iload_n (q := 10) d_C_row_9 rfl rfl ?_
  refine g_callS (q := 13) d_C_row_10 rfl ml_C_31 mx_C_blockAt ms_C_blockAt (t_C_blockAt_ok (hC.2.2.2.2.1 _ ht) hj) rfl rfl (Nat.le_of_ble_eq_true rfl) (by decide) ?_
  refine s_astore (q := 15) d_C_row_13 rfl (by decide) (Or.inr ⟨_, rfl⟩) ?_
  refine s_aload (q := 17) d_C_row_15 rfl rfl (Or.inr ⟨_, rfl⟩) ?_
  refine s_ifnull_r (q := 20) d_C_row_17 rfl ?_
  refine s_aload (q := 22) d_C_row_20 rfl rfl (Or.inr ⟨_, rfl⟩) ?_
  refine s_ifnull_r (q := 25) d_C_row_22 rfl ?_
  refine s_iload_n (q := 26) d_C_row_25 rfl rfl ?_
  refine s_iload (q := 28) d_C_row_26 rfl rfl ?_
  refine s_iload (q := 30) d_C_row_28 rfl rfl ?_
  refine g_callS (q := 33) d_C_row_30 rfl ml_C_35 mx_C_isRow ms_C_isRow t_C_isRow rfl rfl (Nat.le_of_ble_eq_true rfl) (by decide) ?_
  refine s_if_ne (tgt := 39) (q := 36) d_C_row_33 (by decide) rfl (fun z9 => absurd (bI_d.mpr hr) z9) (fun _ => ?_)
  refine s_bipush (v := (-2)) (q := 38) d_C_row_36 rfl kb_m2 ?_
  exact g_iret d_C_row_38 rfl rfl rfl rfl
theorem t_C_row_S {X : RAM} {t j : Nat} {k g v : Int32} (ht : t < 2) (hj : j < 8) (hr : RowOK k g v) (hs : ¬ X (4 + 55 * t) 3 = 0) : CG l D ac b y_C_row c_C_row 8 (some .int) 2 42 [.ref 0, .int (nI t), .int (nI j), .int k, .int g, .int v] X (some (.int (-3))) (X) := by
  refine Ct_of false (by decide) (fun h => by cases h) (Nat.le_of_ble_eq_true rfl) ?_
  show V l D ac b "SpanStore" c_C_row 8 (some .int) false 2 42 0 0 ((some (.int (-3))), 144, mk (X)) 0 0 0 [(0, .ref 0), (1, .int (nI t)), (2, .int (nI j)), (3, .int k), (4, .int g), (5, .int v)] [] 144 (mk X)
  refine s_aload_n (q := 1) d_C_row_0 rfl rfl (Or.inr ⟨_, rfl⟩) ?_
  refine s_iload_n (q := 2) d_C_row_1 rfl rfl ?_
  refine g_callV (q := 5) d_C_row_2 rfl ml_C_27 mx_C_tableAt mv_C_tableAt (t_C_tableAt_ok ht) hC.1 rfl rfl (Nat.le_of_ble_eq_true rfl) (by decide) ?_
  refine s_astore (q := 7) d_C_row_5 rfl (by decide) (Or.inr ⟨_, rfl⟩) ?_
  refine s_aload (q := 9) d_C_row_7 rfl rfl (Or.inr ⟨_, rfl⟩) ?_
  refine s_iload_n (q := 10) d_C_row_9 rfl rfl ?_
  refine g_callS (q := 13) d_C_row_10 rfl ml_C_31 mx_C_blockAt ms_C_blockAt (t_C_blockAt_ok (hC.2.2.2.2.1 _ ht) hj) rfl rfl (Nat.le_of_ble_eq_true rfl) (by decide) ?_
  refine s_astore (q := 15) d_C_row_13 rfl (by decide) (Or.inr ⟨_, rfl⟩) ?_
  refine s_aload (q := 17) d_C_row_15 rfl rfl (Or.inr ⟨_, rfl⟩) ?_
  refine s_ifnull_r (q := 20) d_C_row_17 rfl ?_
  refine s_aload (q := 22) d_C_row_20 rfl rfl (Or.inr ⟨_, rfl⟩) ?_
  refine s_ifnull_r (q := 25) d_C_row_22 rfl ?_
  refine s_iload_n (q := 26) d_C_row_25 rfl rfl ?_
  refine s_iload (q := 28) d_C_row_26 rfl rfl ?_
  refine s_iload (q := 30) d_C_row_28 rfl rfl ?_
  refine g_callS (q := 33) d_C_row_30 rfl ml_C_35 mx_C_isRow ms_C_isRow t_C_isRow rfl rfl (Nat.le_of_ble_eq_true rfl) (by decide) ?_
  refine s_if_ne (tgt := 39) (q := 36) d_C_row_33 (by decide) rfl (fun _ => ?_) (fun z9 => absurd z9 (bI_dn.mpr hr))
  refine s_aload (q := 41) d_C_row_39 rfl rfl (Or.inr ⟨_, rfl⟩) ?_
  refine g_geti (q := 44) d_C_row_41 rfl fl_C_39 (hC.2.2.2.2.1 _ ht).1 rfl ?_
  refine s_if_eq (tgt := 50) (q := 47) d_C_row_44 (by decide) rfl (fun z9 => absurd z9 hs) (fun _ => ?_)
  refine s_bipush (v := (-3)) (q := 49) d_C_row_47 rfl kb_m3 ?_
  exact g_iret d_C_row_49 rfl rfl rfl rfl
theorem t_C_row_F {X : RAM} {t j : Nat} {k g v : Int32} (ht : t < 2) (hj : j < 8) (hr : RowOK k g v) (hs : X (4 + 55 * t) 3 = 0) (hsz : X (4 + 55 * t + 3 + 6 * j) 5 = nI 12) : CG l D ac b y_C_row c_C_row 8 (some .int) 2 42 [.ref 0, .int (nI t), .int (nI j), .int k, .int g, .int v] X (some (.int (-4))) (X) := by
  refine Ct_of false (by decide) (fun h => by cases h) (Nat.le_of_ble_eq_true rfl) ?_
  show V l D ac b "SpanStore" c_C_row 8 (some .int) false 2 42 0 0 ((some (.int (-4))), 144, mk (X)) 0 0 0 [(0, .ref 0), (1, .int (nI t)), (2, .int (nI j)), (3, .int k), (4, .int g), (5, .int v)] [] 144 (mk X)
  refine s_aload_n (q := 1) d_C_row_0 rfl rfl (Or.inr ⟨_, rfl⟩) ?_
  refine s_iload_n (q := 2) d_C_row_1 rfl rfl ?_
  refine g_callV (q := 5) d_C_row_2 rfl ml_C_27 mx_C_tableAt mv_C_tableAt (t_C_tableAt_ok ht) hC.1 rfl rfl (Nat.le_of_ble_eq_true rfl) (by decide) ?_
  refine s_astore (q := 7) d_C_row_5 rfl (by decide) (Or.inr ⟨_, rfl⟩) ?_
  refine s_aload (q := 9) d_C_row_7 rfl rfl (Or.inr ⟨_, rfl⟩) ?_
  refine s_iload_n (q := 10) d_C_row_9 rfl rfl ?_
  refine g_callS (q := 13) d_C_row_10 rfl ml_C_31 mx_C_blockAt ms_C_blockAt (t_C_blockAt_ok (hC.2.2.2.2.1 _ ht) hj) rfl rfl (Nat.le_of_ble_eq_true rfl) (by decide) ?_
  refine s_astore (q := 15) d_C_row_13 rfl (by decide) (Or.inr ⟨_, rfl⟩) ?_
  refine s_aload (q := 17) d_C_row_15 rfl rfl (Or.inr ⟨_, rfl⟩) ?_
  refine s_ifnull_r (q := 20) d_C_row_17 rfl ?_
  refine s_aload (q := 22) d_C_row_20 rfl rfl (Or.inr ⟨_, rfl⟩) ?_
  refine s_ifnull_r (q := 25) d_C_row_22 rfl ?_
  refine s_iload_n (q := 26) d_C_row_25 rfl rfl ?_
  refine s_iload (q := 28) d_C_row_26 rfl rfl ?_
  refine s_iload (q := 30) d_C_row_28 rfl rfl ?_
  refine g_callS (q := 33) d_C_row_30 rfl ml_C_35 mx_C_isRow ms_C_isRow t_C_isRow rfl rfl (Nat.le_of_ble_eq_true rfl) (by decide) ?_
  refine s_if_ne (tgt := 39) (q := 36) d_C_row_33 (by decide) rfl (fun _ => ?_) (fun z9 => absurd z9 (bI_dn.mpr hr))
  refine s_aload (q := 41) d_C_row_39 rfl rfl (Or.inr ⟨_, rfl⟩) ?_
  refine g_geti (q := 44) d_C_row_41 rfl fl_C_39 (hC.2.2.2.2.1 _ ht).1 rfl ?_
  refine s_if_eq (tgt := 50) (q := 47) d_C_row_44 (by decide) rfl (fun _ => ?_) (fun z9 => absurd hs z9)
  refine s_aload (q := 52) d_C_row_50 rfl rfl (Or.inr ⟨_, rfl⟩) ?_
  refine g_getv (v := nI 12) (q := 55) d_C_row_52 rfl fl_C_43 ((hC.2.2.2.2.1 _ ht).2.2.2.1 _ hj).1 rfl hsz ?_
  refine s_bipush (v := 12) (q := 57) d_C_row_55 rfl kb_12 ?_
  refine s_icmp_lt (tgt := 63) (q := 60) d_C_row_57 (by decide) rfl (fun z9 => absurd z9 (by decide)) (fun _ => ?_)
  refine s_bipush (v := (-4)) (q := 62) d_C_row_60 rfl kb_m4 ?_
  exact g_iret d_C_row_62 rfl rfl rfl rfl
theorem t_C_row_D {X : RAM} {t j g n : Nat} {k v : Int32} (ht : t < 2) (hj : j < 8) (hr : RowOK k (nI g) v) (hg : g < 4) (hs : X (4 + 55 * t) 3 = 0) (hsz : X (4 + 55 * t + 3 + 6 * j) 5 = nI n) (hn : n < 12) : CG l D ac b y_C_row c_C_row 8 (some .int) 2 42 [.ref 0, .int (nI t), .int (nI j), .int k, .int (nI g), .int v] X (some (.int (nI n))) (addX X (4 + 55 * t + 3 + 6 * j) n g k v) := by
  refine Ct_of false (by decide) (fun h => by cases h) (Nat.le_of_ble_eq_true rfl) ?_
  show V l D ac b "SpanStore" c_C_row 8 (some .int) false 2 42 0 0 ((some (.int (nI n))), 144, mk (addX X (4 + 55 * t + 3 + 6 * j) n g k v)) 0 0 0 [(0, .ref 0), (1, .int (nI t)), (2, .int (nI j)), (3, .int k), (4, .int (nI g)), (5, .int v)] [] 144 (mk X)
  refine s_aload_n (q := 1) d_C_row_0 rfl rfl (Or.inr ⟨_, rfl⟩) ?_
  refine s_iload_n (q := 2) d_C_row_1 rfl rfl ?_
  refine g_callV (q := 5) d_C_row_2 rfl ml_C_27 mx_C_tableAt mv_C_tableAt (t_C_tableAt_ok ht) hC.1 rfl rfl (Nat.le_of_ble_eq_true rfl) (by decide) ?_
  refine s_astore (q := 7) d_C_row_5 rfl (by decide) (Or.inr ⟨_, rfl⟩) ?_
  refine s_aload (q := 9) d_C_row_7 rfl rfl (Or.inr ⟨_, rfl⟩) ?_
  refine s_iload_n (q := 10) d_C_row_9 rfl rfl ?_
  refine g_callS (q := 13) d_C_row_10 rfl ml_C_31 mx_C_blockAt ms_C_blockAt (t_C_blockAt_ok (hC.2.2.2.2.1 _ ht) hj) rfl rfl (Nat.le_of_ble_eq_true rfl) (by decide) ?_
  refine s_astore (q := 15) d_C_row_13 rfl (by decide) (Or.inr ⟨_, rfl⟩) ?_
  refine s_aload (q := 17) d_C_row_15 rfl rfl (Or.inr ⟨_, rfl⟩) ?_
  refine s_ifnull_r (q := 20) d_C_row_17 rfl ?_
  refine s_aload (q := 22) d_C_row_20 rfl rfl (Or.inr ⟨_, rfl⟩) ?_
  refine s_ifnull_r (q := 25) d_C_row_22 rfl ?_
  refine s_iload_n (q := 26) d_C_row_25 rfl rfl ?_
  refine s_iload (q := 28) d_C_row_26 rfl rfl ?_
  refine s_iload (q := 30) d_C_row_28 rfl rfl ?_
  refine g_callS (q := 33) d_C_row_30 rfl ml_C_35 mx_C_isRow ms_C_isRow t_C_isRow rfl rfl (Nat.le_of_ble_eq_true rfl) (by decide) ?_
  refine s_if_ne (tgt := 39) (q := 36) d_C_row_33 (by decide) rfl (fun _ => ?_) (fun z9 => absurd z9 (bI_dn.mpr hr))
  refine s_aload (q := 41) d_C_row_39 rfl rfl (Or.inr ⟨_, rfl⟩) ?_
  refine g_geti (q := 44) d_C_row_41 rfl fl_C_39 (hC.2.2.2.2.1 _ ht).1 rfl ?_
  refine s_if_eq (tgt := 50) (q := 47) d_C_row_44 (by decide) rfl (fun _ => ?_) (fun z9 => absurd hs z9)
  refine s_aload (q := 52) d_C_row_50 rfl rfl (Or.inr ⟨_, rfl⟩) ?_
  refine g_getv (v := nI n) (q := 55) d_C_row_52 rfl fl_C_43 ((hC.2.2.2.2.1 _ ht).2.2.2.1 _ hj).1 rfl hsz ?_
  refine s_bipush (v := 12) (q := 57) d_C_row_55 rfl kb_12 ?_
  refine s_icmp_lt (tgt := 63) (q := 60) d_C_row_57 (by decide) rfl (fun _ => ?_) (fun z9 => absurd (nI_lt (a := n) (b := 12) hn (by decide)) z9)
  refine s_aload (q := 65) d_C_row_63 rfl rfl (Or.inr ⟨_, rfl⟩) ?_
  refine s_iload_n (q := 66) d_C_row_65 rfl rfl ?_
  refine s_iload (q := 68) d_C_row_66 rfl rfl ?_
  refine s_iload (q := 70) d_C_row_68 rfl rfl ?_
  refine g_callV (q := 73) d_C_row_70 rfl ml_C_49 mx_B_addRow mv_B_addRow (t_B_addRow ((hC.2.2.2.2.1 _ ht).2.2.2.1 _ hj) hsz hn hg) ((hC.2.2.2.2.1 _ ht).2.2.2.1 _ hj).1 rfl rfl (Nat.le_of_ble_eq_true rfl) (by decide) ?_
  refine s_aload (q := 75) d_C_row_73 rfl rfl (Or.inr ⟨_, rfl⟩) ?_
  refine g_getv (v := nI (n + 1)) (q := 78) d_C_row_75 rfl fl_C_43 ((hC.2.2.2.2.1 _ ht).2.2.2.1 _ hj).1 rfl (by simp [addX, up2, upd]) ?_
  refine s_iconst (v := 1) (q := 79) d_C_row_78 rfl ki_1 ?_
  refine s_isub (q := 80) d_C_row_79 rfl ?_
  exact g_iret d_C_row_80 rfl rfl (nI_pred n) rfl
def KeepOK (kd a c : Int32) : Prop := (kd = 0 ∧ 1 ≤ a ∧ a ≤ 12 ∧ c = 0) ∨ (kd = 1 ∧ 1 ≤ a ∧ a ≤ 12 ∧ c = 0) ∨ (kd = 2 ∧ (1 ≤ a ∧ a ≤ 100) ∧ ¬ c < 0 ∧ c < a) ∨ (kd = 3 ∧ 1 ≤ a ∧ a ≤ 1000 ∧ c = 0)
theorem KeepOK_dec (kd a c : Int32) : Decidable (KeepOK kd a c) = Decidable (KeepOK kd a c) := rfl
noncomputable def keB (kd a c : Int32) : Bool := @decide (KeepOK kd a c) (Classical.propDecidable _)
theorem keB_1 {kd a c : Int32} (h : KeepOK kd a c) : (1 : Int32) = bI (keB kd a c) := by
  rw [bI_t]
  unfold keB
  exact @decide_eq_true _ (Classical.propDecidable _) h
theorem keB_0 {kd a c : Int32} (h : ¬ KeepOK kd a c) : (0 : Int32) = bI (keB kd a c) := by
  rw [bI_f]
  unfold keB
  exact @decide_eq_false _ (Classical.propDecidable _) h
theorem KeepOK_0 {a c : Int32} : KeepOK 0 a c ↔ (1 ≤ a ∧ a ≤ 12 ∧ c = 0) := by simp [KeepOK]
theorem KeepOK_1 {a c : Int32} : KeepOK 1 a c ↔ (1 ≤ a ∧ a ≤ 12 ∧ c = 0) := by simp [KeepOK]
theorem KeepOK_2 {a c : Int32} : KeepOK 2 a c ↔ ((1 ≤ a ∧ a ≤ 100) ∧ ¬ c < 0 ∧ c < a) := by simp [KeepOK]
theorem KeepOK_3 {a c : Int32} : KeepOK 3 a c ↔ (1 ≤ a ∧ a ≤ 1000 ∧ c = 0) := by simp [KeepOK]
theorem keB_2 {a c : Int32} : bI (decide ((1 ≤ a ∧ a ≤ 100) ∧ ¬ c < 0 ∧ c < a)) = bI (keB 2 a c) := by
  by_cases h : (1 ≤ a ∧ a ≤ 100) ∧ ¬ c < 0 ∧ c < a
  · rw [← bI_is1 h, ← keB_1 (KeepOK_2.mpr h)]
  · rw [← bI_is0 h, ← keB_0 (fun z => h (KeepOK_2.mp z))]
theorem keB_t {kd a c : Int32} (h : KeepOK kd a c) : ¬ bI (keB kd a c) = 0 := by rw [← keB_1 h]; decide
theorem keB_f {kd a c : Int32} (h : ¬ KeepOK kd a c) : bI (keB kd a c) = 0 := (keB_0 h).symm
theorem t_C_isKeeper {X : RAM} {kd a c : Int32} : CG l D ac b y_C_isKeeper c_C_isKeeper 3 (some .boolean) 1 21 [.int kd, .int a, .int c] X (some (.int (bI (keB kd a c)))) X := by
  refine Ct_of false (by decide) (fun h => by cases h) (Nat.le_of_ble_eq_true rfl) ?_
  show V l D ac b "SpanStore" c_C_isKeeper 3 (some .boolean) false 1 21 0 0 ((some (.int (bI (keB kd a c)))), 144, mk X) 0 0 0 [(0, .int kd), (1, .int a), (2, .int c)] [] 144 (mk X)
  by_cases k0 : kd = 0
  · subst k0
    refine s_iload_n (q := 1) d_C_isKeeper_0 rfl rfl ?_
    refine s_tsIn (tgt := 32) d_C_isKeeper_1 (by decide) (by decide) rfl (by decide) ?_
    refine s_iload_n (q := 33) d_C_isKeeper_32 rfl rfl ?_
    refine s_iconst (v := 1) (q := 34) d_C_isKeeper_33 rfl ki_1 ?_
    refine s_icmp_lt (tgt := 51) (q := 37) d_C_isKeeper_34 (by decide) rfl (fun h_34 => ?_) (fun h_34 => ?_)
    · -- T 34
      refine s_iconst (v := 0) (q := 52) d_C_isKeeper_51 rfl ki_0 ?_
      exact g_iret d_C_isKeeper_52 rfl rfl (by first | exact keB_1 (KeepOK_0.mpr (by (try simp only [bI_d, bI_dn, strV, remI] at *); simp only [i_le, i_lt, i_eq, tI_0, tI_1, tI_2, tI_3, tI_4, tI_7, tI_8, tI_10, tI_12, tI_13, tI_14, tI_40, tI_99, tI_100, tI_1000, tI_m1000, tI_m1, tI_mil] at *; omega)) | exact keB_0 (fun z => by have z := KeepOK_0.mp z; (try simp only [bI_d, bI_dn, strV, remI] at *); simp only [i_le, i_lt, i_eq, tI_0, tI_1, tI_2, tI_3, tI_4, tI_7, tI_8, tI_10, tI_12, tI_13, tI_14, tI_40, tI_99, tI_100, tI_1000, tI_m1000, tI_m1, tI_mil] at *; omega)) rfl
    · -- F 34
      refine s_iload_n (q := 38) d_C_isKeeper_37 rfl rfl ?_
      refine s_bipush (v := 12) (q := 40) d_C_isKeeper_38 rfl kb_12 ?_
      refine s_icmp_gt (tgt := 51) (q := 43) d_C_isKeeper_40 (by decide) rfl (fun h_40 => ?_) (fun h_40 => ?_)
      · -- T 40
        refine s_iconst (v := 0) (q := 52) d_C_isKeeper_51 rfl ki_0 ?_
        exact g_iret d_C_isKeeper_52 rfl rfl (by first | exact keB_1 (KeepOK_0.mpr (by (try simp only [bI_d, bI_dn, strV, remI] at *); simp only [i_le, i_lt, i_eq, tI_0, tI_1, tI_2, tI_3, tI_4, tI_7, tI_8, tI_10, tI_12, tI_13, tI_14, tI_40, tI_99, tI_100, tI_1000, tI_m1000, tI_m1, tI_mil] at *; omega)) | exact keB_0 (fun z => by have z := KeepOK_0.mp z; (try simp only [bI_d, bI_dn, strV, remI] at *); simp only [i_le, i_lt, i_eq, tI_0, tI_1, tI_2, tI_3, tI_4, tI_7, tI_8, tI_10, tI_12, tI_13, tI_14, tI_40, tI_99, tI_100, tI_1000, tI_m1000, tI_m1, tI_mil] at *; omega)) rfl
      · -- F 40
        refine s_iload_n (q := 44) d_C_isKeeper_43 rfl rfl ?_
        refine s_if_ne (tgt := 51) (q := 47) d_C_isKeeper_44 (by decide) rfl (fun h_44 => ?_) (fun h_44 => ?_)
        · -- T 44
          refine s_iconst (v := 0) (q := 52) d_C_isKeeper_51 rfl ki_0 ?_
          exact g_iret d_C_isKeeper_52 rfl rfl (by first | exact keB_1 (KeepOK_0.mpr (by (try simp only [bI_d, bI_dn, strV, remI] at *); simp only [i_le, i_lt, i_eq, tI_0, tI_1, tI_2, tI_3, tI_4, tI_7, tI_8, tI_10, tI_12, tI_13, tI_14, tI_40, tI_99, tI_100, tI_1000, tI_m1000, tI_m1, tI_mil] at *; omega)) | exact keB_0 (fun z => by have z := KeepOK_0.mp z; (try simp only [bI_d, bI_dn, strV, remI] at *); simp only [i_le, i_lt, i_eq, tI_0, tI_1, tI_2, tI_3, tI_4, tI_7, tI_8, tI_10, tI_12, tI_13, tI_14, tI_40, tI_99, tI_100, tI_1000, tI_m1000, tI_m1, tI_mil] at *; omega)) rfl
        · -- F 44
          refine s_iconst (v := 1) (q := 48) d_C_isKeeper_47 rfl ki_1 ?_
          refine s_goto (tgt := 52) d_C_isKeeper_48 (by decide) ?_
          exact g_iret d_C_isKeeper_52 rfl rfl (by first | exact keB_1 (KeepOK_0.mpr (by (try simp only [bI_d, bI_dn, strV, remI] at *); simp only [i_le, i_lt, i_eq, tI_0, tI_1, tI_2, tI_3, tI_4, tI_7, tI_8, tI_10, tI_12, tI_13, tI_14, tI_40, tI_99, tI_100, tI_1000, tI_m1000, tI_m1, tI_mil] at *; omega)) | exact keB_0 (fun z => by have z := KeepOK_0.mp z; (try simp only [bI_d, bI_dn, strV, remI] at *); simp only [i_le, i_lt, i_eq, tI_0, tI_1, tI_2, tI_3, tI_4, tI_7, tI_8, tI_10, tI_12, tI_13, tI_14, tI_40, tI_99, tI_100, tI_1000, tI_m1000, tI_m1, tI_mil] at *; omega)) rfl
  by_cases k1 : kd = 1
  · subst k1
    refine s_iload_n (q := 1) d_C_isKeeper_0 rfl rfl ?_
    refine s_tsIn (tgt := 32) d_C_isKeeper_1 (by decide) (by decide) rfl (by decide) ?_
    refine s_iload_n (q := 33) d_C_isKeeper_32 rfl rfl ?_
    refine s_iconst (v := 1) (q := 34) d_C_isKeeper_33 rfl ki_1 ?_
    refine s_icmp_lt (tgt := 51) (q := 37) d_C_isKeeper_34 (by decide) rfl (fun h_34 => ?_) (fun h_34 => ?_)
    · -- T 34
      refine s_iconst (v := 0) (q := 52) d_C_isKeeper_51 rfl ki_0 ?_
      exact g_iret d_C_isKeeper_52 rfl rfl (by first | exact keB_1 (KeepOK_1.mpr (by (try simp only [bI_d, bI_dn, strV, remI] at *); simp only [i_le, i_lt, i_eq, tI_0, tI_1, tI_2, tI_3, tI_4, tI_7, tI_8, tI_10, tI_12, tI_13, tI_14, tI_40, tI_99, tI_100, tI_1000, tI_m1000, tI_m1, tI_mil] at *; omega)) | exact keB_0 (fun z => by have z := KeepOK_1.mp z; (try simp only [bI_d, bI_dn, strV, remI] at *); simp only [i_le, i_lt, i_eq, tI_0, tI_1, tI_2, tI_3, tI_4, tI_7, tI_8, tI_10, tI_12, tI_13, tI_14, tI_40, tI_99, tI_100, tI_1000, tI_m1000, tI_m1, tI_mil] at *; omega)) rfl
    · -- F 34
      refine s_iload_n (q := 38) d_C_isKeeper_37 rfl rfl ?_
      refine s_bipush (v := 12) (q := 40) d_C_isKeeper_38 rfl kb_12 ?_
      refine s_icmp_gt (tgt := 51) (q := 43) d_C_isKeeper_40 (by decide) rfl (fun h_40 => ?_) (fun h_40 => ?_)
      · -- T 40
        refine s_iconst (v := 0) (q := 52) d_C_isKeeper_51 rfl ki_0 ?_
        exact g_iret d_C_isKeeper_52 rfl rfl (by first | exact keB_1 (KeepOK_1.mpr (by (try simp only [bI_d, bI_dn, strV, remI] at *); simp only [i_le, i_lt, i_eq, tI_0, tI_1, tI_2, tI_3, tI_4, tI_7, tI_8, tI_10, tI_12, tI_13, tI_14, tI_40, tI_99, tI_100, tI_1000, tI_m1000, tI_m1, tI_mil] at *; omega)) | exact keB_0 (fun z => by have z := KeepOK_1.mp z; (try simp only [bI_d, bI_dn, strV, remI] at *); simp only [i_le, i_lt, i_eq, tI_0, tI_1, tI_2, tI_3, tI_4, tI_7, tI_8, tI_10, tI_12, tI_13, tI_14, tI_40, tI_99, tI_100, tI_1000, tI_m1000, tI_m1, tI_mil] at *; omega)) rfl
      · -- F 40
        refine s_iload_n (q := 44) d_C_isKeeper_43 rfl rfl ?_
        refine s_if_ne (tgt := 51) (q := 47) d_C_isKeeper_44 (by decide) rfl (fun h_44 => ?_) (fun h_44 => ?_)
        · -- T 44
          refine s_iconst (v := 0) (q := 52) d_C_isKeeper_51 rfl ki_0 ?_
          exact g_iret d_C_isKeeper_52 rfl rfl (by first | exact keB_1 (KeepOK_1.mpr (by (try simp only [bI_d, bI_dn, strV, remI] at *); simp only [i_le, i_lt, i_eq, tI_0, tI_1, tI_2, tI_3, tI_4, tI_7, tI_8, tI_10, tI_12, tI_13, tI_14, tI_40, tI_99, tI_100, tI_1000, tI_m1000, tI_m1, tI_mil] at *; omega)) | exact keB_0 (fun z => by have z := KeepOK_1.mp z; (try simp only [bI_d, bI_dn, strV, remI] at *); simp only [i_le, i_lt, i_eq, tI_0, tI_1, tI_2, tI_3, tI_4, tI_7, tI_8, tI_10, tI_12, tI_13, tI_14, tI_40, tI_99, tI_100, tI_1000, tI_m1000, tI_m1, tI_mil] at *; omega)) rfl
        · -- F 44
          refine s_iconst (v := 1) (q := 48) d_C_isKeeper_47 rfl ki_1 ?_
          refine s_goto (tgt := 52) d_C_isKeeper_48 (by decide) ?_
          exact g_iret d_C_isKeeper_52 rfl rfl (by first | exact keB_1 (KeepOK_1.mpr (by (try simp only [bI_d, bI_dn, strV, remI] at *); simp only [i_le, i_lt, i_eq, tI_0, tI_1, tI_2, tI_3, tI_4, tI_7, tI_8, tI_10, tI_12, tI_13, tI_14, tI_40, tI_99, tI_100, tI_1000, tI_m1000, tI_m1, tI_mil] at *; omega)) | exact keB_0 (fun z => by have z := KeepOK_1.mp z; (try simp only [bI_d, bI_dn, strV, remI] at *); simp only [i_le, i_lt, i_eq, tI_0, tI_1, tI_2, tI_3, tI_4, tI_7, tI_8, tI_10, tI_12, tI_13, tI_14, tI_40, tI_99, tI_100, tI_1000, tI_m1000, tI_m1, tI_mil] at *; omega)) rfl
  by_cases k2 : kd = 2
  · subst k2
    refine s_iload_n (q := 1) d_C_isKeeper_0 rfl rfl ?_
    refine s_tsIn (tgt := 53) d_C_isKeeper_1 (by decide) (by decide) rfl (by decide) ?_
    refine s_iload_n (q := 54) d_C_isKeeper_53 rfl rfl ?_
    refine s_iload_n (q := 55) d_C_isKeeper_54 rfl rfl ?_
    refine g_callS (q := 58) d_C_isKeeper_55 rfl ml_C_143 mx_C_isModulus ms_C_isModulus t_C_isModulus rfl rfl (Nat.le_of_ble_eq_true rfl) (by decide) ?_
    exact g_iret d_C_isKeeper_58 rfl (nbI _) keB_2 rfl
  by_cases k3 : kd = 3
  · subst k3
    refine s_iload_n (q := 1) d_C_isKeeper_0 rfl rfl ?_
    refine s_tsIn (tgt := 59) d_C_isKeeper_1 (by decide) (by decide) rfl (by decide) ?_
    refine s_iload_n (q := 60) d_C_isKeeper_59 rfl rfl ?_
    refine s_iconst (v := 1) (q := 61) d_C_isKeeper_60 rfl ki_1 ?_
    refine s_icmp_lt (tgt := 79) (q := 64) d_C_isKeeper_61 (by decide) rfl (fun h_61 => ?_) (fun h_61 => ?_)
    · -- T 61
      refine s_iconst (v := 0) (q := 80) d_C_isKeeper_79 rfl ki_0 ?_
      exact g_iret d_C_isKeeper_80 rfl rfl (by first | exact keB_1 (KeepOK_3.mpr (by (try simp only [bI_d, bI_dn, strV, remI] at *); simp only [i_le, i_lt, i_eq, tI_0, tI_1, tI_2, tI_3, tI_4, tI_7, tI_8, tI_10, tI_12, tI_13, tI_14, tI_40, tI_99, tI_100, tI_1000, tI_m1000, tI_m1, tI_mil] at *; omega)) | exact keB_0 (fun z => by have z := KeepOK_3.mp z; (try simp only [bI_d, bI_dn, strV, remI] at *); simp only [i_le, i_lt, i_eq, tI_0, tI_1, tI_2, tI_3, tI_4, tI_7, tI_8, tI_10, tI_12, tI_13, tI_14, tI_40, tI_99, tI_100, tI_1000, tI_m1000, tI_m1, tI_mil] at *; omega)) rfl
    · -- F 61
      refine s_iload_n (q := 65) d_C_isKeeper_64 rfl rfl ?_
      refine s_sipush (v := 1000) (q := 68) d_C_isKeeper_65 rfl kh_1000 ?_
      refine s_icmp_gt (tgt := 79) (q := 71) d_C_isKeeper_68 (by decide) rfl (fun h_68 => ?_) (fun h_68 => ?_)
      · -- T 68
        refine s_iconst (v := 0) (q := 80) d_C_isKeeper_79 rfl ki_0 ?_
        exact g_iret d_C_isKeeper_80 rfl rfl (by first | exact keB_1 (KeepOK_3.mpr (by (try simp only [bI_d, bI_dn, strV, remI] at *); simp only [i_le, i_lt, i_eq, tI_0, tI_1, tI_2, tI_3, tI_4, tI_7, tI_8, tI_10, tI_12, tI_13, tI_14, tI_40, tI_99, tI_100, tI_1000, tI_m1000, tI_m1, tI_mil] at *; omega)) | exact keB_0 (fun z => by have z := KeepOK_3.mp z; (try simp only [bI_d, bI_dn, strV, remI] at *); simp only [i_le, i_lt, i_eq, tI_0, tI_1, tI_2, tI_3, tI_4, tI_7, tI_8, tI_10, tI_12, tI_13, tI_14, tI_40, tI_99, tI_100, tI_1000, tI_m1000, tI_m1, tI_mil] at *; omega)) rfl
      · -- F 68
        refine s_iload_n (q := 72) d_C_isKeeper_71 rfl rfl ?_
        refine s_if_ne (tgt := 79) (q := 75) d_C_isKeeper_72 (by decide) rfl (fun h_72 => ?_) (fun h_72 => ?_)
        · -- T 72
          refine s_iconst (v := 0) (q := 80) d_C_isKeeper_79 rfl ki_0 ?_
          exact g_iret d_C_isKeeper_80 rfl rfl (by first | exact keB_1 (KeepOK_3.mpr (by (try simp only [bI_d, bI_dn, strV, remI] at *); simp only [i_le, i_lt, i_eq, tI_0, tI_1, tI_2, tI_3, tI_4, tI_7, tI_8, tI_10, tI_12, tI_13, tI_14, tI_40, tI_99, tI_100, tI_1000, tI_m1000, tI_m1, tI_mil] at *; omega)) | exact keB_0 (fun z => by have z := KeepOK_3.mp z; (try simp only [bI_d, bI_dn, strV, remI] at *); simp only [i_le, i_lt, i_eq, tI_0, tI_1, tI_2, tI_3, tI_4, tI_7, tI_8, tI_10, tI_12, tI_13, tI_14, tI_40, tI_99, tI_100, tI_1000, tI_m1000, tI_m1, tI_mil] at *; omega)) rfl
        · -- F 72
          refine s_iconst (v := 1) (q := 76) d_C_isKeeper_75 rfl ki_1 ?_
          refine s_goto (tgt := 80) d_C_isKeeper_76 (by decide) ?_
          exact g_iret d_C_isKeeper_80 rfl rfl (by first | exact keB_1 (KeepOK_3.mpr (by (try simp only [bI_d, bI_dn, strV, remI] at *); simp only [i_le, i_lt, i_eq, tI_0, tI_1, tI_2, tI_3, tI_4, tI_7, tI_8, tI_10, tI_12, tI_13, tI_14, tI_40, tI_99, tI_100, tI_1000, tI_m1000, tI_m1, tI_mil] at *; omega)) | exact keB_0 (fun z => by have z := KeepOK_3.mp z; (try simp only [bI_d, bI_dn, strV, remI] at *); simp only [i_le, i_lt, i_eq, tI_0, tI_1, tI_2, tI_3, tI_4, tI_7, tI_8, tI_10, tI_12, tI_13, tI_14, tI_40, tI_99, tI_100, tI_1000, tI_m1000, tI_m1, tI_mil] at *; omega)) rfl
  · skip
    refine s_iload_n (q := 1) d_C_isKeeper_0 rfl rfl ?_
    refine s_tsOut (tgt := 81) d_C_isKeeper_1 (by rw [i_eq, tI_0] at k0; rw [i_eq, tI_1] at k1; rw [i_eq, tI_2] at k2; rw [i_eq, tI_3] at k3; omega) (by decide) ?_
    refine s_iconst (v := 0) (q := 82) d_C_isKeeper_81 rfl ki_0 ?_
    exact g_iret d_C_isKeeper_82 rfl rfl (keB_0 (by simp [KeepOK, k0, k1, k2, k3])) rfl
theorem t_C_keeper_T {X : RAM} {x kd a c : Int32} (hx : x < 0 ∨ 2 ≤ x) : CG l D ac b y_C_keeper c_C_keeper 6 (some .int) 2 46 [.ref 0, .int x, .int kd, .int a, .int c] X (some (.int (-2))) (X) := by
  refine Ct_of false (by decide) (fun h => by cases h) (Nat.le_of_ble_eq_true rfl) ?_
  show V l D ac b "SpanStore" c_C_keeper 6 (some .int) false 2 46 0 0 ((some (.int (-2))), 144, mk (X)) 0 0 0 [(0, .ref 0), (1, .int x), (2, .int kd), (3, .int a), (4, .int c)] [] 144 (mk X)
  refine s_aload_n (q := 1) d_C_keeper_0 rfl rfl (Or.inr ⟨_, rfl⟩) ?_
  refine s_iload_n (q := 2) d_C_keeper_1 rfl rfl ?_
  refine g_callV (q := 5) d_C_keeper_2 rfl ml_C_27 mx_C_tableAt mv_C_tableAt (t_C_tableAt_no hx) hC.1 rfl rfl (Nat.le_of_ble_eq_true rfl) (by decide) ?_
  refine s_astore (q := 7) d_C_keeper_5 rfl (by decide) (Or.inl rfl) ?_
  refine s_aload (q := 9) d_C_keeper_7 rfl rfl (Or.inl rfl) ?_
  refine s_ifnull_n (tgt := 22) d_C_keeper_9 (by decide) ?_
  refine s_bipush (v := (-2)) (q := 24) d_C_keeper_22 rfl kb_m2 ?_
  exact g_iret d_C_keeper_24 rfl rfl rfl rfl
theorem t_C_keeper_K {X : RAM} {t m : Nat} {kd a c : Int32} (ht : t < 2) (hk : ¬ KeepOK kd a c) : CG l D ac b y_C_keeper c_C_keeper 6 (some .int) 2 46 [.ref 0, .int (nI t), .int kd, .int a, .int c] X (some (.int (-2))) (X) := by
  refine Ct_of false (by decide) (fun h => by cases h) (Nat.le_of_ble_eq_true rfl) ?_
  show V l D ac b "SpanStore" c_C_keeper 6 (some .int) false 2 46 0 0 ((some (.int (-2))), 144, mk (X)) 0 0 0 [(0, .ref 0), (1, .int (nI t)), (2, .int kd), (3, .int a), (4, .int c)] [] 144 (mk X)
  refine s_aload_n (q := 1) d_C_keeper_0 rfl rfl (Or.inr ⟨_, rfl⟩) ?_
  refine s_iload_n (q := 2) d_C_keeper_1 rfl rfl ?_
  refine g_callV (q := 5) d_C_keeper_2 rfl ml_C_27 mx_C_tableAt mv_C_tableAt (t_C_tableAt_ok ht) hC.1 rfl rfl (Nat.le_of_ble_eq_true rfl) (by decide) ?_
  refine s_astore (q := 7) d_C_keeper_5 rfl (by decide) (Or.inr ⟨_, rfl⟩) ?_
  refine s_aload (q := 9) d_C_keeper_7 rfl rfl (Or.inr ⟨_, rfl⟩) ?_
  refine s_ifnull_r (q := 12) d_C_keeper_9 rfl ?_
  refine s_iload_n (q := 13) d_C_keeper_12 rfl rfl ?_
  refine s_iload_n (q := 14) d_C_keeper_13 rfl rfl ?_
  refine s_iload (q := 16) d_C_keeper_14 rfl rfl ?_
  refine g_callS (q := 19) d_C_keeper_16 rfl ml_C_68 mx_C_isKeeper ms_C_isKeeper t_C_isKeeper rfl rfl (Nat.le_of_ble_eq_true rfl) (by decide) ?_
  refine s_if_ne (tgt := 25) (q := 22) d_C_keeper_19 (by decide) rfl (fun z9 => absurd (keB_f hk) z9) (fun _ => ?_)
  refine s_bipush (v := (-2)) (q := 24) d_C_keeper_22 rfl kb_m2 ?_
  exact g_iret d_C_keeper_24 rfl rfl rfl rfl
theorem t_C_keeper_S {X : RAM} {t m : Nat} {kd a c : Int32} (ht : t < 2) (hk : KeepOK kd a c) (hs : ¬ X (4 + 55 * t) 3 = 0) : CG l D ac b y_C_keeper c_C_keeper 6 (some .int) 2 46 [.ref 0, .int (nI t), .int kd, .int a, .int c] X (some (.int (-3))) (X) := by
  refine Ct_of false (by decide) (fun h => by cases h) (Nat.le_of_ble_eq_true rfl) ?_
  show V l D ac b "SpanStore" c_C_keeper 6 (some .int) false 2 46 0 0 ((some (.int (-3))), 144, mk (X)) 0 0 0 [(0, .ref 0), (1, .int (nI t)), (2, .int kd), (3, .int a), (4, .int c)] [] 144 (mk X)
  refine s_aload_n (q := 1) d_C_keeper_0 rfl rfl (Or.inr ⟨_, rfl⟩) ?_
  refine s_iload_n (q := 2) d_C_keeper_1 rfl rfl ?_
  refine g_callV (q := 5) d_C_keeper_2 rfl ml_C_27 mx_C_tableAt mv_C_tableAt (t_C_tableAt_ok ht) hC.1 rfl rfl (Nat.le_of_ble_eq_true rfl) (by decide) ?_
  refine s_astore (q := 7) d_C_keeper_5 rfl (by decide) (Or.inr ⟨_, rfl⟩) ?_
  refine s_aload (q := 9) d_C_keeper_7 rfl rfl (Or.inr ⟨_, rfl⟩) ?_
  refine s_ifnull_r (q := 12) d_C_keeper_9 rfl ?_
  refine s_iload_n (q := 13) d_C_keeper_12 rfl rfl ?_
  refine s_iload_n (q := 14) d_C_keeper_13 rfl rfl ?_
  refine s_iload (q := 16) d_C_keeper_14 rfl rfl ?_
  refine g_callS (q := 19) d_C_keeper_16 rfl ml_C_68 mx_C_isKeeper ms_C_isKeeper t_C_isKeeper rfl rfl (Nat.le_of_ble_eq_true rfl) (by decide) ?_
  refine s_if_ne (tgt := 25) (q := 22) d_C_keeper_19 (by decide) rfl (fun _ => ?_) (fun z9 => absurd z9 (keB_t hk))
  refine s_aload (q := 27) d_C_keeper_25 rfl rfl (Or.inr ⟨_, rfl⟩) ?_
  refine g_geti (q := 30) d_C_keeper_27 rfl fl_C_39 (hC.2.2.2.2.1 _ ht).1 rfl ?_
  refine s_if_eq (tgt := 36) (q := 33) d_C_keeper_30 (by decide) rfl (fun z9 => absurd z9 hs) (fun _ => ?_)
  refine s_bipush (v := (-3)) (q := 35) d_C_keeper_33 rfl kb_m3 ?_
  exact g_iret d_C_keeper_35 rfl rfl rfl rfl
theorem t_C_keeper_F {X : RAM} {t m : Nat} {kd a c : Int32} (ht : t < 2) (hk : KeepOK kd a c) (hs : X (4 + 55 * t) 3 = 0) (hm : X (4 + 55 * t) 2 = nI 4) : CG l D ac b y_C_keeper c_C_keeper 6 (some .int) 2 46 [.ref 0, .int (nI t), .int kd, .int a, .int c] X (some (.int (-4))) (X) := by
  refine Ct_of false (by decide) (fun h => by cases h) (Nat.le_of_ble_eq_true rfl) ?_
  show V l D ac b "SpanStore" c_C_keeper 6 (some .int) false 2 46 0 0 ((some (.int (-4))), 144, mk (X)) 0 0 0 [(0, .ref 0), (1, .int (nI t)), (2, .int kd), (3, .int a), (4, .int c)] [] 144 (mk X)
  refine s_aload_n (q := 1) d_C_keeper_0 rfl rfl (Or.inr ⟨_, rfl⟩) ?_
  refine s_iload_n (q := 2) d_C_keeper_1 rfl rfl ?_
  refine g_callV (q := 5) d_C_keeper_2 rfl ml_C_27 mx_C_tableAt mv_C_tableAt (t_C_tableAt_ok ht) hC.1 rfl rfl (Nat.le_of_ble_eq_true rfl) (by decide) ?_
  refine s_astore (q := 7) d_C_keeper_5 rfl (by decide) (Or.inr ⟨_, rfl⟩) ?_
  refine s_aload (q := 9) d_C_keeper_7 rfl rfl (Or.inr ⟨_, rfl⟩) ?_
  refine s_ifnull_r (q := 12) d_C_keeper_9 rfl ?_
  refine s_iload_n (q := 13) d_C_keeper_12 rfl rfl ?_
  refine s_iload_n (q := 14) d_C_keeper_13 rfl rfl ?_
  refine s_iload (q := 16) d_C_keeper_14 rfl rfl ?_
  refine g_callS (q := 19) d_C_keeper_16 rfl ml_C_68 mx_C_isKeeper ms_C_isKeeper t_C_isKeeper rfl rfl (Nat.le_of_ble_eq_true rfl) (by decide) ?_
  refine s_if_ne (tgt := 25) (q := 22) d_C_keeper_19 (by decide) rfl (fun _ => ?_) (fun z9 => absurd z9 (keB_t hk))
  refine s_aload (q := 27) d_C_keeper_25 rfl rfl (Or.inr ⟨_, rfl⟩) ?_
  refine g_geti (q := 30) d_C_keeper_27 rfl fl_C_39 (hC.2.2.2.2.1 _ ht).1 rfl ?_
  refine s_if_eq (tgt := 36) (q := 33) d_C_keeper_30 (by decide) rfl (fun _ => ?_) (fun z9 => absurd hs z9)
  refine s_aload (q := 38) d_C_keeper_36 rfl rfl (Or.inr ⟨_, rfl⟩) ?_
  refine g_getv (v := nI 4) (q := 41) d_C_keeper_38 rfl fl_C_71 (hC.2.2.2.2.1 _ ht).1 rfl hm ?_
  refine s_iconst (v := 4) (q := 42) d_C_keeper_41 rfl ki_4 ?_
  refine s_icmp_lt (tgt := 48) (q := 45) d_C_keeper_42 (by decide) rfl (fun z9 => absurd z9 (by decide)) (fun _ => ?_)
  refine s_bipush (v := (-4)) (q := 47) d_C_keeper_45 rfl kb_m4 ?_
  exact g_iret d_C_keeper_47 rfl rfl rfl rfl
theorem t_C_keeper_D {X : RAM} {t m : Nat} {kd a c : Int32} (ht : t < 2) (hk : KeepOK kd a c) (hs : X (4 + 55 * t) 3 = 0) (hm : X (4 + 55 * t) 2 = nI m) (hm4 : m < 4) : CG l D ac b y_C_keeper c_C_keeper 6 (some .int) 2 46 [.ref 0, .int (nI t), .int kd, .int a, .int c] X (some (.int (nI (m + 1)))) (akpX X (4 + 55 * t) m kd a c) := by
  refine Ct_of false (by decide) (fun h => by cases h) (Nat.le_of_ble_eq_true rfl) ?_
  show V l D ac b "SpanStore" c_C_keeper 6 (some .int) false 2 46 0 0 ((some (.int (nI (m + 1)))), 144, mk (akpX X (4 + 55 * t) m kd a c)) 0 0 0 [(0, .ref 0), (1, .int (nI t)), (2, .int kd), (3, .int a), (4, .int c)] [] 144 (mk X)
  refine s_aload_n (q := 1) d_C_keeper_0 rfl rfl (Or.inr ⟨_, rfl⟩) ?_
  refine s_iload_n (q := 2) d_C_keeper_1 rfl rfl ?_
  refine g_callV (q := 5) d_C_keeper_2 rfl ml_C_27 mx_C_tableAt mv_C_tableAt (t_C_tableAt_ok ht) hC.1 rfl rfl (Nat.le_of_ble_eq_true rfl) (by decide) ?_
  refine s_astore (q := 7) d_C_keeper_5 rfl (by decide) (Or.inr ⟨_, rfl⟩) ?_
  refine s_aload (q := 9) d_C_keeper_7 rfl rfl (Or.inr ⟨_, rfl⟩) ?_
  refine s_ifnull_r (q := 12) d_C_keeper_9 rfl ?_
  refine s_iload_n (q := 13) d_C_keeper_12 rfl rfl ?_
  refine s_iload_n (q := 14) d_C_keeper_13 rfl rfl ?_
  refine s_iload (q := 16) d_C_keeper_14 rfl rfl ?_
  refine g_callS (q := 19) d_C_keeper_16 rfl ml_C_68 mx_C_isKeeper ms_C_isKeeper t_C_isKeeper rfl rfl (Nat.le_of_ble_eq_true rfl) (by decide) ?_
  refine s_if_ne (tgt := 25) (q := 22) d_C_keeper_19 (by decide) rfl (fun _ => ?_) (fun z9 => absurd z9 (keB_t hk))
  refine s_aload (q := 27) d_C_keeper_25 rfl rfl (Or.inr ⟨_, rfl⟩) ?_
  refine g_geti (q := 30) d_C_keeper_27 rfl fl_C_39 (hC.2.2.2.2.1 _ ht).1 rfl ?_
  refine s_if_eq (tgt := 36) (q := 33) d_C_keeper_30 (by decide) rfl (fun _ => ?_) (fun z9 => absurd hs z9)
  refine s_aload (q := 38) d_C_keeper_36 rfl rfl (Or.inr ⟨_, rfl⟩) ?_
  refine g_getv (v := nI m) (q := 41) d_C_keeper_38 rfl fl_C_71 (hC.2.2.2.2.1 _ ht).1 rfl hm ?_
  refine s_iconst (v := 4) (q := 42) d_C_keeper_41 rfl ki_4 ?_
  refine s_icmp_lt (tgt := 48) (q := 45) d_C_keeper_42 (by decide) rfl (fun _ => ?_) (fun z9 => absurd (nI_lt (a := m) (b := 4) hm4 (by decide)) z9)
  refine s_aload (q := 50) d_C_keeper_48 rfl rfl (Or.inr ⟨_, rfl⟩) ?_
  refine s_iload_n (q := 51) d_C_keeper_50 rfl rfl ?_
  refine s_iload_n (q := 52) d_C_keeper_51 rfl rfl ?_
  refine s_iload (q := 54) d_C_keeper_52 rfl rfl ?_
  refine g_callV (q := 57) d_C_keeper_54 rfl ml_C_74 mx_T_addKeeper mv_T_addKeeper (t_T_addKeeper (hC.2.2.2.2.1 _ ht) hm hm4) (hC.2.2.2.2.1 _ ht).1 rfl rfl (Nat.le_of_ble_eq_true rfl) (by decide) ?_
  refine s_aload (q := 59) d_C_keeper_57 rfl rfl (Or.inr ⟨_, rfl⟩) ?_
  refine g_getv (v := nI (m + 1)) (q := 62) d_C_keeper_59 rfl fl_C_71 (hC.2.2.2.2.1 _ ht).1 rfl (by simp [akpX, up2, upd]) ?_
  exact g_iret d_C_keeper_62 rfl rfl rfl rfl
theorem t_C_seal_T {X : RAM} {x : Int32} (hx : x < 0 ∨ 2 ≤ x) : CG l D ac b y_C_seal c_C_seal 3 (some .int) 5 112 [.ref 0, .int x] X (some (.int (-2))) (X) := by
  refine Ct_of false (by decide) (fun h => by cases h) (Nat.le_of_ble_eq_true rfl) ?_
  show V l D ac b "SpanStore" c_C_seal 3 (some .int) false 5 112 0 0 ((some (.int (-2))), 144, mk (X)) 0 0 0 [(0, .ref 0), (1, .int x)] [] 144 (mk X)
  refine s_aload_n (q := 1) d_C_seal_0 rfl rfl (Or.inr ⟨_, rfl⟩) ?_
  refine s_iload_n (q := 2) d_C_seal_1 rfl rfl ?_
  refine g_callV (q := 5) d_C_seal_2 rfl ml_C_27 mx_C_tableAt mv_C_tableAt (t_C_tableAt_no hx) hC.1 rfl rfl (Nat.le_of_ble_eq_true rfl) (by decide) ?_
  refine s_astore_n (q := 6) d_C_seal_5 rfl (by decide) (Or.inl rfl) ?_
  refine s_aload_n (q := 7) d_C_seal_6 rfl rfl (Or.inl rfl) ?_
  refine s_ifnonnull_n (q := 10) d_C_seal_7 rfl ?_
  refine s_bipush (v := (-2)) (q := 12) d_C_seal_10 rfl kb_m2 ?_
  exact g_iret d_C_seal_12 rfl rfl rfl rfl
theorem t_C_seal_S {X : RAM} {t : Nat} (ht : t < 2) (hs : ¬ X (4 + 55 * t) 3 = 0) : CG l D ac b y_C_seal c_C_seal 3 (some .int) 5 112 [.ref 0, .int (nI t)] X (some (.int (-3))) (X) := by
  refine Ct_of false (by decide) (fun h => by cases h) (Nat.le_of_ble_eq_true rfl) ?_
  show V l D ac b "SpanStore" c_C_seal 3 (some .int) false 5 112 0 0 ((some (.int (-3))), 144, mk (X)) 0 0 0 [(0, .ref 0), (1, .int (nI t))] [] 144 (mk X)
  refine s_aload_n (q := 1) d_C_seal_0 rfl rfl (Or.inr ⟨_, rfl⟩) ?_
  refine s_iload_n (q := 2) d_C_seal_1 rfl rfl ?_
  refine g_callV (q := 5) d_C_seal_2 rfl ml_C_27 mx_C_tableAt mv_C_tableAt (t_C_tableAt_ok ht) hC.1 rfl rfl (Nat.le_of_ble_eq_true rfl) (by decide) ?_
  refine s_astore_n (q := 6) d_C_seal_5 rfl (by decide) (Or.inr ⟨_, rfl⟩) ?_
  refine s_aload_n (q := 7) d_C_seal_6 rfl rfl (Or.inr ⟨_, rfl⟩) ?_
  refine s_ifnonnull_r (tgt := 13) d_C_seal_7 (by decide) ?_
  refine s_aload_n (q := 14) d_C_seal_13 rfl rfl (Or.inr ⟨_, rfl⟩) ?_
  refine g_geti (q := 17) d_C_seal_14 rfl fl_C_39 (hC.2.2.2.2.1 _ ht).1 rfl ?_
  refine s_if_eq (tgt := 23) (q := 20) d_C_seal_17 (by decide) rfl (fun z9 => absurd z9 hs) (fun _ => ?_)
  refine s_bipush (v := (-3)) (q := 22) d_C_seal_20 rfl kb_m3 ?_
  exact g_iret d_C_seal_22 rfl rfl rfl rfl
theorem t_C_seal_D {X : RAM} {t c : Nat} (ht : t < 2) (hs : X (4 + 55 * t) 3 = 0) (hc : X (4 + 55 * t) 2 = nI c) (hc4 : c ≤ 4) (hZ : okZ X (4 + 55 * t)) : CG l D ac b y_C_seal c_C_seal 3 (some .int) 5 112 [.ref 0, .int (nI t)] X (some (.int (sumI (fun j => clX X (4 + 55 * t) c (4 + 55 * t + 3 + 6 * j) 6) 8))) (clX X (4 + 55 * t) c) := by
  refine Ct_of false (by decide) (fun h => by cases h) (Nat.le_of_ble_eq_true rfl) ?_
  show V l D ac b "SpanStore" c_C_seal 3 (some .int) false 5 112 0 0 ((some (.int (sumI (fun j => clX X (4 + 55 * t) c (4 + 55 * t + 3 + 6 * j) 6) 8))), 144, mk (clX X (4 + 55 * t) c)) 0 0 0 [(0, .ref 0), (1, .int (nI t))] [] 144 (mk X)
  refine s_aload_n (q := 1) d_C_seal_0 rfl rfl (Or.inr ⟨_, rfl⟩) ?_
  refine s_iload_n (q := 2) d_C_seal_1 rfl rfl ?_
  refine g_callV (q := 5) d_C_seal_2 rfl ml_C_27 mx_C_tableAt mv_C_tableAt (t_C_tableAt_ok ht) hC.1 rfl rfl (Nat.le_of_ble_eq_true rfl) (by decide) ?_
  refine s_astore_n (q := 6) d_C_seal_5 rfl (by decide) (Or.inr ⟨_, rfl⟩) ?_
  refine s_aload_n (q := 7) d_C_seal_6 rfl rfl (Or.inr ⟨_, rfl⟩) ?_
  refine s_ifnonnull_r (tgt := 13) d_C_seal_7 (by decide) ?_
  refine s_aload_n (q := 14) d_C_seal_13 rfl rfl (Or.inr ⟨_, rfl⟩) ?_
  refine g_geti (q := 17) d_C_seal_14 rfl fl_C_39 (hC.2.2.2.2.1 _ ht).1 rfl ?_
  refine s_if_eq (tgt := 23) (q := 20) d_C_seal_17 (by decide) rfl (fun _ => ?_) (fun z9 => absurd hs z9)
  refine s_aload_n (q := 24) d_C_seal_23 rfl rfl (Or.inr ⟨_, rfl⟩) ?_
  refine g_callV (q := 27) d_C_seal_24 rfl ml_C_77 mx_T_close mv_T_close (t_T_close (hC.2.2.2.2.1 _ ht) hc hc4 hZ) (hC.2.2.2.2.1 _ ht).1 rfl rfl (Nat.le_of_ble_eq_true rfl) (by decide) ?_
  refine s_aload_n (q := 28) d_C_seal_27 rfl rfl (Or.inr ⟨_, rfl⟩) ?_
  refine g_callV (q := 31) d_C_seal_28 rfl ml_C_80 mx_T_knownRows mv_T_knownRows (t_T_knownRows (hC.2.2.2.2.1 _ ht)) (hC.2.2.2.2.1 _ ht).1 rfl rfl (Nat.le_of_ble_eq_true rfl) (by decide) ?_
  exact g_iret d_C_seal_31 rfl rfl rfl rfl
theorem t_C_clear_T {X : RAM} {x : Int32} (hx : x < 0 ∨ 2 ≤ x) : CG l D ac b y_C_clear c_C_clear 4 (some .int) 3 64 [.ref 0, .int x] X (some (.int (-2))) (X) := by
  refine Ct_of false (by decide) (fun h => by cases h) (Nat.le_of_ble_eq_true rfl) ?_
  show V l D ac b "SpanStore" c_C_clear 4 (some .int) false 3 64 0 0 ((some (.int (-2))), 144, mk (X)) 0 0 0 [(0, .ref 0), (1, .int x)] [] 144 (mk X)
  refine s_aload_n (q := 1) d_C_clear_0 rfl rfl (Or.inr ⟨_, rfl⟩) ?_
  refine s_iload_n (q := 2) d_C_clear_1 rfl rfl ?_
  refine g_callV (q := 5) d_C_clear_2 rfl ml_C_27 mx_C_tableAt mv_C_tableAt (t_C_tableAt_no hx) hC.1 rfl rfl (Nat.le_of_ble_eq_true rfl) (by decide) ?_
  refine s_astore_n (q := 6) d_C_clear_5 rfl (by decide) (Or.inl rfl) ?_
  refine s_aload_n (q := 7) d_C_clear_6 rfl rfl (Or.inl rfl) ?_
  refine s_ifnonnull_n (q := 10) d_C_clear_7 rfl ?_
  refine s_bipush (v := (-2)) (q := 12) d_C_clear_10 rfl kb_m2 ?_
  exact g_iret d_C_clear_12 rfl rfl rfl rfl
theorem t_C_clear_D {X : RAM} {t : Nat} (ht : t < 2) : CG l D ac b y_C_clear c_C_clear 4 (some .int) 3 64 [.ref 0, .int (nI t)] X (some (.int (sumI (fun j => X (4 + 55 * t + 3 + 6 * j) 5) 8))) (emX X (4 + 55 * t)) := by
  refine Ct_of false (by decide) (fun h => by cases h) (Nat.le_of_ble_eq_true rfl) ?_
  show V l D ac b "SpanStore" c_C_clear 4 (some .int) false 3 64 0 0 ((some (.int (sumI (fun j => X (4 + 55 * t + 3 + 6 * j) 5) 8))), 144, mk (emX X (4 + 55 * t))) 0 0 0 [(0, .ref 0), (1, .int (nI t))] [] 144 (mk X)
  refine s_aload_n (q := 1) d_C_clear_0 rfl rfl (Or.inr ⟨_, rfl⟩) ?_
  refine s_iload_n (q := 2) d_C_clear_1 rfl rfl ?_
  refine g_callV (q := 5) d_C_clear_2 rfl ml_C_27 mx_C_tableAt mv_C_tableAt (t_C_tableAt_ok ht) hC.1 rfl rfl (Nat.le_of_ble_eq_true rfl) (by decide) ?_
  refine s_astore_n (q := 6) d_C_clear_5 rfl (by decide) (Or.inr ⟨_, rfl⟩) ?_
  refine s_aload_n (q := 7) d_C_clear_6 rfl rfl (Or.inr ⟨_, rfl⟩) ?_
  refine s_ifnonnull_r (tgt := 13) d_C_clear_7 (by decide) ?_
  refine s_aload_n (q := 14) d_C_clear_13 rfl rfl (Or.inr ⟨_, rfl⟩) ?_
  refine g_callV (q := 17) d_C_clear_14 rfl ml_C_84 mx_T_rows mv_T_rows (t_T_rows (hC.2.2.2.2.1 _ ht)) (hC.2.2.2.2.1 _ ht).1 rfl rfl (Nat.le_of_ble_eq_true rfl) (by decide) ?_
  refine s_istore_n (q := 18) d_C_clear_17 rfl (by decide) ?_
  refine s_aload_n (q := 19) d_C_clear_18 rfl rfl (Or.inr ⟨_, rfl⟩) ?_
  refine g_callV (q := 22) d_C_clear_19 rfl ml_C_87 mx_T_empty mv_T_empty (t_T_empty (hC.2.2.2.2.1 _ ht)) (hC.2.2.2.2.1 _ ht).1 rfl rfl (Nat.le_of_ble_eq_true rfl) (by decide) ?_
  refine s_iload_n (q := 23) d_C_clear_22 rfl rfl ?_
  exact g_iret d_C_clear_23 rfl rfl rfl rfl
theorem t_C_read_T {X : RAM} {x y : Int32} (hx : x < 0 ∨ 2 ≤ x) : CG l D ac b y_C_read c_C_read 5 (some .int) 4 85 [.ref 0, .int x, .int y] X (some (.int (-2))) (X) := by
  refine Ct_of false (by decide) (fun h => by cases h) (Nat.le_of_ble_eq_true rfl) ?_
  show V l D ac b "SpanStore" c_C_read 5 (some .int) false 4 85 0 0 ((some (.int (-2))), 144, mk (X)) 0 0 0 [(0, .ref 0), (1, .int x), (2, .int y)] [] 144 (mk X)
  refine s_aload_n (q := 1) d_C_read_0 rfl rfl (Or.inr ⟨_, rfl⟩) ?_
  refine s_iload_n (q := 2) d_C_read_1 rfl rfl ?_
  refine g_callV (q := 5) d_C_read_2 rfl ml_C_27 mx_C_tableAt mv_C_tableAt (t_C_tableAt_no hx) hC.1 rfl rfl (Nat.le_of_ble_eq_true rfl) (by decide) ?_
  refine s_astore_n (q := 6) d_C_read_5 rfl (by decide) (Or.inl rfl) ?_
  refine s_aload_n (q := 7) d_C_read_6 rfl rfl (Or.inl rfl) ?_
  refine s_iload_n (q := 8) d_C_read_7 rfl rfl ?_
  refine g_callS (q := 11) d_C_read_8 rfl ml_C_31 mx_C_blockAt ms_C_blockAt t_C_blockAt_nt rfl rfl (Nat.le_of_ble_eq_true rfl) (by decide) ?_
  refine s_astore (q := 13) d_C_read_11 rfl (by decide) (Or.inl rfl) ?_
  refine s_aload_n (q := 14) d_C_read_13 rfl rfl (Or.inl rfl) ?_
  refine s_ifnull_n (tgt := 22) d_C_read_14 (by decide) ?_
  refine s_bipush (v := (-2)) (q := 24) d_C_read_22 rfl kb_m2 ?_
  exact g_iret d_C_read_24 rfl rfl rfl rfl
theorem t_C_read_B {X : RAM} {t : Nat} {y : Int32} (ht : t < 2) (hy : y < 0 ∨ 8 ≤ y) : CG l D ac b y_C_read c_C_read 5 (some .int) 4 85 [.ref 0, .int (nI t), .int y] X (some (.int (-2))) (X) := by
  refine Ct_of false (by decide) (fun h => by cases h) (Nat.le_of_ble_eq_true rfl) ?_
  show V l D ac b "SpanStore" c_C_read 5 (some .int) false 4 85 0 0 ((some (.int (-2))), 144, mk (X)) 0 0 0 [(0, .ref 0), (1, .int (nI t)), (2, .int y)] [] 144 (mk X)
  refine s_aload_n (q := 1) d_C_read_0 rfl rfl (Or.inr ⟨_, rfl⟩) ?_
  refine s_iload_n (q := 2) d_C_read_1 rfl rfl ?_
  refine g_callV (q := 5) d_C_read_2 rfl ml_C_27 mx_C_tableAt mv_C_tableAt (t_C_tableAt_ok ht) hC.1 rfl rfl (Nat.le_of_ble_eq_true rfl) (by decide) ?_
  refine s_astore_n (q := 6) d_C_read_5 rfl (by decide) (Or.inr ⟨_, rfl⟩) ?_
  refine s_aload_n (q := 7) d_C_read_6 rfl rfl (Or.inr ⟨_, rfl⟩) ?_
  refine s_iload_n (q := 8) d_C_read_7 rfl rfl ?_
  refine g_callS (q := 11) d_C_read_8 rfl ml_C_31 mx_C_blockAt ms_C_blockAt (t_C_blockAt_no (hC.2.2.2.2.1 _ ht) hy) rfl rfl (Nat.le_of_ble_eq_true rfl) (by decide) ?_
  refine s_astore (q := 13) d_C_read_11 rfl (by decide) (Or.inl rfl) ?_
  refine s_aload_n (q := 14) d_C_read_13 rfl rfl (Or.inr ⟨_, rfl⟩) ?_
  refine s_ifnull_r (q := 17) d_C_read_14 rfl ?_
  refine s_aload (q := 19) d_C_read_17 rfl rfl (Or.inl rfl) ?_
  refine s_ifnonnull_n (q := 22) d_C_read_19 rfl ?_
  refine s_bipush (v := (-2)) (q := 24) d_C_read_22 rfl kb_m2 ?_
  exact g_iret d_C_read_24 rfl rfl rfl rfl
theorem t_C_read_S {X : RAM} {t j : Nat} (ht : t < 2) (hj : j < 8) (hs : X (4 + 55 * t) 3 = 0) : CG l D ac b y_C_read c_C_read 5 (some .int) 4 85 [.ref 0, .int (nI t), .int (nI j)] X (some (.int (-3))) (X) := by
  refine Ct_of false (by decide) (fun h => by cases h) (Nat.le_of_ble_eq_true rfl) ?_
  show V l D ac b "SpanStore" c_C_read 5 (some .int) false 4 85 0 0 ((some (.int (-3))), 144, mk (X)) 0 0 0 [(0, .ref 0), (1, .int (nI t)), (2, .int (nI j))] [] 144 (mk X)
  refine s_aload_n (q := 1) d_C_read_0 rfl rfl (Or.inr ⟨_, rfl⟩) ?_
  refine s_iload_n (q := 2) d_C_read_1 rfl rfl ?_
  refine g_callV (q := 5) d_C_read_2 rfl ml_C_27 mx_C_tableAt mv_C_tableAt (t_C_tableAt_ok ht) hC.1 rfl rfl (Nat.le_of_ble_eq_true rfl) (by decide) ?_
  refine s_astore_n (q := 6) d_C_read_5 rfl (by decide) (Or.inr ⟨_, rfl⟩) ?_
  refine s_aload_n (q := 7) d_C_read_6 rfl rfl (Or.inr ⟨_, rfl⟩) ?_
  refine s_iload_n (q := 8) d_C_read_7 rfl rfl ?_
  refine g_callS (q := 11) d_C_read_8 rfl ml_C_31 mx_C_blockAt ms_C_blockAt (t_C_blockAt_ok (hC.2.2.2.2.1 _ ht) hj) rfl rfl (Nat.le_of_ble_eq_true rfl) (by decide) ?_
  refine s_astore (q := 13) d_C_read_11 rfl (by decide) (Or.inr ⟨_, rfl⟩) ?_
  refine s_aload_n (q := 14) d_C_read_13 rfl rfl (Or.inr ⟨_, rfl⟩) ?_
  refine s_ifnull_r (q := 17) d_C_read_14 rfl ?_
  refine s_aload (q := 19) d_C_read_17 rfl rfl (Or.inr ⟨_, rfl⟩) ?_
  refine s_ifnonnull_r (tgt := 25) d_C_read_19 (by decide) ?_
  refine s_aload_n (q := 26) d_C_read_25 rfl rfl (Or.inr ⟨_, rfl⟩) ?_
  refine g_geti (q := 29) d_C_read_26 rfl fl_C_39 (hC.2.2.2.2.1 _ ht).1 rfl ?_
  refine s_if_ne (tgt := 35) (q := 32) d_C_read_29 (by decide) rfl (fun z9 => absurd hs z9) (fun _ => ?_)
  refine s_bipush (v := (-3)) (q := 34) d_C_read_32 rfl kb_m3 ?_
  exact g_iret d_C_read_34 rfl rfl rfl rfl
theorem t_C_read_D {X : RAM} {t j n : Nat} (ht : t < 2) (hj : j < 8) (hs : ¬ X (4 + 55 * t) 3 = 0) (hsz : X (4 + 55 * t + 3 + 6 * j) 5 = nI n) (hn : n ≤ 12) : CG l D ac b y_C_read c_C_read 5 (some .int) 4 85 [.ref 0, .int (nI t), .int (nI j)] X (some (.int (X (4 + 55 * t + 3 + 6 * j) 5 - X (4 + 55 * t + 3 + 6 * j) 6))) (rbX X (4 + 55 * t + 3 + 6 * j) n) := by
  refine Ct_of false (by decide) (fun h => by cases h) (Nat.le_of_ble_eq_true rfl) ?_
  show V l D ac b "SpanStore" c_C_read 5 (some .int) false 4 85 0 0 ((some (.int (X (4 + 55 * t + 3 + 6 * j) 5 - X (4 + 55 * t + 3 + 6 * j) 6))), 144, mk (rbX X (4 + 55 * t + 3 + 6 * j) n)) 0 0 0 [(0, .ref 0), (1, .int (nI t)), (2, .int (nI j))] [] 144 (mk X)
  refine s_aload_n (q := 1) d_C_read_0 rfl rfl (Or.inr ⟨_, rfl⟩) ?_
  refine s_iload_n (q := 2) d_C_read_1 rfl rfl ?_
  refine g_callV (q := 5) d_C_read_2 rfl ml_C_27 mx_C_tableAt mv_C_tableAt (t_C_tableAt_ok ht) hC.1 rfl rfl (Nat.le_of_ble_eq_true rfl) (by decide) ?_
  refine s_astore_n (q := 6) d_C_read_5 rfl (by decide) (Or.inr ⟨_, rfl⟩) ?_
  refine s_aload_n (q := 7) d_C_read_6 rfl rfl (Or.inr ⟨_, rfl⟩) ?_
  refine s_iload_n (q := 8) d_C_read_7 rfl rfl ?_
  refine g_callS (q := 11) d_C_read_8 rfl ml_C_31 mx_C_blockAt ms_C_blockAt (t_C_blockAt_ok (hC.2.2.2.2.1 _ ht) hj) rfl rfl (Nat.le_of_ble_eq_true rfl) (by decide) ?_
  refine s_astore (q := 13) d_C_read_11 rfl (by decide) (Or.inr ⟨_, rfl⟩) ?_
  refine s_aload_n (q := 14) d_C_read_13 rfl rfl (Or.inr ⟨_, rfl⟩) ?_
  refine s_ifnull_r (q := 17) d_C_read_14 rfl ?_
  refine s_aload (q := 19) d_C_read_17 rfl rfl (Or.inr ⟨_, rfl⟩) ?_
  refine s_ifnonnull_r (tgt := 25) d_C_read_19 (by decide) ?_
  refine s_aload_n (q := 26) d_C_read_25 rfl rfl (Or.inr ⟨_, rfl⟩) ?_
  refine g_geti (q := 29) d_C_read_26 rfl fl_C_39 (hC.2.2.2.2.1 _ ht).1 rfl ?_
  refine s_if_ne (tgt := 35) (q := 32) d_C_read_29 (by decide) rfl (fun _ => ?_) (fun z9 => absurd z9 hs)
  refine s_aload_n (q := 36) d_C_read_35 rfl rfl (Or.inr ⟨_, rfl⟩) ?_
  refine s_aload (q := 38) d_C_read_36 rfl rfl (Or.inr ⟨_, rfl⟩) ?_
  refine g_callV (q := 41) d_C_read_38 rfl ml_C_90 mx_C_readBlock mv_C_readBlock (t_C_readBlock ((hC.2.2.2.2.1 _ ht).2.2.2.1 _ hj) hsz hn (by omega)) hC.1 rfl rfl (Nat.le_of_ble_eq_true rfl) (by decide) ?_
  exact g_iret d_C_read_41 rfl rfl rfl rfl
abbrev ValOK (v : Int32) : Prop := (-1000) ≤ v ∧ v ≤ 1000
theorem t_C_change_T {X : RAM} {x y r v : Int32} (hx : x < 0 ∨ 2 ≤ x) : CG l D ac b y_C_change c_C_change 7 (some .int) 3 64 [.ref 0, .int x, .int y, .int r, .int v] X (some (.int (-2))) (X) := by
  refine Ct_of false (by decide) (fun h => by cases h) (Nat.le_of_ble_eq_true rfl) ?_
  show V l D ac b "SpanStore" c_C_change 7 (some .int) false 3 64 0 0 ((some (.int (-2))), 144, mk (X)) 0 0 0 [(0, .ref 0), (1, .int x), (2, .int y), (3, .int r), (4, .int v)] [] 144 (mk X)
  refine s_aload_n (q := 1) d_C_change_0 rfl rfl (Or.inr ⟨_, rfl⟩) ?_
  refine s_iload_n (q := 2) d_C_change_1 rfl rfl ?_
  refine g_callV (q := 5) d_C_change_2 rfl ml_C_27 mx_C_tableAt mv_C_tableAt (t_C_tableAt_no hx) hC.1 rfl rfl (Nat.le_of_ble_eq_true rfl) (by decide) ?_
  refine s_astore (q := 7) d_C_change_5 rfl (by decide) (Or.inl rfl) ?_
  refine s_aload (q := 9) d_C_change_7 rfl rfl (Or.inl rfl) ?_
  refine s_iload_n (q := 10) d_C_change_9 rfl rfl ?_
  refine g_callS (q := 13) d_C_change_10 rfl ml_C_31 mx_C_blockAt ms_C_blockAt t_C_blockAt_nt rfl rfl (Nat.le_of_ble_eq_true rfl) (by decide) ?_
  refine s_astore (q := 15) d_C_change_13 rfl (by decide) (Or.inl rfl) ?_
  refine s_aload (q := 17) d_C_change_15 rfl rfl (Or.inl rfl) ?_
  refine s_ifnull_n (tgt := 42) d_C_change_17 (by decide) ?_
  refine s_bipush (v := (-2)) (q := 44) d_C_change_42 rfl kb_m2 ?_
  exact g_iret d_C_change_44 rfl rfl rfl rfl
theorem t_C_change_B {X : RAM} {t : Nat} {y r v : Int32} (ht : t < 2) (hy : y < 0 ∨ 8 ≤ y) : CG l D ac b y_C_change c_C_change 7 (some .int) 3 64 [.ref 0, .int (nI t), .int y, .int r, .int v] X (some (.int (-2))) (X) := by
  refine Ct_of false (by decide) (fun h => by cases h) (Nat.le_of_ble_eq_true rfl) ?_
  show V l D ac b "SpanStore" c_C_change 7 (some .int) false 3 64 0 0 ((some (.int (-2))), 144, mk (X)) 0 0 0 [(0, .ref 0), (1, .int (nI t)), (2, .int y), (3, .int r), (4, .int v)] [] 144 (mk X)
  refine s_aload_n (q := 1) d_C_change_0 rfl rfl (Or.inr ⟨_, rfl⟩) ?_
  refine s_iload_n (q := 2) d_C_change_1 rfl rfl ?_
  refine g_callV (q := 5) d_C_change_2 rfl ml_C_27 mx_C_tableAt mv_C_tableAt (t_C_tableAt_ok ht) hC.1 rfl rfl (Nat.le_of_ble_eq_true rfl) (by decide) ?_
  refine s_astore (q := 7) d_C_change_5 rfl (by decide) (Or.inr ⟨_, rfl⟩) ?_
  refine s_aload (q := 9) d_C_change_7 rfl rfl (Or.inr ⟨_, rfl⟩) ?_
  refine s_iload_n (q := 10) d_C_change_9 rfl rfl ?_
  refine g_callS (q := 13) d_C_change_10 rfl ml_C_31 mx_C_blockAt ms_C_blockAt (t_C_blockAt_no (hC.2.2.2.2.1 _ ht) hy) rfl rfl (Nat.le_of_ble_eq_true rfl) (by decide) ?_
  refine s_astore (q := 15) d_C_change_13 rfl (by decide) (Or.inl rfl) ?_
  refine s_aload (q := 17) d_C_change_15 rfl rfl (Or.inr ⟨_, rfl⟩) ?_
  refine s_ifnull_r (q := 20) d_C_change_17 rfl ?_
  refine s_aload (q := 22) d_C_change_20 rfl rfl (Or.inl rfl) ?_
  refine s_ifnull_n (tgt := 42) d_C_change_22 (by decide) ?_
  refine s_bipush (v := (-2)) (q := 44) d_C_change_42 rfl kb_m2 ?_
  exact g_iret d_C_change_44 rfl rfl rfl rfl
theorem t_C_change_R {X : RAM} {t j : Nat} {r v : Int32} (ht : t < 2) (hj : j < 8) (hr : ¬ (¬ r < 0 ∧ r < X (4 + 55 * t + 3 + 6 * j) 5)) : CG l D ac b y_C_change c_C_change 7 (some .int) 3 64 [.ref 0, .int (nI t), .int (nI j), .int r, .int v] X (some (.int (-2))) (X) := by
  refine Ct_of false (by decide) (fun h => by cases h) (Nat.le_of_ble_eq_true rfl) ?_
  show V l D ac b "SpanStore" c_C_change 7 (some .int) false 3 64 0 0 ((some (.int (-2))), 144, mk (X)) 0 0 0 [(0, .ref 0), (1, .int (nI t)), (2, .int (nI j)), (3, .int r), (4, .int v)] [] 144 (mk X)
  refine s_aload_n (q := 1) d_C_change_0 rfl rfl (Or.inr ⟨_, rfl⟩) ?_
  refine s_iload_n (q := 2) d_C_change_1 rfl rfl ?_
  refine g_callV (q := 5) d_C_change_2 rfl ml_C_27 mx_C_tableAt mv_C_tableAt (t_C_tableAt_ok ht) hC.1 rfl rfl (Nat.le_of_ble_eq_true rfl) (by decide) ?_
  refine s_astore (q := 7) d_C_change_5 rfl (by decide) (Or.inr ⟨_, rfl⟩) ?_
  refine s_aload (q := 9) d_C_change_7 rfl rfl (Or.inr ⟨_, rfl⟩) ?_
  refine s_iload_n (q := 10) d_C_change_9 rfl rfl ?_
  refine g_callS (q := 13) d_C_change_10 rfl ml_C_31 mx_C_blockAt ms_C_blockAt (t_C_blockAt_ok (hC.2.2.2.2.1 _ ht) hj) rfl rfl (Nat.le_of_ble_eq_true rfl) (by decide) ?_
  refine s_astore (q := 15) d_C_change_13 rfl (by decide) (Or.inr ⟨_, rfl⟩) ?_
  refine s_aload (q := 17) d_C_change_15 rfl rfl (Or.inr ⟨_, rfl⟩) ?_
  refine s_ifnull_r (q := 20) d_C_change_17 rfl ?_
  refine s_aload (q := 22) d_C_change_20 rfl rfl (Or.inr ⟨_, rfl⟩) ?_
  refine s_ifnull_r (q := 25) d_C_change_22 rfl ?_
  refine s_aload (q := 27) d_C_change_25 rfl rfl (Or.inr ⟨_, rfl⟩) ?_
  refine s_iload_n (q := 28) d_C_change_27 rfl rfl ?_
  refine g_callV (q := 31) d_C_change_28 rfl ml_C_94 mx_B_hasRow mv_B_hasRow (t_B_hasRow ((hC.2.2.2.2.1 _ ht).2.2.2.1 _ hj)) ((hC.2.2.2.2.1 _ ht).2.2.2.1 _ hj).1 rfl rfl (Nat.le_of_ble_eq_true rfl) (by decide) ?_
  refine s_if_eq (tgt := 42) (q := 34) d_C_change_31 (by decide) rfl (fun _ => ?_) (fun z9 => absurd (bI_d.mpr hr) z9)
  refine s_bipush (v := (-2)) (q := 44) d_C_change_42 rfl kb_m2 ?_
  exact g_iret d_C_change_44 rfl rfl rfl rfl
theorem t_C_change_V {X : RAM} {t j n k : Nat} {v : Int32} (ht : t < 2) (hj : j < 8) (hsz : X (4 + 55 * t + 3 + 6 * j) 5 = nI n) (hn : n ≤ 12) (hk : k < n) (hv : ¬ ValOK v) : CG l D ac b y_C_change c_C_change 7 (some .int) 3 64 [.ref 0, .int (nI t), .int (nI j), .int (nI k), .int v] X (some (.int (-2))) (X) := by
  refine Ct_of false (by decide) (fun h => by cases h) (Nat.le_of_ble_eq_true rfl) ?_
  show V l D ac b "SpanStore" c_C_change 7 (some .int) false 3 64 0 0 ((some (.int (-2))), 144, mk (X)) 0 0 0 [(0, .ref 0), (1, .int (nI t)), (2, .int (nI j)), (3, .int (nI k)), (4, .int v)] [] 144 (mk X)
  refine s_aload_n (q := 1) d_C_change_0 rfl rfl (Or.inr ⟨_, rfl⟩) ?_
  refine s_iload_n (q := 2) d_C_change_1 rfl rfl ?_
  refine g_callV (q := 5) d_C_change_2 rfl ml_C_27 mx_C_tableAt mv_C_tableAt (t_C_tableAt_ok ht) hC.1 rfl rfl (Nat.le_of_ble_eq_true rfl) (by decide) ?_
  refine s_astore (q := 7) d_C_change_5 rfl (by decide) (Or.inr ⟨_, rfl⟩) ?_
  refine s_aload (q := 9) d_C_change_7 rfl rfl (Or.inr ⟨_, rfl⟩) ?_
  refine s_iload_n (q := 10) d_C_change_9 rfl rfl ?_
  refine g_callS (q := 13) d_C_change_10 rfl ml_C_31 mx_C_blockAt ms_C_blockAt (t_C_blockAt_ok (hC.2.2.2.2.1 _ ht) hj) rfl rfl (Nat.le_of_ble_eq_true rfl) (by decide) ?_
  refine s_astore (q := 15) d_C_change_13 rfl (by decide) (Or.inr ⟨_, rfl⟩) ?_
  refine s_aload (q := 17) d_C_change_15 rfl rfl (Or.inr ⟨_, rfl⟩) ?_
  refine s_ifnull_r (q := 20) d_C_change_17 rfl ?_
  refine s_aload (q := 22) d_C_change_20 rfl rfl (Or.inr ⟨_, rfl⟩) ?_
  refine s_ifnull_r (q := 25) d_C_change_22 rfl ?_
  refine s_aload (q := 27) d_C_change_25 rfl rfl (Or.inr ⟨_, rfl⟩) ?_
  refine s_iload_n (q := 28) d_C_change_27 rfl rfl ?_
  refine g_callV (q := 31) d_C_change_28 rfl ml_C_94 mx_B_hasRow mv_B_hasRow (t_B_hasRow ((hC.2.2.2.2.1 _ ht).2.2.2.1 _ hj)) ((hC.2.2.2.2.1 _ ht).2.2.2.1 _ hj).1 rfl rfl (Nat.le_of_ble_eq_true rfl) (by decide) ?_
  refine s_if_eq (tgt := 42) (q := 34) d_C_change_31 (by decide) rfl (fun z9 => absurd z9 (hr_t hsz hk hn)) (fun _ => ?_)
  refine s_iload (q := 36) d_C_change_34 rfl rfl ?_
  refine g_callS (q := 39) d_C_change_36 rfl ml_C_98 mx_C_isValue ms_C_isValue t_C_isValue rfl rfl (Nat.le_of_ble_eq_true rfl) (by decide) ?_
  refine s_if_ne (tgt := 45) (q := 42) d_C_change_39 (by decide) rfl (fun z9 => absurd (bI_d.mpr hv) z9) (fun _ => ?_)
  refine s_bipush (v := (-2)) (q := 44) d_C_change_42 rfl kb_m2 ?_
  exact g_iret d_C_change_44 rfl rfl rfl rfl
theorem t_C_change_S {X : RAM} {t j n k : Nat} {v : Int32} (ht : t < 2) (hj : j < 8) (hsz : X (4 + 55 * t + 3 + 6 * j) 5 = nI n) (hn : n ≤ 12) (hk : k < n) (hv : ValOK v) (hs : X (4 + 55 * t) 3 = 0) : CG l D ac b y_C_change c_C_change 7 (some .int) 3 64 [.ref 0, .int (nI t), .int (nI j), .int (nI k), .int v] X (some (.int (-3))) (X) := by
  refine Ct_of false (by decide) (fun h => by cases h) (Nat.le_of_ble_eq_true rfl) ?_
  show V l D ac b "SpanStore" c_C_change 7 (some .int) false 3 64 0 0 ((some (.int (-3))), 144, mk (X)) 0 0 0 [(0, .ref 0), (1, .int (nI t)), (2, .int (nI j)), (3, .int (nI k)), (4, .int v)] [] 144 (mk X)
  refine s_aload_n (q := 1) d_C_change_0 rfl rfl (Or.inr ⟨_, rfl⟩) ?_
  refine s_iload_n (q := 2) d_C_change_1 rfl rfl ?_
  refine g_callV (q := 5) d_C_change_2 rfl ml_C_27 mx_C_tableAt mv_C_tableAt (t_C_tableAt_ok ht) hC.1 rfl rfl (Nat.le_of_ble_eq_true rfl) (by decide) ?_
  refine s_astore (q := 7) d_C_change_5 rfl (by decide) (Or.inr ⟨_, rfl⟩) ?_
  refine s_aload (q := 9) d_C_change_7 rfl rfl (Or.inr ⟨_, rfl⟩) ?_
  refine s_iload_n (q := 10) d_C_change_9 rfl rfl ?_
  refine g_callS (q := 13) d_C_change_10 rfl ml_C_31 mx_C_blockAt ms_C_blockAt (t_C_blockAt_ok (hC.2.2.2.2.1 _ ht) hj) rfl rfl (Nat.le_of_ble_eq_true rfl) (by decide) ?_
  refine s_astore (q := 15) d_C_change_13 rfl (by decide) (Or.inr ⟨_, rfl⟩) ?_
  refine s_aload (q := 17) d_C_change_15 rfl rfl (Or.inr ⟨_, rfl⟩) ?_
  refine s_ifnull_r (q := 20) d_C_change_17 rfl ?_
  refine s_aload (q := 22) d_C_change_20 rfl rfl (Or.inr ⟨_, rfl⟩) ?_
  refine s_ifnull_r (q := 25) d_C_change_22 rfl ?_
  refine s_aload (q := 27) d_C_change_25 rfl rfl (Or.inr ⟨_, rfl⟩) ?_
  refine s_iload_n (q := 28) d_C_change_27 rfl rfl ?_
  refine g_callV (q := 31) d_C_change_28 rfl ml_C_94 mx_B_hasRow mv_B_hasRow (t_B_hasRow ((hC.2.2.2.2.1 _ ht).2.2.2.1 _ hj)) ((hC.2.2.2.2.1 _ ht).2.2.2.1 _ hj).1 rfl rfl (Nat.le_of_ble_eq_true rfl) (by decide) ?_
  refine s_if_eq (tgt := 42) (q := 34) d_C_change_31 (by decide) rfl (fun z9 => absurd z9 (hr_t hsz hk hn)) (fun _ => ?_)
  refine s_iload (q := 36) d_C_change_34 rfl rfl ?_
  refine g_callS (q := 39) d_C_change_36 rfl ml_C_98 mx_C_isValue ms_C_isValue t_C_isValue rfl rfl (Nat.le_of_ble_eq_true rfl) (by decide) ?_
  refine s_if_ne (tgt := 45) (q := 42) d_C_change_39 (by decide) rfl (fun _ => ?_) (fun z9 => absurd z9 (bI_dn.mpr hv))
  refine s_aload (q := 47) d_C_change_45 rfl rfl (Or.inr ⟨_, rfl⟩) ?_
  refine g_geti (q := 50) d_C_change_47 rfl fl_C_39 (hC.2.2.2.2.1 _ ht).1 rfl ?_
  refine s_if_ne (tgt := 56) (q := 53) d_C_change_50 (by decide) rfl (fun z9 => absurd hs z9) (fun _ => ?_)
  refine s_bipush (v := (-3)) (q := 55) d_C_change_53 rfl kb_m3 ?_
  exact g_iret d_C_change_55 rfl rfl rfl rfl
theorem t_C_change_D {X : RAM} {t j n k : Nat} {v : Int32} (ht : t < 2) (hj : j < 8) (hsz : X (4 + 55 * t + 3 + 6 * j) 5 = nI n) (hn : n ≤ 12) (hk : k < n) (hv : ValOK v) (hs : ¬ X (4 + 55 * t) 3 = 0) : CG l D ac b y_C_change c_C_change 7 (some .int) 3 64 [.ref 0, .int (nI t), .int (nI j), .int (nI k), .int v] X (some (.int 1)) (chX X (4 + 55 * t + 3 + 6 * j) k v) := by
  refine Ct_of false (by decide) (fun h => by cases h) (Nat.le_of_ble_eq_true rfl) ?_
  show V l D ac b "SpanStore" c_C_change 7 (some .int) false 3 64 0 0 ((some (.int 1)), 144, mk (chX X (4 + 55 * t + 3 + 6 * j) k v)) 0 0 0 [(0, .ref 0), (1, .int (nI t)), (2, .int (nI j)), (3, .int (nI k)), (4, .int v)] [] 144 (mk X)
  refine s_aload_n (q := 1) d_C_change_0 rfl rfl (Or.inr ⟨_, rfl⟩) ?_
  refine s_iload_n (q := 2) d_C_change_1 rfl rfl ?_
  refine g_callV (q := 5) d_C_change_2 rfl ml_C_27 mx_C_tableAt mv_C_tableAt (t_C_tableAt_ok ht) hC.1 rfl rfl (Nat.le_of_ble_eq_true rfl) (by decide) ?_
  refine s_astore (q := 7) d_C_change_5 rfl (by decide) (Or.inr ⟨_, rfl⟩) ?_
  refine s_aload (q := 9) d_C_change_7 rfl rfl (Or.inr ⟨_, rfl⟩) ?_
  refine s_iload_n (q := 10) d_C_change_9 rfl rfl ?_
  refine g_callS (q := 13) d_C_change_10 rfl ml_C_31 mx_C_blockAt ms_C_blockAt (t_C_blockAt_ok (hC.2.2.2.2.1 _ ht) hj) rfl rfl (Nat.le_of_ble_eq_true rfl) (by decide) ?_
  refine s_astore (q := 15) d_C_change_13 rfl (by decide) (Or.inr ⟨_, rfl⟩) ?_
  refine s_aload (q := 17) d_C_change_15 rfl rfl (Or.inr ⟨_, rfl⟩) ?_
  refine s_ifnull_r (q := 20) d_C_change_17 rfl ?_
  refine s_aload (q := 22) d_C_change_20 rfl rfl (Or.inr ⟨_, rfl⟩) ?_
  refine s_ifnull_r (q := 25) d_C_change_22 rfl ?_
  refine s_aload (q := 27) d_C_change_25 rfl rfl (Or.inr ⟨_, rfl⟩) ?_
  refine s_iload_n (q := 28) d_C_change_27 rfl rfl ?_
  refine g_callV (q := 31) d_C_change_28 rfl ml_C_94 mx_B_hasRow mv_B_hasRow (t_B_hasRow ((hC.2.2.2.2.1 _ ht).2.2.2.1 _ hj)) ((hC.2.2.2.2.1 _ ht).2.2.2.1 _ hj).1 rfl rfl (Nat.le_of_ble_eq_true rfl) (by decide) ?_
  refine s_if_eq (tgt := 42) (q := 34) d_C_change_31 (by decide) rfl (fun z9 => absurd z9 (hr_t hsz hk hn)) (fun _ => ?_)
  refine s_iload (q := 36) d_C_change_34 rfl rfl ?_
  refine g_callS (q := 39) d_C_change_36 rfl ml_C_98 mx_C_isValue ms_C_isValue t_C_isValue rfl rfl (Nat.le_of_ble_eq_true rfl) (by decide) ?_
  refine s_if_ne (tgt := 45) (q := 42) d_C_change_39 (by decide) rfl (fun _ => ?_) (fun z9 => absurd z9 (bI_dn.mpr hv))
  refine s_aload (q := 47) d_C_change_45 rfl rfl (Or.inr ⟨_, rfl⟩) ?_
  refine g_geti (q := 50) d_C_change_47 rfl fl_C_39 (hC.2.2.2.2.1 _ ht).1 rfl ?_
  refine s_if_ne (tgt := 56) (q := 53) d_C_change_50 (by decide) rfl (fun _ => ?_) (fun z9 => absurd z9 hs)
  refine s_aload (q := 58) d_C_change_56 rfl rfl (Or.inr ⟨_, rfl⟩) ?_
  refine s_iload_n (q := 59) d_C_change_58 rfl rfl ?_
  refine s_iload (q := 61) d_C_change_59 rfl rfl ?_
  refine g_callV (q := 64) d_C_change_61 rfl ml_C_101 mx_B_changeRow mv_B_changeRow (t_B_changeRow ((hC.2.2.2.2.1 _ ht).2.2.2.1 _ hj) hsz hn hk) ((hC.2.2.2.2.1 _ ht).2.2.2.1 _ hj).1 rfl rfl (Nat.le_of_ble_eq_true rfl) (by decide) ?_
  refine s_iconst (v := 1) (q := 65) d_C_change_64 rfl ki_1 ?_
  exact g_iret d_C_change_65 rfl rfl rfl rfl
theorem t_C_value_T {X : RAM} {x y r : Int32} (hx : x < 0 ∨ 2 ≤ x) : CG l D ac b y_C_value c_C_value 6 (some .int) 1 21 [.ref 0, .int x, .int y, .int r] X (some (.int (-2147483648))) (X) := by
  refine Ct_of false (by decide) (fun h => by cases h) (Nat.le_of_ble_eq_true rfl) ?_
  show V l D ac b "SpanStore" c_C_value 6 (some .int) false 1 21 0 0 ((some (.int (-2147483648))), 144, mk (X)) 0 0 0 [(0, .ref 0), (1, .int x), (2, .int y), (3, .int r)] [] 144 (mk X)
  refine s_aload_n (q := 1) d_C_value_0 rfl rfl (Or.inr ⟨_, rfl⟩) ?_
  refine s_iload_n (q := 2) d_C_value_1 rfl rfl ?_
  refine g_callV (q := 5) d_C_value_2 rfl ml_C_27 mx_C_tableAt mv_C_tableAt (t_C_tableAt_no hx) hC.1 rfl rfl (Nat.le_of_ble_eq_true rfl) (by decide) ?_
  refine s_astore (q := 7) d_C_value_5 rfl (by decide) (Or.inl rfl) ?_
  refine s_aload (q := 9) d_C_value_7 rfl rfl (Or.inl rfl) ?_
  refine s_iload_n (q := 10) d_C_value_9 rfl rfl ?_
  refine g_callS (q := 13) d_C_value_10 rfl ml_C_31 mx_C_blockAt ms_C_blockAt t_C_blockAt_nt rfl rfl (Nat.le_of_ble_eq_true rfl) (by decide) ?_
  refine s_astore (q := 15) d_C_value_13 rfl (by decide) (Or.inl rfl) ?_
  refine s_aload (q := 17) d_C_value_15 rfl rfl (Or.inl rfl) ?_
  refine s_ifnull_n (tgt := 52) d_C_value_17 (by decide) ?_
  refine s_ldc (q := 54) d_C_value_52 rfl kc_C_111 ?_
  exact g_iret d_C_value_54 rfl rfl rfl rfl
theorem t_C_value_B {X : RAM} {t : Nat} {y r : Int32} (ht : t < 2) (hy : y < 0 ∨ 8 ≤ y) : CG l D ac b y_C_value c_C_value 6 (some .int) 1 21 [.ref 0, .int (nI t), .int y, .int r] X (some (.int (-2147483648))) (X) := by
  refine Ct_of false (by decide) (fun h => by cases h) (Nat.le_of_ble_eq_true rfl) ?_
  show V l D ac b "SpanStore" c_C_value 6 (some .int) false 1 21 0 0 ((some (.int (-2147483648))), 144, mk (X)) 0 0 0 [(0, .ref 0), (1, .int (nI t)), (2, .int y), (3, .int r)] [] 144 (mk X)
  refine s_aload_n (q := 1) d_C_value_0 rfl rfl (Or.inr ⟨_, rfl⟩) ?_
  refine s_iload_n (q := 2) d_C_value_1 rfl rfl ?_
  refine g_callV (q := 5) d_C_value_2 rfl ml_C_27 mx_C_tableAt mv_C_tableAt (t_C_tableAt_ok ht) hC.1 rfl rfl (Nat.le_of_ble_eq_true rfl) (by decide) ?_
  refine s_astore (q := 7) d_C_value_5 rfl (by decide) (Or.inr ⟨_, rfl⟩) ?_
  refine s_aload (q := 9) d_C_value_7 rfl rfl (Or.inr ⟨_, rfl⟩) ?_
  refine s_iload_n (q := 10) d_C_value_9 rfl rfl ?_
  refine g_callS (q := 13) d_C_value_10 rfl ml_C_31 mx_C_blockAt ms_C_blockAt (t_C_blockAt_no (hC.2.2.2.2.1 _ ht) hy) rfl rfl (Nat.le_of_ble_eq_true rfl) (by decide) ?_
  refine s_astore (q := 15) d_C_value_13 rfl (by decide) (Or.inl rfl) ?_
  refine s_aload (q := 17) d_C_value_15 rfl rfl (Or.inr ⟨_, rfl⟩) ?_
  refine s_ifnull_r (q := 20) d_C_value_17 rfl ?_
  refine s_aload (q := 22) d_C_value_20 rfl rfl (Or.inl rfl) ?_
  refine s_ifnull_n (tgt := 52) d_C_value_22 (by decide) ?_
  refine s_ldc (q := 54) d_C_value_52 rfl kc_C_111 ?_
  exact g_iret d_C_value_54 rfl rfl rfl rfl
theorem t_C_value_R {X : RAM} {t j : Nat} {r : Int32} (ht : t < 2) (hj : j < 8) (hr : ¬ (¬ r < 0 ∧ r < X (4 + 55 * t + 3 + 6 * j) 5)) : CG l D ac b y_C_value c_C_value 6 (some .int) 1 21 [.ref 0, .int (nI t), .int (nI j), .int r] X (some (.int (-2147483648))) (X) := by
  refine Ct_of false (by decide) (fun h => by cases h) (Nat.le_of_ble_eq_true rfl) ?_
  show V l D ac b "SpanStore" c_C_value 6 (some .int) false 1 21 0 0 ((some (.int (-2147483648))), 144, mk (X)) 0 0 0 [(0, .ref 0), (1, .int (nI t)), (2, .int (nI j)), (3, .int r)] [] 144 (mk X)
  refine s_aload_n (q := 1) d_C_value_0 rfl rfl (Or.inr ⟨_, rfl⟩) ?_
  refine s_iload_n (q := 2) d_C_value_1 rfl rfl ?_
  refine g_callV (q := 5) d_C_value_2 rfl ml_C_27 mx_C_tableAt mv_C_tableAt (t_C_tableAt_ok ht) hC.1 rfl rfl (Nat.le_of_ble_eq_true rfl) (by decide) ?_
  refine s_astore (q := 7) d_C_value_5 rfl (by decide) (Or.inr ⟨_, rfl⟩) ?_
  refine s_aload (q := 9) d_C_value_7 rfl rfl (Or.inr ⟨_, rfl⟩) ?_
  refine s_iload_n (q := 10) d_C_value_9 rfl rfl ?_
  refine g_callS (q := 13) d_C_value_10 rfl ml_C_31 mx_C_blockAt ms_C_blockAt (t_C_blockAt_ok (hC.2.2.2.2.1 _ ht) hj) rfl rfl (Nat.le_of_ble_eq_true rfl) (by decide) ?_
  refine s_astore (q := 15) d_C_value_13 rfl (by decide) (Or.inr ⟨_, rfl⟩) ?_
  refine s_aload (q := 17) d_C_value_15 rfl rfl (Or.inr ⟨_, rfl⟩) ?_
  refine s_ifnull_r (q := 20) d_C_value_17 rfl ?_
  refine s_aload (q := 22) d_C_value_20 rfl rfl (Or.inr ⟨_, rfl⟩) ?_
  refine s_ifnull_r (q := 25) d_C_value_22 rfl ?_
  refine s_aload (q := 27) d_C_value_25 rfl rfl (Or.inr ⟨_, rfl⟩) ?_
  refine s_iload_n (q := 28) d_C_value_27 rfl rfl ?_
  refine g_callV (q := 31) d_C_value_28 rfl ml_C_94 mx_B_hasRow mv_B_hasRow (t_B_hasRow ((hC.2.2.2.2.1 _ ht).2.2.2.1 _ hj)) ((hC.2.2.2.2.1 _ ht).2.2.2.1 _ hj).1 rfl rfl (Nat.le_of_ble_eq_true rfl) (by decide) ?_
  refine s_if_eq (tgt := 52) (q := 34) d_C_value_31 (by decide) rfl (fun _ => ?_) (fun z9 => absurd (bI_d.mpr hr) z9)
  refine s_ldc (q := 54) d_C_value_52 rfl kc_C_111 ?_
  exact g_iret d_C_value_54 rfl rfl rfl rfl
theorem t_C_value_S {X : RAM} {t j n k : Nat} (ht : t < 2) (hj : j < 8) (hsz : X (4 + 55 * t + 3 + 6 * j) 5 = nI n) (hn : n ≤ 12) (hk : k < n) (hs : X (4 + 55 * t) 3 = 0) : CG l D ac b y_C_value c_C_value 6 (some .int) 1 21 [.ref 0, .int (nI t), .int (nI j), .int (nI k)] X (some (.int (-2147483648))) (X) := by
  refine Ct_of false (by decide) (fun h => by cases h) (Nat.le_of_ble_eq_true rfl) ?_
  show V l D ac b "SpanStore" c_C_value 6 (some .int) false 1 21 0 0 ((some (.int (-2147483648))), 144, mk (X)) 0 0 0 [(0, .ref 0), (1, .int (nI t)), (2, .int (nI j)), (3, .int (nI k))] [] 144 (mk X)
  refine s_aload_n (q := 1) d_C_value_0 rfl rfl (Or.inr ⟨_, rfl⟩) ?_
  refine s_iload_n (q := 2) d_C_value_1 rfl rfl ?_
  refine g_callV (q := 5) d_C_value_2 rfl ml_C_27 mx_C_tableAt mv_C_tableAt (t_C_tableAt_ok ht) hC.1 rfl rfl (Nat.le_of_ble_eq_true rfl) (by decide) ?_
  refine s_astore (q := 7) d_C_value_5 rfl (by decide) (Or.inr ⟨_, rfl⟩) ?_
  refine s_aload (q := 9) d_C_value_7 rfl rfl (Or.inr ⟨_, rfl⟩) ?_
  refine s_iload_n (q := 10) d_C_value_9 rfl rfl ?_
  refine g_callS (q := 13) d_C_value_10 rfl ml_C_31 mx_C_blockAt ms_C_blockAt (t_C_blockAt_ok (hC.2.2.2.2.1 _ ht) hj) rfl rfl (Nat.le_of_ble_eq_true rfl) (by decide) ?_
  refine s_astore (q := 15) d_C_value_13 rfl (by decide) (Or.inr ⟨_, rfl⟩) ?_
  refine s_aload (q := 17) d_C_value_15 rfl rfl (Or.inr ⟨_, rfl⟩) ?_
  refine s_ifnull_r (q := 20) d_C_value_17 rfl ?_
  refine s_aload (q := 22) d_C_value_20 rfl rfl (Or.inr ⟨_, rfl⟩) ?_
  refine s_ifnull_r (q := 25) d_C_value_22 rfl ?_
  refine s_aload (q := 27) d_C_value_25 rfl rfl (Or.inr ⟨_, rfl⟩) ?_
  refine s_iload_n (q := 28) d_C_value_27 rfl rfl ?_
  refine g_callV (q := 31) d_C_value_28 rfl ml_C_94 mx_B_hasRow mv_B_hasRow (t_B_hasRow ((hC.2.2.2.2.1 _ ht).2.2.2.1 _ hj)) ((hC.2.2.2.2.1 _ ht).2.2.2.1 _ hj).1 rfl rfl (Nat.le_of_ble_eq_true rfl) (by decide) ?_
  refine s_if_eq (tgt := 52) (q := 34) d_C_value_31 (by decide) rfl (fun z9 => absurd z9 (hr_t hsz hk hn)) (fun _ => ?_)
  refine s_aload (q := 36) d_C_value_34 rfl rfl (Or.inr ⟨_, rfl⟩) ?_
  refine g_geti (q := 39) d_C_value_36 rfl fl_C_39 (hC.2.2.2.2.1 _ ht).1 rfl ?_
  refine s_if_eq (tgt := 52) (q := 42) d_C_value_39 (by decide) rfl (fun _ => ?_) (fun z9 => absurd hs z9)
  refine s_ldc (q := 54) d_C_value_52 rfl kc_C_111 ?_
  exact g_iret d_C_value_54 rfl rfl rfl rfl
theorem t_C_value_N {X : RAM} {t j n k : Nat} (ht : t < 2) (hj : j < 8) (hsz : X (4 + 55 * t + 3 + 6 * j) 5 = nI n) (hn : n ≤ 12) (hk : k < n) (hs : ¬ X (4 + 55 * t) 3 = 0) (hw : X (4 + 55 * t + 3 + 6 * j + 4) k = 0) : CG l D ac b y_C_value c_C_value 6 (some .int) 1 21 [.ref 0, .int (nI t), .int (nI j), .int (nI k)] X (some (.int (-2147483648))) (X) := by
  refine Ct_of false (by decide) (fun h => by cases h) (Nat.le_of_ble_eq_true rfl) ?_
  show V l D ac b "SpanStore" c_C_value 6 (some .int) false 1 21 0 0 ((some (.int (-2147483648))), 144, mk (X)) 0 0 0 [(0, .ref 0), (1, .int (nI t)), (2, .int (nI j)), (3, .int (nI k))] [] 144 (mk X)
  refine s_aload_n (q := 1) d_C_value_0 rfl rfl (Or.inr ⟨_, rfl⟩) ?_
  refine s_iload_n (q := 2) d_C_value_1 rfl rfl ?_
  refine g_callV (q := 5) d_C_value_2 rfl ml_C_27 mx_C_tableAt mv_C_tableAt (t_C_tableAt_ok ht) hC.1 rfl rfl (Nat.le_of_ble_eq_true rfl) (by decide) ?_
  refine s_astore (q := 7) d_C_value_5 rfl (by decide) (Or.inr ⟨_, rfl⟩) ?_
  refine s_aload (q := 9) d_C_value_7 rfl rfl (Or.inr ⟨_, rfl⟩) ?_
  refine s_iload_n (q := 10) d_C_value_9 rfl rfl ?_
  refine g_callS (q := 13) d_C_value_10 rfl ml_C_31 mx_C_blockAt ms_C_blockAt (t_C_blockAt_ok (hC.2.2.2.2.1 _ ht) hj) rfl rfl (Nat.le_of_ble_eq_true rfl) (by decide) ?_
  refine s_astore (q := 15) d_C_value_13 rfl (by decide) (Or.inr ⟨_, rfl⟩) ?_
  refine s_aload (q := 17) d_C_value_15 rfl rfl (Or.inr ⟨_, rfl⟩) ?_
  refine s_ifnull_r (q := 20) d_C_value_17 rfl ?_
  refine s_aload (q := 22) d_C_value_20 rfl rfl (Or.inr ⟨_, rfl⟩) ?_
  refine s_ifnull_r (q := 25) d_C_value_22 rfl ?_
  refine s_aload (q := 27) d_C_value_25 rfl rfl (Or.inr ⟨_, rfl⟩) ?_
  refine s_iload_n (q := 28) d_C_value_27 rfl rfl ?_
  refine g_callV (q := 31) d_C_value_28 rfl ml_C_94 mx_B_hasRow mv_B_hasRow (t_B_hasRow ((hC.2.2.2.2.1 _ ht).2.2.2.1 _ hj)) ((hC.2.2.2.2.1 _ ht).2.2.2.1 _ hj).1 rfl rfl (Nat.le_of_ble_eq_true rfl) (by decide) ?_
  refine s_if_eq (tgt := 52) (q := 34) d_C_value_31 (by decide) rfl (fun z9 => absurd z9 (hr_t hsz hk hn)) (fun _ => ?_)
  refine s_aload (q := 36) d_C_value_34 rfl rfl (Or.inr ⟨_, rfl⟩) ?_
  refine g_geti (q := 39) d_C_value_36 rfl fl_C_39 (hC.2.2.2.2.1 _ ht).1 rfl ?_
  refine s_if_eq (tgt := 52) (q := 42) d_C_value_39 (by decide) rfl (fun z9 => absurd z9 hs) (fun _ => ?_)
  refine s_aload (q := 44) d_C_value_42 rfl rfl (Or.inr ⟨_, rfl⟩) ?_
  refine g_getr (q := 47) d_C_value_44 rfl fl_C_105 ((hC.2.2.2.2.1 _ ht).2.2.2.1 _ hj).1 rfl ?_
  refine s_iload_n (q := 48) d_C_value_47 rfl rfl ?_
  refine g_zald (q := 49) d_C_value_48 rfl ((hC.2.2.2.2.1 _ ht).2.2.2.1 _ hj).2.2.2.2.1 (by omega) rfl (by omega) ?_
  refine s_if_ne (tgt := 55) (q := 52) d_C_value_49 (by decide) rfl (fun z9 => absurd hw z9) (fun _ => ?_)
  refine s_ldc (q := 54) d_C_value_52 rfl kc_C_111 ?_
  exact g_iret d_C_value_54 rfl rfl rfl rfl
theorem t_C_value_D {X : RAM} {t j n k : Nat} (ht : t < 2) (hj : j < 8) (hsz : X (4 + 55 * t + 3 + 6 * j) 5 = nI n) (hn : n ≤ 12) (hk : k < n) (hs : ¬ X (4 + 55 * t) 3 = 0) (hw : ¬ X (4 + 55 * t + 3 + 6 * j + 4) k = 0) : CG l D ac b y_C_value c_C_value 6 (some .int) 1 21 [.ref 0, .int (nI t), .int (nI j), .int (nI k)] X (some (.int (X (4 + 55 * t + 3 + 6 * j + 3) k))) (X) := by
  refine Ct_of false (by decide) (fun h => by cases h) (Nat.le_of_ble_eq_true rfl) ?_
  show V l D ac b "SpanStore" c_C_value 6 (some .int) false 1 21 0 0 ((some (.int (X (4 + 55 * t + 3 + 6 * j + 3) k))), 144, mk (X)) 0 0 0 [(0, .ref 0), (1, .int (nI t)), (2, .int (nI j)), (3, .int (nI k))] [] 144 (mk X)
  refine s_aload_n (q := 1) d_C_value_0 rfl rfl (Or.inr ⟨_, rfl⟩) ?_
  refine s_iload_n (q := 2) d_C_value_1 rfl rfl ?_
  refine g_callV (q := 5) d_C_value_2 rfl ml_C_27 mx_C_tableAt mv_C_tableAt (t_C_tableAt_ok ht) hC.1 rfl rfl (Nat.le_of_ble_eq_true rfl) (by decide) ?_
  refine s_astore (q := 7) d_C_value_5 rfl (by decide) (Or.inr ⟨_, rfl⟩) ?_
  refine s_aload (q := 9) d_C_value_7 rfl rfl (Or.inr ⟨_, rfl⟩) ?_
  refine s_iload_n (q := 10) d_C_value_9 rfl rfl ?_
  refine g_callS (q := 13) d_C_value_10 rfl ml_C_31 mx_C_blockAt ms_C_blockAt (t_C_blockAt_ok (hC.2.2.2.2.1 _ ht) hj) rfl rfl (Nat.le_of_ble_eq_true rfl) (by decide) ?_
  refine s_astore (q := 15) d_C_value_13 rfl (by decide) (Or.inr ⟨_, rfl⟩) ?_
  refine s_aload (q := 17) d_C_value_15 rfl rfl (Or.inr ⟨_, rfl⟩) ?_
  refine s_ifnull_r (q := 20) d_C_value_17 rfl ?_
  refine s_aload (q := 22) d_C_value_20 rfl rfl (Or.inr ⟨_, rfl⟩) ?_
  refine s_ifnull_r (q := 25) d_C_value_22 rfl ?_
  refine s_aload (q := 27) d_C_value_25 rfl rfl (Or.inr ⟨_, rfl⟩) ?_
  refine s_iload_n (q := 28) d_C_value_27 rfl rfl ?_
  refine g_callV (q := 31) d_C_value_28 rfl ml_C_94 mx_B_hasRow mv_B_hasRow (t_B_hasRow ((hC.2.2.2.2.1 _ ht).2.2.2.1 _ hj)) ((hC.2.2.2.2.1 _ ht).2.2.2.1 _ hj).1 rfl rfl (Nat.le_of_ble_eq_true rfl) (by decide) ?_
  refine s_if_eq (tgt := 52) (q := 34) d_C_value_31 (by decide) rfl (fun z9 => absurd z9 (hr_t hsz hk hn)) (fun _ => ?_)
  refine s_aload (q := 36) d_C_value_34 rfl rfl (Or.inr ⟨_, rfl⟩) ?_
  refine g_geti (q := 39) d_C_value_36 rfl fl_C_39 (hC.2.2.2.2.1 _ ht).1 rfl ?_
  refine s_if_eq (tgt := 52) (q := 42) d_C_value_39 (by decide) rfl (fun z9 => absurd z9 hs) (fun _ => ?_)
  refine s_aload (q := 44) d_C_value_42 rfl rfl (Or.inr ⟨_, rfl⟩) ?_
  refine g_getr (q := 47) d_C_value_44 rfl fl_C_105 ((hC.2.2.2.2.1 _ ht).2.2.2.1 _ hj).1 rfl ?_
  refine s_iload_n (q := 48) d_C_value_47 rfl rfl ?_
  refine g_zald (q := 49) d_C_value_48 rfl ((hC.2.2.2.2.1 _ ht).2.2.2.1 _ hj).2.2.2.2.1 (by omega) rfl (by omega) ?_
  refine s_if_ne (tgt := 55) (q := 52) d_C_value_49 (by decide) rfl (fun _ => ?_) (fun z9 => absurd z9 hw)
  refine s_aload (q := 57) d_C_value_55 rfl rfl (Or.inr ⟨_, rfl⟩) ?_
  refine g_getr (q := 60) d_C_value_57 rfl fl_C_112 ((hC.2.2.2.2.1 _ ht).2.2.2.1 _ hj).1 rfl ?_
  refine s_iload_n (q := 61) d_C_value_60 rfl rfl ?_
  refine g_iald (q := 62) d_C_value_61 rfl ((hC.2.2.2.2.1 _ ht).2.2.2.1 _ hj).2.2.2.1 (by omega) rfl (by omega) ?_
  exact g_iret d_C_value_62 rfl rfl rfl rfl
theorem t_C_about_T {X : RAM} {x y w : Int32} (hx : x < 0 ∨ 2 ≤ x) : CG l D ac b y_C_about c_C_about 6 (some .int) 3 61 [.ref 0, .int x, .int y, .int w] X (some (.int (-2147483648))) (X) := by
  refine Ct_of false (by decide) (fun h => by cases h) (Nat.le_of_ble_eq_true rfl) ?_
  show V l D ac b "SpanStore" c_C_about 6 (some .int) false 3 61 0 0 ((some (.int (-2147483648))), 144, mk (X)) 0 0 0 [(0, .ref 0), (1, .int x), (2, .int y), (3, .int w)] [] 144 (mk X)
  refine s_aload_n (q := 1) d_C_about_0 rfl rfl (Or.inr ⟨_, rfl⟩) ?_
  refine s_iload_n (q := 2) d_C_about_1 rfl rfl ?_
  refine g_callV (q := 5) d_C_about_2 rfl ml_C_27 mx_C_tableAt mv_C_tableAt (t_C_tableAt_no hx) hC.1 rfl rfl (Nat.le_of_ble_eq_true rfl) (by decide) ?_
  refine s_astore (q := 7) d_C_about_5 rfl (by decide) (Or.inl rfl) ?_
  refine s_aload (q := 9) d_C_about_7 rfl rfl (Or.inl rfl) ?_
  refine s_iload_n (q := 10) d_C_about_9 rfl rfl ?_
  refine g_callS (q := 13) d_C_about_10 rfl ml_C_31 mx_C_blockAt ms_C_blockAt t_C_blockAt_nt rfl rfl (Nat.le_of_ble_eq_true rfl) (by decide) ?_
  refine s_astore (q := 15) d_C_about_13 rfl (by decide) (Or.inl rfl) ?_
  refine s_aload (q := 17) d_C_about_15 rfl rfl (Or.inl rfl) ?_
  refine s_ifnull_n (tgt := 40) d_C_about_17 (by decide) ?_
  refine s_ldc (q := 42) d_C_about_40 rfl kc_C_111 ?_
  exact g_iret d_C_about_42 rfl rfl rfl rfl
theorem t_C_about_B {X : RAM} {t : Nat} {y w : Int32} (ht : t < 2) (hy : y < 0 ∨ 8 ≤ y) : CG l D ac b y_C_about c_C_about 6 (some .int) 3 61 [.ref 0, .int (nI t), .int y, .int w] X (some (.int (-2147483648))) (X) := by
  refine Ct_of false (by decide) (fun h => by cases h) (Nat.le_of_ble_eq_true rfl) ?_
  show V l D ac b "SpanStore" c_C_about 6 (some .int) false 3 61 0 0 ((some (.int (-2147483648))), 144, mk (X)) 0 0 0 [(0, .ref 0), (1, .int (nI t)), (2, .int y), (3, .int w)] [] 144 (mk X)
  refine s_aload_n (q := 1) d_C_about_0 rfl rfl (Or.inr ⟨_, rfl⟩) ?_
  refine s_iload_n (q := 2) d_C_about_1 rfl rfl ?_
  refine g_callV (q := 5) d_C_about_2 rfl ml_C_27 mx_C_tableAt mv_C_tableAt (t_C_tableAt_ok ht) hC.1 rfl rfl (Nat.le_of_ble_eq_true rfl) (by decide) ?_
  refine s_astore (q := 7) d_C_about_5 rfl (by decide) (Or.inr ⟨_, rfl⟩) ?_
  refine s_aload (q := 9) d_C_about_7 rfl rfl (Or.inr ⟨_, rfl⟩) ?_
  refine s_iload_n (q := 10) d_C_about_9 rfl rfl ?_
  refine g_callS (q := 13) d_C_about_10 rfl ml_C_31 mx_C_blockAt ms_C_blockAt (t_C_blockAt_no (hC.2.2.2.2.1 _ ht) hy) rfl rfl (Nat.le_of_ble_eq_true rfl) (by decide) ?_
  refine s_astore (q := 15) d_C_about_13 rfl (by decide) (Or.inl rfl) ?_
  refine s_aload (q := 17) d_C_about_15 rfl rfl (Or.inr ⟨_, rfl⟩) ?_
  refine s_ifnull_r (q := 20) d_C_about_17 rfl ?_
  refine s_aload (q := 22) d_C_about_20 rfl rfl (Or.inl rfl) ?_
  refine s_ifnull_n (tgt := 40) d_C_about_22 (by decide) ?_
  refine s_ldc (q := 42) d_C_about_40 rfl kc_C_111 ?_
  exact g_iret d_C_about_42 rfl rfl rfl rfl
theorem t_C_about_W {X : RAM} {t j : Nat} {w : Int32} (ht : t < 2) (hj : j < 8) (hw : ¬ ((0 ≤ w ∧ w ≤ 7) ∨ (10 ≤ w ∧ w < 14))) : CG l D ac b y_C_about c_C_about 6 (some .int) 3 61 [.ref 0, .int (nI t), .int (nI j), .int w] X (some (.int (-2147483648))) (X) := by
  refine Ct_of false (by decide) (fun h => by cases h) (Nat.le_of_ble_eq_true rfl) ?_
  show V l D ac b "SpanStore" c_C_about 6 (some .int) false 3 61 0 0 ((some (.int (-2147483648))), 144, mk (X)) 0 0 0 [(0, .ref 0), (1, .int (nI t)), (2, .int (nI j)), (3, .int w)] [] 144 (mk X)
  refine s_aload_n (q := 1) d_C_about_0 rfl rfl (Or.inr ⟨_, rfl⟩) ?_
  refine s_iload_n (q := 2) d_C_about_1 rfl rfl ?_
  refine g_callV (q := 5) d_C_about_2 rfl ml_C_27 mx_C_tableAt mv_C_tableAt (t_C_tableAt_ok ht) hC.1 rfl rfl (Nat.le_of_ble_eq_true rfl) (by decide) ?_
  refine s_astore (q := 7) d_C_about_5 rfl (by decide) (Or.inr ⟨_, rfl⟩) ?_
  refine s_aload (q := 9) d_C_about_7 rfl rfl (Or.inr ⟨_, rfl⟩) ?_
  refine s_iload_n (q := 10) d_C_about_9 rfl rfl ?_
  refine g_callS (q := 13) d_C_about_10 rfl ml_C_31 mx_C_blockAt ms_C_blockAt (t_C_blockAt_ok (hC.2.2.2.2.1 _ ht) hj) rfl rfl (Nat.le_of_ble_eq_true rfl) (by decide) ?_
  refine s_astore (q := 15) d_C_about_13 rfl (by decide) (Or.inr ⟨_, rfl⟩) ?_
  refine s_aload (q := 17) d_C_about_15 rfl rfl (Or.inr ⟨_, rfl⟩) ?_
  refine s_ifnull_r (q := 20) d_C_about_17 rfl ?_
  refine s_aload (q := 22) d_C_about_20 rfl rfl (Or.inr ⟨_, rfl⟩) ?_
  refine s_ifnull_r (q := 25) d_C_about_22 rfl ?_
  refine s_iload_n (q := 26) d_C_about_25 rfl rfl ?_
  refine g_callS (q := 29) d_C_about_26 rfl ml_C_115 mx_C_isFact ms_C_isFact t_C_isFact rfl rfl (Nat.le_of_ble_eq_true rfl) (by decide) ?_
  refine s_if_eq (tgt := 40) (q := 32) d_C_about_29 (by decide) rfl (fun _ => ?_) (fun z9 => absurd (bI_d.mpr hw) z9)
  refine s_ldc (q := 42) d_C_about_40 rfl kc_C_111 ?_
  exact g_iret d_C_about_42 rfl rfl rfl rfl
theorem isF_t {w : Nat} (hw : w ≤ 7 ∨ 10 ≤ w ∧ w < 14) : ¬ bI (decide ((0 ≤ nI w ∧ nI w ≤ 7) ∨ (10 ≤ nI w ∧ nI w < 14))) = 0 := by
  rw [isF_I (by omega), bI_n0]
  simpa [isF] using hw
theorem t_C_about_S {X : RAM} {t j w : Nat} (ht : t < 2) (hj : j < 8) (hw : w ≤ 7 ∨ 10 ≤ w ∧ w < 14) (hs : X (4 + 55 * t) 3 = 0) : CG l D ac b y_C_about c_C_about 6 (some .int) 3 61 [.ref 0, .int (nI t), .int (nI j), .int (nI w)] X (some (.int (-2147483648))) (X) := by
  refine Ct_of false (by decide) (fun h => by cases h) (Nat.le_of_ble_eq_true rfl) ?_
  show V l D ac b "SpanStore" c_C_about 6 (some .int) false 3 61 0 0 ((some (.int (-2147483648))), 144, mk (X)) 0 0 0 [(0, .ref 0), (1, .int (nI t)), (2, .int (nI j)), (3, .int (nI w))] [] 144 (mk X)
  refine s_aload_n (q := 1) d_C_about_0 rfl rfl (Or.inr ⟨_, rfl⟩) ?_
  refine s_iload_n (q := 2) d_C_about_1 rfl rfl ?_
  refine g_callV (q := 5) d_C_about_2 rfl ml_C_27 mx_C_tableAt mv_C_tableAt (t_C_tableAt_ok ht) hC.1 rfl rfl (Nat.le_of_ble_eq_true rfl) (by decide) ?_
  refine s_astore (q := 7) d_C_about_5 rfl (by decide) (Or.inr ⟨_, rfl⟩) ?_
  refine s_aload (q := 9) d_C_about_7 rfl rfl (Or.inr ⟨_, rfl⟩) ?_
  refine s_iload_n (q := 10) d_C_about_9 rfl rfl ?_
  refine g_callS (q := 13) d_C_about_10 rfl ml_C_31 mx_C_blockAt ms_C_blockAt (t_C_blockAt_ok (hC.2.2.2.2.1 _ ht) hj) rfl rfl (Nat.le_of_ble_eq_true rfl) (by decide) ?_
  refine s_astore (q := 15) d_C_about_13 rfl (by decide) (Or.inr ⟨_, rfl⟩) ?_
  refine s_aload (q := 17) d_C_about_15 rfl rfl (Or.inr ⟨_, rfl⟩) ?_
  refine s_ifnull_r (q := 20) d_C_about_17 rfl ?_
  refine s_aload (q := 22) d_C_about_20 rfl rfl (Or.inr ⟨_, rfl⟩) ?_
  refine s_ifnull_r (q := 25) d_C_about_22 rfl ?_
  refine s_iload_n (q := 26) d_C_about_25 rfl rfl ?_
  refine g_callS (q := 29) d_C_about_26 rfl ml_C_115 mx_C_isFact ms_C_isFact t_C_isFact rfl rfl (Nat.le_of_ble_eq_true rfl) (by decide) ?_
  refine s_if_eq (tgt := 40) (q := 32) d_C_about_29 (by decide) rfl (fun z9 => absurd z9 (isF_t hw)) (fun _ => ?_)
  refine s_aload (q := 34) d_C_about_32 rfl rfl (Or.inr ⟨_, rfl⟩) ?_
  refine g_geti (q := 37) d_C_about_34 rfl fl_C_39 (hC.2.2.2.2.1 _ ht).1 rfl ?_
  refine s_if_ne (tgt := 43) (q := 40) d_C_about_37 (by decide) rfl (fun z9 => absurd hs z9) (fun _ => ?_)
  refine s_ldc (q := 42) d_C_about_40 rfl kc_C_111 ?_
  exact g_iret d_C_about_42 rfl rfl rfl rfl
theorem t_C_about_D {X : RAM} {t j w : Nat} (ht : t < 2) (hj : j < 8) (hw : w ≤ 7 ∨ 10 ≤ w ∧ w < 14) (hs : ¬ X (4 + 55 * t) 3 = 0) : CG l D ac b y_C_about c_C_about 6 (some .int) 3 61 [.ref 0, .int (nI t), .int (nI j), .int (nI w)] X (some (.int (faV X (4 + 55 * t + 3 + 6 * j) w))) (X) := by
  refine Ct_of false (by decide) (fun h => by cases h) (Nat.le_of_ble_eq_true rfl) ?_
  show V l D ac b "SpanStore" c_C_about 6 (some .int) false 3 61 0 0 ((some (.int (faV X (4 + 55 * t + 3 + 6 * j) w))), 144, mk (X)) 0 0 0 [(0, .ref 0), (1, .int (nI t)), (2, .int (nI j)), (3, .int (nI w))] [] 144 (mk X)
  refine s_aload_n (q := 1) d_C_about_0 rfl rfl (Or.inr ⟨_, rfl⟩) ?_
  refine s_iload_n (q := 2) d_C_about_1 rfl rfl ?_
  refine g_callV (q := 5) d_C_about_2 rfl ml_C_27 mx_C_tableAt mv_C_tableAt (t_C_tableAt_ok ht) hC.1 rfl rfl (Nat.le_of_ble_eq_true rfl) (by decide) ?_
  refine s_astore (q := 7) d_C_about_5 rfl (by decide) (Or.inr ⟨_, rfl⟩) ?_
  refine s_aload (q := 9) d_C_about_7 rfl rfl (Or.inr ⟨_, rfl⟩) ?_
  refine s_iload_n (q := 10) d_C_about_9 rfl rfl ?_
  refine g_callS (q := 13) d_C_about_10 rfl ml_C_31 mx_C_blockAt ms_C_blockAt (t_C_blockAt_ok (hC.2.2.2.2.1 _ ht) hj) rfl rfl (Nat.le_of_ble_eq_true rfl) (by decide) ?_
  refine s_astore (q := 15) d_C_about_13 rfl (by decide) (Or.inr ⟨_, rfl⟩) ?_
  refine s_aload (q := 17) d_C_about_15 rfl rfl (Or.inr ⟨_, rfl⟩) ?_
  refine s_ifnull_r (q := 20) d_C_about_17 rfl ?_
  refine s_aload (q := 22) d_C_about_20 rfl rfl (Or.inr ⟨_, rfl⟩) ?_
  refine s_ifnull_r (q := 25) d_C_about_22 rfl ?_
  refine s_iload_n (q := 26) d_C_about_25 rfl rfl ?_
  refine g_callS (q := 29) d_C_about_26 rfl ml_C_115 mx_C_isFact ms_C_isFact t_C_isFact rfl rfl (Nat.le_of_ble_eq_true rfl) (by decide) ?_
  refine s_if_eq (tgt := 40) (q := 32) d_C_about_29 (by decide) rfl (fun z9 => absurd z9 (isF_t hw)) (fun _ => ?_)
  refine s_aload (q := 34) d_C_about_32 rfl rfl (Or.inr ⟨_, rfl⟩) ?_
  refine g_geti (q := 37) d_C_about_34 rfl fl_C_39 (hC.2.2.2.2.1 _ ht).1 rfl ?_
  refine s_if_ne (tgt := 43) (q := 40) d_C_about_37 (by decide) rfl (fun _ => ?_) (fun z9 => absurd z9 hs)
  refine s_aload (q := 45) d_C_about_43 rfl rfl (Or.inr ⟨_, rfl⟩) ?_
  refine s_iload_n (q := 46) d_C_about_45 rfl rfl ?_
  refine g_callV (q := 49) d_C_about_46 rfl ml_C_118 mx_B_fact mv_B_fact (t_B_fact ((hC.2.2.2.2.1 _ ht).2.2.2.1 _ hj) hw) ((hC.2.2.2.2.1 _ ht).2.2.2.1 _ hj).1 rfl rfl (Nat.le_of_ble_eq_true rfl) (by decide) ?_
  exact g_iret d_C_about_49 rfl rfl rfl rfl
end P11
