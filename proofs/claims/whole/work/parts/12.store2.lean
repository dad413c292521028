section P12
variable {l : Launch} {D : va_G} {ac : Nat → ClassId} {b : Nat}
def shR (x : Int32) : Value := if x < 0 ∨ 4 ≤ x then .null else .ref (114 + 2 * x.toNatClampNeg)
theorem shR_ok (x : Int32) : shR x = .null ∨ ∃ a, shR x = .ref a := by
  unfold shR
  split
  · exact Or.inl rfl
  · exact Or.inr ⟨_, rfl⟩
theorem t_C_sheetAt_u {X : RAM} {x : Int32} : CG l D ac b y_C_sheetAt c_C_sheetAt 2 (some (.object "SpanStore$Sheet")) 0 0 [.ref 0, .int x] X (some (shR x)) X := by
  rcases ix4 (x := x) with h | ⟨k, hk, rfl⟩
  · rw [show shR x = .null from if_pos h]
    exact t_C_sheetAt_no h
  · have h1 : ¬ (nI k < 0 ∨ 4 ≤ nI k) := fun q => q.elim (nI_pos (by omega)) (nI_ge (a := k) (b := 4) hk (by decide))
    rw [show shR (nI k) = .ref (114 + 2 * k) from by unfold shR; rw [if_neg h1, nI_clamp (by omega)]]
    exact t_C_sheetAt_ok hk
theorem t_C_load_T {X : RAM} {x y k g v n : Int32} (hx : x < 0 ∨ 2 ≤ x) : CG l D ac b y_C_load c_C_load 13 (some .int) 2 42 [.ref 0, .int x, .int y, .int k, .int g, .int v, .int n] X (some (.int (-2))) (X) := by
  rcases ix4 (x := k) with uk | ⟨k, uk, rfl⟩
  · skip
    rcases ix4 (x := g) with ug | ⟨g, ug, rfl⟩
    · skip
      rcases ix4 (x := v) with uv | ⟨v, uv, rfl⟩
      · skip
        refine Ct_of false (by decide) (fun h => by cases h) (Nat.le_of_ble_eq_true rfl) ?_
        show V l D ac b "SpanStore" c_C_load 13 (some .int) false 2 42 0 0 ((some (.int (-2))), 144, mk (X)) 0 0 0 [(0, .ref 0), (1, .int x), (2, .int y), (3, .int k), (4, .int g), (5, .int v), (6, .int n)] [] 144 (mk X)
        refine s_aload_n (q := 1) d_C_load_0 rfl rfl (Or.inr ⟨_, rfl⟩) ?_
        refine s_iload_n (q := 2) d_C_load_1 rfl rfl ?_
        refine g_callV (q := 5) d_C_load_2 rfl ml_C_27 mx_C_tableAt mv_C_tableAt (t_C_tableAt_no hx) hC.1 rfl rfl (Nat.le_of_ble_eq_true rfl) (by decide) ?_
        refine s_astore (q := 7) d_C_load_5 rfl (by decide) (Or.inl rfl) ?_
        refine s_aload (q := 9) d_C_load_7 rfl rfl (Or.inl rfl) ?_
        refine s_iload_n (q := 10) d_C_load_9 rfl rfl ?_
        refine g_callS (q := 13) d_C_load_10 rfl ml_C_31 mx_C_blockAt ms_C_blockAt t_C_blockAt_nt rfl rfl (Nat.le_of_ble_eq_true rfl) (by decide) ?_
        refine s_astore (q := 15) d_C_load_13 rfl (by decide) (Or.inl rfl) ?_
        refine s_aload_n (q := 16) d_C_load_15 rfl rfl (Or.inr ⟨_, rfl⟩) ?_
        refine s_iload_n (q := 17) d_C_load_16 rfl rfl ?_
        refine g_callV (q := 20) d_C_load_17 rfl ml_C_53 mx_C_sheetAt mv_C_sheetAt (t_C_sheetAt_no uk) hC.1 rfl rfl (Nat.le_of_ble_eq_true rfl) (by decide) ?_
        refine s_astore (q := 22) d_C_load_20 rfl (by decide) (Or.inl rfl) ?_
        refine s_aload_n (q := 23) d_C_load_22 rfl rfl (Or.inr ⟨_, rfl⟩) ?_
        refine s_iload (q := 25) d_C_load_23 rfl rfl ?_
        refine g_callV (q := 28) d_C_load_25 rfl ml_C_53 mx_C_sheetAt mv_C_sheetAt (t_C_sheetAt_no ug) hC.1 rfl rfl (Nat.le_of_ble_eq_true rfl) (by decide) ?_
        refine s_astore (q := 30) d_C_load_28 rfl (by decide) (Or.inl rfl) ?_
        refine s_aload_n (q := 31) d_C_load_30 rfl rfl (Or.inr ⟨_, rfl⟩) ?_
        refine s_iload (q := 33) d_C_load_31 rfl rfl ?_
        refine g_callV (q := 36) d_C_load_33 rfl ml_C_53 mx_C_sheetAt mv_C_sheetAt (t_C_sheetAt_no uv) hC.1 rfl rfl (Nat.le_of_ble_eq_true rfl) (by decide) ?_
        refine s_astore (q := 38) d_C_load_36 rfl (by decide) (Or.inl rfl) ?_
        refine s_aload (q := 40) d_C_load_38 rfl rfl (Or.inl rfl) ?_
        refine s_ifnull_n (tgt := 61) d_C_load_40 (by decide) ?_
        refine s_bipush (v := (-2)) (q := 63) d_C_load_61 rfl kb_m2 ?_
        exact g_iret d_C_load_63 rfl rfl rfl rfl
      · skip
        refine Ct_of false (by decide) (fun h => by cases h) (Nat.le_of_ble_eq_true rfl) ?_
        show V l D ac b "SpanStore" c_C_load 13 (some .int) false 2 42 0 0 ((some (.int (-2))), 144, mk (X)) 0 0 0 [(0, .ref 0), (1, .int x), (2, .int y), (3, .int k), (4, .int g), (5, .int (nI v)), (6, .int n)] [] 144 (mk X)
        refine s_aload_n (q := 1) d_C_load_0 rfl rfl (Or.inr ⟨_, rfl⟩) ?_
        refine s_iload_n (q := 2) d_C_load_1 rfl rfl ?_
        refine g_callV (q := 5) d_C_load_2 rfl ml_C_27 mx_C_tableAt mv_C_tableAt (t_C_tableAt_no hx) hC.1 rfl rfl (Nat.le_of_ble_eq_true rfl) (by decide) ?_
        refine s_astore (q := 7) d_C_load_5 rfl (by decide) (Or.inl rfl) ?_
        refine s_aload (q := 9) d_C_load_7 rfl rfl (Or.inl rfl) ?_
        refine s_iload_n (q := 10) d_C_load_9 rfl rfl ?_
        refine g_callS (q := 13) d_C_load_10 rfl ml_C_31 mx_C_blockAt ms_C_blockAt t_C_blockAt_nt rfl rfl (Nat.le_of_ble_eq_true rfl) (by decide) ?_
        refine s_astore (q := 15) d_C_load_13 rfl (by decide) (Or.inl rfl) ?_
        refine s_aload_n (q := 16) d_C_load_15 rfl rfl (Or.inr ⟨_, rfl⟩) ?_
        refine s_iload_n (q := 17) d_C_load_16 rfl rfl ?_
        refine g_callV (q := 20) d_C_load_17 rfl ml_C_53 mx_C_sheetAt mv_C_sheetAt (t_C_sheetAt_no uk) hC.1 rfl rfl (Nat.le_of_ble_eq_true rfl) (by decide) ?_
        refine s_astore (q := 22) d_C_load_20 rfl (by decide) (Or.inl rfl) ?_
        refine s_aload_n (q := 23) d_C_load_22 rfl rfl (Or.inr ⟨_, rfl⟩) ?_
        refine s_iload (q := 25) d_C_load_23 rfl rfl ?_
        refine g_callV (q := 28) d_C_load_25 rfl ml_C_53 mx_C_sheetAt mv_C_sheetAt (t_C_sheetAt_no ug) hC.1 rfl rfl (Nat.le_of_ble_eq_true rfl) (by decide) ?_
        refine s_astore (q := 30) d_C_load_28 rfl (by decide) (Or.inl rfl) ?_
        refine s_aload_n (q := 31) d_C_load_30 rfl rfl (Or.inr ⟨_, rfl⟩) ?_
        refine s_iload (q := 33) d_C_load_31 rfl rfl ?_
        refine g_callV (q := 36) d_C_load_33 rfl ml_C_53 mx_C_sheetAt mv_C_sheetAt (t_C_sheetAt_ok uv) hC.1 rfl rfl (Nat.le_of_ble_eq_true rfl) (by decide) ?_
        refine s_astore (q := 38) d_C_load_36 rfl (by decide) (Or.inr ⟨_, rfl⟩) ?_
        refine s_aload (q := 40) d_C_load_38 rfl rfl (Or.inl rfl) ?_
        refine s_ifnull_n (tgt := 61) d_C_load_40 (by decide) ?_
        refine s_bipush (v := (-2)) (q := 63) d_C_load_61 rfl kb_m2 ?_
        exact g_iret d_C_load_63 rfl rfl rfl rfl
    · skip
      rcases ix4 (x := v) with uv | ⟨v, uv, rfl⟩
      · skip
        refine Ct_of false (by decide) (fun h => by cases h) (Nat.le_of_ble_eq_true rfl) ?_
        show V l D ac b "SpanStore" c_C_load 13 (some .int) false 2 42 0 0 ((some (.int (-2))), 144, mk (X)) 0 0 0 [(0, .ref 0), (1, .int x), (2, .int y), (3, .int k), (4, .int (nI g)), (5, .int v), (6, .int n)] [] 144 (mk X)
        refine s_aload_n (q := 1) d_C_load_0 rfl rfl (Or.inr ⟨_, rfl⟩) ?_
        refine s_iload_n (q := 2) d_C_load_1 rfl rfl ?_
        refine g_callV (q := 5) d_C_load_2 rfl ml_C_27 mx_C_tableAt mv_C_tableAt (t_C_tableAt_no hx) hC.1 rfl rfl (Nat.le_of_ble_eq_true rfl) (by decide) ?_
        refine s_astore (q := 7) d_C_load_5 rfl (by decide) (Or.inl rfl) ?_
        refine s_aload (q := 9) d_C_load_7 rfl rfl (Or.inl rfl) ?_
        refine s_iload_n (q := 10) d_C_load_9 rfl rfl ?_
        refine g_callS (q := 13) d_C_load_10 rfl ml_C_31 mx_C_blockAt ms_C_blockAt t_C_blockAt_nt rfl rfl (Nat.le_of_ble_eq_true rfl) (by decide) ?_
        refine s_astore (q := 15) d_C_load_13 rfl (by decide) (Or.inl rfl) ?_
        refine s_aload_n (q := 16) d_C_load_15 rfl rfl (Or.inr ⟨_, rfl⟩) ?_
        refine s_iload_n (q := 17) d_C_load_16 rfl rfl ?_
        refine g_callV (q := 20) d_C_load_17 rfl ml_C_53 mx_C_sheetAt mv_C_sheetAt (t_C_sheetAt_no uk) hC.1 rfl rfl (Nat.le_of_ble_eq_true rfl) (by decide) ?_
        refine s_astore (q := 22) d_C_load_20 rfl (by decide) (Or.inl rfl) ?_
        refine s_aload_n (q := 23) d_C_load_22 rfl rfl (Or.inr ⟨_, rfl⟩) ?_
        refine s_iload (q := 25) d_C_load_23 rfl rfl ?_
        refine g_callV (q := 28) d_C_load_25 rfl ml_C_53 mx_C_sheetAt mv_C_sheetAt (t_C_sheetAt_ok ug) hC.1 rfl rfl (Nat.le_of_ble_eq_true rfl) (by decide) ?_
        refine s_astore (q := 30) d_C_load_28 rfl (by decide) (Or.inr ⟨_, rfl⟩) ?_
        refine s_aload_n (q := 31) d_C_load_30 rfl rfl (Or.inr ⟨_, rfl⟩) ?_
        refine s_iload (q := 33) d_C_load_31 rfl rfl ?_
        refine g_callV (q := 36) d_C_load_33 rfl ml_C_53 mx_C_sheetAt mv_C_sheetAt (t_C_sheetAt_no uv) hC.1 rfl rfl (Nat.le_of_ble_eq_true rfl) (by decide) ?_
        refine s_astore (q := 38) d_C_load_36 rfl (by decide) (Or.inl rfl) ?_
        refine s_aload (q := 40) d_C_load_38 rfl rfl (Or.inl rfl) ?_
        refine s_ifnull_n (tgt := 61) d_C_load_40 (by decide) ?_
        refine s_bipush (v := (-2)) (q := 63) d_C_load_61 rfl kb_m2 ?_
        exact g_iret d_C_load_63 rfl rfl rfl rfl
      · skip
        refine Ct_of false (by decide) (fun h => by cases h) (Nat.le_of_ble_eq_true rfl) ?_
        show V l D ac b "SpanStore" c_C_load 13 (some .int) false 2 42 0 0 ((some (.int (-2))), 144, mk (X)) 0 0 0 [(0, .ref 0), (1, .int x), (2, .int y), (3, .int k), (4, .int (nI g)), (5, .int (nI v)), (6, .int n)] [] 144 (mk X)
        refine s_aload_n (q := 1) d_C_load_0 rfl rfl (Or.inr ⟨_, rfl⟩) ?_
        refine s_iload_n (q := 2) d_C_load_1 rfl rfl ?_
        refine g_callV (q := 5) d_C_load_2 rfl ml_C_27 mx_C_tableAt mv_C_tableAt (t_C_tableAt_no hx) hC.1 rfl rfl (Nat.le_of_ble_eq_true rfl) (by decide) ?_
        refine s_astore (q := 7) d_C_load_5 rfl (by decide) (Or.inl rfl) ?_
        refine s_aload (q := 9) d_C_load_7 rfl rfl (Or.inl rfl) ?_
        refine s_iload_n (q := 10) d_C_load_9 rfl rfl ?_
        refine g_callS (q := 13) d_C_load_10 rfl ml_C_31 mx_C_blockAt ms_C_blockAt t_C_blockAt_nt rfl rfl (Nat.le_of_ble_eq_true rfl) (by decide) ?_
        refine s_astore (q := 15) d_C_load_13 rfl (by decide) (Or.inl rfl) ?_
        refine s_aload_n (q := 16) d_C_load_15 rfl rfl (Or.inr ⟨_, rfl⟩) ?_
        refine s_iload_n (q := 17) d_C_load_16 rfl rfl ?_
        refine g_callV (q := 20) d_C_load_17 rfl ml_C_53 mx_C_sheetAt mv_C_sheetAt (t_C_sheetAt_no uk) hC.1 rfl rfl (Nat.le_of_ble_eq_true rfl) (by decide) ?_
        refine s_astore (q := 22) d_C_load_20 rfl (by decide) (Or.inl rfl) ?_
        refine s_aload_n (q := 23) d_C_load_22 rfl rfl (Or.inr ⟨_, rfl⟩) ?_
        refine s_iload (q := 25) d_C_load_23 rfl rfl ?_
        refine g_callV (q := 28) d_C_load_25 rfl ml_C_53 mx_C_sheetAt mv_C_sheetAt (t_C_sheetAt_ok ug) hC.1 rfl rfl (Nat.le_of_ble_eq_true rfl) (by decide) ?_
        refine s_astore (q := 30) d_C_load_28 rfl (by decide) (Or.inr ⟨_, rfl⟩) ?_
        refine s_aload_n (q := 31) d_C_load_30 rfl rfl (Or.inr ⟨_, rfl⟩) ?_
        refine s_iload (q := 33) d_C_load_31 rfl rfl ?_
        refine g_callV (q := 36) d_C_load_33 rfl ml_C_53 mx_C_sheetAt mv_C_sheetAt (t_C_sheetAt_ok uv) hC.1 rfl rfl (Nat.le_of_ble_eq_true rfl) (by decide) ?_
        refine s_astore (q := 38) d_C_load_36 rfl (by decide) (Or.inr ⟨_, rfl⟩) ?_
        refine s_aload (q := 40) d_C_load_38 rfl rfl (Or.inl rfl) ?_
        refine s_ifnull_n (tgt := 61) d_C_load_40 (by decide) ?_
        refine s_bipush (v := (-2)) (q := 63) d_C_load_61 rfl kb_m2 ?_
        exact g_iret d_C_load_63 rfl rfl rfl rfl
  · skip
    rcases ix4 (x := g) with ug | ⟨g, ug, rfl⟩
    · skip
      rcases ix4 (x := v) with uv | ⟨v, uv, rfl⟩
      · skip
        refine Ct_of false (by decide) (fun h => by cases h) (Nat.le_of_ble_eq_true rfl) ?_
        show V l D ac b "SpanStore" c_C_load 13 (some .int) false 2 42 0 0 ((some (.int (-2))), 144, mk (X)) 0 0 0 [(0, .ref 0), (1, .int x), (2, .int y), (3, .int (nI k)), (4, .int g), (5, .int v), (6, .int n)] [] 144 (mk X)
        refine s_aload_n (q := 1) d_C_load_0 rfl rfl (Or.inr ⟨_, rfl⟩) ?_
        refine s_iload_n (q := 2) d_C_load_1 rfl rfl ?_
        refine g_callV (q := 5) d_C_load_2 rfl ml_C_27 mx_C_tableAt mv_C_tableAt (t_C_tableAt_no hx) hC.1 rfl rfl (Nat.le_of_ble_eq_true rfl) (by decide) ?_
        refine s_astore (q := 7) d_C_load_5 rfl (by decide) (Or.inl rfl) ?_
        refine s_aload (q := 9) d_C_load_7 rfl rfl (Or.inl rfl) ?_
        refine s_iload_n (q := 10) d_C_load_9 rfl rfl ?_
        refine g_callS (q := 13) d_C_load_10 rfl ml_C_31 mx_C_blockAt ms_C_blockAt t_C_blockAt_nt rfl rfl (Nat.le_of_ble_eq_true rfl) (by decide) ?_
        refine s_astore (q := 15) d_C_load_13 rfl (by decide) (Or.inl rfl) ?_
        refine s_aload_n (q := 16) d_C_load_15 rfl rfl (Or.inr ⟨_, rfl⟩) ?_
        refine s_iload_n (q := 17) d_C_load_16 rfl rfl ?_
        refine g_callV (q := 20) d_C_load_17 rfl ml_C_53 mx_C_sheetAt mv_C_sheetAt (t_C_sheetAt_ok uk) hC.1 rfl rfl (Nat.le_of_ble_eq_true rfl) (by decide) ?_
        refine s_astore (q := 22) d_C_load_20 rfl (by decide) (Or.inr ⟨_, rfl⟩) ?_
        refine s_aload_n (q := 23) d_C_load_22 rfl rfl (Or.inr ⟨_, rfl⟩) ?_
        refine s_iload (q := 25) d_C_load_23 rfl rfl ?_
        refine g_callV (q := 28) d_C_load_25 rfl ml_C_53 mx_C_sheetAt mv_C_sheetAt (t_C_sheetAt_no ug) hC.1 rfl rfl (Nat.le_of_ble_eq_true rfl) (by decide) ?_
        refine s_astore (q := 30) d_C_load_28 rfl (by decide) (Or.inl rfl) ?_
        refine s_aload_n (q := 31) d_C_load_30 rfl rfl (Or.inr ⟨_, rfl⟩) ?_
        refine s_iload (q := 33) d_C_load_31 rfl rfl ?_
        refine g_callV (q := 36) d_C_load_33 rfl ml_C_53 mx_C_sheetAt mv_C_sheetAt (t_C_sheetAt_no uv) hC.1 rfl rfl (Nat.le_of_ble_eq_true rfl) (by decide) ?_
        refine s_astore (q := 38) d_C_load_36 rfl (by decide) (Or.inl rfl) ?_
        refine s_aload (q := 40) d_C_load_38 rfl rfl (Or.inl rfl) ?_
        refine s_ifnull_n (tgt := 61) d_C_load_40 (by decide) ?_
        refine s_bipush (v := (-2)) (q := 63) d_C_load_61 rfl kb_m2 ?_
        exact g_iret d_C_load_63 rfl rfl rfl rfl
      · skip
        refine Ct_of false (by decide) (fun h => by cases h) (Nat.le_of_ble_eq_true rfl) ?_
        show V l D ac b "SpanStore" c_C_load 13 (some .int) false 2 42 0 0 ((some (.int (-2))), 144, mk (X)) 0 0 0 [(0, .ref 0), (1, .int x), (2, .int y), (3, .int (nI k)), (4, .int g), (5, .int (nI v)), (6, .int n)] [] 144 (mk X)
        refine s_aload_n (q := 1) d_C_load_0 rfl rfl (Or.inr ⟨_, rfl⟩) ?_
        refine s_iload_n (q := 2) d_C_load_1 rfl rfl ?_
        refine g_callV (q := 5) d_C_load_2 rfl ml_C_27 mx_C_tableAt mv_C_tableAt (t_C_tableAt_no hx) hC.1 rfl rfl (Nat.le_of_ble_eq_true rfl) (by decide) ?_
        refine s_astore (q := 7) d_C_load_5 rfl (by decide) (Or.inl rfl) ?_
        refine s_aload (q := 9) d_C_load_7 rfl rfl (Or.inl rfl) ?_
        refine s_iload_n (q := 10) d_C_load_9 rfl rfl ?_
        refine g_callS (q := 13) d_C_load_10 rfl ml_C_31 mx_C_blockAt ms_C_blockAt t_C_blockAt_nt rfl rfl (Nat.le_of_ble_eq_true rfl) (by decide) ?_
        refine s_astore (q := 15) d_C_load_13 rfl (by decide) (Or.inl rfl) ?_
        refine s_aload_n (q := 16) d_C_load_15 rfl rfl (Or.inr ⟨_, rfl⟩) ?_
        refine s_iload_n (q := 17) d_C_load_16 rfl rfl ?_
        refine g_callV (q := 20) d_C_load_17 rfl ml_C_53 mx_C_sheetAt mv_C_sheetAt (t_C_sheetAt_ok uk) hC.1 rfl rfl (Nat.le_of_ble_eq_true rfl) (by decide) ?_
        refine s_astore (q := 22) d_C_load_20 rfl (by decide) (Or.inr ⟨_, rfl⟩) ?_
        refine s_aload_n (q := 23) d_C_load_22 rfl rfl (Or.inr ⟨_, rfl⟩) ?_
        refine s_iload (q := 25) d_C_load_23 rfl rfl ?_
        refine g_callV (q := 28) d_C_load_25 rfl ml_C_53 mx_C_sheetAt mv_C_sheetAt (t_C_sheetAt_no ug) hC.1 rfl rfl (Nat.le_of_ble_eq_true rfl) (by decide) ?_
        refine s_astore (q := 30) d_C_load_28 rfl (by decide) (Or.inl rfl) ?_
        refine s_aload_n (q := 31) d_C_load_30 rfl rfl (Or.inr ⟨_, rfl⟩) ?_
        refine s_iload (q := 33) d_C_load_31 rfl rfl ?_
        refine g_callV (q := 36) d_C_load_33 rfl ml_C_53 mx_C_sheetAt mv_C_sheetAt (t_C_sheetAt_ok uv) hC.1 rfl rfl (Nat.le_of_ble_eq_true rfl) (by decide) ?_
        refine s_astore (q := 38) d_C_load_36 rfl (by decide) (Or.inr ⟨_, rfl⟩) ?_
        refine s_aload (q := 40) d_C_load_38 rfl rfl (Or.inl rfl) ?_
        refine s_ifnull_n (tgt := 61) d_C_load_40 (by decide) ?_
        refine s_bipush (v := (-2)) (q := 63) d_C_load_61 rfl kb_m2 ?_
        exact g_iret d_C_load_63 rfl rfl rfl rfl
    · skip
      rcases ix4 (x := v) with uv | ⟨v, uv, rfl⟩
      · skip
        refine Ct_of false (by decide) (fun h => by cases h) (Nat.le_of_ble_eq_true rfl) ?_
        show V l D ac b "SpanStore" c_C_load 13 (some .int) false 2 42 0 0 ((some (.int (-2))), 144, mk (X)) 0 0 0 [(0, .ref 0), (1, .int x), (2, .int y), (3, .int (nI k)), (4, .int (nI g)), (5, .int v), (6, .int n)] [] 144 (mk X)
        refine s_aload_n (q := 1) d_C_load_0 rfl rfl (Or.inr ⟨_, rfl⟩) ?_
        refine s_iload_n (q := 2) d_C_load_1 rfl rfl ?_
        refine g_callV (q := 5) d_C_load_2 rfl ml_C_27 mx_C_tableAt mv_C_tableAt (t_C_tableAt_no hx) hC.1 rfl rfl (Nat.le_of_ble_eq_true rfl) (by decide) ?_
        refine s_astore (q := 7) d_C_load_5 rfl (by decide) (Or.inl rfl) ?_
        refine s_aload (q := 9) d_C_load_7 rfl rfl (Or.inl rfl) ?_
        refine s_iload_n (q := 10) d_C_load_9 rfl rfl ?_
        refine g_callS (q := 13) d_C_load_10 rfl ml_C_31 mx_C_blockAt ms_C_blockAt t_C_blockAt_nt rfl rfl (Nat.le_of_ble_eq_true rfl) (by decide) ?_
        refine s_astore (q := 15) d_C_load_13 rfl (by decide) (Or.inl rfl) ?_
        refine s_aload_n (q := 16) d_C_load_15 rfl rfl (Or.inr ⟨_, rfl⟩) ?_
        refine s_iload_n (q := 17) d_C_load_16 rfl rfl ?_
        refine g_callV (q := 20) d_C_load_17 rfl ml_C_53 mx_C_sheetAt mv_C_sheetAt (t_C_sheetAt_ok uk) hC.1 rfl rfl (Nat.le_of_ble_eq_true rfl) (by decide) ?_
        refine s_astore (q := 22) d_C_load_20 rfl (by decide) (Or.inr ⟨_, rfl⟩) ?_
        refine s_aload_n (q := 23) d_C_load_22 rfl rfl (Or.inr ⟨_, rfl⟩) ?_
        refine s_iload (q := 25) d_C_load_23 rfl rfl ?_
        refine g_callV (q := 28) d_C_load_25 rfl ml_C_53 mx_C_sheetAt mv_C_sheetAt (t_C_sheetAt_ok ug) hC.1 rfl rfl (Nat.le_of_ble_eq_true rfl) (by decide) ?_
        refine s_astore (q := 30) d_C_load_28 rfl (by decide) (Or.inr ⟨_, rfl⟩) ?_
        refine s_aload_n (q := 31) d_C_load_30 rfl rfl (Or.inr ⟨_, rfl⟩) ?_
        refine s_iload (q := 33) d_C_load_31 rfl rfl ?_
        refine g_callV (q := 36) d_C_load_33 rfl ml_C_53 mx_C_sheetAt mv_C_sheetAt (t_C_sheetAt_no uv) hC.1 rfl rfl (Nat.le_of_ble_eq_true rfl) (by decide) ?_
        refine s_astore (q := 38) d_C_load_36 rfl (by decide) (Or.inl rfl) ?_
        refine s_aload (q := 40) d_C_load_38 rfl rfl (Or.inl rfl) ?_
        refine s_ifnull_n (tgt := 61) d_C_load_40 (by decide) ?_
        refine s_bipush (v := (-2)) (q := 63) d_C_load_61 rfl kb_m2 ?_
        exact g_iret d_C_load_63 rfl rfl rfl rfl
      · skip
        refine Ct_of false (by decide) (fun h => by cases h) (Nat.le_of_ble_eq_true rfl) ?_
        show V l D ac b "SpanStore" c_C_load 13 (some .int) false 2 42 0 0 ((some (.int (-2))), 144, mk (X)) 0 0 0 [(0, .ref 0), (1, .int x), (2, .int y), (3, .int (nI k)), (4, .int (nI g)), (5, .int (nI v)), (6, .int n)] [] 144 (mk X)
        refine s_aload_n (q := 1) d_C_load_0 rfl rfl (Or.inr ⟨_, rfl⟩) ?_
        refine s_iload_n (q := 2) d_C_load_1 rfl rfl ?_
        refine g_callV (q := 5) d_C_load_2 rfl ml_C_27 mx_C_tableAt mv_C_tableAt (t_C_tableAt_no hx) hC.1 rfl rfl (Nat.le_of_ble_eq_true rfl) (by decide) ?_
        refine s_astore (q := 7) d_C_load_5 rfl (by decide) (Or.inl rfl) ?_
        refine s_aload (q := 9) d_C_load_7 rfl rfl (Or.inl rfl) ?_
        refine s_iload_n (q := 10) d_C_load_9 rfl rfl ?_
        refine g_callS (q := 13) d_C_load_10 rfl ml_C_31 mx_C_blockAt ms_C_blockAt t_C_blockAt_nt rfl rfl (Nat.le_of_ble_eq_true rfl) (by decide) ?_
        refine s_astore (q := 15) d_C_load_13 rfl (by decide) (Or.inl rfl) ?_
        refine s_aload_n (q := 16) d_C_load_15 rfl rfl (Or.inr ⟨_, rfl⟩) ?_
        refine s_iload_n (q := 17) d_C_load_16 rfl rfl ?_
        refine g_callV (q := 20) d_C_load_17 rfl ml_C_53 mx_C_sheetAt mv_C_sheetAt (t_C_sheetAt_ok uk) hC.1 rfl rfl (Nat.le_of_ble_eq_true rfl) (by decide) ?_
        refine s_astore (q := 22) d_C_load_20 rfl (by decide) (Or.inr ⟨_, rfl⟩) ?_
        refine s_aload_n (q := 23) d_C_load_22 rfl rfl (Or.inr ⟨_, rfl⟩) ?_
        refine s_iload (q := 25) d_C_load_23 rfl rfl ?_
        refine g_callV (q := 28) d_C_load_25 rfl ml_C_53 mx_C_sheetAt mv_C_sheetAt (t_C_sheetAt_ok ug) hC.1 rfl rfl (Nat.le_of_ble_eq_true rfl) (by decide) ?_
        refine s_astore (q := 30) d_C_load_28 rfl (by decide) (Or.inr ⟨_, rfl⟩) ?_
        refine s_aload_n (q := 31) d_C_load_30 rfl rfl (Or.inr ⟨_, rfl⟩) ?_
        refine s_iload (q := 33) d_C_load_31 rfl rfl ?_
        refine g_callV (q := 36) d_C_load_33 rfl ml_C_53 mx_C_sheetAt mv_C_sheetAt (t_C_sheetAt_ok uv) hC.1 rfl rfl (Nat.le_of_ble_eq_true rfl) (by decide) ?_
        refine s_astore (q := 38) d_C_load_36 rfl (by decide) (Or.inr ⟨_, rfl⟩) ?_
        refine s_aload (q := 40) d_C_load_38 rfl rfl (Or.inl rfl) ?_
        refine s_ifnull_n (tgt := 61) d_C_load_40 (by decide) ?_
        refine s_bipush (v := (-2)) (q := 63) d_C_load_61 rfl kb_m2 ?_
        exact g_iret d_C_load_63 rfl rfl rfl rfl
theorem t_C_load_B {X : RAM} {t : Nat} {y k g v n : Int32} (ht : t < 2) (hy : y < 0 ∨ 8 ≤ y) : CG l D ac b y_C_load c_C_load 13 (some .int) 2 42 [.ref 0, .int (nI t), .int y, .int k, .int g, .int v, .int n] X (some (.int (-2))) (X) := by
  rcases ix4 (x := k) with uk | ⟨k, uk, rfl⟩
  · skip
    rcases ix4 (x := g) with ug | ⟨g, ug, rfl⟩
    · skip
      rcases ix4 (x := v) with uv | ⟨v, uv, rfl⟩
      · skip
        refine Ct_of false (by decide) (fun h => by cases h) (Nat.le_of_ble_eq_true rfl) ?_
        show V l D ac b "SpanStore" c_C_load 13 (some .int) false 2 42 0 0 ((some (.int (-2))), 144, mk (X)) 0 0 0 [(0, .ref 0), (1, .int (nI t)), (2, .int y), (3, .int k), (4, .int g), (5, .int v), (6, .int n)] [] 144 (mk X)
        refine s_aload_n (q := 1) d_C_load_0 rfl rfl (Or.inr ⟨_, rfl⟩) ?_
        refine s_iload_n (q := 2) d_C_load_1 rfl rfl ?_
        refine g_callV (q := 5) d_C_load_2 rfl ml_C_27 mx_C_tableAt mv_C_tableAt (t_C_tableAt_ok ht) hC.1 rfl rfl (Nat.le_of_ble_eq_true rfl) (by decide) ?_
        refine s_astore (q := 7) d_C_load_5 rfl (by decide) (Or.inr ⟨_, rfl⟩) ?_
        refine s_aload (q := 9) d_C_load_7 rfl rfl (Or.inr ⟨_, rfl⟩) ?_
        refine s_iload_n (q := 10) d_C_load_9 rfl rfl ?_
        refine g_callS (q := 13) d_C_load_10 rfl ml_C_31 mx_C_blockAt ms_C_blockAt (t_C_blockAt_no (hC.2.2.2.2.1 _ ht) hy) rfl rfl (Nat.le_of_ble_eq_true rfl) (by decide) ?_
        refine s_astore (q := 15) d_C_load_13 rfl (by decide) (Or.inl rfl) ?_
        refine s_aload_n (q := 16) d_C_load_15 rfl rfl (Or.inr ⟨_, rfl⟩) ?_
        refine s_iload_n (q := 17) d_C_load_16 rfl rfl ?_
        refine g_callV (q := 20) d_C_load_17 rfl ml_C_53 mx_C_sheetAt mv_C_sheetAt (t_C_sheetAt_no uk) hC.1 rfl rfl (Nat.le_of_ble_eq_true rfl) (by decide) ?_
        refine s_astore (q := 22) d_C_load_20 rfl (by decide) (Or.inl rfl) ?_
        refine s_aload_n (q := 23) d_C_load_22 rfl rfl (Or.inr ⟨_, rfl⟩) ?_
        refine s_iload (q := 25) d_C_load_23 rfl rfl ?_
        refine g_callV (q := 28) d_C_load_25 rfl ml_C_53 mx_C_sheetAt mv_C_sheetAt (t_C_sheetAt_no ug) hC.1 rfl rfl (Nat.le_of_ble_eq_true rfl) (by decide) ?_
        refine s_astore (q := 30) d_C_load_28 rfl (by decide) (Or.inl rfl) ?_
        refine s_aload_n (q := 31) d_C_load_30 rfl rfl (Or.inr ⟨_, rfl⟩) ?_
        refine s_iload (q := 33) d_C_load_31 rfl rfl ?_
        refine g_callV (q := 36) d_C_load_33 rfl ml_C_53 mx_C_sheetAt mv_C_sheetAt (t_C_sheetAt_no uv) hC.1 rfl rfl (Nat.le_of_ble_eq_true rfl) (by decide) ?_
        refine s_astore (q := 38) d_C_load_36 rfl (by decide) (Or.inl rfl) ?_
        refine s_aload (q := 40) d_C_load_38 rfl rfl (Or.inr ⟨_, rfl⟩) ?_
        refine s_ifnull_r (q := 43) d_C_load_40 rfl ?_
        refine s_aload (q := 45) d_C_load_43 rfl rfl (Or.inl rfl) ?_
        refine s_ifnull_n (tgt := 61) d_C_load_45 (by decide) ?_
        refine s_bipush (v := (-2)) (q := 63) d_C_load_61 rfl kb_m2 ?_
        exact g_iret d_C_load_63 rfl rfl rfl rfl
      · skip
        refine Ct_of false (by decide) (fun h => by cases h) (Nat.le_of_ble_eq_true rfl) ?_
        show V l D ac b "SpanStore" c_C_load 13 (some .int) false 2 42 0 0 ((some (.int (-2))), 144, mk (X)) 0 0 0 [(0, .ref 0), (1, .int (nI t)), (2, .int y), (3, .int k), (4, .int g), (5, .int (nI v)), (6, .int n)] [] 144 (mk X)
        refine s_aload_n (q := 1) d_C_load_0 rfl rfl (Or.inr ⟨_, rfl⟩) ?_
        refine s_iload_n (q := 2) d_C_load_1 rfl rfl ?_
        refine g_callV (q := 5) d_C_load_2 rfl ml_C_27 mx_C_tableAt mv_C_tableAt (t_C_tableAt_ok ht) hC.1 rfl rfl (Nat.le_of_ble_eq_true rfl) (by decide) ?_
        refine s_astore (q := 7) d_C_load_5 rfl (by decide) (Or.inr ⟨_, rfl⟩) ?_
        refine s_aload (q := 9) d_C_load_7 rfl rfl (Or.inr ⟨_, rfl⟩) ?_
        refine s_iload_n (q := 10) d_C_load_9 rfl rfl ?_
        refine g_callS (q := 13) d_C_load_10 rfl ml_C_31 mx_C_blockAt ms_C_blockAt (t_C_blockAt_no (hC.2.2.2.2.1 _ ht) hy) rfl rfl (Nat.le_of_ble_eq_true rfl) (by decide) ?_
        refine s_astore (q := 15) d_C_load_13 rfl (by decide) (Or.inl rfl) ?_
        refine s_aload_n (q := 16) d_C_load_15 rfl rfl (Or.inr ⟨_, rfl⟩) ?_
        refine s_iload_n (q := 17) d_C_load_16 rfl rfl ?_
        refine g_callV (q := 20) d_C_load_17 rfl ml_C_53 mx_C_sheetAt mv_C_sheetAt (t_C_sheetAt_no uk) hC.1 rfl rfl (Nat.le_of_ble_eq_true rfl) (by decide) ?_
        refine s_astore (q := 22) d_C_load_20 rfl (by decide) (Or.inl rfl) ?_
        refine s_aload_n (q := 23) d_C_load_22 rfl rfl (Or.inr ⟨_, rfl⟩) ?_
        refine s_iload (q := 25) d_C_load_23 rfl rfl ?_
        refine g_callV (q := 28) d_C_load_25 rfl ml_C_53 mx_C_sheetAt mv_C_sheetAt (t_C_sheetAt_no ug) hC.1 rfl rfl (Nat.le_of_ble_eq_true rfl) (by decide) ?_
        refine s_astore (q := 30) d_C_load_28 rfl (by decide) (Or.inl rfl) ?_
        refine s_aload_n (q := 31) d_C_load_30 rfl rfl (Or.inr ⟨_, rfl⟩) ?_
        refine s_iload (q := 33) d_C_load_31 rfl rfl ?_
        refine g_callV (q := 36) d_C_load_33 rfl ml_C_53 mx_C_sheetAt mv_C_sheetAt (t_C_sheetAt_ok uv) hC.1 rfl rfl (Nat.le_of_ble_eq_true rfl) (by decide) ?_
        refine s_astore (q := 38) d_C_load_36 rfl (by decide) (Or.inr ⟨_, rfl⟩) ?_
        refine s_aload (q := 40) d_C_load_38 rfl rfl (Or.inr ⟨_, rfl⟩) ?_
        refine s_ifnull_r (q := 43) d_C_load_40 rfl ?_
        refine s_aload (q := 45) d_C_load_43 rfl rfl (Or.inl rfl) ?_
        refine s_ifnull_n (tgt := 61) d_C_load_45 (by decide) ?_
        refine s_bipush (v := (-2)) (q := 63) d_C_load_61 rfl kb_m2 ?_
        exact g_iret d_C_load_63 rfl rfl rfl rfl
    · skip
      rcases ix4 (x := v) with uv | ⟨v, uv, rfl⟩
      · skip
        refine Ct_of false (by decide) (fun h => by cases h) (Nat.le_of_ble_eq_true rfl) ?_
        show V l D ac b "SpanStore" c_C_load 13 (some .int) false 2 42 0 0 ((some (.int (-2))), 144, mk (X)) 0 0 0 [(0, .ref 0), (1, .int (nI t)), (2, .int y), (3, .int k), (4, .int (nI g)), (5, .int v), (6, .int n)] [] 144 (mk X)
        refine s_aload_n (q := 1) d_C_load_0 rfl rfl (Or.inr ⟨_, rfl⟩) ?_
        refine s_iload_n (q := 2) d_C_load_1 rfl rfl ?_
        refine g_callV (q := 5) d_C_load_2 rfl ml_C_27 mx_C_tableAt mv_C_tableAt (t_C_tableAt_ok ht) hC.1 rfl rfl (Nat.le_of_ble_eq_true rfl) (by decide) ?_
        refine s_astore (q := 7) d_C_load_5 rfl (by decide) (Or.inr ⟨_, rfl⟩) ?_
        refine s_aload (q := 9) d_C_load_7 rfl rfl (Or.inr ⟨_, rfl⟩) ?_
        refine s_iload_n (q := 10) d_C_load_9 rfl rfl ?_
        refine g_callS (q := 13) d_C_load_10 rfl ml_C_31 mx_C_blockAt ms_C_blockAt (t_C_blockAt_no (hC.2.2.2.2.1 _ ht) hy) rfl rfl (Nat.le_of_ble_eq_true rfl) (by decide) ?_
        refine s_astore (q := 15) d_C_load_13 rfl (by decide) (Or.inl rfl) ?_
        refine s_aload_n (q := 16) d_C_load_15 rfl rfl (Or.inr ⟨_, rfl⟩) ?_
        refine s_iload_n (q := 17) d_C_load_16 rfl rfl ?_
        refine g_callV (q := 20) d_C_load_17 rfl ml_C_53 mx_C_sheetAt mv_C_sheetAt (t_C_sheetAt_no uk) hC.1 rfl rfl (Nat.le_of_ble_eq_true rfl) (by decide) ?_
        refine s_astore (q := 22) d_C_load_20 rfl (by decide) (Or.inl rfl) ?_
        refine s_aload_n (q := 23) d_C_load_22 rfl rfl (Or.inr ⟨_, rfl⟩) ?_
        refine s_iload (q := 25) d_C_load_23 rfl rfl ?_
        refine g_callV (q := 28) d_C_load_25 rfl ml_C_53 mx_C_sheetAt mv_C_sheetAt (t_C_sheetAt_ok ug) hC.1 rfl rfl (Nat.le_of_ble_eq_true rfl) (by decide) ?_
        refine s_astore (q := 30) d_C_load_28 rfl (by decide) (Or.inr ⟨_, rfl⟩) ?_
        refine s_aload_n (q := 31) d_C_load_30 rfl rfl (Or.inr ⟨_, rfl⟩) ?_
        refine s_iload (q := 33) d_C_load_31 rfl rfl ?_
        refine g_callV (q := 36) d_C_load_33 rfl ml_C_53 mx_C_sheetAt mv_C_sheetAt (t_C_sheetAt_no uv) hC.1 rfl rfl (Nat.le_of_ble_eq_true rfl) (by decide) ?_
        refine s_astore (q := 38) d_C_load_36 rfl (by decide) (Or.inl rfl) ?_
        refine s_aload (q := 40) d_C_load_38 rfl rfl (Or.inr ⟨_, rfl⟩) ?_
        refine s_ifnull_r (q := 43) d_C_load_40 rfl ?_
        refine s_aload (q := 45) d_C_load_43 rfl rfl (Or.inl rfl) ?_
        refine s_ifnull_n (tgt := 61) d_C_load_45 (by decide) ?_
        refine s_bipush (v := (-2)) (q := 63) d_C_load_61 rfl kb_m2 ?_
        exact g_iret d_C_load_63 rfl rfl rfl rfl
      · skip
        refine Ct_of false (by decide) (fun h => by cases h) (Nat.le_of_ble_eq_true rfl) ?_
        show V l D ac b "SpanStore" c_C_load 13 (some .int) false 2 42 0 0 ((some (.int (-2))), 144, mk (X)) 0 0 0 [(0, .ref 0), (1, .int (nI t)), (2, .int y), (3, .int k), (4, .int (nI g)), (5, .int (nI v)), (6, .int n)] [] 144 (mk X)
        refine s_aload_n (q := 1) d_C_load_0 rfl rfl (Or.inr ⟨_, rfl⟩) ?_
        refine s_iload_n (q := 2) d_C_load_1 rfl rfl ?_
        refine g_callV (q := 5) d_C_load_2 rfl ml_C_27 mx_C_tableAt mv_C_tableAt (t_C_tableAt_ok ht) hC.1 rfl rfl (Nat.le_of_ble_eq_true rfl) (by decide) ?_
        refine s_astore (q := 7) d_C_load_5 rfl (by decide) (Or.inr ⟨_, rfl⟩) ?_
        refine s_aload (q := 9) d_C_load_7 rfl rfl (Or.inr ⟨_, rfl⟩) ?_
        refine s_iload_n (q := 10) d_C_load_9 rfl rfl ?_
        refine g_callS (q := 13) d_C_load_10 rfl ml_C_31 mx_C_blockAt ms_C_blockAt (t_C_blockAt_no (hC.2.2.2.2.1 _ ht) hy) rfl rfl (Nat.le_of_ble_eq_true rfl) (by decide) ?_
        refine s_astore (q := 15) d_C_load_13 rfl (by decide) (Or.inl rfl) ?_
        refine s_aload_n (q := 16) d_C_load_15 rfl rfl (Or.inr ⟨_, rfl⟩) ?_
        refine s_iload_n (q := 17) d_C_load_16 rfl rfl ?_
        refine g_callV (q := 20) d_C_load_17 rfl ml_C_53 mx_C_sheetAt mv_C_sheetAt (t_C_sheetAt_no uk) hC.1 rfl rfl (Nat.le_of_ble_eq_true rfl) (by decide) ?_
        refine s_astore (q := 22) d_C_load_20 rfl (by decide) (Or.inl rfl) ?_
        refine s_aload_n (q := 23) d_C_load_22 rfl rfl (Or.inr ⟨_, rfl⟩) ?_
        refine s_iload (q := 25) d_C_load_23 rfl rfl ?_
        refine g_callV (q := 28) d_C_load_25 rfl ml_C_53 mx_C_sheetAt mv_C_sheetAt (t_C_sheetAt_ok ug) hC.1 rfl rfl (Nat.le_of_ble_eq_true rfl) (by decide) ?_
        refine s_astore (q := 30) d_C_load_28 rfl (by decide) (Or.inr ⟨_, rfl⟩) ?_
        refine s_aload_n (q := 31) d_C_load_30 rfl rfl (Or.inr ⟨_, rfl⟩) ?_
        refine s_iload (q := 33) d_C_load_31 rfl rfl ?_
        refine g_callV (q := 36) d_C_load_33 rfl ml_C_53 mx_C_sheetAt mv_C_sheetAt (t_C_sheetAt_ok uv) hC.1 rfl rfl (Nat.le_of_ble_eq_true rfl) (by decide) ?_
        refine s_astore (q := 38) d_C_load_36 rfl (by decide) (Or.inr ⟨_, rfl⟩) ?_
        refine s_aload (q := 40) d_C_load_38 rfl rfl (Or.inr ⟨_, rfl⟩) ?_
        refine s_ifnull_r (q := 43) d_C_load_40 rfl ?_
        refine s_aload (q := 45) d_C_load_43 rfl rfl (Or.inl rfl) ?_
        refine s_ifnull_n (tgt := 61) d_C_load_45 (by decide) ?_
        refine s_bipush (v := (-2)) (q := 63) d_C_load_61 rfl kb_m2 ?_
        exact g_iret d_C_load_63 rfl rfl rfl rfl
  · skip
    rcases ix4 (x := g) with ug | ⟨g, ug, rfl⟩
    · skip
      rcases ix4 (x := v) with uv | ⟨v, uv, rfl⟩
      · skip
        refine Ct_of false (by decide) (fun h => by cases h) (Nat.le_of_ble_eq_true rfl) ?_
        show V l D ac b "SpanStore" c_C_load 13 (some .int) false 2 42 0 0 ((some (.int (-2))), 144, mk (X)) 0 0 0 [(0, .ref 0), (1, .int (nI t)), (2, .int y), (3, .int (nI k)), (4, .int g), (5, .int v), (6, .int n)] [] 144 (mk X)
        refine s_aload_n (q := 1) d_C_load_0 rfl rfl (Or.inr ⟨_, rfl⟩) ?_
        refine s_iload_n (q := 2) d_C_load_1 rfl rfl ?_
        refine g_callV (q := 5) d_C_load_2 rfl ml_C_27 mx_C_tableAt mv_C_tableAt (t_C_tableAt_ok ht) hC.1 rfl rfl (Nat.le_of_ble_eq_true rfl) (by decide) ?_
        refine s_astore (q := 7) d_C_load_5 rfl (by decide) (Or.inr ⟨_, rfl⟩) ?_
        refine s_aload (q := 9) d_C_load_7 rfl rfl (Or.inr ⟨_, rfl⟩) ?_
        refine s_iload_n (q := 10) d_C_load_9 rfl rfl ?_
        refine g_callS (q := 13) d_C_load_10 rfl ml_C_31 mx_C_blockAt ms_C_blockAt (t_C_blockAt_no (hC.2.2.2.2.1 _ ht) hy) rfl rfl (Nat.le_of_ble_eq_true rfl) (by decide) ?_
        refine s_astore (q := 15) d_C_load_13 rfl (by decide) (Or.inl rfl) ?_
        refine s_aload_n (q := 16) d_C_load_15 rfl rfl (Or.inr ⟨_, rfl⟩) ?_
        refine s_iload_n (q := 17) d_C_load_16 rfl rfl ?_
        refine g_callV (q := 20) d_C_load_17 rfl ml_C_53 mx_C_sheetAt mv_C_sheetAt (t_C_sheetAt_ok uk) hC.1 rfl rfl (Nat.le_of_ble_eq_true rfl) (by decide) ?_
        refine s_astore (q := 22) d_C_load_20 rfl (by decide) (Or.inr ⟨_, rfl⟩) ?_
        refine s_aload_n (q := 23) d_C_load_22 rfl rfl (Or.inr ⟨_, rfl⟩) ?_
        refine s_iload (q := 25) d_C_load_23 rfl rfl ?_
        refine g_callV (q := 28) d_C_load_25 rfl ml_C_53 mx_C_sheetAt mv_C_sheetAt (t_C_sheetAt_no ug) hC.1 rfl rfl (Nat.le_of_ble_eq_true rfl) (by decide) ?_
        refine s_astore (q := 30) d_C_load_28 rfl (by decide) (Or.inl rfl) ?_
        refine s_aload_n (q := 31) d_C_load_30 rfl rfl (Or.inr ⟨_, rfl⟩) ?_
        refine s_iload (q := 33) d_C_load_31 rfl rfl ?_
        refine g_callV (q := 36) d_C_load_33 rfl ml_C_53 mx_C_sheetAt mv_C_sheetAt (t_C_sheetAt_no uv) hC.1 rfl rfl (Nat.le_of_ble_eq_true rfl) (by decide) ?_
        refine s_astore (q := 38) d_C_load_36 rfl (by decide) (Or.inl rfl) ?_
        refine s_aload (q := 40) d_C_load_38 rfl rfl (Or.inr ⟨_, rfl⟩) ?_
        refine s_ifnull_r (q := 43) d_C_load_40 rfl ?_
        refine s_aload (q := 45) d_C_load_43 rfl rfl (Or.inl rfl) ?_
        refine s_ifnull_n (tgt := 61) d_C_load_45 (by decide) ?_
        refine s_bipush (v := (-2)) (q := 63) d_C_load_61 rfl kb_m2 ?_
        exact g_iret d_C_load_63 rfl rfl rfl rfl
      · skip
        refine Ct_of false (by decide) (fun h => by cases h) (Nat.le_of_ble_eq_true rfl) ?_
        show V l D ac b "SpanStore" c_C_load 13 (some .int) false 2 42 0 0 ((some (.int (-2))), 144, mk (X)) 0 0 0 [(0, .ref 0), (1, .int (nI t)), (2, .int y), (3, .int (nI k)), (4, .int g), (5, .int (nI v)), (6, .int n)] [] 144 (mk X)
        refine s_aload_n (q := 1) d_C_load_0 rfl rfl (Or.inr ⟨_, rfl⟩) ?_
        refine s_iload_n (q := 2) d_C_load_1 rfl rfl ?_
        refine g_callV (q := 5) d_C_load_2 rfl ml_C_27 mx_C_tableAt mv_C_tableAt (t_C_tableAt_ok ht) hC.1 rfl rfl (Nat.le_of_ble_eq_true rfl) (by decide) ?_
        refine s_astore (q := 7) d_C_load_5 rfl (by decide) (Or.inr ⟨_, rfl⟩) ?_
        refine s_aload (q := 9) d_C_load_7 rfl rfl (Or.inr ⟨_, rfl⟩) ?_
        refine s_iload_n (q := 10) d_C_load_9 rfl rfl ?_
        refine g_callS (q := 13) d_C_load_10 rfl ml_C_31 mx_C_blockAt ms_C_blockAt (t_C_blockAt_no (hC.2.2.2.2.1 _ ht) hy) rfl rfl (Nat.le_of_ble_eq_true rfl) (by decide) ?_
        refine s_astore (q := 15) d_C_load_13 rfl (by decide) (Or.inl rfl) ?_
        refine s_aload_n (q := 16) d_C_load_15 rfl rfl (Or.inr ⟨_, rfl⟩) ?_
        refine s_iload_n (q := 17) d_C_load_16 rfl rfl ?_
        refine g_callV (q := 20) d_C_load_17 rfl ml_C_53 mx_C_sheetAt mv_C_sheetAt (t_C_sheetAt_ok uk) hC.1 rfl rfl (Nat.le_of_ble_eq_true rfl) (by decide) ?_
        refine s_astore (q := 22) d_C_load_20 rfl (by decide) (Or.inr ⟨_, rfl⟩) ?_
        refine s_aload_n (q := 23) d_C_load_22 rfl rfl (Or.inr ⟨_, rfl⟩) ?_
        refine s_iload (q := 25) d_C_load_23 rfl rfl ?_
        refine g_callV (q := 28) d_C_load_25 rfl ml_C_53 mx_C_sheetAt mv_C_sheetAt (t_C_sheetAt_no ug) hC.1 rfl rfl (Nat.le_of_ble_eq_true rfl) (by decide) ?_
        refine s_astore (q := 30) d_C_load_28 rfl (by decide) (Or.inl rfl) ?_
        refine s_aload_n (q := 31) d_C_load_30 rfl rfl (Or.inr ⟨_, rfl⟩) ?_
        refine s_iload (q := 33) d_C_load_31 rfl rfl ?_
        refine g_callV (q := 36) d_C_load_33 rfl ml_C_53 mx_C_sheetAt mv_C_sheetAt (t_C_sheetAt_ok uv) hC.1 rfl rfl (Nat.le_of_ble_eq_true rfl) (by decide) ?_
        refine s_astore (q := 38) d_C_load_36 rfl (by decide) (Or.inr ⟨_, rfl⟩) ?_
        refine s_aload (q := 40) d_C_load_38 rfl rfl (Or.inr ⟨_, rfl⟩) ?_
        refine s_ifnull_r (q := 43) d_C_load_40 rfl ?_
        refine s_aload (q := 45) d_C_load_43 rfl rfl (Or.inl rfl) ?_
        refine s_ifnull_n (tgt := 61) d_C_load_45 (by decide) ?_
        refine s_bipush (v := (-2)) (q := 63) d_C_load_61 rfl kb_m2 ?_
        exact g_iret d_C_load_63 rfl rfl rfl rfl
    · skip
      rcases ix4 (x := v) with uv | ⟨v, uv, rfl⟩
      · skip
        refine Ct_of false (by decide) (fun h => by cases h) (Nat.le_of_ble_eq_true rfl) ?_
        show V l D ac b "SpanStore" c_C_load 13 (some .int) false 2 42 0 0 ((some (.int (-2))), 144, mk (X)) 0 0 0 [(0, .ref 0), (1, .int (nI t)), (2, .int y), (3, .int (nI k)), (4, .int (nI g)), (5, .int v), (6, .int n)] [] 144 (mk X)
        refine s_aload_n (q := 1) d_C_load_0 rfl rfl (Or.inr ⟨_, rfl⟩) ?_
        refine s_iload_n (q := 2) d_C_load_1 rfl rfl ?_
        refine g_callV (q := 5) d_C_load_2 rfl ml_C_27 mx_C_tableAt mv_C_tableAt (t_C_tableAt_ok ht) hC.1 rfl rfl (Nat.le_of_ble_eq_true rfl) (by decide) ?_
        refine s_astore (q := 7) d_C_load_5 rfl (by decide) (Or.inr ⟨_, rfl⟩) ?_
        refine s_aload (q := 9) d_C_load_7 rfl rfl (Or.inr ⟨_, rfl⟩) ?_
        refine s_iload_n (q := 10) d_C_load_9 rfl rfl ?_
        refine g_callS (q := 13) d_C_load_10 rfl ml_C_31 mx_C_blockAt ms_C_blockAt (t_C_blockAt_no (hC.2.2.2.2.1 _ ht) hy) rfl rfl (Nat.le_of_ble_eq_true rfl) (by decide) ?_
        refine s_astore (q := 15) d_C_load_13 rfl (by decide) (Or.inl rfl) ?_
        refine s_aload_n (q := 16) d_C_load_15 rfl rfl (Or.inr ⟨_, rfl⟩) ?_
        refine s_iload_n (q := 17) d_C_load_16 rfl rfl ?_
        refine g_callV (q := 20) d_C_load_17 rfl ml_C_53 mx_C_sheetAt mv_C_sheetAt (t_C_sheetAt_ok uk) hC.1 rfl rfl (Nat.le_of_ble_eq_true rfl) (by decide) ?_
        refine s_astore (q := 22) d_C_load_20 rfl (by decide) (Or.inr ⟨_, rfl⟩) ?_
        refine s_aload_n (q := 23) d_C_load_22 rfl rfl (Or.inr ⟨_, rfl⟩) ?_
        refine s_iload (q := 25) d_C_load_23 rfl rfl ?_
        refine g_callV (q := 28) d_C_load_25 rfl ml_C_53 mx_C_sheetAt mv_C_sheetAt (t_C_sheetAt_ok ug) hC.1 rfl rfl (Nat.le_of_ble_eq_true rfl) (by decide) ?_
        refine s_astore (q := 30) d_C_load_28 rfl (by decide) (Or.inr ⟨_, rfl⟩) ?_
        refine s_aload_n (q := 31) d_C_load_30 rfl rfl (Or.inr ⟨_, rfl⟩) ?_
        refine s_iload (q := 33) d_C_load_31 rfl rfl ?_
        refine g_callV (q := 36) d_C_load_33 rfl ml_C_53 mx_C_sheetAt mv_C_sheetAt (t_C_sheetAt_no uv) hC.1 rfl rfl (Nat.le_of_ble_eq_true rfl) (by decide) ?_
        refine s_astore (q := 38) d_C_load_36 rfl (by decide) (Or.inl rfl) ?_
        refine s_aload (q := 40) d_C_load_38 rfl rfl (Or.inr ⟨_, rfl⟩) ?_
        refine s_ifnull_r (q := 43) d_C_load_40 rfl ?_
        refine s_aload (q := 45) d_C_load_43 rfl rfl (Or.inl rfl) ?_
        refine s_ifnull_n (tgt := 61) d_C_load_45 (by decide) ?_
        refine s_bipush (v := (-2)) (q := 63) d_C_load_61 rfl kb_m2 ?_
        exact g_iret d_C_load_63 rfl rfl rfl rfl
      · skip
        refine Ct_of false (by decide) (fun h => by cases h) (Nat.le_of_ble_eq_true rfl) ?_
        show V l D ac b "SpanStore" c_C_load 13 (some .int) false 2 42 0 0 ((some (.int (-2))), 144, mk (X)) 0 0 0 [(0, .ref 0), (1, .int (nI t)), (2, .int y), (3, .int (nI k)), (4, .int (nI g)), (5, .int (nI v)), (6, .int n)] [] 144 (mk X)
        refine s_aload_n (q := 1) d_C_load_0 rfl rfl (Or.inr ⟨_, rfl⟩) ?_
        refine s_iload_n (q := 2) d_C_load_1 rfl rfl ?_
        refine g_callV (q := 5) d_C_load_2 rfl ml_C_27 mx_C_tableAt mv_C_tableAt (t_C_tableAt_ok ht) hC.1 rfl rfl (Nat.le_of_ble_eq_true rfl) (by decide) ?_
        refine s_astore (q := 7) d_C_load_5 rfl (by decide) (Or.inr ⟨_, rfl⟩) ?_
        refine s_aload (q := 9) d_C_load_7 rfl rfl (Or.inr ⟨_, rfl⟩) ?_
        refine s_iload_n (q := 10) d_C_load_9 rfl rfl ?_
        refine g_callS (q := 13) d_C_load_10 rfl ml_C_31 mx_C_blockAt ms_C_blockAt (t_C_blockAt_no (hC.2.2.2.2.1 _ ht) hy) rfl rfl (Nat.le_of_ble_eq_true rfl) (by decide) ?_
        refine s_astore (q := 15) d_C_load_13 rfl (by decide) (Or.inl rfl) ?_
        refine s_aload_n (q := 16) d_C_load_15 rfl rfl (Or.inr ⟨_, rfl⟩) ?_
        refine s_iload_n (q := 17) d_C_load_16 rfl rfl ?_
        refine g_callV (q := 20) d_C_load_17 rfl ml_C_53 mx_C_sheetAt mv_C_sheetAt (t_C_sheetAt_ok uk) hC.1 rfl rfl (Nat.le_of_ble_eq_true rfl) (by decide) ?_
        refine s_astore (q := 22) d_C_load_20 rfl (by decide) (Or.inr ⟨_, rfl⟩) ?_
        refine s_aload_n (q := 23) d_C_load_22 rfl rfl (Or.inr ⟨_, rfl⟩) ?_
        refine s_iload (q := 25) d_C_load_23 rfl rfl ?_
        refine g_callV (q := 28) d_C_load_25 rfl ml_C_53 mx_C_sheetAt mv_C_sheetAt (t_C_sheetAt_ok ug) hC.1 rfl rfl (Nat.le_of_ble_eq_true rfl) (by decide) ?_
        refine s_astore (q := 30) d_C_load_28 rfl (by decide) (Or.inr ⟨_, rfl⟩) ?_
        refine s_aload_n (q := 31) d_C_load_30 rfl rfl (Or.inr ⟨_, rfl⟩) ?_
        refine s_iload (q := 33) d_C_load_31 rfl rfl ?_
        refine g_callV (q := 36) d_C_load_33 rfl ml_C_53 mx_C_sheetAt mv_C_sheetAt (t_C_sheetAt_ok uv) hC.1 rfl rfl (Nat.le_of_ble_eq_true rfl) (by decide) ?_
        refine s_astore (q := 38) d_C_load_36 rfl (by decide) (Or.inr ⟨_, rfl⟩) ?_
        refine s_aload (q := 40) d_C_load_38 rfl rfl (Or.inr ⟨_, rfl⟩) ?_
        refine s_ifnull_r (q := 43) d_C_load_40 rfl ?_
        refine s_aload (q := 45) d_C_load_43 rfl rfl (Or.inl rfl) ?_
        refine s_ifnull_n (tgt := 61) d_C_load_45 (by decide) ?_
        refine s_bipush (v := (-2)) (q := 63) d_C_load_61 rfl kb_m2 ?_
        exact g_iret d_C_load_63 rfl rfl rfl rfl
theorem t_C_load_K {X : RAM} {t j : Nat} {k g v n : Int32} (ht : t < 2) (hj : j < 8) (hz : k < 0 ∨ 4 ≤ k) : CG l D ac b y_C_load c_C_load 13 (some .int) 2 42 [.ref 0, .int (nI t), .int (nI j), .int k, .int g, .int v, .int n] X (some (.int (-2))) (X) := by
  rcases ix4 (x := g) with ug | ⟨g, ug, rfl⟩
  · skip
    rcases ix4 (x := v) with uv | ⟨v, uv, rfl⟩
    · skip
      refine Ct_of false (by decide) (fun h => by cases h) (Nat.le_of_ble_eq_true rfl) ?_
      show V l D ac b "SpanStore" c_C_load 13 (some .int) false 2 42 0 0 ((some (.int (-2))), 144, mk (X)) 0 0 0 [(0, .ref 0), (1, .int (nI t)), (2, .int (nI j)), (3, .int k), (4, .int g), (5, .int v), (6, .int n)] [] 144 (mk X)
      refine s_aload_n (q := 1) d_C_load_0 rfl rfl (Or.inr ⟨_, rfl⟩) ?_
      refine s_iload_n (q := 2) d_C_load_1 rfl rfl ?_
      refine g_callV (q := 5) d_C_load_2 rfl ml_C_27 mx_C_tableAt mv_C_tableAt (t_C_tableAt_ok ht) hC.1 rfl rfl (Nat.le_of_ble_eq_true rfl) (by decide) ?_
      refine s_astore (q := 7) d_C_load_5 rfl (by decide) (Or.inr ⟨_, rfl⟩) ?_
      refine s_aload (q := 9) d_C_load_7 rfl rfl (Or.inr ⟨_, rfl⟩) ?_
      refine s_iload_n (q := 10) d_C_load_9 rfl rfl ?_
      refine g_callS (q := 13) d_C_load_10 rfl ml_C_31 mx_C_blockAt ms_C_blockAt (t_C_blockAt_ok (hC.2.2.2.2.1 _ ht) hj) rfl rfl (Nat.le_of_ble_eq_true rfl) (by decide) ?_
      refine s_astore (q := 15) d_C_load_13 rfl (by decide) (Or.inr ⟨_, rfl⟩) ?_
      refine s_aload_n (q := 16) d_C_load_15 rfl rfl (Or.inr ⟨_, rfl⟩) ?_
      refine s_iload_n (q := 17) d_C_load_16 rfl rfl ?_
      refine g_callV (q := 20) d_C_load_17 rfl ml_C_53 mx_C_sheetAt mv_C_sheetAt (t_C_sheetAt_no hz) hC.1 rfl rfl (Nat.le_of_ble_eq_true rfl) (by decide) ?_
      refine s_astore (q := 22) d_C_load_20 rfl (by decide) (Or.inl rfl) ?_
      refine s_aload_n (q := 23) d_C_load_22 rfl rfl (Or.inr ⟨_, rfl⟩) ?_
      refine s_iload (q := 25) d_C_load_23 rfl rfl ?_
      refine g_callV (q := 28) d_C_load_25 rfl ml_C_53 mx_C_sheetAt mv_C_sheetAt (t_C_sheetAt_no ug) hC.1 rfl rfl (Nat.le_of_ble_eq_true rfl) (by decide) ?_
      refine s_astore (q := 30) d_C_load_28 rfl (by decide) (Or.inl rfl) ?_
      refine s_aload_n (q := 31) d_C_load_30 rfl rfl (Or.inr ⟨_, rfl⟩) ?_
      refine s_iload (q := 33) d_C_load_31 rfl rfl ?_
      refine g_callV (q := 36) d_C_load_33 rfl ml_C_53 mx_C_sheetAt mv_C_sheetAt (t_C_sheetAt_no uv) hC.1 rfl rfl (Nat.le_of_ble_eq_true rfl) (by decide) ?_
      refine s_astore (q := 38) d_C_load_36 rfl (by decide) (Or.inl rfl) ?_
      refine s_aload (q := 40) d_C_load_38 rfl rfl (Or.inr ⟨_, rfl⟩) ?_
      refine s_ifnull_r (q := 43) d_C_load_40 rfl ?_
      refine s_aload (q := 45) d_C_load_43 rfl rfl (Or.inr ⟨_, rfl⟩) ?_
      refine s_ifnull_r (q := 48) d_C_load_45 rfl ?_
      refine s_iload (q := 50) d_C_load_48 rfl rfl ?_
      refine s_iconst (v := 1) (q := 51) d_C_load_50 rfl ki_1 ?_
      refine s_icmp_lt (tgt := 61) (q := 54) d_C_load_51 (by decide) rfl (fun h_51 => ?_) (fun h_51 => ?_)
      · -- T 51
        refine s_bipush (v := (-2)) (q := 63) d_C_load_61 rfl kb_m2 ?_
        exact g_iret d_C_load_63 rfl rfl rfl rfl
      · -- F 51
        refine s_iload (q := 56) d_C_load_54 rfl rfl ?_
        refine s_bipush (v := 12) (q := 58) d_C_load_56 rfl kb_12 ?_
        refine s_icmp_le (tgt := 64) (q := 61) d_C_load_58 (by decide) rfl (fun h_58 => ?_) (fun h_58 => ?_)
        · -- T 58
          refine s_aload (q := 66) d_C_load_64 rfl rfl (Or.inl rfl) ?_
          refine s_ifnull_n (tgt := 79) d_C_load_66 (by decide) ?_
          refine s_bipush (v := (-2)) (q := 81) d_C_load_79 rfl kb_m2 ?_
          exact g_iret d_C_load_81 rfl rfl rfl rfl
        · -- F 58
          refine s_bipush (v := (-2)) (q := 63) d_C_load_61 rfl kb_m2 ?_
          exact g_iret d_C_load_63 rfl rfl rfl rfl
    · skip
      refine Ct_of false (by decide) (fun h => by cases h) (Nat.le_of_ble_eq_true rfl) ?_
      show V l D ac b "SpanStore" c_C_load 13 (some .int) false 2 42 0 0 ((some (.int (-2))), 144, mk (X)) 0 0 0 [(0, .ref 0), (1, .int (nI t)), (2, .int (nI j)), (3, .int k), (4, .int g), (5, .int (nI v)), (6, .int n)] [] 144 (mk X)
      refine s_aload_n (q := 1) d_C_load_0 rfl rfl (Or.inr ⟨_, rfl⟩) ?_
      refine s_iload_n (q := 2) d_C_load_1 rfl rfl ?_
      refine g_callV (q := 5) d_C_load_2 rfl ml_C_27 mx_C_tableAt mv_C_tableAt (t_C_tableAt_ok ht) hC.1 rfl rfl (Nat.le_of_ble_eq_true rfl) (by decide) ?_
      refine s_astore (q := 7) d_C_load_5 rfl (by decide) (Or.inr ⟨_, rfl⟩) ?_
      refine s_aload (q := 9) d_C_load_7 rfl rfl (Or.inr ⟨_, rfl⟩) ?_
      refine s_iload_n (q := 10) d_C_load_9 rfl rfl ?_
      refine g_callS (q := 13) d_C_load_10 rfl ml_C_31 mx_C_blockAt ms_C_blockAt (t_C_blockAt_ok (hC.2.2.2.2.1 _ ht) hj) rfl rfl (Nat.le_of_ble_eq_true rfl) (by decide) ?_
      refine s_astore (q := 15) d_C_load_13 rfl (by decide) (Or.inr ⟨_, rfl⟩) ?_
      refine s_aload_n (q := 16) d_C_load_15 rfl rfl (Or.inr ⟨_, rfl⟩) ?_
      refine s_iload_n (q := 17) d_C_load_16 rfl rfl ?_
      refine g_callV (q := 20) d_C_load_17 rfl ml_C_53 mx_C_sheetAt mv_C_sheetAt (t_C_sheetAt_no hz) hC.1 rfl rfl (Nat.le_of_ble_eq_true rfl) (by decide) ?_
      refine s_astore (q := 22) d_C_load_20 rfl (by decide) (Or.inl rfl) ?_
      refine s_aload_n (q := 23) d_C_load_22 rfl rfl (Or.inr ⟨_, rfl⟩) ?_
      refine s_iload (q := 25) d_C_load_23 rfl rfl ?_
      refine g_callV (q := 28) d_C_load_25 rfl ml_C_53 mx_C_sheetAt mv_C_sheetAt (t_C_sheetAt_no ug) hC.1 rfl rfl (Nat.le_of_ble_eq_true rfl) (by decide) ?_
      refine s_astore (q := 30) d_C_load_28 rfl (by decide) (Or.inl rfl) ?_
      refine s_aload_n (q := 31) d_C_load_30 rfl rfl (Or.inr ⟨_, rfl⟩) ?_
      refine s_iload (q := 33) d_C_load_31 rfl rfl ?_
      refine g_callV (q := 36) d_C_load_33 rfl ml_C_53 mx_C_sheetAt mv_C_sheetAt (t_C_sheetAt_ok uv) hC.1 rfl rfl (Nat.le_of_ble_eq_true rfl) (by decide) ?_
      refine s_astore (q := 38) d_C_load_36 rfl (by decide) (Or.inr ⟨_, rfl⟩) ?_
      refine s_aload (q := 40) d_C_load_38 rfl rfl (Or.inr ⟨_, rfl⟩) ?_
      refine s_ifnull_r (q := 43) d_C_load_40 rfl ?_
      refine s_aload (q := 45) d_C_load_43 rfl rfl (Or.inr ⟨_, rfl⟩) ?_
      refine s_ifnull_r (q := 48) d_C_load_45 rfl ?_
      refine s_iload (q := 50) d_C_load_48 rfl rfl ?_
      refine s_iconst (v := 1) (q := 51) d_C_load_50 rfl ki_1 ?_
      refine s_icmp_lt (tgt := 61) (q := 54) d_C_load_51 (by decide) rfl (fun h_51 => ?_) (fun h_51 => ?_)
      · -- T 51
        refine s_bipush (v := (-2)) (q := 63) d_C_load_61 rfl kb_m2 ?_
        exact g_iret d_C_load_63 rfl rfl rfl rfl
      · -- F 51
        refine s_iload (q := 56) d_C_load_54 rfl rfl ?_
        refine s_bipush (v := 12) (q := 58) d_C_load_56 rfl kb_12 ?_
        refine s_icmp_le (tgt := 64) (q := 61) d_C_load_58 (by decide) rfl (fun h_58 => ?_) (fun h_58 => ?_)
        · -- T 58
          refine s_aload (q := 66) d_C_load_64 rfl rfl (Or.inl rfl) ?_
          refine s_ifnull_n (tgt := 79) d_C_load_66 (by decide) ?_
          refine s_bipush (v := (-2)) (q := 81) d_C_load_79 rfl kb_m2 ?_
          exact g_iret d_C_load_81 rfl rfl rfl rfl
        · -- F 58
          refine s_bipush (v := (-2)) (q := 63) d_C_load_61 rfl kb_m2 ?_
          exact g_iret d_C_load_63 rfl rfl rfl rfl
  · skip
    rcases ix4 (x := v) with uv | ⟨v, uv, rfl⟩
    · skip
      refine Ct_of false (by decide) (fun h => by cases h) (Nat.le_of_ble_eq_true rfl) ?_
      show V l D ac b "SpanStore" c_C_load 13 (some .int) false 2 42 0 0 ((some (.int (-2))), 144, mk (X)) 0 0 0 [(0, .ref 0), (1, .int (nI t)), (2, .int (nI j)), (3, .int k), (4, .int (nI g)), (5, .int v), (6, .int n)] [] 144 (mk X)
      refine s_aload_n (q := 1) d_C_load_0 rfl rfl (Or.inr ⟨_, rfl⟩) ?_
      refine s_iload_n (q := 2) d_C_load_1 rfl rfl ?_
      refine g_callV (q := 5) d_C_load_2 rfl ml_C_27 mx_C_tableAt mv_C_tableAt (t_C_tableAt_ok ht) hC.1 rfl rfl (Nat.le_of_ble_eq_true rfl) (by decide) ?_
      refine s_astore (q := 7) d_C_load_5 rfl (by decide) (Or.inr ⟨_, rfl⟩) ?_
      refine s_aload (q := 9) d_C_load_7 rfl rfl (Or.inr ⟨_, rfl⟩) ?_
      refine s_iload_n (q := 10) d_C_load_9 rfl rfl ?_
      refine g_callS (q := 13) d_C_load_10 rfl ml_C_31 mx_C_blockAt ms_C_blockAt (t_C_blockAt_ok (hC.2.2.2.2.1 _ ht) hj) rfl rfl (Nat.le_of_ble_eq_true rfl) (by decide) ?_
      refine s_astore (q := 15) d_C_load_13 rfl (by decide) (Or.inr ⟨_, rfl⟩) ?_
      refine s_aload_n (q := 16) d_C_load_15 rfl rfl (Or.inr ⟨_, rfl⟩) ?_
      refine s_iload_n (q := 17) d_C_load_16 rfl rfl ?_
      refine g_callV (q := 20) d_C_load_17 rfl ml_C_53 mx_C_sheetAt mv_C_sheetAt (t_C_sheetAt_no hz) hC.1 rfl rfl (Nat.le_of_ble_eq_true rfl) (by decide) ?_
      refine s_astore (q := 22) d_C_load_20 rfl (by decide) (Or.inl rfl) ?_
      refine s_aload_n (q := 23) d_C_load_22 rfl rfl (Or.inr ⟨_, rfl⟩) ?_
      refine s_iload (q := 25) d_C_load_23 rfl rfl ?_
      refine g_callV (q := 28) d_C_load_25 rfl ml_C_53 mx_C_sheetAt mv_C_sheetAt (t_C_sheetAt_ok ug) hC.1 rfl rfl (Nat.le_of_ble_eq_true rfl) (by decide) ?_
      refine s_astore (q := 30) d_C_load_28 rfl (by decide) (Or.inr ⟨_, rfl⟩) ?_
      refine s_aload_n (q := 31) d_C_load_30 rfl rfl (Or.inr ⟨_, rfl⟩) ?_
      refine s_iload (q := 33) d_C_load_31 rfl rfl ?_
      refine g_callV (q := 36) d_C_load_33 rfl ml_C_53 mx_C_sheetAt mv_C_sheetAt (t_C_sheetAt_no uv) hC.1 rfl rfl (Nat.le_of_ble_eq_true rfl) (by decide) ?_
      refine s_astore (q := 38) d_C_load_36 rfl (by decide) (Or.inl rfl) ?_
      refine s_aload (q := 40) d_C_load_38 rfl rfl (Or.inr ⟨_, rfl⟩) ?_
      refine s_ifnull_r (q := 43) d_C_load_40 rfl ?_
      refine s_aload (q := 45) d_C_load_43 rfl rfl (Or.inr ⟨_, rfl⟩) ?_
      refine s_ifnull_r (q := 48) d_C_load_45 rfl ?_
      refine s_iload (q := 50) d_C_load_48 rfl rfl ?_
      refine s_iconst (v := 1) (q := 51) d_C_load_50 rfl ki_1 ?_
      refine s_icmp_lt (tgt := 61) (q := 54) d_C_load_51 (by decide) rfl (fun h_51 => ?_) (fun h_51 => ?_)
      · -- T 51
        refine s_bipush (v := (-2)) (q := 63) d_C_load_61 rfl kb_m2 ?_
        exact g_iret d_C_load_63 rfl rfl rfl rfl
      · -- F 51
        refine s_iload (q := 56) d_C_load_54 rfl rfl ?_
        refine s_bipush (v := 12) (q := 58) d_C_load_56 rfl kb_12 ?_
        refine s_icmp_le (tgt := 64) (q := 61) d_C_load_58 (by decide) rfl (fun h_58 => ?_) (fun h_58 => ?_)
        · -- T 58
          refine s_aload (q := 66) d_C_load_64 rfl rfl (Or.inl rfl) ?_
          refine s_ifnull_n (tgt := 79) d_C_load_66 (by decide) ?_
          refine s_bipush (v := (-2)) (q := 81) d_C_load_79 rfl kb_m2 ?_
          exact g_iret d_C_load_81 rfl rfl rfl rfl
        · -- F 58
          refine s_bipush (v := (-2)) (q := 63) d_C_load_61 rfl kb_m2 ?_
          exact g_iret d_C_load_63 rfl rfl rfl rfl
    · skip
      refine Ct_of false (by decide) (fun h => by cases h) (Nat.le_of_ble_eq_true rfl) ?_
      show V l D ac b "SpanStore" c_C_load 13 (some .int) false 2 42 0 0 ((some (.int (-2))), 144, mk (X)) 0 0 0 [(0, .ref 0), (1, .int (nI t)), (2, .int (nI j)), (3, .int k), (4, .int (nI g)), (5, .int (nI v)), (6, .int n)] [] 144 (mk X)
      refine s_aload_n (q := 1) d_C_load_0 rfl rfl (Or.inr ⟨_, rfl⟩) ?_
      refine s_iload_n (q := 2) d_C_load_1 rfl rfl ?_
      refine g_callV (q := 5) d_C_load_2 rfl ml_C_27 mx_C_tableAt mv_C_tableAt (t_C_tableAt_ok ht) hC.1 rfl rfl (Nat.le_of_ble_eq_true rfl) (by decide) ?_
      refine s_astore (q := 7) d_C_load_5 rfl (by decide) (Or.inr ⟨_, rfl⟩) ?_
      refine s_aload (q := 9) d_C_load_7 rfl rfl (Or.inr ⟨_, rfl⟩) ?_
      refine s_iload_n (q := 10) d_C_load_9 rfl rfl ?_
      refine g_callS (q := 13) d_C_load_10 rfl ml_C_31 mx_C_blockAt ms_C_blockAt (t_C_blockAt_ok (hC.2.2.2.2.1 _ ht) hj) rfl rfl (Nat.le_of_ble_eq_true rfl) (by decide) ?_
      refine s_astore (q := 15) d_C_load_13 rfl (by decide) (Or.inr ⟨_, rfl⟩) ?_
      refine s_aload_n (q := 16) d_C_load_15 rfl rfl (Or.inr ⟨_, rfl⟩) ?_
      refine s_iload_n (q := 17) d_C_load_16 rfl rfl ?_
      refine g_callV (q := 20) d_C_load_17 rfl ml_C_53 mx_C_sheetAt mv_C_sheetAt (t_C_sheetAt_no hz) hC.1 rfl rfl (Nat.le_of_ble_eq_true rfl) (by decide) ?_
      refine s_astore (q := 22) d_C_load_20 rfl (by decide) (Or.inl rfl) ?_
      refine s_aload_n (q := 23) d_C_load_22 rfl rfl (Or.inr ⟨_, rfl⟩) ?_
      refine s_iload (q := 25) d_C_load_23 rfl rfl ?_
      refine g_callV (q := 28) d_C_load_25 rfl ml_C_53 mx_C_sheetAt mv_C_sheetAt (t_C_sheetAt_ok ug) hC.1 rfl rfl (Nat.le_of_ble_eq_true rfl) (by decide) ?_
      refine s_astore (q := 30) d_C_load_28 rfl (by decide) (Or.inr ⟨_, rfl⟩) ?_
      refine s_aload_n (q := 31) d_C_load_30 rfl rfl (Or.inr ⟨_, rfl⟩) ?_
      refine s_iload (q := 33) d_C_load_31 rfl rfl ?_
      refine g_callV (q := 36) d_C_load_33 rfl ml_C_53 mx_C_sheetAt mv_C_sheetAt (t_C_sheetAt_ok uv) hC.1 rfl rfl (Nat.le_of_ble_eq_true rfl) (by decide) ?_
      refine s_astore (q := 38) d_C_load_36 rfl (by decide) (Or.inr ⟨_, rfl⟩) ?_
      refine s_aload (q := 40) d_C_load_38 rfl rfl (Or.inr ⟨_, rfl⟩) ?_
      refine s_ifnull_r (q := 43) d_C_load_40 rfl ?_
      refine s_aload (q := 45) d_C_load_43 rfl rfl (Or.inr ⟨_, rfl⟩) ?_
      refine s_ifnull_r (q := 48) d_C_load_45 rfl ?_
      refine s_iload (q := 50) d_C_load_48 rfl rfl ?_
      refine s_iconst (v := 1) (q := 51) d_C_load_50 rfl ki_1 ?_
      refine s_icmp_lt (tgt := 61) (q := 54) d_C_load_51 (by decide) rfl (fun h_51 => ?_) (fun h_51 => ?_)
      · -- T 51
        refine s_bipush (v := (-2)) (q := 63) d_C_load_61 rfl kb_m2 ?_
        exact g_iret d_C_load_63 rfl rfl rfl rfl
      · -- F 51
        refine s_iload (q := 56) d_C_load_54 rfl rfl ?_
        refine s_bipush (v := 12) (q := 58) d_C_load_56 rfl kb_12 ?_
        refine s_icmp_le (tgt := 64) (q := 61) d_C_load_58 (by decide) rfl (fun h_58 => ?_) (fun h_58 => ?_)
        · -- T 58
          refine s_aload (q := 66) d_C_load_64 rfl rfl (Or.inl rfl) ?_
          refine s_ifnull_n (tgt := 79) d_C_load_66 (by decide) ?_
          refine s_bipush (v := (-2)) (q := 81) d_C_load_79 rfl kb_m2 ?_
          exact g_iret d_C_load_81 rfl rfl rfl rfl
        · -- F 58
          refine s_bipush (v := (-2)) (q := 63) d_C_load_61 rfl kb_m2 ?_
          exact g_iret d_C_load_63 rfl rfl rfl rfl
theorem t_C_load_G {X : RAM} {t j k : Nat} {g v n : Int32} (ht : t < 2) (hj : j < 8) (hk : k < 4) (hz : g < 0 ∨ 4 ≤ g) : CG l D ac b y_C_load c_C_load 13 (some .int) 2 42 [.ref 0, .int (nI t), .int (nI j), .int (nI k), .int g, .int v, .int n] X (some (.int (-2))) (X) := by
  rcases ix4 (x := v) with uv | ⟨v, uv, rfl⟩
  · skip
    refine Ct_of false (by decide) (fun h => by cases h) (Nat.le_of_ble_eq_true rfl) ?_
    show V l D ac b "SpanStore" c_C_load 13 (some .int) false 2 42 0 0 ((some (.int (-2))), 144, mk (X)) 0 0 0 [(0, .ref 0), (1, .int (nI t)), (2, .int (nI j)), (3, .int (nI k)), (4, .int g), (5, .int v), (6, .int n)] [] 144 (mk X)
    refine s_aload_n (q := 1) d_C_load_0 rfl rfl (Or.inr ⟨_, rfl⟩) ?_
    refine s_iload_n (q := 2) d_C_load_1 rfl rfl ?_
    refine g_callV (q := 5) d_C_load_2 rfl ml_C_27 mx_C_tableAt mv_C_tableAt (t_C_tableAt_ok ht) hC.1 rfl rfl (Nat.le_of_ble_eq_true rfl) (by decide) ?_
    refine s_astore (q := 7) d_C_load_5 rfl (by decide) (Or.inr ⟨_, rfl⟩) ?_
    refine s_aload (q := 9) d_C_load_7 rfl rfl (Or.inr ⟨_, rfl⟩) ?_
    refine s_iload_n (q := 10) d_C_load_9 rfl rfl ?_
    refine g_callS (q := 13) d_C_load_10 rfl ml_C_31 mx_C_blockAt ms_C_blockAt (t_C_blockAt_ok (hC.2.2.2.2.1 _ ht) hj) rfl rfl (Nat.le_of_ble_eq_true rfl) (by decide) ?_
    refine s_astore (q := 15) d_C_load_13 rfl (by decide) (Or.inr ⟨_, rfl⟩) ?_
    refine s_aload_n (q := 16) d_C_load_15 rfl rfl (Or.inr ⟨_, rfl⟩) ?_
    refine s_iload_n (q := 17) d_C_load_16 rfl rfl ?_
    refine g_callV (q := 20) d_C_load_17 rfl ml_C_53 mx_C_sheetAt mv_C_sheetAt (t_C_sheetAt_ok hk) hC.1 rfl rfl (Nat.le_of_ble_eq_true rfl) (by decide) ?_
    refine s_astore (q := 22) d_C_load_20 rfl (by decide) (Or.inr ⟨_, rfl⟩) ?_
    refine s_aload_n (q := 23) d_C_load_22 rfl rfl (Or.inr ⟨_, rfl⟩) ?_
    refine s_iload (q := 25) d_C_load_23 rfl rfl ?_
    refine g_callV (q := 28) d_C_load_25 rfl ml_C_53 mx_C_sheetAt mv_C_sheetAt (t_C_sheetAt_no hz) hC.1 rfl rfl (Nat.le_of_ble_eq_true rfl) (by decide) ?_
    refine s_astore (q := 30) d_C_load_28 rfl (by decide) (Or.inl rfl) ?_
    refine s_aload_n (q := 31) d_C_load_30 rfl rfl (Or.inr ⟨_, rfl⟩) ?_
    refine s_iload (q := 33) d_C_load_31 rfl rfl ?_
    refine g_callV (q := 36) d_C_load_33 rfl ml_C_53 mx_C_sheetAt mv_C_sheetAt (t_C_sheetAt_no uv) hC.1 rfl rfl (Nat.le_of_ble_eq_true rfl) (by decide) ?_
    refine s_astore (q := 38) d_C_load_36 rfl (by decide) (Or.inl rfl) ?_
    refine s_aload (q := 40) d_C_load_38 rfl rfl (Or.inr ⟨_, rfl⟩) ?_
    refine s_ifnull_r (q := 43) d_C_load_40 rfl ?_
    refine s_aload (q := 45) d_C_load_43 rfl rfl (Or.inr ⟨_, rfl⟩) ?_
    refine s_ifnull_r (q := 48) d_C_load_45 rfl ?_
    refine s_iload (q := 50) d_C_load_48 rfl rfl ?_
    refine s_iconst (v := 1) (q := 51) d_C_load_50 rfl ki_1 ?_
    refine s_icmp_lt (tgt := 61) (q := 54) d_C_load_51 (by decide) rfl (fun h_51 => ?_) (fun h_51 => ?_)
    · -- T 51
      refine s_bipush (v := (-2)) (q := 63) d_C_load_61 rfl kb_m2 ?_
      exact g_iret d_C_load_63 rfl rfl rfl rfl
    · -- F 51
      refine s_iload (q := 56) d_C_load_54 rfl rfl ?_
      refine s_bipush (v := 12) (q := 58) d_C_load_56 rfl kb_12 ?_
      refine s_icmp_le (tgt := 64) (q := 61) d_C_load_58 (by decide) rfl (fun h_58 => ?_) (fun h_58 => ?_)
      · -- T 58
        refine s_aload (q := 66) d_C_load_64 rfl rfl (Or.inr ⟨_, rfl⟩) ?_
        refine s_ifnull_r (q := 69) d_C_load_66 rfl ?_
        refine s_aload (q := 71) d_C_load_69 rfl rfl (Or.inl rfl) ?_
        refine s_ifnull_n (tgt := 79) d_C_load_71 (by decide) ?_
        refine s_bipush (v := (-2)) (q := 81) d_C_load_79 rfl kb_m2 ?_
        exact g_iret d_C_load_81 rfl rfl rfl rfl
      · -- F 58
        refine s_bipush (v := (-2)) (q := 63) d_C_load_61 rfl kb_m2 ?_
        exact g_iret d_C_load_63 rfl rfl rfl rfl
  · skip
    refine Ct_of false (by decide) (fun h => by cases h) (Nat.le_of_ble_eq_true rfl) ?_
    show V l D ac b "SpanStore" c_C_load 13 (some .int) false 2 42 0 0 ((some (.int (-2))), 144, mk (X)) 0 0 0 [(0, .ref 0), (1, .int (nI t)), (2, .int (nI j)), (3, .int (nI k)), (4, .int g), (5, .int (nI v)), (6, .int n)] [] 144 (mk X)
    refine s_aload_n (q := 1) d_C_load_0 rfl rfl (Or.inr ⟨_, rfl⟩) ?_
    refine s_iload_n (q := 2) d_C_load_1 rfl rfl ?_
    refine g_callV (q := 5) d_C_load_2 rfl ml_C_27 mx_C_tableAt mv_C_tableAt (t_C_tableAt_ok ht) hC.1 rfl rfl (Nat.le_of_ble_eq_true rfl) (by decide) ?_
    refine s_astore (q := 7) d_C_load_5 rfl (by decide) (Or.inr ⟨_, rfl⟩) ?_
    refine s_aload (q := 9) d_C_load_7 rfl rfl (Or.inr ⟨_, rfl⟩) ?_
    refine s_iload_n (q := 10) d_C_load_9 rfl rfl ?_
    refine g_callS (q := 13) d_C_load_10 rfl ml_C_31 mx_C_blockAt ms_C_blockAt (t_C_blockAt_ok (hC.2.2.2.2.1 _ ht) hj) rfl rfl (Nat.le_of_ble_eq_true rfl) (by decide) ?_
    refine s_astore (q := 15) d_C_load_13 rfl (by decide) (Or.inr ⟨_, rfl⟩) ?_
    refine s_aload_n (q := 16) d_C_load_15 rfl rfl (Or.inr ⟨_, rfl⟩) ?_
    refine s_iload_n (q := 17) d_C_load_16 rfl rfl ?_
    refine g_callV (q := 20) d_C_load_17 rfl ml_C_53 mx_C_sheetAt mv_C_sheetAt (t_C_sheetAt_ok hk) hC.1 rfl rfl (Nat.le_of_ble_eq_true rfl) (by decide) ?_
    refine s_astore (q := 22) d_C_load_20 rfl (by decide) (Or.inr ⟨_, rfl⟩) ?_
    refine s_aload_n (q := 23) d_C_load_22 rfl rfl (Or.inr ⟨_, rfl⟩) ?_
    refine s_iload (q := 25) d_C_load_23 rfl rfl ?_
    refine g_callV (q := 28) d_C_load_25 rfl ml_C_53 mx_C_sheetAt mv_C_sheetAt (t_C_sheetAt_no hz) hC.1 rfl rfl (Nat.le_of_ble_eq_true rfl) (by decide) ?_
    refine s_astore (q := 30) d_C_load_28 rfl (by decide) (Or.inl rfl) ?_
    refine s_aload_n (q := 31) d_C_load_30 rfl rfl (Or.inr ⟨_, rfl⟩) ?_
    refine s_iload (q := 33) d_C_load_31 rfl rfl ?_
    refine g_callV (q := 36) d_C_load_33 rfl ml_C_53 mx_C_sheetAt mv_C_sheetAt (t_C_sheetAt_ok uv) hC.1 rfl rfl (Nat.le_of_ble_eq_true rfl) (by decide) ?_
    refine s_astore (q := 38) d_C_load_36 rfl (by decide) (Or.inr ⟨_, rfl⟩) ?_
    refine s_aload (q := 40) d_C_load_38 rfl rfl (Or.inr ⟨_, rfl⟩) ?_
    refine s_ifnull_r (q := 43) d_C_load_40 rfl ?_
    refine s_aload (q := 45) d_C_load_43 rfl rfl (Or.inr ⟨_, rfl⟩) ?_
    refine s_ifnull_r (q := 48) d_C_load_45 rfl ?_
    refine s_iload (q := 50) d_C_load_48 rfl rfl ?_
    refine s_iconst (v := 1) (q := 51) d_C_load_50 rfl ki_1 ?_
    refine s_icmp_lt (tgt := 61) (q := 54) d_C_load_51 (by decide) rfl (fun h_51 => ?_) (fun h_51 => ?_)
    · -- T 51
      refine s_bipush (v := (-2)) (q := 63) d_C_load_61 rfl kb_m2 ?_
      exact g_iret d_C_load_63 rfl rfl rfl rfl
    · -- F 51
      refine s_iload (q := 56) d_C_load_54 rfl rfl ?_
      refine s_bipush (v := 12) (q := 58) d_C_load_56 rfl kb_12 ?_
      refine s_icmp_le (tgt := 64) (q := 61) d_C_load_58 (by decide) rfl (fun h_58 => ?_) (fun h_58 => ?_)
      · -- T 58
        refine s_aload (q := 66) d_C_load_64 rfl rfl (Or.inr ⟨_, rfl⟩) ?_
        refine s_ifnull_r (q := 69) d_C_load_66 rfl ?_
        refine s_aload (q := 71) d_C_load_69 rfl rfl (Or.inl rfl) ?_
        refine s_ifnull_n (tgt := 79) d_C_load_71 (by decide) ?_
        refine s_bipush (v := (-2)) (q := 81) d_C_load_79 rfl kb_m2 ?_
        exact g_iret d_C_load_81 rfl rfl rfl rfl
      · -- F 58
        refine s_bipush (v := (-2)) (q := 63) d_C_load_61 rfl kb_m2 ?_
        exact g_iret d_C_load_63 rfl rfl rfl rfl
theorem t_C_load_V {X : RAM} {t j k g : Nat} {v n : Int32} (ht : t < 2) (hj : j < 8) (hk : k < 4) (hg : g < 4) (hz : v < 0 ∨ 4 ≤ v) : CG l D ac b y_C_load c_C_load 13 (some .int) 2 42 [.ref 0, .int (nI t), .int (nI j), .int (nI k), .int (nI g), .int v, .int n] X (some (.int (-2))) (X) := by
  refine Ct_of false (by decide) (fun h => by cases h) (Nat.le_of_ble_eq_true rfl) ?_
  show V l D ac b "SpanStore" c_C_load 13 (some .int) false 2 42 0 0 ((some (.int (-2))), 144, mk (X)) 0 0 0 [(0, .ref 0), (1, .int (nI t)), (2, .int (nI j)), (3, .int (nI k)), (4, .int (nI g)), (5, .int v), (6, .int n)] [] 144 (mk X)
  refine s_aload_n (q := 1) d_C_load_0 rfl rfl (Or.inr ⟨_, rfl⟩) ?_
  refine s_iload_n (q := 2) d_C_load_1 rfl rfl ?_
  refine g_callV (q := 5) d_C_load_2 rfl ml_C_27 mx_C_tableAt mv_C_tableAt (t_C_tableAt_ok ht) hC.1 rfl rfl (Nat.le_of_ble_eq_true rfl) (by decide) ?_
  refine s_astore (q := 7) d_C_load_5 rfl (by decide) (Or.inr ⟨_, rfl⟩) ?_
  refine s_aload (q := 9) d_C_load_7 rfl rfl (Or.inr ⟨_, rfl⟩) ?_
  refine s_iload_n (q := 10) d_C_load_9 rfl rfl ?_
  refine g_callS (q := 13) d_C_load_10 rfl ml_C_31 mx_C_blockAt ms_C_blockAt (t_C_blockAt_ok (hC.2.2.2.2.1 _ ht) hj) rfl rfl (Nat.le_of_ble_eq_true rfl) (by decide) ?_
  refine s_astore (q := 15) d_C_load_13 rfl (by decide) (Or.inr ⟨_, rfl⟩) ?_
  refine s_aload_n (q := 16) d_C_load_15 rfl rfl (Or.inr ⟨_, rfl⟩) ?_
  refine s_iload_n (q := 17) d_C_load_16 rfl rfl ?_
  refine g_callV (q := 20) d_C_load_17 rfl ml_C_53 mx_C_sheetAt mv_C_sheetAt (t_C_sheetAt_ok hk) hC.1 rfl rfl (Nat.le_of_ble_eq_true rfl) (by decide) ?_
  refine s_astore (q := 22) d_C_load_20 rfl (by decide) (Or.inr ⟨_, rfl⟩) ?_
  refine s_aload_n (q := 23) d_C_load_22 rfl rfl (Or.inr ⟨_, rfl⟩) ?_
  refine s_iload (q := 25) d_C_load_23 rfl rfl ?_
  refine g_callV (q := 28) d_C_load_25 rfl ml_C_53 mx_C_sheetAt mv_C_sheetAt (t_C_sheetAt_ok hg) hC.1 rfl rfl (Nat.le_of_ble_eq_true rfl) (by decide) ?_
  refine s_astore (q := 30) d_C_load_28 rfl (by decide) (Or.inr ⟨_, rfl⟩) ?_
  refine s_aload_n (q := 31) d_C_load_30 rfl rfl (Or.inr ⟨_, rfl⟩) ?_
  refine s_iload (q := 33) d_C_load_31 rfl rfl ?_
  refine g_callV (q := 36) d_C_load_33 rfl ml_C_53 mx_C_sheetAt mv_C_sheetAt (t_C_sheetAt_no hz) hC.1 rfl rfl (Nat.le_of_ble_eq_true rfl) (by decide) ?_
  refine s_astore (q := 38) d_C_load_36 rfl (by decide) (Or.inl rfl) ?_
  refine s_aload (q := 40) d_C_load_38 rfl rfl (Or.inr ⟨_, rfl⟩) ?_
  refine s_ifnull_r (q := 43) d_C_load_40 rfl ?_
  refine s_aload (q := 45) d_C_load_43 rfl rfl (Or.inr ⟨_, rfl⟩) ?_
  refine s_ifnull_r (q := 48) d_C_load_45 rfl ?_
  refine s_iload (q := 50) d_C_load_48 rfl rfl ?_
  refine s_iconst (v := 1) (q := 51) d_C_load_50 rfl ki_1 ?_
  refine s_icmp_lt (tgt := 61) (q := 54) d_C_load_51 (by decide) rfl (fun h_51 => ?_) (fun h_51 => ?_)
  · -- T 51
    refine s_bipush (v := (-2)) (q := 63) d_C_load_61 rfl kb_m2 ?_
    exact g_iret d_C_load_63 rfl rfl rfl rfl
  · -- F 51
    refine s_iload (q := 56) d_C_load_54 rfl rfl ?_
    refine s_bipush (v := 12) (q := 58) d_C_load_56 rfl kb_12 ?_
    refine s_icmp_le (tgt := 64) (q := 61) d_C_load_58 (by decide) rfl (fun h_58 => ?_) (fun h_58 => ?_)
    · -- T 58
      refine s_aload (q := 66) d_C_load_64 rfl rfl (Or.inr ⟨_, rfl⟩) ?_
      refine s_ifnull_r (q := 69) d_C_load_66 rfl ?_
      refine s_aload (q := 71) d_C_load_69 rfl rfl (Or.inr ⟨_, rfl⟩) ?_
      refine s_ifnull_r (q := 74) d_C_load_71 rfl ?_
      refine s_aload (q := 76) d_C_load_74 rfl rfl (Or.inl rfl) ?_
      refine s_ifnonnull_n (q := 79) d_C_load_76 rfl ?_
      refine s_bipush (v := (-2)) (q := 81) d_C_load_79 rfl kb_m2 ?_
      exact g_iret d_C_load_81 rfl rfl rfl rfl
    · -- F 58
      refine s_bipush (v := (-2)) (q := 63) d_C_load_61 rfl kb_m2 ?_
      exact g_iret d_C_load_63 rfl rfl rfl rfl
theorem t_C_load_N {X : RAM} {t j k g v : Nat} {n : Int32} (ht : t < 2) (hj : j < 8) (hk : k < 4) (hg : g < 4) (hv : v < 4) (hn : n < 1 ∨ 12 < n) : CG l D ac b y_C_load c_C_load 13 (some .int) 2 42 [.ref 0, .int (nI t), .int (nI j), .int (nI k), .int (nI g), .int (nI v), .int n] X (some (.int (-2))) (X) := by
  refine Ct_of false (by decide) (fun h => by cases h) (Nat.le_of_ble_eq_true rfl) ?_
  show V l D ac b "SpanStore" c_C_load 13 (some .int) false 2 42 0 0 ((some (.int (-2))), 144, mk (X)) 0 0 0 [(0, .ref 0), (1, .int (nI t)), (2, .int (nI j)), (3, .int (nI k)), (4, .int (nI g)), (5, .int (nI v)), (6, .int n)] [] 144 (mk X)
  refine s_aload_n (q := 1) d_C_load_0 rfl rfl (Or.inr ⟨_, rfl⟩) ?_
  refine s_iload_n (q := 2) d_C_load_1 rfl rfl ?_
  refine g_callV (q := 5) d_C_load_2 rfl ml_C_27 mx_C_tableAt mv_C_tableAt (t_C_tableAt_ok ht) hC.1 rfl rfl (Nat.le_of_ble_eq_true rfl) (by decide) ?_
  refine s_astore (q := 7) d_C_load_5 rfl (by decide) (Or.inr ⟨_, rfl⟩) ?_
  refine s_aload (q := 9) d_C_load_7 rfl rfl (Or.inr ⟨_, rfl⟩) ?_
  refine s_iload_n (q := 10) d_C_load_9 rfl rfl ?_
  refine g_callS (q := 13) d_C_load_10 rfl ml_C_31 mx_C_blockAt ms_C_blockAt (t_C_blockAt_ok (hC.2.2.2.2.1 _ ht) hj) rfl rfl (Nat.le_of_ble_eq_true rfl) (by decide) ?_
  refine s_astore (q := 15) d_C_load_13 rfl (by decide) (Or.inr ⟨_, rfl⟩) ?_
  refine s_aload_n (q := 16) d_C_load_15 rfl rfl (Or.inr ⟨_, rfl⟩) ?_
  refine s_iload_n (q := 17) d_C_load_16 rfl rfl ?_
  refine g_callV (q := 20) d_C_load_17 rfl ml_C_53 mx_C_sheetAt mv_C_sheetAt (t_C_sheetAt_ok hk) hC.1 rfl rfl (Nat.le_of_ble_eq_true rfl) (by decide) ?_
  refine s_astore (q := 22) d_C_load_20 rfl (by decide) (Or.inr ⟨_, rfl⟩) ?_
  refine s_aload_n (q := 23) d_C_load_22 rfl rfl (Or.inr ⟨_, rfl⟩) ?_
  refine s_iload (q := 25) d_C_load_23 rfl rfl ?_
  refine g_callV (q := 28) d_C_load_25 rfl ml_C_53 mx_C_sheetAt mv_C_sheetAt (t_C_sheetAt_ok hg) hC.1 rfl rfl (Nat.le_of_ble_eq_true rfl) (by decide) ?_
  refine s_astore (q := 30) d_C_load_28 rfl (by decide) (Or.inr ⟨_, rfl⟩) ?_
  refine s_aload_n (q := 31) d_C_load_30 rfl rfl (Or.inr ⟨_, rfl⟩) ?_
  refine s_iload (q := 33) d_C_load_31 rfl rfl ?_
  refine g_callV (q := 36) d_C_load_33 rfl ml_C_53 mx_C_sheetAt mv_C_sheetAt (t_C_sheetAt_ok hv) hC.1 rfl rfl (Nat.le_of_ble_eq_true rfl) (by decide) ?_
  refine s_astore (q := 38) d_C_load_36 rfl (by decide) (Or.inr ⟨_, rfl⟩) ?_
  refine s_aload (q := 40) d_C_load_38 rfl rfl (Or.inr ⟨_, rfl⟩) ?_
  refine s_ifnull_r (q := 43) d_C_load_40 rfl ?_
  refine s_aload (q := 45) d_C_load_43 rfl rfl (Or.inr ⟨_, rfl⟩) ?_
  refine s_ifnull_r (q := 48) d_C_load_45 rfl ?_
  refine s_iload (q := 50) d_C_load_48 rfl rfl ?_
  refine s_iconst (v := 1) (q := 51) d_C_load_50 rfl ki_1 ?_
  refine s_icmp_lt (tgt := 61) (q := 54) d_C_load_51 (by decide) rfl (fun h_51 => ?_) (fun h_51 => ?_)
  · -- T 51
    refine s_bipush (v := (-2)) (q := 63) d_C_load_61 rfl kb_m2 ?_
    exact g_iret d_C_load_63 rfl rfl rfl rfl
  · -- F 51
    refine s_iload (q := 56) d_C_load_54 rfl rfl ?_
    refine s_bipush (v := 12) (q := 58) d_C_load_56 rfl kb_12 ?_
    refine s_icmp_le (tgt := 64) (q := 61) d_C_load_58 (by decide) rfl (fun h_58 => ?_) (fun h_58 => ?_)
    · -- T 58
      exact absurd hn (fun q => q.elim h_51 (i_nlt.mpr h_58)) --done
    · -- F 58
      refine s_bipush (v := (-2)) (q := 63) d_C_load_61 rfl kb_m2 ?_
      exact g_iret d_C_load_63 rfl rfl rfl rfl
theorem t_C_load_S {X : RAM} {t j k g v m : Nat} (ht : t < 2) (hj : j < 8) (hk : k < 4) (hg : g < 4) (hv : v < 4) (hm1 : 1 ≤ m) (hm : m ≤ 12) (hs : ¬ X (4 + 55 * t) 3 = 0) : CG l D ac b y_C_load c_C_load 13 (some .int) 2 42 [.ref 0, .int (nI t), .int (nI j), .int (nI k), .int (nI g), .int (nI v), .int (nI m)] X (some (.int (-3))) (X) := by
  refine Ct_of false (by decide) (fun h => by cases h) (Nat.le_of_ble_eq_true rfl) ?_
  show V l D ac b "SpanStore" c_C_load 13 (some .int) false 2 42 0 0 ((some (.int (-3))), 144, mk (X)) 0 0 0 [(0, .ref 0), (1, .int (nI t)), (2, .int (nI j)), (3, .int (nI k)), (4, .int (nI g)), (5, .int (nI v)), (6, .int (nI m))] [] 144 (mk X)
  refine s_aload_n (q := 1) d_C_load_0 rfl rfl (Or.inr ⟨_, rfl⟩) ?_
  refine s_iload_n (q := 2) d_C_load_1 rfl rfl ?_
  refine g_callV (q := 5) d_C_load_2 rfl ml_C_27 mx_C_tableAt mv_C_tableAt (t_C_tableAt_ok ht) hC.1 rfl rfl (Nat.le_of_ble_eq_true rfl) (by decide) ?_
  refine s_astore (q := 7) d_C_load_5 rfl (by decide) (Or.inr ⟨_, rfl⟩) ?_
  refine s_aload (q := 9) d_C_load_7 rfl rfl (Or.inr ⟨_, rfl⟩) ?_
  refine s_iload_n (q := 10) d_C_load_9 rfl rfl ?_
  refine g_callS (q := 13) d_C_load_10 rfl ml_C_31 mx_C_blockAt ms_C_blockAt (t_C_blockAt_ok (hC.2.2.2.2.1 _ ht) hj) rfl rfl (Nat.le_of_ble_eq_true rfl) (by decide) ?_
  refine s_astore (q := 15) d_C_load_13 rfl (by decide) (Or.inr ⟨_, rfl⟩) ?_
  refine s_aload_n (q := 16) d_C_load_15 rfl rfl (Or.inr ⟨_, rfl⟩) ?_
  refine s_iload_n (q := 17) d_C_load_16 rfl rfl ?_
  refine g_callV (q := 20) d_C_load_17 rfl ml_C_53 mx_C_sheetAt mv_C_sheetAt (t_C_sheetAt_ok hk) hC.1 rfl rfl (Nat.le_of_ble_eq_true rfl) (by decide) ?_
  refine s_astore (q := 22) d_C_load_20 rfl (by decide) (Or.inr ⟨_, rfl⟩) ?_
  refine s_aload_n (q := 23) d_C_load_22 rfl rfl (Or.inr ⟨_, rfl⟩) ?_
  refine s_iload (q := 25) d_C_load_23 rfl rfl ?_
  refine g_callV (q := 28) d_C_load_25 rfl ml_C_53 mx_C_sheetAt mv_C_sheetAt (t_C_sheetAt_ok hg) hC.1 rfl rfl (Nat.le_of_ble_eq_true rfl) (by decide) ?_
  refine s_astore (q := 30) d_C_load_28 rfl (by decide) (Or.inr ⟨_, rfl⟩) ?_
  refine s_aload_n (q := 31) d_C_load_30 rfl rfl (Or.inr ⟨_, rfl⟩) ?_
  refine s_iload (q := 33) d_C_load_31 rfl rfl ?_
  refine g_callV (q := 36) d_C_load_33 rfl ml_C_53 mx_C_sheetAt mv_C_sheetAt (t_C_sheetAt_ok hv) hC.1 rfl rfl (Nat.le_of_ble_eq_true rfl) (by decide) ?_
  refine s_astore (q := 38) d_C_load_36 rfl (by decide) (Or.inr ⟨_, rfl⟩) ?_
  refine s_aload (q := 40) d_C_load_38 rfl rfl (Or.inr ⟨_, rfl⟩) ?_
  refine s_ifnull_r (q := 43) d_C_load_40 rfl ?_
  refine s_aload (q := 45) d_C_load_43 rfl rfl (Or.inr ⟨_, rfl⟩) ?_
  refine s_ifnull_r (q := 48) d_C_load_45 rfl ?_
  refine s_iload (q := 50) d_C_load_48 rfl rfl ?_
  refine s_iconst (v := 1) (q := 51) d_C_load_50 rfl ki_1 ?_
  refine s_icmp_lt (tgt := 61) (q := 54) d_C_load_51 (by decide) rfl (fun z9 => absurd z9 (i_nlt.mpr (nI_le (a := 1) (b := m) hm1 (by omega)))) (fun _ => ?_)
  refine s_iload (q := 56) d_C_load_54 rfl rfl ?_
  refine s_bipush (v := 12) (q := 58) d_C_load_56 rfl kb_12 ?_
  refine s_icmp_le (tgt := 64) (q := 61) d_C_load_58 (by decide) rfl (fun _ => ?_) (fun z9 => absurd (nI_le (a := m) (b := 12) hm (by decide)) z9)
  refine s_aload (q := 66) d_C_load_64 rfl rfl (Or.inr ⟨_, rfl⟩) ?_
  refine s_ifnull_r (q := 69) d_C_load_66 rfl ?_
  refine s_aload (q := 71) d_C_load_69 rfl rfl (Or.inr ⟨_, rfl⟩) ?_
  refine s_ifnull_r (q := 74) d_C_load_71 rfl ?_
  refine s_aload (q := 76) d_C_load_74 rfl rfl (Or.inr ⟨_, rfl⟩) ?_
  refine s_ifnonnull_r (tgt := 82) d_C_load_76 (by decide) ?_
  refine s_aload (q := 84) d_C_load_82 rfl rfl (Or.inr ⟨_, rfl⟩) ?_
  refine g_geti (q := 87) d_C_load_84 rfl fl_C_39 (hC.2.2.2.2.1 _ ht).1 rfl ?_
  refine s_if_eq (tgt := 93) (q := 90) d_C_load_87 (by decide) rfl (fun z9 => absurd z9 hs) (fun _ => ?_)
  refine s_bipush (v := (-3)) (q := 92) d_C_load_90 rfl kb_m3 ?_
  exact g_iret d_C_load_92 rfl rfl rfl rfl
theorem t_C_load_F {X : RAM} {t j k g v m n : Nat} (ht : t < 2) (hj : j < 8) (hk : k < 4) (hg : g < 4) (hv : v < 4) (hm1 : 1 ≤ m) (hm : m ≤ 12) (hs : X (4 + 55 * t) 3 = 0) (hsz : X (4 + 55 * t + 3 + 6 * j) 5 = nI n) (hn : n ≤ 12) (hf : 12 < n + m) : CG l D ac b y_C_load c_C_load 13 (some .int) 2 42 [.ref 0, .int (nI t), .int (nI j), .int (nI k), .int (nI g), .int (nI v), .int (nI m)] X (some (.int (-4))) (X) := by
  refine Ct_of false (by decide) (fun h => by cases h) (Nat.le_of_ble_eq_true rfl) ?_
  show V l D ac b "SpanStore" c_C_load 13 (some .int) false 2 42 0 0 ((some (.int (-4))), 144, mk (X)) 0 0 0 [(0, .ref 0), (1, .int (nI t)), (2, .int (nI j)), (3, .int (nI k)), (4, .int (nI g)), (5, .int (nI v)), (6, .int (nI m))] [] 144 (mk X)
  refine s_aload_n (q := 1) d_C_load_0 rfl rfl (Or.inr ⟨_, rfl⟩) ?_
  refine s_iload_n (q := 2) d_C_load_1 rfl rfl ?_
  refine g_callV (q := 5) d_C_load_2 rfl ml_C_27 mx_C_tableAt mv_C_tableAt (t_C_tableAt_ok ht) hC.1 rfl rfl (Nat.le_of_ble_eq_true rfl) (by decide) ?_
  refine s_astore (q := 7) d_C_load_5 rfl (by decide) (Or.inr ⟨_, rfl⟩) ?_
  refine s_aload (q := 9) d_C_load_7 rfl rfl (Or.inr ⟨_, rfl⟩) ?_
  refine s_iload_n (q := 10) d_C_load_9 rfl rfl ?_
  refine g_callS (q := 13) d_C_load_10 rfl ml_C_31 mx_C_blockAt ms_C_blockAt (t_C_blockAt_ok (hC.2.2.2.2.1 _ ht) hj) rfl rfl (Nat.le_of_ble_eq_true rfl) (by decide) ?_
  refine s_astore (q := 15) d_C_load_13 rfl (by decide) (Or.inr ⟨_, rfl⟩) ?_
  refine s_aload_n (q := 16) d_C_load_15 rfl rfl (Or.inr ⟨_, rfl⟩) ?_
  refine s_iload_n (q := 17) d_C_load_16 rfl rfl ?_
  refine g_callV (q := 20) d_C_load_17 rfl ml_C_53 mx_C_sheetAt mv_C_sheetAt (t_C_sheetAt_ok hk) hC.1 rfl rfl (Nat.le_of_ble_eq_true rfl) (by decide) ?_
  refine s_astore (q := 22) d_C_load_20 rfl (by decide) (Or.inr ⟨_, rfl⟩) ?_
  refine s_aload_n (q := 23) d_C_load_22 rfl rfl (Or.inr ⟨_, rfl⟩) ?_
  refine s_iload (q := 25) d_C_load_23 rfl rfl ?_
  refine g_callV (q := 28) d_C_load_25 rfl ml_C_53 mx_C_sheetAt mv_C_sheetAt (t_C_sheetAt_ok hg) hC.1 rfl rfl (Nat.le_of_ble_eq_true rfl) (by decide) ?_
  refine s_astore (q := 30) d_C_load_28 rfl (by decide) (Or.inr ⟨_, rfl⟩) ?_
  refine s_aload_n (q := 31) d_C_load_30 rfl rfl (Or.inr ⟨_, rfl⟩) ?_
  refine s_iload (q := 33) d_C_load_31 rfl rfl ?_
  refine g_callV (q := 36) d_C_load_33 rfl ml_C_53 mx_C_sheetAt mv_C_sheetAt (t_C_sheetAt_ok hv) hC.1 rfl rfl (Nat.le_of_ble_eq_true rfl) (by decide) ?_
  refine s_astore (q := 38) d_C_load_36 rfl (by decide) (Or.inr ⟨_, rfl⟩) ?_
  refine s_aload (q := 40) d_C_load_38 rfl rfl (Or.inr ⟨_, rfl⟩) ?_
  refine s_ifnull_r (q := 43) d_C_load_40 rfl ?_
  refine s_aload (q := 45) d_C_load_43 rfl rfl (Or.inr ⟨_, rfl⟩) ?_
  refine s_ifnull_r (q := 48) d_C_load_45 rfl ?_
  refine s_iload (q := 50) d_C_load_48 rfl rfl ?_
  refine s_iconst (v := 1) (q := 51) d_C_load_50 rfl ki_1 ?_
  refine s_icmp_lt (tgt := 61) (q := 54) d_C_load_51 (by decide) rfl (fun z9 => absurd z9 (i_nlt.mpr (nI_le (a := 1) (b := m) hm1 (by omega)))) (fun _ => ?_)
  refine s_iload (q := 56) d_C_load_54 rfl rfl ?_
  refine s_bipush (v := 12) (q := 58) d_C_load_56 rfl kb_12 ?_
  refine s_icmp_le (tgt := 64) (q := 61) d_C_load_58 (by decide) rfl (fun _ => ?_) (fun z9 => absurd (nI_le (a := m) (b := 12) hm (by decide)) z9)
  refine s_aload (q := 66) d_C_load_64 rfl rfl (Or.inr ⟨_, rfl⟩) ?_
  refine s_ifnull_r (q := 69) d_C_load_66 rfl ?_
  refine s_aload (q := 71) d_C_load_69 rfl rfl (Or.inr ⟨_, rfl⟩) ?_
  refine s_ifnull_r (q := 74) d_C_load_71 rfl ?_
  refine s_aload (q := 76) d_C_load_74 rfl rfl (Or.inr ⟨_, rfl⟩) ?_
  refine s_ifnonnull_r (tgt := 82) d_C_load_76 (by decide) ?_
  refine s_aload (q := 84) d_C_load_82 rfl rfl (Or.inr ⟨_, rfl⟩) ?_
  refine g_geti (q := 87) d_C_load_84 rfl fl_C_39 (hC.2.2.2.2.1 _ ht).1 rfl ?_
  refine s_if_eq (tgt := 93) (q := 90) d_C_load_87 (by decide) rfl (fun _ => ?_) (fun z9 => absurd hs z9)
  refine s_aload (q := 95) d_C_load_93 rfl rfl (Or.inr ⟨_, rfl⟩) ?_
  refine g_getv (v := nI n) (q := 98) d_C_load_95 rfl fl_C_43 ((hC.2.2.2.2.1 _ ht).2.2.2.1 _ hj).1 rfl hsz ?_
  refine s_iload (q := 100) d_C_load_98 rfl rfl ?_
  refine s_iadd (q := 101) d_C_load_100 rfl ?_
  refine s_bipush (v := 12) (q := 103) d_C_load_101 rfl kb_12 ?_
  refine s_icmp_le (tgt := 109) (q := 106) d_C_load_103 (by decide) rfl (fun z9 => absurd z9 (by rw [nI_add]; exact nI_ge (a := 12) (b := n + m) hf (by omega))) (fun _ => ?_)
  refine s_bipush (v := (-4)) (q := 108) d_C_load_106 rfl kb_m4 ?_
  exact g_iret d_C_load_108 rfl rfl rfl rfl
theorem t_C_load_L {X : RAM} {t j k g v m n : Nat} (ht : t < 2) (hj : j < 8) (hk : k < 4) (hg : g < 4) (hv : v < 4) (hm1 : 1 ≤ m) (hm : m ≤ 12) (hs : X (4 + 55 * t) 3 = 0) (hsz : X (4 + 55 * t + 3 + 6 * j) 5 = nI n) (hf : n + m ≤ 12) (hl : ¬ (X (114 + 2 * k) 3 = 0 ∧ X (114 + 2 * g) 3 = 0 ∧ X (114 + 2 * v) 3 = 0)) : CG l D ac b y_C_load c_C_load 13 (some .int) 2 42 [.ref 0, .int (nI t), .int (nI j), .int (nI k), .int (nI g), .int (nI v), .int (nI m)] X (some (.int (-11))) (up2 X 0 4 1) := by
  refine Ct_of false (by decide) (fun h => by cases h) (Nat.le_of_ble_eq_true rfl) ?_
  show V l D ac b "SpanStore" c_C_load 13 (some .int) false 2 42 0 0 ((some (.int (-11))), 144, mk (up2 X 0 4 1)) 0 0 0 [(0, .ref 0), (1, .int (nI t)), (2, .int (nI j)), (3, .int (nI k)), (4, .int (nI g)), (5, .int (nI v)), (6, .int (nI m))] [] 144 (mk X)
  refine s_aload_n (q := 1) d_C_load_0 rfl rfl (Or.inr ⟨_, rfl⟩) ?_
  refine s_iload_n (q := 2) d_C_load_1 rfl rfl ?_
  refine g_callV (q := 5) d_C_load_2 rfl ml_C_27 mx_C_tableAt mv_C_tableAt (t_C_tableAt_ok ht) hC.1 rfl rfl (Nat.le_of_ble_eq_true rfl) (by decide) ?_
  refine s_astore (q := 7) d_C_load_5 rfl (by decide) (Or.inr ⟨_, rfl⟩) ?_
  refine s_aload (q := 9) d_C_load_7 rfl rfl (Or.inr ⟨_, rfl⟩) ?_
  refine s_iload_n (q := 10) d_C_load_9 rfl rfl ?_
  refine g_callS (q := 13) d_C_load_10 rfl ml_C_31 mx_C_blockAt ms_C_blockAt (t_C_blockAt_ok (hC.2.2.2.2.1 _ ht) hj) rfl rfl (Nat.le_of_ble_eq_true rfl) (by decide) ?_
  refine s_astore (q := 15) d_C_load_13 rfl (by decide) (Or.inr ⟨_, rfl⟩) ?_
  refine s_aload_n (q := 16) d_C_load_15 rfl rfl (Or.inr ⟨_, rfl⟩) ?_
  refine s_iload_n (q := 17) d_C_load_16 rfl rfl ?_
  refine g_callV (q := 20) d_C_load_17 rfl ml_C_53 mx_C_sheetAt mv_C_sheetAt (t_C_sheetAt_ok hk) hC.1 rfl rfl (Nat.le_of_ble_eq_true rfl) (by decide) ?_
  refine s_astore (q := 22) d_C_load_20 rfl (by decide) (Or.inr ⟨_, rfl⟩) ?_
  refine s_aload_n (q := 23) d_C_load_22 rfl rfl (Or.inr ⟨_, rfl⟩) ?_
  refine s_iload (q := 25) d_C_load_23 rfl rfl ?_
  refine g_callV (q := 28) d_C_load_25 rfl ml_C_53 mx_C_sheetAt mv_C_sheetAt (t_C_sheetAt_ok hg) hC.1 rfl rfl (Nat.le_of_ble_eq_true rfl) (by decide) ?_
  refine s_astore (q := 30) d_C_load_28 rfl (by decide) (Or.inr ⟨_, rfl⟩) ?_
  refine s_aload_n (q := 31) d_C_load_30 rfl rfl (Or.inr ⟨_, rfl⟩) ?_
  refine s_iload (q := 33) d_C_load_31 rfl rfl ?_
  refine g_callV (q := 36) d_C_load_33 rfl ml_C_53 mx_C_sheetAt mv_C_sheetAt (t_C_sheetAt_ok hv) hC.1 rfl rfl (Nat.le_of_ble_eq_true rfl) (by decide) ?_
  refine s_astore (q := 38) d_C_load_36 rfl (by decide) (Or.inr ⟨_, rfl⟩) ?_
  refine s_aload (q := 40) d_C_load_38 rfl rfl (Or.inr ⟨_, rfl⟩) ?_
  refine s_ifnull_r (q := 43) d_C_load_40 rfl ?_
  refine s_aload (q := 45) d_C_load_43 rfl rfl (Or.inr ⟨_, rfl⟩) ?_
  refine s_ifnull_r (q := 48) d_C_load_45 rfl ?_
  refine s_iload (q := 50) d_C_load_48 rfl rfl ?_
  refine s_iconst (v := 1) (q := 51) d_C_load_50 rfl ki_1 ?_
  refine s_icmp_lt (tgt := 61) (q := 54) d_C_load_51 (by decide) rfl (fun z9 => absurd z9 (i_nlt.mpr (nI_le (a := 1) (b := m) hm1 (by omega)))) (fun _ => ?_)
  refine s_iload (q := 56) d_C_load_54 rfl rfl ?_
  refine s_bipush (v := 12) (q := 58) d_C_load_56 rfl kb_12 ?_
  refine s_icmp_le (tgt := 64) (q := 61) d_C_load_58 (by decide) rfl (fun _ => ?_) (fun z9 => absurd (nI_le (a := m) (b := 12) hm (by decide)) z9)
  refine s_aload (q := 66) d_C_load_64 rfl rfl (Or.inr ⟨_, rfl⟩) ?_
  refine s_ifnull_r (q := 69) d_C_load_66 rfl ?_
  refine s_aload (q := 71) d_C_load_69 rfl rfl (Or.inr ⟨_, rfl⟩) ?_
  refine s_ifnull_r (q := 74) d_C_load_71 rfl ?_
  refine s_aload (q := 76) d_C_load_74 rfl rfl (Or.inr ⟨_, rfl⟩) ?_
  refine s_ifnonnull_r (tgt := 82) d_C_load_76 (by decide) ?_
  refine s_aload (q := 84) d_C_load_82 rfl rfl (Or.inr ⟨_, rfl⟩) ?_
  refine g_geti (q := 87) d_C_load_84 rfl fl_C_39 (hC.2.2.2.2.1 _ ht).1 rfl ?_
  refine s_if_eq (tgt := 93) (q := 90) d_C_load_87 (by decide) rfl (fun _ => ?_) (fun z9 => absurd hs z9)
  refine s_aload (q := 95) d_C_load_93 rfl rfl (Or.inr ⟨_, rfl⟩) ?_
  refine g_getv (v := nI n) (q := 98) d_C_load_95 rfl fl_C_43 ((hC.2.2.2.2.1 _ ht).2.2.2.1 _ hj).1 rfl hsz ?_
  refine s_iload (q := 100) d_C_load_98 rfl rfl ?_
  refine s_iadd (q := 101) d_C_load_100 rfl ?_
  refine s_bipush (v := 12) (q := 103) d_C_load_101 rfl kb_12 ?_
  refine s_icmp_le (tgt := 109) (q := 106) d_C_load_103 (by decide) rfl (fun _ => ?_) (fun z9 => absurd (by rw [nI_add]; exact nI_le (a := n + m) (b := 12) hf (by decide)) z9)
  refine s_aload (q := 111) d_C_load_109 rfl rfl (Or.inr ⟨_, rfl⟩) ?_
  refine g_geti (q := 114) d_C_load_111 rfl fl_C_57 (hC.2.2.2.2.2 _ hk).1 rfl ?_
  refine s_if_ne (tgt := 133) (q := 117) d_C_load_114 (by decide) rfl (fun h_114 => ?_) (fun h_114 => ?_)
  · -- T 114
    refine s_aload_n (q := 134) d_C_load_133 rfl rfl (Or.inr ⟨_, rfl⟩) ?_
    refine s_iconst (v := 1) (q := 135) d_C_load_134 rfl ki_1 ?_
    refine g_callV (q := 138) d_C_load_135 rfl ml_C_60 mx_C_found mv_C_found t_C_found hC.1 rfl rfl (Nat.le_of_ble_eq_true rfl) (by decide) ?_
    exact g_iret d_C_load_138 rfl rfl (by decide) rfl
  · -- F 114
    refine s_aload (q := 119) d_C_load_117 rfl rfl (Or.inr ⟨_, rfl⟩) ?_
    refine g_geti (q := 122) d_C_load_119 rfl fl_C_57 (hC.2.2.2.2.2 _ hg).1 rfl ?_
    refine s_if_ne (tgt := 133) (q := 125) d_C_load_122 (by decide) rfl (fun h_122 => ?_) (fun h_122 => ?_)
    · -- T 122
      refine s_aload_n (q := 134) d_C_load_133 rfl rfl (Or.inr ⟨_, rfl⟩) ?_
      refine s_iconst (v := 1) (q := 135) d_C_load_134 rfl ki_1 ?_
      refine g_callV (q := 138) d_C_load_135 rfl ml_C_60 mx_C_found mv_C_found t_C_found hC.1 rfl rfl (Nat.le_of_ble_eq_true rfl) (by decide) ?_
      exact g_iret d_C_load_138 rfl rfl (by decide) rfl
    · -- F 122
      refine s_aload (q := 127) d_C_load_125 rfl rfl (Or.inr ⟨_, rfl⟩) ?_
      refine g_geti (q := 130) d_C_load_127 rfl fl_C_57 (hC.2.2.2.2.2 _ hv).1 rfl ?_
      refine s_if_eq (tgt := 139) (q := 133) d_C_load_130 (by decide) rfl (fun h_130 => ?_) (fun h_130 => ?_)
      · -- T 130
        exact absurd ⟨h_114, h_122, h_130⟩ hl --done
      · -- F 130
        refine s_aload_n (q := 134) d_C_load_133 rfl rfl (Or.inr ⟨_, rfl⟩) ?_
        refine s_iconst (v := 1) (q := 135) d_C_load_134 rfl ki_1 ?_
        refine g_callV (q := 138) d_C_load_135 rfl ml_C_60 mx_C_found mv_C_found t_C_found hC.1 rfl rfl (Nat.le_of_ble_eq_true rfl) (by decide) ?_
        exact g_iret d_C_load_138 rfl rfl (by decide) rfl
theorem t_C_load_I {X : RAM} {t j k g v m n n1 n2 n3 : Nat} (ht : t < 2) (hj : j < 8) (hk : k < 4) (hg : g < 4) (hv : v < 4) (hm1 : 1 ≤ m) (hm : m ≤ 12) (hs : X (4 + 55 * t) 3 = 0) (hsz : X (4 + 55 * t + 3 + 6 * j) 5 = nI n) (hf : n + m ≤ 12) (l1 : X (114 + 2 * k) 3 = 0) (l2 : X (114 + 2 * g) 3 = 0) (l3 : X (114 + 2 * v) 3 = 0) (z1 : X (114 + 2 * k) 2 = nI n1) (z2 : X (114 + 2 * g) 2 = nI n2) (z3 : X (114 + 2 * v) 2 = nI n3) (m1 : n1 ≤ 40) (m2 : n2 ≤ 40) (m3 : n3 ≤ 40) (hi : n1 < m ∨ n2 < m ∨ n3 < m) : CG l D ac b y_C_load c_C_load 13 (some .int) 2 42 [.ref 0, .int (nI t), .int (nI j), .int (nI k), .int (nI g), .int (nI v), .int (nI m)] X (some (.int (-12))) (up2 X 0 4 2) := by
  refine Ct_of false (by decide) (fun h => by cases h) (Nat.le_of_ble_eq_true rfl) ?_
  show V l D ac b "SpanStore" c_C_load 13 (some .int) false 2 42 0 0 ((some (.int (-12))), 144, mk (up2 X 0 4 2)) 0 0 0 [(0, .ref 0), (1, .int (nI t)), (2, .int (nI j)), (3, .int (nI k)), (4, .int (nI g)), (5, .int (nI v)), (6, .int (nI m))] [] 144 (mk X)
  refine s_aload_n (q := 1) d_C_load_0 rfl rfl (Or.inr ⟨_, rfl⟩) ?_
  refine s_iload_n (q := 2) d_C_load_1 rfl rfl ?_
  refine g_callV (q := 5) d_C_load_2 rfl ml_C_27 mx_C_tableAt mv_C_tableAt (t_C_tableAt_ok ht) hC.1 rfl rfl (Nat.le_of_ble_eq_true rfl) (by decide) ?_
  refine s_astore (q := 7) d_C_load_5 rfl (by decide) (Or.inr ⟨_, rfl⟩) ?_
  refine s_aload (q := 9) d_C_load_7 rfl rfl (Or.inr ⟨_, rfl⟩) ?_
  refine s_iload_n (q := 10) d_C_load_9 rfl rfl ?_
  refine g_callS (q := 13) d_C_load_10 rfl ml_C_31 mx_C_blockAt ms_C_blockAt (t_C_blockAt_ok (hC.2.2.2.2.1 _ ht) hj) rfl rfl (Nat.le_of_ble_eq_true rfl) (by decide) ?_
  refine s_astore (q := 15) d_C_load_13 rfl (by decide) (Or.inr ⟨_, rfl⟩) ?_
  refine s_aload_n (q := 16) d_C_load_15 rfl rfl (Or.inr ⟨_, rfl⟩) ?_
  refine s_iload_n (q := 17) d_C_load_16 rfl rfl ?_
  refine g_callV (q := 20) d_C_load_17 rfl ml_C_53 mx_C_sheetAt mv_C_sheetAt (t_C_sheetAt_ok hk) hC.1 rfl rfl (Nat.le_of_ble_eq_true rfl) (by decide) ?_
  refine s_astore (q := 22) d_C_load_20 rfl (by decide) (Or.inr ⟨_, rfl⟩) ?_
  refine s_aload_n (q := 23) d_C_load_22 rfl rfl (Or.inr ⟨_, rfl⟩) ?_
  refine s_iload (q := 25) d_C_load_23 rfl rfl ?_
  refine g_callV (q := 28) d_C_load_25 rfl ml_C_53 mx_C_sheetAt mv_C_sheetAt (t_C_sheetAt_ok hg) hC.1 rfl rfl (Nat.le_of_ble_eq_true rfl) (by decide) ?_
  refine s_astore (q := 30) d_C_load_28 rfl (by decide) (Or.inr ⟨_, rfl⟩) ?_
  refine s_aload_n (q := 31) d_C_load_30 rfl rfl (Or.inr ⟨_, rfl⟩) ?_
  refine s_iload (q := 33) d_C_load_31 rfl rfl ?_
  refine g_callV (q := 36) d_C_load_33 rfl ml_C_53 mx_C_sheetAt mv_C_sheetAt (t_C_sheetAt_ok hv) hC.1 rfl rfl (Nat.le_of_ble_eq_true rfl) (by decide) ?_
  refine s_astore (q := 38) d_C_load_36 rfl (by decide) (Or.inr ⟨_, rfl⟩) ?_
  refine s_aload (q := 40) d_C_load_38 rfl rfl (Or.inr ⟨_, rfl⟩) ?_
  refine s_ifnull_r (q := 43) d_C_load_40 rfl ?_
  refine s_aload (q := 45) d_C_load_43 rfl rfl (Or.inr ⟨_, rfl⟩) ?_
  refine s_ifnull_r (q := 48) d_C_load_45 rfl ?_
  refine s_iload (q := 50) d_C_load_48 rfl rfl ?_
  refine s_iconst (v := 1) (q := 51) d_C_load_50 rfl ki_1 ?_
  refine s_icmp_lt (tgt := 61) (q := 54) d_C_load_51 (by decide) rfl (fun z9 => absurd z9 (i_nlt.mpr (nI_le (a := 1) (b := m) hm1 (by omega)))) (fun _ => ?_)
  refine s_iload (q := 56) d_C_load_54 rfl rfl ?_
  refine s_bipush (v := 12) (q := 58) d_C_load_56 rfl kb_12 ?_
  refine s_icmp_le (tgt := 64) (q := 61) d_C_load_58 (by decide) rfl (fun _ => ?_) (fun z9 => absurd (nI_le (a := m) (b := 12) hm (by decide)) z9)
  refine s_aload (q := 66) d_C_load_64 rfl rfl (Or.inr ⟨_, rfl⟩) ?_
  refine s_ifnull_r (q := 69) d_C_load_66 rfl ?_
  refine s_aload (q := 71) d_C_load_69 rfl rfl (Or.inr ⟨_, rfl⟩) ?_
  refine s_ifnull_r (q := 74) d_C_load_71 rfl ?_
  refine s_aload (q := 76) d_C_load_74 rfl rfl (Or.inr ⟨_, rfl⟩) ?_
  refine s_ifnonnull_r (tgt := 82) d_C_load_76 (by decide) ?_
  refine s_aload (q := 84) d_C_load_82 rfl rfl (Or.inr ⟨_, rfl⟩) ?_
  refine g_geti (q := 87) d_C_load_84 rfl fl_C_39 (hC.2.2.2.2.1 _ ht).1 rfl ?_
  refine s_if_eq (tgt := 93) (q := 90) d_C_load_87 (by decide) rfl (fun _ => ?_) (fun z9 => absurd hs z9)
  refine s_aload (q := 95) d_C_load_93 rfl rfl (Or.inr ⟨_, rfl⟩) ?_
  refine g_getv (v := nI n) (q := 98) d_C_load_95 rfl fl_C_43 ((hC.2.2.2.2.1 _ ht).2.2.2.1 _ hj).1 rfl hsz ?_
  refine s_iload (q := 100) d_C_load_98 rfl rfl ?_
  refine s_iadd (q := 101) d_C_load_100 rfl ?_
  refine s_bipush (v := 12) (q := 103) d_C_load_101 rfl kb_12 ?_
  refine s_icmp_le (tgt := 109) (q := 106) d_C_load_103 (by decide) rfl (fun _ => ?_) (fun z9 => absurd (by rw [nI_add]; exact nI_le (a := n + m) (b := 12) hf (by decide)) z9)
  refine s_aload (q := 111) d_C_load_109 rfl rfl (Or.inr ⟨_, rfl⟩) ?_
  refine g_geti (q := 114) d_C_load_111 rfl fl_C_57 (hC.2.2.2.2.2 _ hk).1 rfl ?_
  refine s_if_ne (tgt := 133) (q := 117) d_C_load_114 (by decide) rfl (fun z9 => absurd l1 z9) (fun _ => ?_)
  refine s_aload (q := 119) d_C_load_117 rfl rfl (Or.inr ⟨_, rfl⟩) ?_
  refine g_geti (q := 122) d_C_load_119 rfl fl_C_57 (hC.2.2.2.2.2 _ hg).1 rfl ?_
  refine s_if_ne (tgt := 133) (q := 125) d_C_load_122 (by decide) rfl (fun z9 => absurd l2 z9) (fun _ => ?_)
  refine s_aload (q := 127) d_C_load_125 rfl rfl (Or.inr ⟨_, rfl⟩) ?_
  refine g_geti (q := 130) d_C_load_127 rfl fl_C_57 (hC.2.2.2.2.2 _ hv).1 rfl ?_
  refine s_if_eq (tgt := 139) (q := 133) d_C_load_130 (by decide) rfl (fun _ => ?_) (fun z9 => absurd l3 z9)
  refine s_aload (q := 141) d_C_load_139 rfl rfl (Or.inr ⟨_, rfl⟩) ?_
  refine g_getv (v := nI n1) (q := 144) d_C_load_141 rfl fl_C_64 (hC.2.2.2.2.2 _ hk).1 rfl z1 ?_
  refine s_iload (q := 146) d_C_load_144 rfl rfl ?_
  refine s_icmp_lt (tgt := 169) (q := 149) d_C_load_146 (by decide) rfl (fun h_146 => ?_) (fun h_146 => ?_)
  · -- T 146
    refine s_aload_n (q := 170) d_C_load_169 rfl rfl (Or.inr ⟨_, rfl⟩) ?_
    refine s_iconst (v := 2) (q := 171) d_C_load_170 rfl ki_2 ?_
    refine g_callV (q := 174) d_C_load_171 rfl ml_C_60 mx_C_found mv_C_found t_C_found hC.1 rfl rfl (Nat.le_of_ble_eq_true rfl) (by decide) ?_
    exact g_iret d_C_load_174 rfl rfl (by decide) rfl
  · -- F 146
    refine s_aload (q := 151) d_C_load_149 rfl rfl (Or.inr ⟨_, rfl⟩) ?_
    refine g_getv (v := nI n2) (q := 154) d_C_load_151 rfl fl_C_64 (hC.2.2.2.2.2 _ hg).1 rfl z2 ?_
    refine s_iload (q := 156) d_C_load_154 rfl rfl ?_
    refine s_icmp_lt (tgt := 169) (q := 159) d_C_load_156 (by decide) rfl (fun h_156 => ?_) (fun h_156 => ?_)
    · -- T 156
      refine s_aload_n (q := 170) d_C_load_169 rfl rfl (Or.inr ⟨_, rfl⟩) ?_
      refine s_iconst (v := 2) (q := 171) d_C_load_170 rfl ki_2 ?_
      refine g_callV (q := 174) d_C_load_171 rfl ml_C_60 mx_C_found mv_C_found t_C_found hC.1 rfl rfl (Nat.le_of_ble_eq_true rfl) (by decide) ?_
      exact g_iret d_C_load_174 rfl rfl (by decide) rfl
    · -- F 156
      refine s_aload (q := 161) d_C_load_159 rfl rfl (Or.inr ⟨_, rfl⟩) ?_
      refine g_getv (v := nI n3) (q := 164) d_C_load_161 rfl fl_C_64 (hC.2.2.2.2.2 _ hv).1 rfl z3 ?_
      refine s_iload (q := 166) d_C_load_164 rfl rfl ?_
      refine s_icmp_ge (tgt := 175) (q := 169) d_C_load_166 (by decide) rfl (fun h_166 => ?_) (fun h_166 => ?_)
      · -- T 166
        rcases hi with q | q | q
        · exact absurd (nI_lt q (by omega)) h_146
        · exact absurd (nI_lt q (by omega)) h_156
        · exact absurd h_166 (nI_ge q (by omega)) --done
      · -- F 166
        refine s_aload_n (q := 170) d_C_load_169 rfl rfl (Or.inr ⟨_, rfl⟩) ?_
        refine s_iconst (v := 2) (q := 171) d_C_load_170 rfl ki_2 ?_
        refine g_callV (q := 174) d_C_load_171 rfl ml_C_60 mx_C_found mv_C_found t_C_found hC.1 rfl rfl (Nat.le_of_ble_eq_true rfl) (by decide) ?_
        exact g_iret d_C_load_174 rfl rfl (by decide) rfl
abbrev itR (X : RAM) (k g v i : Nat) : Prop := RowOK (X (114 + 2 * k + 1) i) (X (114 + 2 * g + 1) i) (X (114 + 2 * v + 1) i)
theorem lp_load1 {X : RAM} {t j k g v m : Nat} {r : Option Value} {XR : RAM} (ht : t < 2) (hj : j < 8) (hk : k < 4) (hg : g < 4) (hv : v < 4) (hm1 : 1 ≤ m) (hm : m ≤ 12) (hall : ∀ i, i < m → itR X k g v i) (hex : V l D ac b "SpanStore" c_C_load 13 (some .int) false 2 42 0 0 (r, 144, mk XR) 0 0 224 [(0, .ref 0), (6, .int (nI m)), (8, .ref (4 + 55 * t + 3 + 6 * j)), (9, .ref (114 + 2 * k)), (10, .ref (114 + 2 * g)), (11, .ref (114 + 2 * v))] [] 144 (mk X)) : ∀ i, i ≤ m → V l D ac b "SpanStore" c_C_load 13 (some .int) false 2 42 0 0 (r, 144, mk XR) 0 0 178 [(0, .ref 0), (6, .int (nI m)), (8, .ref (4 + 55 * t + 3 + 6 * j)), (9, .ref (114 + 2 * k)), (10, .ref (114 + 2 * g)), (11, .ref (114 + 2 * v)), (12, .int (nI i))] [] 144 (mk X) := by
  refine nat_down ?_ (fun i hi ih => ?_)
  · skip
    refine s_iload (q := 180) d_C_load_178 rfl rfl ?_
    refine s_iload (q := 182) d_C_load_180 rfl rfl ?_
    refine s_icmp_ge (tgt := 224) (q := 185) d_C_load_182 (by decide) rfl (fun _ => ?_) (fun z9 => absurd (nI_le (Nat.le_refl m) (by omega)) z9)
    exact s_lv (lv' := [(0, .ref 0), (6, .int (nI m)), (8, .ref (4 + 55 * t + 3 + 6 * j)), (9, .ref (114 + 2 * k)), (10, .ref (114 + 2 * g)), (11, .ref (114 + 2 * v))]) ⟨rfl, rfl, rfl, rfl, rfl, rfl, trivial⟩ hex
  · skip
    refine s_iload (q := 180) d_C_load_178 rfl rfl ?_
    refine s_iload (q := 182) d_C_load_180 rfl rfl ?_
    refine s_icmp_ge (tgt := 224) (q := 185) d_C_load_182 (by decide) rfl (fun z9 => absurd z9 (nI_ge hi (by omega))) (fun _ => ?_)
    refine s_aload (q := 187) d_C_load_185 rfl rfl (Or.inr ⟨_, rfl⟩) ?_
    refine g_getr (q := 190) d_C_load_187 rfl fl_C_65 (hC.2.2.2.2.2 _ hk).1 rfl ?_
    refine s_iload (q := 192) d_C_load_190 rfl rfl ?_
    refine g_iald (q := 193) d_C_load_192 rfl (hC.2.2.2.2.2 _ hk).2 (by omega) rfl (by omega) ?_
    refine s_aload (q := 195) d_C_load_193 rfl rfl (Or.inr ⟨_, rfl⟩) ?_
    refine g_getr (q := 198) d_C_load_195 rfl fl_C_65 (hC.2.2.2.2.2 _ hg).1 rfl ?_
    refine s_iload (q := 200) d_C_load_198 rfl rfl ?_
    refine g_iald (q := 201) d_C_load_200 rfl (hC.2.2.2.2.2 _ hg).2 (by omega) rfl (by omega) ?_
    refine s_aload (q := 203) d_C_load_201 rfl rfl (Or.inr ⟨_, rfl⟩) ?_
    refine g_getr (q := 206) d_C_load_203 rfl fl_C_65 (hC.2.2.2.2.2 _ hv).1 rfl ?_
    refine s_iload (q := 208) d_C_load_206 rfl rfl ?_
    refine g_iald (q := 209) d_C_load_208 rfl (hC.2.2.2.2.2 _ hv).2 (by omega) rfl (by omega) ?_
    refine g_callS (q := 212) d_C_load_209 rfl ml_C_35 mx_C_isRow ms_C_isRow t_C_isRow rfl rfl (Nat.le_of_ble_eq_true rfl) (by decide) ?_
    refine s_if_ne (tgt := 218) (q := 215) d_C_load_212 (by decide) rfl (fun _ => ?_) (fun z9 => absurd z9 (bI_dn.mpr (hall i hi)))
    refine s_iinc (q := 221) d_C_load_218 rfl rfl (by first | exact inc1 _ | rfl) (by decide) ?_
    refine s_goto (tgt := 178) d_C_load_221 (by decide) ?_
    exact s_lv (lv' := [(0, .ref 0), (6, .int (nI m)), (8, .ref (4 + 55 * t + 3 + 6 * j)), (9, .ref (114 + 2 * k)), (10, .ref (114 + 2 * g)), (11, .ref (114 + 2 * v)), (12, .int (nI (i + 1)))]) ⟨rfl, rfl, rfl, rfl, rfl, rfl, rfl, trivial⟩ ih
theorem lp_load1b {X : RAM} {t j k g v m : Nat} (ht : t < 2) (hj : j < 8) (hk : k < 4) (hg : g < 4) (hv : v < 4) (hm1 : 1 ≤ m) (hm : m ≤ 12) (k0 : Nat) (hk0 : k0 < m) (hbad : ¬ itR X k g v k0) (hall : ∀ i, i < k0 → itR X k g v i) : ∀ i, i ≤ k0 → V l D ac b "SpanStore" c_C_load 13 (some .int) false 2 42 0 0 (some (.int (-2)), 144, mk X) 0 0 178 [(0, .ref 0), (6, .int (nI m)), (8, .ref (4 + 55 * t + 3 + 6 * j)), (9, .ref (114 + 2 * k)), (10, .ref (114 + 2 * g)), (11, .ref (114 + 2 * v)), (12, .int (nI i))] [] 144 (mk X) := by
  refine nat_down ?_ (fun i hi ih => ?_)
  · skip
    refine s_iload (q := 180) d_C_load_178 rfl rfl ?_
    refine s_iload (q := 182) d_C_load_180 rfl rfl ?_
    refine s_icmp_ge (tgt := 224) (q := 185) d_C_load_182 (by decide) rfl (fun z9 => absurd z9 (nI_ge hk0 (by omega))) (fun _ => ?_)
    refine s_aload (q := 187) d_C_load_185 rfl rfl (Or.inr ⟨_, rfl⟩) ?_
    refine g_getr (q := 190) d_C_load_187 rfl fl_C_65 (hC.2.2.2.2.2 _ hk).1 rfl ?_
    refine s_iload (q := 192) d_C_load_190 rfl rfl ?_
    refine g_iald (q := 193) d_C_load_192 rfl (hC.2.2.2.2.2 _ hk).2 (by omega) rfl (by omega) ?_
    refine s_aload (q := 195) d_C_load_193 rfl rfl (Or.inr ⟨_, rfl⟩) ?_
    refine g_getr (q := 198) d_C_load_195 rfl fl_C_65 (hC.2.2.2.2.2 _ hg).1 rfl ?_
    refine s_iload (q := 200) d_C_load_198 rfl rfl ?_
    refine g_iald (q := 201) d_C_load_200 rfl (hC.2.2.2.2.2 _ hg).2 (by omega) rfl (by omega) ?_
    refine s_aload (q := 203) d_C_load_201 rfl rfl (Or.inr ⟨_, rfl⟩) ?_
    refine g_getr (q := 206) d_C_load_203 rfl fl_C_65 (hC.2.2.2.2.2 _ hv).1 rfl ?_
    refine s_iload (q := 208) d_C_load_206 rfl rfl ?_
    refine g_iald (q := 209) d_C_load_208 rfl (hC.2.2.2.2.2 _ hv).2 (by omega) rfl (by omega) ?_
    refine g_callS (q := 212) d_C_load_209 rfl ml_C_35 mx_C_isRow ms_C_isRow t_C_isRow rfl rfl (Nat.le_of_ble_eq_true rfl) (by decide) ?_
    refine s_if_ne (tgt := 218) (q := 215) d_C_load_212 (by decide) rfl (fun z9 => absurd (bI_d.mpr hbad) z9) (fun _ => ?_)
    refine s_bipush (v := (-2)) (q := 217) d_C_load_215 rfl kb_m2 ?_
    exact g_iret d_C_load_217 rfl rfl rfl rfl
  · skip
    refine s_iload (q := 180) d_C_load_178 rfl rfl ?_
    refine s_iload (q := 182) d_C_load_180 rfl rfl ?_
    refine s_icmp_ge (tgt := 224) (q := 185) d_C_load_182 (by decide) rfl (fun z9 => absurd z9 (nI_ge (Nat.lt_trans hi hk0) (by omega))) (fun _ => ?_)
    refine s_aload (q := 187) d_C_load_185 rfl rfl (Or.inr ⟨_, rfl⟩) ?_
    refine g_getr (q := 190) d_C_load_187 rfl fl_C_65 (hC.2.2.2.2.2 _ hk).1 rfl ?_
    refine s_iload (q := 192) d_C_load_190 rfl rfl ?_
    refine g_iald (q := 193) d_C_load_192 rfl (hC.2.2.2.2.2 _ hk).2 (by omega) rfl (by omega) ?_
    refine s_aload (q := 195) d_C_load_193 rfl rfl (Or.inr ⟨_, rfl⟩) ?_
    refine g_getr (q := 198) d_C_load_195 rfl fl_C_65 (hC.2.2.2.2.2 _ hg).1 rfl ?_
    refine s_iload (q := 200) d_C_load_198 rfl rfl ?_
    refine g_iald (q := 201) d_C_load_200 rfl (hC.2.2.2.2.2 _ hg).2 (by omega) rfl (by omega) ?_
    refine s_aload (q := 203) d_C_load_201 rfl rfl (Or.inr ⟨_, rfl⟩) ?_
    refine g_getr (q := 206) d_C_load_203 rfl fl_C_65 (hC.2.2.2.2.2 _ hv).1 rfl ?_
    refine s_iload (q := 208) d_C_load_206 rfl rfl ?_
    refine g_iald (q := 209) d_C_load_208 rfl (hC.2.2.2.2.2 _ hv).2 (by omega) rfl (by omega) ?_
    refine g_callS (q := 212) d_C_load_209 rfl ml_C_35 mx_C_isRow ms_C_isRow t_C_isRow rfl rfl (Nat.le_of_ble_eq_true rfl) (by decide) ?_
    refine s_if_ne (tgt := 218) (q := 215) d_C_load_212 (by decide) rfl (fun _ => ?_) (fun z9 => absurd z9 (bI_dn.mpr (hall i hi)))
    refine s_iinc (q := 221) d_C_load_218 rfl rfl (by first | exact inc1 _ | rfl) (by decide) ?_
    refine s_goto (tgt := 178) d_C_load_221 (by decide) ?_
    exact s_lv (lv' := [(0, .ref 0), (6, .int (nI m)), (8, .ref (4 + 55 * t + 3 + 6 * j)), (9, .ref (114 + 2 * k)), (10, .ref (114 + 2 * g)), (11, .ref (114 + 2 * v)), (12, .int (nI (i + 1)))]) ⟨rfl, rfl, rfl, rfl, rfl, rfl, rfl, trivial⟩ ih
theorem t_C_load_R {X : RAM} {t j k g v m n n1 n2 n3 : Nat} (ht : t < 2) (hj : j < 8) (hk : k < 4) (hg : g < 4) (hv : v < 4) (hm1 : 1 ≤ m) (hm : m ≤ 12) (hs : X (4 + 55 * t) 3 = 0) (hsz : X (4 + 55 * t + 3 + 6 * j) 5 = nI n) (hf : n + m ≤ 12) (l1 : X (114 + 2 * k) 3 = 0) (l2 : X (114 + 2 * g) 3 = 0) (l3 : X (114 + 2 * v) 3 = 0) (z1 : X (114 + 2 * k) 2 = nI n1) (z2 : X (114 + 2 * g) 2 = nI n2) (z3 : X (114 + 2 * v) 2 = nI n3) (m1 : n1 ≤ 40) (m2 : n2 ≤ 40) (m3 : n3 ≤ 40) (i1 : m ≤ n1) (i2 : m ≤ n2) (i3 : m ≤ n3) (k0 : Nat) (hk0 : k0 < m) (hbad : ¬ itR X k g v k0) (hall : ∀ i, i < k0 → itR X k g v i) : CG l D ac b y_C_load c_C_load 13 (some .int) 2 42 [.ref 0, .int (nI t), .int (nI j), .int (nI k), .int (nI g), .int (nI v), .int (nI m)] X (some (.int (-2))) (X) := by
  refine Ct_of false (by decide) (fun h => by cases h) (Nat.le_of_ble_eq_true rfl) ?_
  show V l D ac b "SpanStore" c_C_load 13 (some .int) false 2 42 0 0 ((some (.int (-2))), 144, mk (X)) 0 0 0 [(0, .ref 0), (1, .int (nI t)), (2, .int (nI j)), (3, .int (nI k)), (4, .int (nI g)), (5, .int (nI v)), (6, .int (nI m))] [] 144 (mk X)
  refine s_aload_n (q := 1) d_C_load_0 rfl rfl (Or.inr ⟨_, rfl⟩) ?_
  refine s_iload_n (q := 2) d_C_load_1 rfl rfl ?_
  refine g_callV (q := 5) d_C_load_2 rfl ml_C_27 mx_C_tableAt mv_C_tableAt (t_C_tableAt_ok ht) hC.1 rfl rfl (Nat.le_of_ble_eq_true rfl) (by decide) ?_
  refine s_astore (q := 7) d_C_load_5 rfl (by decide) (Or.inr ⟨_, rfl⟩) ?_
  refine s_aload (q := 9) d_C_load_7 rfl rfl (Or.inr ⟨_, rfl⟩) ?_
  refine s_iload_n (q := 10) d_C_load_9 rfl rfl ?_
  refine g_callS (q := 13) d_C_load_10 rfl ml_C_31 mx_C_blockAt ms_C_blockAt (t_C_blockAt_ok (hC.2.2.2.2.1 _ ht) hj) rfl rfl (Nat.le_of_ble_eq_true rfl) (by decide) ?_
  refine s_astore (q := 15) d_C_load_13 rfl (by decide) (Or.inr ⟨_, rfl⟩) ?_
  refine s_aload_n (q := 16) d_C_load_15 rfl rfl (Or.inr ⟨_, rfl⟩) ?_
  refine s_iload_n (q := 17) d_C_load_16 rfl rfl ?_
  refine g_callV (q := 20) d_C_load_17 rfl ml_C_53 mx_C_sheetAt mv_C_sheetAt (t_C_sheetAt_ok hk) hC.1 rfl rfl (Nat.le_of_ble_eq_true rfl) (by decide) ?_
  refine s_astore (q := 22) d_C_load_20 rfl (by decide) (Or.inr ⟨_, rfl⟩) ?_
  refine s_aload_n (q := 23) d_C_load_22 rfl rfl (Or.inr ⟨_, rfl⟩) ?_
  refine s_iload (q := 25) d_C_load_23 rfl rfl ?_
  refine g_callV (q := 28) d_C_load_25 rfl ml_C_53 mx_C_sheetAt mv_C_sheetAt (t_C_sheetAt_ok hg) hC.1 rfl rfl (Nat.le_of_ble_eq_true rfl) (by decide) ?_
  refine s_astore (q := 30) d_C_load_28 rfl (by decide) (Or.inr ⟨_, rfl⟩) ?_
  refine s_aload_n (q := 31) d_C_load_30 rfl rfl (Or.inr ⟨_, rfl⟩) ?_
  refine s_iload (q := 33) d_C_load_31 rfl rfl ?_
  refine g_callV (q := 36) d_C_load_33 rfl ml_C_53 mx_C_sheetAt mv_C_sheetAt (t_C_sheetAt_ok hv) hC.1 rfl rfl (Nat.le_of_ble_eq_true rfl) (by decide) ?_
  refine s_astore (q := 38) d_C_load_36 rfl (by decide) (Or.inr ⟨_, rfl⟩) ?_
  refine s_aload (q := 40) d_C_load_38 rfl rfl (Or.inr ⟨_, rfl⟩) ?_
  refine s_ifnull_r (q := 43) d_C_load_40 rfl ?_
  refine s_aload (q := 45) d_C_load_43 rfl rfl (Or.inr ⟨_, rfl⟩) ?_
  refine s_ifnull_r (q := 48) d_C_load_45 rfl ?_
  refine s_iload (q := 50) d_C_load_48 rfl rfl ?_
  refine s_iconst (v := 1) (q := 51) d_C_load_50 rfl ki_1 ?_
  refine s_icmp_lt (tgt := 61) (q := 54) d_C_load_51 (by decide) rfl (fun z9 => absurd z9 (i_nlt.mpr (nI_le (a := 1) (b := m) hm1 (by omega)))) (fun _ => ?_)
  refine s_iload (q := 56) d_C_load_54 rfl rfl ?_
  refine s_bipush (v := 12) (q := 58) d_C_load_56 rfl kb_12 ?_
  refine s_icmp_le (tgt := 64) (q := 61) d_C_load_58 (by decide) rfl (fun _ => ?_) (fun z9 => absurd (nI_le (a := m) (b := 12) hm (by decide)) z9)
  refine s_aload (q := 66) d_C_load_64 rfl rfl (Or.inr ⟨_, rfl⟩) ?_
  refine s_ifnull_r (q := 69) d_C_load_66 rfl ?_
  refine s_aload (q := 71) d_C_load_69 rfl rfl (Or.inr ⟨_, rfl⟩) ?_
  refine s_ifnull_r (q := 74) d_C_load_71 rfl ?_
  refine s_aload (q := 76) d_C_load_74 rfl rfl (Or.inr ⟨_, rfl⟩) ?_
  refine s_ifnonnull_r (tgt := 82) d_C_load_76 (by decide) ?_
  refine s_aload (q := 84) d_C_load_82 rfl rfl (Or.inr ⟨_, rfl⟩) ?_
  refine g_geti (q := 87) d_C_load_84 rfl fl_C_39 (hC.2.2.2.2.1 _ ht).1 rfl ?_
  refine s_if_eq (tgt := 93) (q := 90) d_C_load_87 (by decide) rfl (fun _ => ?_) (fun z9 => absurd hs z9)
  refine s_aload (q := 95) d_C_load_93 rfl rfl (Or.inr ⟨_, rfl⟩) ?_
  refine g_getv (v := nI n) (q := 98) d_C_load_95 rfl fl_C_43 ((hC.2.2.2.2.1 _ ht).2.2.2.1 _ hj).1 rfl hsz ?_
  refine s_iload (q := 100) d_C_load_98 rfl rfl ?_
  refine s_iadd (q := 101) d_C_load_100 rfl ?_
  refine s_bipush (v := 12) (q := 103) d_C_load_101 rfl kb_12 ?_
  refine s_icmp_le (tgt := 109) (q := 106) d_C_load_103 (by decide) rfl (fun _ => ?_) (fun z9 => absurd (by rw [nI_add]; exact nI_le (a := n + m) (b := 12) hf (by decide)) z9)
  refine s_aload (q := 111) d_C_load_109 rfl rfl (Or.inr ⟨_, rfl⟩) ?_
  refine g_geti (q := 114) d_C_load_111 rfl fl_C_57 (hC.2.2.2.2.2 _ hk).1 rfl ?_
  refine s_if_ne (tgt := 133) (q := 117) d_C_load_114 (by decide) rfl (fun z9 => absurd l1 z9) (fun _ => ?_)
  refine s_aload (q := 119) d_C_load_117 rfl rfl (Or.inr ⟨_, rfl⟩) ?_
  refine g_geti (q := 122) d_C_load_119 rfl fl_C_57 (hC.2.2.2.2.2 _ hg).1 rfl ?_
  refine s_if_ne (tgt := 133) (q := 125) d_C_load_122 (by decide) rfl (fun z9 => absurd l2 z9) (fun _ => ?_)
  refine s_aload (q := 127) d_C_load_125 rfl rfl (Or.inr ⟨_, rfl⟩) ?_
  refine g_geti (q := 130) d_C_load_127 rfl fl_C_57 (hC.2.2.2.2.2 _ hv).1 rfl ?_
  refine s_if_eq (tgt := 139) (q := 133) d_C_load_130 (by decide) rfl (fun _ => ?_) (fun z9 => absurd l3 z9)
  refine s_aload (q := 141) d_C_load_139 rfl rfl (Or.inr ⟨_, rfl⟩) ?_
  refine g_getv (v := nI n1) (q := 144) d_C_load_141 rfl fl_C_64 (hC.2.2.2.2.2 _ hk).1 rfl z1 ?_
  refine s_iload (q := 146) d_C_load_144 rfl rfl ?_
  refine s_icmp_lt (tgt := 169) (q := 149) d_C_load_146 (by decide) rfl (fun z9 => absurd z9 (nI_nlt i1 (by omega))) (fun _ => ?_)
  refine s_aload (q := 151) d_C_load_149 rfl rfl (Or.inr ⟨_, rfl⟩) ?_
  refine g_getv (v := nI n2) (q := 154) d_C_load_151 rfl fl_C_64 (hC.2.2.2.2.2 _ hg).1 rfl z2 ?_
  refine s_iload (q := 156) d_C_load_154 rfl rfl ?_
  refine s_icmp_lt (tgt := 169) (q := 159) d_C_load_156 (by decide) rfl (fun z9 => absurd z9 (nI_nlt i2 (by omega))) (fun _ => ?_)
  refine s_aload (q := 161) d_C_load_159 rfl rfl (Or.inr ⟨_, rfl⟩) ?_
  refine g_getv (v := nI n3) (q := 164) d_C_load_161 rfl fl_C_64 (hC.2.2.2.2.2 _ hv).1 rfl z3 ?_
  refine s_iload (q := 166) d_C_load_164 rfl rfl ?_
  refine s_icmp_ge (tgt := 175) (q := 169) d_C_load_166 (by decide) rfl (fun _ => ?_) (fun z9 => absurd (nI_le i3 (by omega)) z9)
  refine s_iconst (v := 0) (q := 176) d_C_load_175 rfl ki_0 ?_
  refine s_istore (q := 178) d_C_load_176 rfl (by decide) ?_
  exact s_lv (lv' := [(0, .ref 0), (6, .int (nI m)), (8, .ref (4 + 55 * t + 3 + 6 * j)), (9, .ref (114 + 2 * k)), (10, .ref (114 + 2 * g)), (11, .ref (114 + 2 * v)), (12, .int (nI 0))]) ⟨rfl, rfl, rfl, rfl, rfl, rfl, rfl, trivial⟩ (lp_load1b ht hj hk hg hv hm1 hm k0 hk0 hbad hall 0 (Nat.zero_le _))
def ldS (X : RAM) (o k g v n : Nat) : Nat → RAM
  | 0 => X
  | i + 1 => addX (ldS X o k g v n i) o (n + i) (X (114 + 2 * g + 1) i).toNatClampNeg (X (114 + 2 * k + 1) i) (X (114 + 2 * v + 1) i)
theorem addX_ne {X : RAM} {o n gg a : Nat} {key v : Int32} (h : a < o ∨ o + 5 < a) : addX X o n gg key v a = X a := by
  unfold addX
  rw [up2_ne (by omega), up2_ne (by omega), up2_ne (by omega), up2_ne (by omega), up2_ne (by omega), up2_ne (by omega)]
theorem ldS_ne {X : RAM} {o k g v n a : Nat} (h : a < o ∨ o + 5 < a) (i : Nat) : ldS X o k g v n i a = X a := by
  induction i with
  | zero => rfl
  | succ i ih => exact (addX_ne h).trans ih
theorem ldS_5 {X : RAM} {o k g v n : Nat} (hsz : X o 5 = nI n) (i : Nat) : ldS X o k g v n i o 5 = nI (n + i) := by
  cases i with
  | zero => exact hsz
  | succ i => simp [ldS, addX, up2, upd, Nat.add_assoc]
theorem grp_of {g : Int32} (h : ¬ g < 0 ∧ g < 4) : g = nI g.toNatClampNeg ∧ g.toNatClampNeg < 4 := by
  obtain ⟨j, hj, rfl⟩ := nI_of h.1
  rw [nI_clamp hj]
  refine ⟨rfl, ?_⟩
  rcases Nat.lt_or_ge j 4 with q | q
  · exact q
  · exact absurd h.2 (nI_nlt (a := j) (b := 4) q hj)
theorem lp_load2 {X : RAM} {t j k g v m n : Nat} (ht : t < 2) (hj : j < 8) (hk : k < 4) (hg : g < 4) (hv : v < 4) (hm1 : 1 ≤ m) (hm : m ≤ 12) (hsz : X (4 + 55 * t + 3 + 6 * j) 5 = nI n) (hf : n + m ≤ 12) (hall : ∀ i, i < m → itR X k g v i) : ∀ i, i ≤ m → V l D ac b "SpanStore" c_C_load 13 (some .int) false 2 42 0 0 (some (.int (nI (n + m))), 144, mk (ldS X (4 + 55 * t + 3 + 6 * j) k g v n m)) 0 0 227 [(0, .ref 0), (6, .int (nI m)), (8, .ref (4 + 55 * t + 3 + 6 * j)), (9, .ref (114 + 2 * k)), (10, .ref (114 + 2 * g)), (11, .ref (114 + 2 * v)), (12, .int (nI i))] [] 144 (mk (ldS X (4 + 55 * t + 3 + 6 * j) k g v n i)) := by
  refine nat_down ?_ (fun i hi ih => ?_)
  · skip
    refine s_iload (q := 229) d_C_load_227 rfl rfl ?_
    refine s_iload (q := 231) d_C_load_229 rfl rfl ?_
    refine s_icmp_ge (tgt := 269) (q := 234) d_C_load_231 (by decide) rfl (fun _ => ?_) (fun z9 => absurd (nI_le (Nat.le_refl m) (by omega)) z9)
    refine s_aload (q := 271) d_C_load_269 rfl rfl (Or.inr ⟨_, rfl⟩) ?_
    refine g_getv (v := nI (n + m)) (q := 274) d_C_load_271 rfl fl_C_43 ((hC.2.2.2.2.1 _ ht).2.2.2.1 _ hj).1 rfl (ldS_5 hsz m) ?_
    exact g_iret d_C_load_274 rfl rfl rfl rfl
  · skip
    refine s_iload (q := 229) d_C_load_227 rfl rfl ?_
    refine s_iload (q := 231) d_C_load_229 rfl rfl ?_
    refine s_icmp_ge (tgt := 269) (q := 234) d_C_load_231 (by decide) rfl (fun z9 => absurd z9 (nI_ge hi (by omega))) (fun _ => ?_)
    refine s_aload (q := 236) d_C_load_234 rfl rfl (Or.inr ⟨_, rfl⟩) ?_
    refine s_aload (q := 238) d_C_load_236 rfl rfl (Or.inr ⟨_, rfl⟩) ?_
    refine g_getr (q := 241) d_C_load_238 rfl fl_C_65 (hC.2.2.2.2.2 _ hk).1 rfl ?_
    refine s_iload (q := 243) d_C_load_241 rfl rfl ?_
    refine g_ialv (v := X (114 + 2 * k + 1) i) (q := 244) d_C_load_243 rfl (hC.2.2.2.2.2 _ hk).2 (by omega) rfl (by omega) (by rw [ldS_ne (by omega)]) ?_
    refine s_aload (q := 246) d_C_load_244 rfl rfl (Or.inr ⟨_, rfl⟩) ?_
    refine g_getr (q := 249) d_C_load_246 rfl fl_C_65 (hC.2.2.2.2.2 _ hg).1 rfl ?_
    refine s_iload (q := 251) d_C_load_249 rfl rfl ?_
    refine g_ialv (v := nI (X (114 + 2 * g + 1) i).toNatClampNeg) (q := 252) d_C_load_251 rfl (hC.2.2.2.2.2 _ hg).2 (by omega) rfl (by omega) (by rw [ldS_ne (by omega)]; exact (grp_of (hall i hi).2.1).1) ?_
    refine s_aload (q := 254) d_C_load_252 rfl rfl (Or.inr ⟨_, rfl⟩) ?_
    refine g_getr (q := 257) d_C_load_254 rfl fl_C_65 (hC.2.2.2.2.2 _ hv).1 rfl ?_
    refine s_iload (q := 259) d_C_load_257 rfl rfl ?_
    refine g_ialv (v := X (114 + 2 * v + 1) i) (q := 260) d_C_load_259 rfl (hC.2.2.2.2.2 _ hv).2 (by omega) rfl (by omega) (by rw [ldS_ne (by omega)]) ?_
    refine g_callV (q := 263) d_C_load_260 rfl ml_C_49 mx_B_addRow mv_B_addRow (t_B_addRow ((hC.2.2.2.2.1 _ ht).2.2.2.1 _ hj) (ldS_5 hsz i) (by omega) (grp_of (hall i hi).2.1).2) ((hC.2.2.2.2.1 _ ht).2.2.2.1 _ hj).1 rfl rfl (Nat.le_of_ble_eq_true rfl) (by decide) ?_
    refine s_iinc (q := 266) d_C_load_263 rfl rfl (by first | exact inc1 _ | rfl) (by decide) ?_
    refine s_goto (tgt := 227) d_C_load_266 (by decide) ?_
    exact s_lv (lv' := [(0, .ref 0), (6, .int (nI m)), (8, .ref (4 + 55 * t + 3 + 6 * j)), (9, .ref (114 + 2 * k)), (10, .ref (114 + 2 * g)), (11, .ref (114 + 2 * v)), (12, .int (nI (i + 1)))]) ⟨rfl, rfl, rfl, rfl, rfl, rfl, rfl, trivial⟩ ih
theorem lp_load3 {X : RAM} {t j k g v m n : Nat} (ht : t < 2) (hj : j < 8) (hk : k < 4) (hg : g < 4) (hv : v < 4) (hm1 : 1 ≤ m) (hm : m ≤ 12) (hsz : X (4 + 55 * t + 3 + 6 * j) 5 = nI n) (hf : n + m ≤ 12) (hall : ∀ i, i < m → itR X k g v i) : V l D ac b "SpanStore" c_C_load 13 (some .int) false 2 42 0 0 (some (.int (nI (n + m))), 144, mk (ldS X (4 + 55 * t + 3 + 6 * j) k g v n m)) 0 0 224 [(0, .ref 0), (6, .int (nI m)), (8, .ref (4 + 55 * t + 3 + 6 * j)), (9, .ref (114 + 2 * k)), (10, .ref (114 + 2 * g)), (11, .ref (114 + 2 * v))] [] 144 (mk X) := by
  refine s_iconst (v := 0) (q := 225) d_C_load_224 rfl ki_0 ?_
  refine s_istore (q := 227) d_C_load_225 rfl (by decide) ?_
  exact s_lv (lv' := [(0, .ref 0), (6, .int (nI m)), (8, .ref (4 + 55 * t + 3 + 6 * j)), (9, .ref (114 + 2 * k)), (10, .ref (114 + 2 * g)), (11, .ref (114 + 2 * v)), (12, .int (nI 0))]) ⟨rfl, rfl, rfl, rfl, rfl, rfl, rfl, trivial⟩ (lp_load2 ht hj hk hg hv hm1 hm hsz hf hall 0 (Nat.zero_le _))
theorem t_C_load_D {X : RAM} {t j k g v m n n1 n2 n3 : Nat} (ht : t < 2) (hj : j < 8) (hk : k < 4) (hg : g < 4) (hv : v < 4) (hm1 : 1 ≤ m) (hm : m ≤ 12) (hs : X (4 + 55 * t) 3 = 0) (hsz : X (4 + 55 * t + 3 + 6 * j) 5 = nI n) (hf : n + m ≤ 12) (l1 : X (114 + 2 * k) 3 = 0) (l2 : X (114 + 2 * g) 3 = 0) (l3 : X (114 + 2 * v) 3 = 0) (z1 : X (114 + 2 * k) 2 = nI n1) (z2 : X (114 + 2 * g) 2 = nI n2) (z3 : X (114 + 2 * v) 2 = nI n3) (m1 : n1 ≤ 40) (m2 : n2 ≤ 40) (m3 : n3 ≤ 40) (i1 : m ≤ n1) (i2 : m ≤ n2) (i3 : m ≤ n3) (hall : ∀ i, i < m → itR X k g v i) : CG l D ac b y_C_load c_C_load 13 (some .int) 2 42 [.ref 0, .int (nI t), .int (nI j), .int (nI k), .int (nI g), .int (nI v), .int (nI m)] X (some (.int (nI (n + m)))) (ldS X (4 + 55 * t + 3 + 6 * j) k g v n m) := by
  refine Ct_of false (by decide) (fun h => by cases h) (Nat.le_of_ble_eq_true rfl) ?_
  show V l D ac b "SpanStore" c_C_load 13 (some .int) false 2 42 0 0 ((some (.int (nI (n + m)))), 144, mk (ldS X (4 + 55 * t + 3 + 6 * j) k g v n m)) 0 0 0 [(0, .ref 0), (1, .int (nI t)), (2, .int (nI j)), (3, .int (nI k)), (4, .int (nI g)), (5, .int (nI v)), (6, .int (nI m))] [] 144 (mk X)
  refine s_aload_n (q := 1) d_C_load_0 rfl rfl (Or.inr ⟨_, rfl⟩) ?_
  refine s_iload_n (q := 2) d_C_load_1 rfl rfl ?_
  refine g_callV (q := 5) d_C_load_2 rfl ml_C_27 mx_C_tableAt mv_C_tableAt (t_C_tableAt_ok ht) hC.1 rfl rfl (Nat.le_of_ble_eq_true rfl) (by decide) ?_
  refine s_astore (q := 7) d_C_load_5 rfl (by decide) (Or.inr ⟨_, rfl⟩) ?_
  refine s_aload (q := 9) d_C_load_7 rfl rfl (Or.inr ⟨_, rfl⟩) ?_
  refine s_iload_n (q := 10) d_C_load_9 rfl rfl ?_
  refine g_callS (q := 13) d_C_load_10 rfl ml_C_31 mx_C_blockAt ms_C_blockAt (t_C_blockAt_ok (hC.2.2.2.2.1 _ ht) hj) rfl rfl (Nat.le_of_ble_eq_true rfl) (by decide) ?_
  refine s_astore (q := 15) d_C_load_13 rfl (by decide) (Or.inr ⟨_, rfl⟩) ?_
  refine s_aload_n (q := 16) d_C_load_15 rfl rfl (Or.inr ⟨_, rfl⟩) ?_
  refine s_iload_n (q := 17) d_C_load_16 rfl rfl ?_
  refine g_callV (q := 20) d_C_load_17 rfl ml_C_53 mx_C_sheetAt mv_C_sheetAt (t_C_sheetAt_ok hk) hC.1 rfl rfl (Nat.le_of_ble_eq_true rfl) (by decide) ?_
  refine s_astore (q := 22) d_C_load_20 rfl (by decide) (Or.inr ⟨_, rfl⟩) ?_
  refine s_aload_n (q := 23) d_C_load_22 rfl rfl (Or.inr ⟨_, rfl⟩) ?_
  refine s_iload (q := 25) d_C_load_23 rfl rfl ?_
  refine g_callV (q := 28) d_C_load_25 rfl ml_C_53 mx_C_sheetAt mv_C_sheetAt (t_C_sheetAt_ok hg) hC.1 rfl rfl (Nat.le_of_ble_eq_true rfl) (by decide) ?_
  refine s_astore (q := 30) d_C_load_28 rfl (by decide) (Or.inr ⟨_, rfl⟩) ?_
  refine s_aload_n (q := 31) d_C_load_30 rfl rfl (Or.inr ⟨_, rfl⟩) ?_
  refine s_iload (q := 33) d_C_load_31 rfl rfl ?_
  refine g_callV (q := 36) d_C_load_33 rfl ml_C_53 mx_C_sheetAt mv_C_sheetAt (t_C_sheetAt_ok hv) hC.1 rfl rfl (Nat.le_of_ble_eq_true rfl) (by decide) ?_
  refine s_astore (q := 38) d_C_load_36 rfl (by decide) (Or.inr ⟨_, rfl⟩) ?_
  refine s_aload (q := 40) d_C_load_38 rfl rfl (Or.inr ⟨_, rfl⟩) ?_
  refine s_ifnull_r (q := 43) d_C_load_40 rfl ?_
  refine s_aload (q := 45) d_C_load_43 rfl rfl (Or.inr ⟨_, rfl⟩) ?_
  refine s_ifnull_r (q := 48) d_C_load_45 rfl ?_
  refine s_iload (q := 50) d_C_load_48 rfl rfl ?_
  refine s_iconst (v := 1) (q := 51) d_C_load_50 rfl ki_1 ?_
  refine s_icmp_lt (tgt := 61) (q := 54) d_C_load_51 (by decide) rfl (fun z9 => absurd z9 (i_nlt.mpr (nI_le (a := 1) (b := m) hm1 (by omega)))) (fun _ => ?_)
  refine s_iload (q := 56) d_C_load_54 rfl rfl ?_
  refine s_bipush (v := 12) (q := 58) d_C_load_56 rfl kb_12 ?_
  refine s_icmp_le (tgt := 64) (q := 61) d_C_load_58 (by decide) rfl (fun _ => ?_) (fun z9 => absurd (nI_le (a := m) (b := 12) hm (by decide)) z9)
  refine s_aload (q := 66) d_C_load_64 rfl rfl (Or.inr ⟨_, rfl⟩) ?_
  refine s_ifnull_r (q := 69) d_C_load_66 rfl ?_
  refine s_aload (q := 71) d_C_load_69 rfl rfl (Or.inr ⟨_, rfl⟩) ?_
  refine s_ifnull_r (q := 74) d_C_load_71 rfl ?_
  refine s_aload (q := 76) d_C_load_74 rfl rfl (Or.inr ⟨_, rfl⟩) ?_
  refine s_ifnonnull_r (tgt := 82) d_C_load_76 (by decide) ?_
  refine s_aload (q := 84) d_C_load_82 rfl rfl (Or.inr ⟨_, rfl⟩) ?_
  refine g_geti (q := 87) d_C_load_84 rfl fl_C_39 (hC.2.2.2.2.1 _ ht).1 rfl ?_
  refine s_if_eq (tgt := 93) (q := 90) d_C_load_87 (by decide) rfl (fun _ => ?_) (fun z9 => absurd hs z9)
  refine s_aload (q := 95) d_C_load_93 rfl rfl (Or.inr ⟨_, rfl⟩) ?_
  refine g_getv (v := nI n) (q := 98) d_C_load_95 rfl fl_C_43 ((hC.2.2.2.2.1 _ ht).2.2.2.1 _ hj).1 rfl hsz ?_
  refine s_iload (q := 100) d_C_load_98 rfl rfl ?_
  refine s_iadd (q := 101) d_C_load_100 rfl ?_
  refine s_bipush (v := 12) (q := 103) d_C_load_101 rfl kb_12 ?_
  refine s_icmp_le (tgt := 109) (q := 106) d_C_load_103 (by decide) rfl (fun _ => ?_) (fun z9 => absurd (by rw [nI_add]; exact nI_le (a := n + m) (b := 12) hf (by decide)) z9)
  refine s_aload (q := 111) d_C_load_109 rfl rfl (Or.inr ⟨_, rfl⟩) ?_
  refine g_geti (q := 114) d_C_load_111 rfl fl_C_57 (hC.2.2.2.2.2 _ hk).1 rfl ?_
  refine s_if_ne (tgt := 133) (q := 117) d_C_load_114 (by decide) rfl (fun z9 => absurd l1 z9) (fun _ => ?_)
  refine s_aload (q := 119) d_C_load_117 rfl rfl (Or.inr ⟨_, rfl⟩) ?_
  refine g_geti (q := 122) d_C_load_119 rfl fl_C_57 (hC.2.2.2.2.2 _ hg).1 rfl ?_
  refine s_if_ne (tgt := 133) (q := 125) d_C_load_122 (by decide) rfl (fun z9 => absurd l2 z9) (fun _ => ?_)
  refine s_aload (q := 127) d_C_load_125 rfl rfl (Or.inr ⟨_, rfl⟩) ?_
  refine g_geti (q := 130) d_C_load_127 rfl fl_C_57 (hC.2.2.2.2.2 _ hv).1 rfl ?_
  refine s_if_eq (tgt := 139) (q := 133) d_C_load_130 (by decide) rfl (fun _ => ?_) (fun z9 => absurd l3 z9)
  refine s_aload (q := 141) d_C_load_139 rfl rfl (Or.inr ⟨_, rfl⟩) ?_
  refine g_getv (v := nI n1) (q := 144) d_C_load_141 rfl fl_C_64 (hC.2.2.2.2.2 _ hk).1 rfl z1 ?_
  refine s_iload (q := 146) d_C_load_144 rfl rfl ?_
  refine s_icmp_lt (tgt := 169) (q := 149) d_C_load_146 (by decide) rfl (fun z9 => absurd z9 (nI_nlt i1 (by omega))) (fun _ => ?_)
  refine s_aload (q := 151) d_C_load_149 rfl rfl (Or.inr ⟨_, rfl⟩) ?_
  refine g_getv (v := nI n2) (q := 154) d_C_load_151 rfl fl_C_64 (hC.2.2.2.2.2 _ hg).1 rfl z2 ?_
  refine s_iload (q := 156) d_C_load_154 rfl rfl ?_
  refine s_icmp_lt (tgt := 169) (q := 159) d_C_load_156 (by decide) rfl (fun z9 => absurd z9 (nI_nlt i2 (by omega))) (fun _ => ?_)
  refine s_aload (q := 161) d_C_load_159 rfl rfl (Or.inr ⟨_, rfl⟩) ?_
  refine g_getv (v := nI n3) (q := 164) d_C_load_161 rfl fl_C_64 (hC.2.2.2.2.2 _ hv).1 rfl z3 ?_
  refine s_iload (q := 166) d_C_load_164 rfl rfl ?_
  refine s_icmp_ge (tgt := 175) (q := 169) d_C_load_166 (by decide) rfl (fun _ => ?_) (fun z9 => absurd (nI_le i3 (by omega)) z9)
  refine s_iconst (v := 0) (q := 176) d_C_load_175 rfl ki_0 ?_
  refine s_istore (q := 178) d_C_load_176 rfl (by decide) ?_
  exact s_lv (lv' := [(0, .ref 0), (6, .int (nI m)), (8, .ref (4 + 55 * t + 3 + 6 * j)), (9, .ref (114 + 2 * k)), (10, .ref (114 + 2 * g)), (11, .ref (114 + 2 * v)), (12, .int (nI 0))]) ⟨rfl, rfl, rfl, rfl, rfl, rfl, rfl, trivial⟩ (lp_load1 ht hj hk hg hv hm1 hm hall (lp_load3 ht hj hk hg hv hm1 hm hsz hf hall) 0 (Nat.zero_le _))
def akS (Y : RAM) (o : Nat) : Nat → RAM
  | 0 => Y
  | j + 1 => akX (akS Y o j) (o + 3 + 6 * j) (szN (akS Y o j) (o + 3 + 6 * j))
def kcX (X : RAM) (o : Nat) : RAM := akS (filA X 3 100 0) o 8
theorem akS_ne {Y : RAM} {o a : Nat} (h : a ≠ 3) (j : Nat) : akS Y o j a = Y a := by
  induction j with
  | zero => rfl
  | succ j ih => exact (akX_ne h).trans ih
theorem filA_ne {X : RAM} {a n c : Nat} {v : Int32} (h : c ≠ a) : filA X a n v c = X c := upA_ne h
theorem kcX_ne {X : RAM} {o a : Nat} (h : a ≠ 3) : kcX X o a = X a := (akS_ne h 8).trans (filA_ne h)
def okZK (X : RAM) (o : Nat) : Prop := okZ X o ∧ ∀ j, j < 8 → okK X (o + 3 + 6 * j) (szN X (o + 3 + 6 * j))
theorem szN_of {X Y : RAM} {o : Nat} (h : Y o = X o) : szN Y o = szN X o := by unfold szN; rw [h]
theorem okK_of {X Y : RAM} {o n : Nat} (h : Y (o + 1) = X (o + 1)) (hk : okK X o n) : okK Y o n := by
  intro i hi
  have := hk i hi
  unfold kyN at this ⊢
  rw [h]
  exact this
def kpS (X : RAM) (o : Nat) (m r : Int32) : Nat → Int32 := sumI (fun j => pwS X (o + 3 + 6 * j) m r (szN X (o + 3 + 6 * j)))
def kpT (X : RAM) (o1 o2 : Nat) (m r : Int32) : Int32 := kpS (kcX X o1) o2 m r 8
theorem lp_kp2 {X : RAM} {o1 o2 : Nat} {m r : Int32} (h1 : isT o1) (h2 : isT o2) (g1 : 4 ≤ o1) (g2 : 4 ≤ o2) (k1 : okZK X o1) (k2 : okZK X o2) : ∀ i, i ≤ 8 → V l D ac b "SpanStore" c_C_knownPairs 7 (some .int) false 2 49 0 0 (some (.int (kpT X o1 o2 m r)), 144, mk (kcX X o1)) 0 0 44 [(0, .ref 0), (1, .ref o1), (2, .ref o2), (3, .int m), (4, .int r), (5, .int (kpS (kcX X o1) o2 m r i)), (6, .int (nI i))] [] 144 (mk (kcX X o1)) := by
  refine nat_down ?_ (fun i hi ih => ?_)
  · skip
    refine s_iload (q := 46) d_C_knownPairs_44 rfl rfl ?_
    refine s_bipush (v := 8) (q := 48) d_C_knownPairs_46 rfl kb_8 ?_
    refine s_icmp_ge (tgt := 79) (q := 51) d_C_knownPairs_48 (by decide) rfl (fun _ => ?_) (fun z9 => absurd le8 z9)
    refine s_iload (q := 81) d_C_knownPairs_79 rfl rfl ?_
    exact g_iret d_C_knownPairs_81 rfl rfl rfl rfl
  · skip
    refine s_iload (q := 46) d_C_knownPairs_44 rfl rfl ?_
    refine s_bipush (v := 8) (q := 48) d_C_knownPairs_46 rfl kb_8 ?_
    refine s_icmp_ge (tgt := 79) (q := 51) d_C_knownPairs_48 (by decide) rfl (fun z9 => absurd z9 (nle8 hi)) (fun _ => ?_)
    refine s_iload (q := 53) d_C_knownPairs_51 rfl rfl ?_
    refine s_aload_n (q := 54) d_C_knownPairs_53 rfl rfl (Or.inr ⟨_, rfl⟩) ?_
    refine g_getr (q := 57) d_C_knownPairs_54 rfl fl_C_182 h2.1 rfl ?_
    refine s_iload (q := 59) d_C_knownPairs_57 rfl rfl ?_
    refine g_aald (q := 60) d_C_knownPairs_59 rfl h2.2.1 (by decide) rfl (by decide) rfl hi (if_pos hi) ?_
    refine s_aload_n (q := 61) d_C_knownPairs_60 rfl rfl (Or.inr ⟨_, rfl⟩) ?_
    refine g_getr (q := 64) d_C_knownPairs_61 rfl fl_C_21 hC.1 rfl ?_
    refine s_iload_n (q := 65) d_C_knownPairs_64 rfl rfl ?_
    refine s_iload (q := 67) d_C_knownPairs_65 rfl rfl ?_
    refine g_callV (q := 70) d_C_knownPairs_67 rfl ml_C_225 mx_B_pairsWith mv_B_pairsWith (t_B_pairsWith (n := szN (kcX X o1) (o2 + 3 + 6 * i)) (h2.2.2.2.1 _ hi) (by rw [szN_of (kcX_ne (by omega)), kcX_ne (by omega)]; exact (k2.1 i hi).1) (by rw [szN_of (kcX_ne (by omega))]; exact (k2.1 i hi).2) (by rw [szN_of (kcX_ne (by omega))]; exact okK_of (kcX_ne (by omega)) (k2.2 i hi))) (h2.2.2.2.1 _ hi).1 rfl rfl (Nat.le_of_ble_eq_true rfl) (by decide) ?_
    refine s_iadd (q := 71) d_C_knownPairs_70 rfl ?_
    refine s_istore (q := 73) d_C_knownPairs_71 rfl (by decide) ?_
    refine s_iinc (q := 76) d_C_knownPairs_73 rfl rfl (by first | exact inc1 _ | rfl) (by decide) ?_
    refine s_goto (tgt := 44) d_C_knownPairs_76 (by decide) ?_
    exact s_lv (lv' := [(0, .ref 0), (1, .ref o1), (2, .ref o2), (3, .int m), (4, .int r), (5, .int (kpS (kcX X o1) o2 m r (i + 1))), (6, .int (nI (i + 1)))]) ⟨rfl, rfl, rfl, rfl, rfl, rfl, rfl, trivial⟩ ih
theorem lp_kp1 {X : RAM} {o1 o2 : Nat} {m r : Int32} (h1 : isT o1) (h2 : isT o2) (g1 : 4 ≤ o1) (g2 : 4 ≤ o2) (k1 : okZK X o1) (k2 : okZK X o2) : ∀ i, i ≤ 8 → V l D ac b "SpanStore" c_C_knownPairs 7 (some .int) false 2 49 0 0 (some (.int (kpT X o1 o2 m r)), 144, mk (kcX X o1)) 0 0 11 [(0, .ref 0), (1, .ref o1), (2, .ref o2), (3, .int m), (4, .int r), (5, .int (nI i))] [] 144 (mk (akS (filA X 3 100 0) o1 i)) := by
  refine nat_down ?_ (fun i hi ih => ?_)
  · skip
    refine s_iload (q := 13) d_C_knownPairs_11 rfl rfl ?_
    refine s_bipush (v := 8) (q := 15) d_C_knownPairs_13 rfl kb_8 ?_
    refine s_icmp_ge (tgt := 38) (q := 18) d_C_knownPairs_15 (by decide) rfl (fun _ => ?_) (fun z9 => absurd le8 z9)
    refine s_iconst (v := 0) (q := 39) d_C_knownPairs_38 rfl ki_0 ?_
    refine s_istore (q := 41) d_C_knownPairs_39 rfl (by decide) ?_
    refine s_iconst (v := 0) (q := 42) d_C_knownPairs_41 rfl ki_0 ?_
    refine s_istore (q := 44) d_C_knownPairs_42 rfl (by decide) ?_
    exact s_lv (lv' := [(0, .ref 0), (1, .ref o1), (2, .ref o2), (3, .int m), (4, .int r), (5, .int (kpS (kcX X o1) o2 m r 0)), (6, .int (nI 0))]) ⟨rfl, rfl, rfl, rfl, rfl, rfl, rfl, trivial⟩ (lp_kp2 h1 h2 g1 g2 k1 k2 0 (Nat.zero_le 8))
  · have hne : ∀ a, a ≠ 3 → (akS (filA X 3 100 0) o1 i) a = X a := fun a h => (akS_ne h i).trans (filA_ne h)
    refine s_iload (q := 13) d_C_knownPairs_11 rfl rfl ?_
    refine s_bipush (v := 8) (q := 15) d_C_knownPairs_13 rfl kb_8 ?_
    refine s_icmp_ge (tgt := 38) (q := 18) d_C_knownPairs_15 (by decide) rfl (fun z9 => absurd z9 (nle8 hi)) (fun _ => ?_)
    refine s_aload_n (q := 19) d_C_knownPairs_18 rfl rfl (Or.inr ⟨_, rfl⟩) ?_
    refine g_getr (q := 22) d_C_knownPairs_19 rfl fl_C_182 h1.1 rfl ?_
    refine s_iload (q := 24) d_C_knownPairs_22 rfl rfl ?_
    refine g_aald (q := 25) d_C_knownPairs_24 rfl h1.2.1 (by decide) rfl (by decide) rfl hi (if_pos hi) ?_
    refine s_aload_n (q := 26) d_C_knownPairs_25 rfl rfl (Or.inr ⟨_, rfl⟩) ?_
    refine g_getr (q := 29) d_C_knownPairs_26 rfl fl_C_21 hC.1 rfl ?_
    refine g_callV (q := 32) d_C_knownPairs_29 rfl ml_C_221 mx_B_addKnownKeys mv_B_addKnownKeys (t_B_addKK (n := szN (akS (filA X 3 100 0) o1 i) (o1 + 3 + 6 * i)) (h1.2.2.2.1 _ hi) (by rw [szN_of (hne _ (by omega)), hne _ (by omega)]; exact (k1.1 i hi).1) (by rw [szN_of (hne _ (by omega))]; exact (k1.1 i hi).2) (by rw [szN_of (hne _ (by omega))]; exact okK_of (hne _ (by omega)) (k1.2 i hi)) (by omega)) (h1.2.2.2.1 _ hi).1 rfl rfl (Nat.le_of_ble_eq_true rfl) (by decide) ?_
    refine s_iinc (q := 35) d_C_knownPairs_32 rfl rfl (by first | exact inc1 _ | rfl) (by decide) ?_
    refine s_goto (tgt := 11) d_C_knownPairs_35 (by decide) ?_
    exact s_lv (lv' := [(0, .ref 0), (1, .ref o1), (2, .ref o2), (3, .int m), (4, .int r), (5, .int (nI (i + 1)))]) ⟨rfl, rfl, rfl, rfl, rfl, rfl, trivial⟩ ih
theorem t_C_knownPairs {X : RAM} {o1 o2 : Nat} {m r : Int32} (h1 : isT o1) (h2 : isT o2) (g1 : 4 ≤ o1) (g2 : 4 ≤ o2) (k1 : okZK X o1) (k2 : okZK X o2) : CG l D ac b y_C_knownPairs c_C_knownPairs 7 (some .int) 2 49 [.ref 0, .ref o1, .ref o2, .int m, .int r] X (some (.int (kpT X o1 o2 m r))) (kcX X o1) := by
  refine Ct_of false (by decide) (fun h => by cases h) (Nat.le_of_ble_eq_true rfl) ?_
  show V l D ac b "SpanStore" c_C_knownPairs 7 (some .int) false 2 49 0 0 ((some (.int (kpT X o1 o2 m r))), 144, mk (kcX X o1)) 0 0 0 [(0, .ref 0), (1, .ref o1), (2, .ref o2), (3, .int m), (4, .int r)] [] 144 (mk X)
  refine s_aload_n (q := 1) d_C_knownPairs_0 rfl rfl (Or.inr ⟨_, rfl⟩) ?_
  refine g_getr (q := 4) d_C_knownPairs_1 rfl fl_C_21 hC.1 rfl ?_
  refine s_iconst (v := 0) (q := 5) d_C_knownPairs_4 rfl ki_0 ?_
  refine g_callS (q := 8) d_C_knownPairs_5 rfl ml_C_215 mx_J_fill ms_J_fill (t_J_fill hC.2.2.2.1 (by decide)) rfl rfl (Nat.le_of_ble_eq_true rfl) (by decide) ?_
  refine s_iconst (v := 0) (q := 9) d_C_knownPairs_8 rfl ki_0 ?_
  refine s_istore (q := 11) d_C_knownPairs_9 rfl (by decide) ?_
  exact s_lv (lv' := [(0, .ref 0), (1, .ref o1), (2, .ref o2), (3, .int m), (4, .int r), (5, .int (nI 0))]) ⟨rfl, rfl, rfl, rfl, rfl, rfl, trivial⟩ (lp_kp1 h1 h2 g1 g2 k1 k2 0 (Nat.zero_le 8))
abbrev GrpOK (g : Int32) : Prop := (-1) ≤ g ∧ g < 4
abbrev EndOK (e : Int32) : Prop := e = 0 ∨ e = 1
theorem t_C_sum_T {X : RAM} {x g e : Int32} (hx : x < 0 ∨ 2 ≤ x) : CG l D ac b y_C_sum c_C_sum 5 (some .long) 5 113 [.ref 0, .int x, .int g, .int e] X (some (.long (-9223372036854775808))) (X) := by
  refine Ct_of false (by decide) (fun h => by cases h) (Nat.le_of_ble_eq_true rfl) ?_
  show V l D ac b "SpanStore" c_C_sum 5 (some .long) false 5 113 0 0 ((some (.long (-9223372036854775808))), 144, mk (X)) 0 0 0 [(0, .ref 0), (1, .int x), (2, .int g), (3, .int e)] [] 144 (mk X)
  refine s_aload_n (q := 1) d_C_sum_0 rfl rfl (Or.inr ⟨_, rfl⟩) ?_
  refine s_iload_n (q := 2) d_C_sum_1 rfl rfl ?_
  refine g_callV (q := 5) d_C_sum_2 rfl ml_C_27 mx_C_tableAt mv_C_tableAt (t_C_tableAt_no hx) hC.1 rfl rfl (Nat.le_of_ble_eq_true rfl) (by decide) ?_
  refine s_astore (q := 7) d_C_sum_5 rfl (by decide) (Or.inl rfl) ?_
  refine s_aload (q := 9) d_C_sum_7 rfl rfl (Or.inl rfl) ?_
  refine s_ifnull_n (tgt := 34) d_C_sum_9 (by decide) ?_
  refine s_ldc2 (q := 37) d_C_sum_34 rfl kc_C_129 ?_
  exact g_lret d_C_sum_37 rfl rfl rfl
theorem t_C_sum_G {X : RAM} {t : Nat} {g e : Int32} (ht : t < 2) (hg : ¬ GrpOK g) : CG l D ac b y_C_sum c_C_sum 5 (some .long) 5 113 [.ref 0, .int (nI t), .int g, .int e] X (some (.long (-9223372036854775808))) (X) := by
  refine Ct_of false (by decide) (fun h => by cases h) (Nat.le_of_ble_eq_true rfl) ?_
  show V l D ac b "SpanStore" c_C_sum 5 (some .long) false 5 113 0 0 ((some (.long (-9223372036854775808))), 144, mk (X)) 0 0 0 [(0, .ref 0), (1, .int (nI t)), (2, .int g), (3, .int e)] [] 144 (mk X)
  refine s_aload_n (q := 1) d_C_sum_0 rfl rfl (Or.inr ⟨_, rfl⟩) ?_
  refine s_iload_n (q := 2) d_C_sum_1 rfl rfl ?_
  refine g_callV (q := 5) d_C_sum_2 rfl ml_C_27 mx_C_tableAt mv_C_tableAt (t_C_tableAt_ok ht) hC.1 rfl rfl (Nat.le_of_ble_eq_true rfl) (by decide) ?_
  refine s_astore (q := 7) d_C_sum_5 rfl (by decide) (Or.inr ⟨_, rfl⟩) ?_
  refine s_aload (q := 9) d_C_sum_7 rfl rfl (Or.inr ⟨_, rfl⟩) ?_
  refine s_ifnull_r (q := 12) d_C_sum_9 rfl ?_
  refine s_iload_n (q := 13) d_C_sum_12 rfl rfl ?_
  refine g_callS (q := 16) d_C_sum_13 rfl ml_C_121 mx_C_isGroupOrAll ms_C_isGroupOrAll t_C_isGroupOrAll rfl rfl (Nat.le_of_ble_eq_true rfl) (by decide) ?_
  refine s_if_eq (tgt := 34) (q := 19) d_C_sum_16 (by decide) rfl (fun _ => ?_) (fun z9 => absurd (bI_d.mpr hg) z9)
  refine s_ldc2 (q := 37) d_C_sum_34 rfl kc_C_129 ?_
  exact g_lret d_C_sum_37 rfl rfl rfl
theorem t_C_sum_E {X : RAM} {t : Nat} {g e : Int32} (ht : t < 2) (hg : GrpOK g) (he : ¬ EndOK e) : CG l D ac b y_C_sum c_C_sum 5 (some .long) 5 113 [.ref 0, .int (nI t), .int g, .int e] X (some (.long (-9223372036854775808))) (X) := by
  refine Ct_of false (by decide) (fun h => by cases h) (Nat.le_of_ble_eq_true rfl) ?_
  show V l D ac b "SpanStore" c_C_sum 5 (some .long) false 5 113 0 0 ((some (.long (-9223372036854775808))), 144, mk (X)) 0 0 0 [(0, .ref 0), (1, .int (nI t)), (2, .int g), (3, .int e)] [] 144 (mk X)
  refine s_aload_n (q := 1) d_C_sum_0 rfl rfl (Or.inr ⟨_, rfl⟩) ?_
  refine s_iload_n (q := 2) d_C_sum_1 rfl rfl ?_
  refine g_callV (q := 5) d_C_sum_2 rfl ml_C_27 mx_C_tableAt mv_C_tableAt (t_C_tableAt_ok ht) hC.1 rfl rfl (Nat.le_of_ble_eq_true rfl) (by decide) ?_
  refine s_astore (q := 7) d_C_sum_5 rfl (by decide) (Or.inr ⟨_, rfl⟩) ?_
  refine s_aload (q := 9) d_C_sum_7 rfl rfl (Or.inr ⟨_, rfl⟩) ?_
  refine s_ifnull_r (q := 12) d_C_sum_9 rfl ?_
  refine s_iload_n (q := 13) d_C_sum_12 rfl rfl ?_
  refine g_callS (q := 16) d_C_sum_13 rfl ml_C_121 mx_C_isGroupOrAll ms_C_isGroupOrAll t_C_isGroupOrAll rfl rfl (Nat.le_of_ble_eq_true rfl) (by decide) ?_
  refine s_if_eq (tgt := 34) (q := 19) d_C_sum_16 (by decide) rfl (fun z9 => absurd z9 (bI_dn.mpr hg)) (fun _ => ?_)
  refine s_iload_n (q := 20) d_C_sum_19 rfl rfl ?_
  refine g_callS (q := 23) d_C_sum_20 rfl ml_C_124 mx_C_isEnd ms_C_isEnd t_C_isEnd rfl rfl (Nat.le_of_ble_eq_true rfl) (by decide) ?_
  refine s_if_eq (tgt := 34) (q := 26) d_C_sum_23 (by decide) rfl (fun _ => ?_) (fun z9 => absurd (bI_d.mpr he) z9)
  refine s_ldc2 (q := 37) d_C_sum_34 rfl kc_C_129 ?_
  exact g_lret d_C_sum_37 rfl rfl rfl
theorem t_C_sum_S {X : RAM} {t : Nat} {g e : Int32} (ht : t < 2) (hg : GrpOK g) (he : EndOK e) (hs : X (4 + 55 * t) 3 = 0) : CG l D ac b y_C_sum c_C_sum 5 (some .long) 5 113 [.ref 0, .int (nI t), .int g, .int e] X (some (.long (-9223372036854775808))) (X) := by
  refine Ct_of false (by decide) (fun h => by cases h) (Nat.le_of_ble_eq_true rfl) ?_
  show V l D ac b "SpanStore" c_C_sum 5 (some .long) false 5 113 0 0 ((some (.long (-9223372036854775808))), 144, mk (X)) 0 0 0 [(0, .ref 0), (1, .int (nI t)), (2, .int g), (3, .int e)] [] 144 (mk X)
  refine s_aload_n (q := 1) d_C_sum_0 rfl rfl (Or.inr ⟨_, rfl⟩) ?_
  refine s_iload_n (q := 2) d_C_sum_1 rfl rfl ?_
  refine g_callV (q := 5) d_C_sum_2 rfl ml_C_27 mx_C_tableAt mv_C_tableAt (t_C_tableAt_ok ht) hC.1 rfl rfl (Nat.le_of_ble_eq_true rfl) (by decide) ?_
  refine s_astore (q := 7) d_C_sum_5 rfl (by decide) (Or.inr ⟨_, rfl⟩) ?_
  refine s_aload (q := 9) d_C_sum_7 rfl rfl (Or.inr ⟨_, rfl⟩) ?_
  refine s_ifnull_r (q := 12) d_C_sum_9 rfl ?_
  refine s_iload_n (q := 13) d_C_sum_12 rfl rfl ?_
  refine g_callS (q := 16) d_C_sum_13 rfl ml_C_121 mx_C_isGroupOrAll ms_C_isGroupOrAll t_C_isGroupOrAll rfl rfl (Nat.le_of_ble_eq_true rfl) (by decide) ?_
  refine s_if_eq (tgt := 34) (q := 19) d_C_sum_16 (by decide) rfl (fun z9 => absurd z9 (bI_dn.mpr hg)) (fun _ => ?_)
  refine s_iload_n (q := 20) d_C_sum_19 rfl rfl ?_
  refine g_callS (q := 23) d_C_sum_20 rfl ml_C_124 mx_C_isEnd ms_C_isEnd t_C_isEnd rfl rfl (Nat.le_of_ble_eq_true rfl) (by decide) ?_
  refine s_if_eq (tgt := 34) (q := 26) d_C_sum_23 (by decide) rfl (fun z9 => absurd z9 (bI_dn.mpr he)) (fun _ => ?_)
  refine s_aload (q := 28) d_C_sum_26 rfl rfl (Or.inr ⟨_, rfl⟩) ?_
  refine g_geti (q := 31) d_C_sum_28 rfl fl_C_39 (hC.2.2.2.2.1 _ ht).1 rfl ?_
  refine s_if_ne (tgt := 38) (q := 34) d_C_sum_31 (by decide) rfl (fun z9 => absurd hs z9) (fun _ => ?_)
  refine s_ldc2 (q := 37) d_C_sum_34 rfl kc_C_129 ?_
  exact g_lret d_C_sum_37 rfl rfl rfl
theorem t_C_sum_D {X : RAM} {t : Nat} {g e : Int32} (ht : t < 2) (hg : GrpOK g) (he : EndOK e) (hs : ¬ X (4 + 55 * t) 3 = 0) (hZ : okZ X (4 + 55 * t)) : CG l D ac b y_C_sum c_C_sum 5 (some .long) 5 113 [.ref 0, .int (nI t), .int g, .int e] X (some (.long (sumT X (4 + 55 * t) g e))) (X) := by
  refine Ct_of false (by decide) (fun h => by cases h) (Nat.le_of_ble_eq_true rfl) ?_
  show V l D ac b "SpanStore" c_C_sum 5 (some .long) false 5 113 0 0 ((some (.long (sumT X (4 + 55 * t) g e))), 144, mk (X)) 0 0 0 [(0, .ref 0), (1, .int (nI t)), (2, .int g), (3, .int e)] [] 144 (mk X)
  refine s_aload_n (q := 1) d_C_sum_0 rfl rfl (Or.inr ⟨_, rfl⟩) ?_
  refine s_iload_n (q := 2) d_C_sum_1 rfl rfl ?_
  refine g_callV (q := 5) d_C_sum_2 rfl ml_C_27 mx_C_tableAt mv_C_tableAt (t_C_tableAt_ok ht) hC.1 rfl rfl (Nat.le_of_ble_eq_true rfl) (by decide) ?_
  refine s_astore (q := 7) d_C_sum_5 rfl (by decide) (Or.inr ⟨_, rfl⟩) ?_
  refine s_aload (q := 9) d_C_sum_7 rfl rfl (Or.inr ⟨_, rfl⟩) ?_
  refine s_ifnull_r (q := 12) d_C_sum_9 rfl ?_
  refine s_iload_n (q := 13) d_C_sum_12 rfl rfl ?_
  refine g_callS (q := 16) d_C_sum_13 rfl ml_C_121 mx_C_isGroupOrAll ms_C_isGroupOrAll t_C_isGroupOrAll rfl rfl (Nat.le_of_ble_eq_true rfl) (by decide) ?_
  refine s_if_eq (tgt := 34) (q := 19) d_C_sum_16 (by decide) rfl (fun z9 => absurd z9 (bI_dn.mpr hg)) (fun _ => ?_)
  refine s_iload_n (q := 20) d_C_sum_19 rfl rfl ?_
  refine g_callS (q := 23) d_C_sum_20 rfl ml_C_124 mx_C_isEnd ms_C_isEnd t_C_isEnd rfl rfl (Nat.le_of_ble_eq_true rfl) (by decide) ?_
  refine s_if_eq (tgt := 34) (q := 26) d_C_sum_23 (by decide) rfl (fun z9 => absurd z9 (bI_dn.mpr he)) (fun _ => ?_)
  refine s_aload (q := 28) d_C_sum_26 rfl rfl (Or.inr ⟨_, rfl⟩) ?_
  refine g_geti (q := 31) d_C_sum_28 rfl fl_C_39 (hC.2.2.2.2.1 _ ht).1 rfl ?_
  refine s_if_ne (tgt := 38) (q := 34) d_C_sum_31 (by decide) rfl (fun _ => ?_) (fun z9 => absurd z9 hs)
  refine s_aload (q := 40) d_C_sum_38 rfl rfl (Or.inr ⟨_, rfl⟩) ?_
  refine s_iload_n (q := 41) d_C_sum_40 rfl rfl ?_
  refine s_iload_n (q := 42) d_C_sum_41 rfl rfl ?_
  refine g_callV (q := 45) d_C_sum_42 rfl ml_C_131 mx_T_sumEnd mv_T_sumEnd (t_T_sumEnd (hC.2.2.2.2.1 _ ht) hZ) (hC.2.2.2.2.1 _ ht).1 rfl rfl (Nat.le_of_ble_eq_true rfl) (by decide) ?_
  exact g_lret d_C_sum_45 rfl rfl rfl
theorem t_C_count_T {X : RAM} {x y e : Int32} (hx : x < 0 ∨ 2 ≤ x) : CG l D ac b y_C_count c_C_count 5 (some .int) 5 111 [.ref 0, .int x, .int y, .int e] X (some (.int (-2))) (X) := by
  refine Ct_of false (by decide) (fun h => by cases h) (Nat.le_of_ble_eq_true rfl) ?_
  show V l D ac b "SpanStore" c_C_count 5 (some .int) false 5 111 0 0 ((some (.int (-2))), 144, mk (X)) 0 0 0 [(0, .ref 0), (1, .int x), (2, .int y), (3, .int e)] [] 144 (mk X)
  refine s_aload_n (q := 1) d_C_count_0 rfl rfl (Or.inr ⟨_, rfl⟩) ?_
  refine s_iload_n (q := 2) d_C_count_1 rfl rfl ?_
  refine g_callV (q := 5) d_C_count_2 rfl ml_C_27 mx_C_tableAt mv_C_tableAt (t_C_tableAt_no hx) hC.1 rfl rfl (Nat.le_of_ble_eq_true rfl) (by decide) ?_
  refine s_astore (q := 7) d_C_count_5 rfl (by decide) (Or.inl rfl) ?_
  refine s_aload (q := 9) d_C_count_7 rfl rfl (Or.inl rfl) ?_
  refine s_ifnull_n (tgt := 19) d_C_count_9 (by decide) ?_
  refine s_bipush (v := (-2)) (q := 21) d_C_count_19 rfl kb_m2 ?_
  exact g_iret d_C_count_21 rfl rfl rfl rfl
theorem t_C_count_E {X : RAM} {t : Nat} {x e : Int32} (ht : t < 2) (he : ¬ EndOK e) : CG l D ac b y_C_count c_C_count 5 (some .int) 5 111 [.ref 0, .int (nI t), .int x, .int e] X (some (.int (-2))) (X) := by
  refine Ct_of false (by decide) (fun h => by cases h) (Nat.le_of_ble_eq_true rfl) ?_
  show V l D ac b "SpanStore" c_C_count 5 (some .int) false 5 111 0 0 ((some (.int (-2))), 144, mk (X)) 0 0 0 [(0, .ref 0), (1, .int (nI t)), (2, .int x), (3, .int e)] [] 144 (mk X)
  refine s_aload_n (q := 1) d_C_count_0 rfl rfl (Or.inr ⟨_, rfl⟩) ?_
  refine s_iload_n (q := 2) d_C_count_1 rfl rfl ?_
  refine g_callV (q := 5) d_C_count_2 rfl ml_C_27 mx_C_tableAt mv_C_tableAt (t_C_tableAt_ok ht) hC.1 rfl rfl (Nat.le_of_ble_eq_true rfl) (by decide) ?_
  refine s_astore (q := 7) d_C_count_5 rfl (by decide) (Or.inr ⟨_, rfl⟩) ?_
  refine s_aload (q := 9) d_C_count_7 rfl rfl (Or.inr ⟨_, rfl⟩) ?_
  refine s_ifnull_r (q := 12) d_C_count_9 rfl ?_
  refine s_iload_n (q := 13) d_C_count_12 rfl rfl ?_
  refine g_callS (q := 16) d_C_count_13 rfl ml_C_124 mx_C_isEnd ms_C_isEnd t_C_isEnd rfl rfl (Nat.le_of_ble_eq_true rfl) (by decide) ?_
  refine s_if_ne (tgt := 22) (q := 19) d_C_count_16 (by decide) rfl (fun z9 => absurd (bI_d.mpr he) z9) (fun _ => ?_)
  refine s_bipush (v := (-2)) (q := 21) d_C_count_19 rfl kb_m2 ?_
  exact g_iret d_C_count_21 rfl rfl rfl rfl
theorem t_C_count_S {X : RAM} {t : Nat} {x e : Int32} (ht : t < 2) (he : EndOK e) (hs : X (4 + 55 * t) 3 = 0) : CG l D ac b y_C_count c_C_count 5 (some .int) 5 111 [.ref 0, .int (nI t), .int x, .int e] X (some (.int (-3))) (X) := by
  refine Ct_of false (by decide) (fun h => by cases h) (Nat.le_of_ble_eq_true rfl) ?_
  show V l D ac b "SpanStore" c_C_count 5 (some .int) false 5 111 0 0 ((some (.int (-3))), 144, mk (X)) 0 0 0 [(0, .ref 0), (1, .int (nI t)), (2, .int x), (3, .int e)] [] 144 (mk X)
  refine s_aload_n (q := 1) d_C_count_0 rfl rfl (Or.inr ⟨_, rfl⟩) ?_
  refine s_iload_n (q := 2) d_C_count_1 rfl rfl ?_
  refine g_callV (q := 5) d_C_count_2 rfl ml_C_27 mx_C_tableAt mv_C_tableAt (t_C_tableAt_ok ht) hC.1 rfl rfl (Nat.le_of_ble_eq_true rfl) (by decide) ?_
  refine s_astore (q := 7) d_C_count_5 rfl (by decide) (Or.inr ⟨_, rfl⟩) ?_
  refine s_aload (q := 9) d_C_count_7 rfl rfl (Or.inr ⟨_, rfl⟩) ?_
  refine s_ifnull_r (q := 12) d_C_count_9 rfl ?_
  refine s_iload_n (q := 13) d_C_count_12 rfl rfl ?_
  refine g_callS (q := 16) d_C_count_13 rfl ml_C_124 mx_C_isEnd ms_C_isEnd t_C_isEnd rfl rfl (Nat.le_of_ble_eq_true rfl) (by decide) ?_
  refine s_if_ne (tgt := 22) (q := 19) d_C_count_16 (by decide) rfl (fun _ => ?_) (fun z9 => absurd z9 (bI_dn.mpr he))
  refine s_aload (q := 24) d_C_count_22 rfl rfl (Or.inr ⟨_, rfl⟩) ?_
  refine g_geti (q := 27) d_C_count_24 rfl fl_C_39 (hC.2.2.2.2.1 _ ht).1 rfl ?_
  refine s_if_ne (tgt := 33) (q := 30) d_C_count_27 (by decide) rfl (fun z9 => absurd hs z9) (fun _ => ?_)
  refine s_bipush (v := (-3)) (q := 32) d_C_count_30 rfl kb_m3 ?_
  exact g_iret d_C_count_32 rfl rfl rfl rfl
def cntT (X : RAM) (o : Nat) (x e : Int32) : Int32 := sumI (fun j => cntV X (o + 3 + 6 * j) (szN X (o + 3 + 6 * j)) x e) 8
theorem t_C_count_D {X : RAM} {t : Nat} {x e : Int32} (ht : t < 2) (he : EndOK e) (hs : ¬ X (4 + 55 * t) 3 = 0) (hZ : okZ X (4 + 55 * t)) : CG l D ac b y_C_count c_C_count 5 (some .int) 5 111 [.ref 0, .int (nI t), .int x, .int e] X (some (.int (cntT X (4 + 55 * t) x e))) (X) := by
  refine Ct_of false (by decide) (fun h => by cases h) (Nat.le_of_ble_eq_true rfl) ?_
  show V l D ac b "SpanStore" c_C_count 5 (some .int) false 5 111 0 0 ((some (.int (cntT X (4 + 55 * t) x e))), 144, mk (X)) 0 0 0 [(0, .ref 0), (1, .int (nI t)), (2, .int x), (3, .int e)] [] 144 (mk X)
  refine s_aload_n (q := 1) d_C_count_0 rfl rfl (Or.inr ⟨_, rfl⟩) ?_
  refine s_iload_n (q := 2) d_C_count_1 rfl rfl ?_
  refine g_callV (q := 5) d_C_count_2 rfl ml_C_27 mx_C_tableAt mv_C_tableAt (t_C_tableAt_ok ht) hC.1 rfl rfl (Nat.le_of_ble_eq_true rfl) (by decide) ?_
  refine s_astore (q := 7) d_C_count_5 rfl (by decide) (Or.inr ⟨_, rfl⟩) ?_
  refine s_aload (q := 9) d_C_count_7 rfl rfl (Or.inr ⟨_, rfl⟩) ?_
  refine s_ifnull_r (q := 12) d_C_count_9 rfl ?_
  refine s_iload_n (q := 13) d_C_count_12 rfl rfl ?_
  refine g_callS (q := 16) d_C_count_13 rfl ml_C_124 mx_C_isEnd ms_C_isEnd t_C_isEnd rfl rfl (Nat.le_of_ble_eq_true rfl) (by decide) ?_
  refine s_if_ne (tgt := 22) (q := 19) d_C_count_16 (by decide) rfl (fun _ => ?_) (fun z9 => absurd z9 (bI_dn.mpr he))
  refine s_aload (q := 24) d_C_count_22 rfl rfl (Or.inr ⟨_, rfl⟩) ?_
  refine g_geti (q := 27) d_C_count_24 rfl fl_C_39 (hC.2.2.2.2.1 _ ht).1 rfl ?_
  refine s_if_ne (tgt := 33) (q := 30) d_C_count_27 (by decide) rfl (fun _ => ?_) (fun z9 => absurd z9 hs)
  refine s_aload (q := 35) d_C_count_33 rfl rfl (Or.inr ⟨_, rfl⟩) ?_
  refine s_iload_n (q := 36) d_C_count_35 rfl rfl ?_
  refine s_iload_n (q := 37) d_C_count_36 rfl rfl ?_
  refine g_callV (q := 40) d_C_count_37 rfl ml_C_135 mx_T_countEnd mv_T_countEnd (t_T_countEnd (hC.2.2.2.2.1 _ ht) hZ) (hC.2.2.2.2.1 _ ht).1 rfl rfl (Nat.le_of_ble_eq_true rfl) (by decide) ?_
  exact g_iret d_C_count_40 rfl rfl rfl rfl
theorem hT0 : isT 4 := hC.2.2.2.2.1 0 (by decide)
theorem hT1 : isT 59 := hC.2.2.2.2.1 1 (by decide)
def rwT (X : RAM) (o : Nat) : Int32 := sumI (fun j => X (o + 3 + 6 * j) 5) 8
def knT (X : RAM) (o : Nat) : Int32 := sumI (fun j => X (o + 3 + 6 * j) 6) 8
theorem t_C_join_E {X : RAM} {e : Int32} (he : ¬ EndOK e) : CG l D ac b y_C_join c_C_join 7 (some .int) 3 75 [.ref 0, .int e] X (some (.int (-2))) (X) := by
  refine Ct_of false (by decide) (fun h => by cases h) (Nat.le_of_ble_eq_true rfl) ?_
  show V l D ac b "SpanStore" c_C_join 7 (some .int) false 3 75 0 0 ((some (.int (-2))), 144, mk (X)) 0 0 0 [(0, .ref 0), (1, .int e)] [] 144 (mk X)
  refine s_iload_n (q := 1) d_C_join_0 rfl rfl ?_
  refine g_callS (q := 4) d_C_join_1 rfl ml_C_124 mx_C_isEnd ms_C_isEnd t_C_isEnd rfl rfl (Nat.le_of_ble_eq_true rfl) (by decide) ?_
  refine s_if_ne (tgt := 10) (q := 7) d_C_join_4 (by decide) rfl (fun z9 => absurd (bI_d.mpr he) z9) (fun _ => ?_)
  refine s_bipush (v := (-2)) (q := 9) d_C_join_7 rfl kb_m2 ?_
  exact g_iret d_C_join_9 rfl rfl rfl rfl
theorem t_C_join_S {X : RAM} {e : Int32} (he : EndOK e) (hs : ¬ (¬ X 4 3 = 0 ∧ ¬ X 59 3 = 0)) : CG l D ac b y_C_join c_C_join 7 (some .int) 3 75 [.ref 0, .int e] X (some (.int (-3))) (X) := by
  refine Ct_of false (by decide) (fun h => by cases h) (Nat.le_of_ble_eq_true rfl) ?_
  show V l D ac b "SpanStore" c_C_join 7 (some .int) false 3 75 0 0 ((some (.int (-3))), 144, mk (X)) 0 0 0 [(0, .ref 0), (1, .int e)] [] 144 (mk X)
  refine s_iload_n (q := 1) d_C_join_0 rfl rfl ?_
  refine g_callS (q := 4) d_C_join_1 rfl ml_C_124 mx_C_isEnd ms_C_isEnd t_C_isEnd rfl rfl (Nat.le_of_ble_eq_true rfl) (by decide) ?_
  refine s_if_ne (tgt := 10) (q := 7) d_C_join_4 (by decide) rfl (fun _ => ?_) (fun z9 => absurd z9 (bI_dn.mpr he))
  refine s_aload_n (q := 11) d_C_join_10 rfl rfl (Or.inr ⟨_, rfl⟩) ?_
  refine g_getr (q := 14) d_C_join_11 rfl fl_C_11 hC.1 rfl ?_
  refine s_iconst (v := 0) (q := 15) d_C_join_14 rfl ki_0 ?_
  refine g_aald (q := 16) d_C_join_15 rfl hC.2.1 (by decide) rfl (by decide) (rfl : (0 : Int32) = nI 0) (by decide) (if_pos (by decide : 0 < 2)) ?_
  refine s_astore_n (q := 17) d_C_join_16 rfl (by decide) (Or.inr ⟨_, rfl⟩) ?_
  refine s_aload_n (q := 18) d_C_join_17 rfl rfl (Or.inr ⟨_, rfl⟩) ?_
  refine g_getr (q := 21) d_C_join_18 rfl fl_C_11 hC.1 rfl ?_
  refine s_iconst (v := 1) (q := 22) d_C_join_21 rfl ki_1 ?_
  refine g_aald (q := 23) d_C_join_22 rfl hC.2.1 (by decide) rfl (by decide) (rfl : (1 : Int32) = nI 1) (by decide) (if_pos (by decide : 1 < 2)) ?_
  refine s_astore_n (q := 24) d_C_join_23 rfl (by decide) (Or.inr ⟨_, rfl⟩) ?_
  refine s_aload_n (q := 25) d_C_join_24 rfl rfl (Or.inr ⟨_, rfl⟩) ?_
  refine g_geti (q := 28) d_C_join_25 rfl fl_C_39 (hC.2.2.2.2.1 _ (by decide : 0 < 2)).1 rfl ?_
  refine s_if_eq (tgt := 38) (q := 31) d_C_join_28 (by decide) rfl (fun h_28 => ?_) (fun h_28 => ?_)
  · -- T 28
    refine s_bipush (v := (-3)) (q := 40) d_C_join_38 rfl kb_m3 ?_
    exact g_iret d_C_join_40 rfl rfl rfl rfl
  · -- F 28
    refine s_aload_n (q := 32) d_C_join_31 rfl rfl (Or.inr ⟨_, rfl⟩) ?_
    refine g_geti (q := 35) d_C_join_32 rfl fl_C_39 (hC.2.2.2.2.1 _ (by decide : 1 < 2)).1 rfl ?_
    refine s_if_ne (tgt := 41) (q := 38) d_C_join_35 (by decide) rfl (fun h_35 => ?_) (fun h_35 => ?_)
    · -- T 35
      exact absurd ⟨h_28, h_35⟩ hs --done
    · -- F 35
      refine s_bipush (v := (-3)) (q := 40) d_C_join_38 rfl kb_m3 ?_
      exact g_iret d_C_join_40 rfl rfl rfl rfl
theorem t_C_join_0 {X : RAM} (s0 : ¬ X 4 3 = 0) (s1 : ¬ X 59 3 = 0) (k0 : okZK X 4) (k1 : okZK X 59) : CG l D ac b y_C_join c_C_join 7 (some .int) 3 75 [.ref 0, .int 0] X (some (.int (kpT X 4 59 1 0))) (kcX X 4) := by
  refine Ct_of false (by decide) (fun h => by cases h) (Nat.le_of_ble_eq_true rfl) ?_
  show V l D ac b "SpanStore" c_C_join 7 (some .int) false 3 75 0 0 ((some (.int (kpT X 4 59 1 0))), 144, mk (kcX X 4)) 0 0 0 [(0, .ref 0), (1, .int 0)] [] 144 (mk X)
  refine s_iload_n (q := 1) d_C_join_0 rfl rfl ?_
  refine g_callS (q := 4) d_C_join_1 rfl ml_C_124 mx_C_isEnd ms_C_isEnd t_C_isEnd rfl rfl (Nat.le_of_ble_eq_true rfl) (by decide) ?_
  refine s_if_ne (tgt := 10) (q := 7) d_C_join_4 (by decide) rfl (fun _ => ?_) (fun z9 => absurd z9 (by decide))
  refine s_aload_n (q := 11) d_C_join_10 rfl rfl (Or.inr ⟨_, rfl⟩) ?_
  refine g_getr (q := 14) d_C_join_11 rfl fl_C_11 hC.1 rfl ?_
  refine s_iconst (v := 0) (q := 15) d_C_join_14 rfl ki_0 ?_
  refine g_aald (q := 16) d_C_join_15 rfl hC.2.1 (by decide) rfl (by decide) (rfl : (0 : Int32) = nI 0) (by decide) (if_pos (by decide : 0 < 2)) ?_
  refine s_astore_n (q := 17) d_C_join_16 rfl (by decide) (Or.inr ⟨_, rfl⟩) ?_
  refine s_aload_n (q := 18) d_C_join_17 rfl rfl (Or.inr ⟨_, rfl⟩) ?_
  refine g_getr (q := 21) d_C_join_18 rfl fl_C_11 hC.1 rfl ?_
  refine s_iconst (v := 1) (q := 22) d_C_join_21 rfl ki_1 ?_
  refine g_aald (q := 23) d_C_join_22 rfl hC.2.1 (by decide) rfl (by decide) (rfl : (1 : Int32) = nI 1) (by decide) (if_pos (by decide : 1 < 2)) ?_
  refine s_astore_n (q := 24) d_C_join_23 rfl (by decide) (Or.inr ⟨_, rfl⟩) ?_
  refine s_aload_n (q := 25) d_C_join_24 rfl rfl (Or.inr ⟨_, rfl⟩) ?_
  refine g_geti (q := 28) d_C_join_25 rfl fl_C_39 (hC.2.2.2.2.1 _ (by decide : 0 < 2)).1 rfl ?_
  refine s_if_eq (tgt := 38) (q := 31) d_C_join_28 (by decide) rfl (fun z9 => absurd z9 s0) (fun _ => ?_)
  refine s_aload_n (q := 32) d_C_join_31 rfl rfl (Or.inr ⟨_, rfl⟩) ?_
  refine g_geti (q := 35) d_C_join_32 rfl fl_C_39 (hC.2.2.2.2.1 _ (by decide : 1 < 2)).1 rfl ?_
  refine s_if_ne (tgt := 41) (q := 38) d_C_join_35 (by decide) rfl (fun _ => ?_) (fun z9 => absurd z9 s1)
  refine s_aload_n (q := 42) d_C_join_41 rfl rfl (Or.inr ⟨_, rfl⟩) ?_
  refine s_aload_n (q := 43) d_C_join_42 rfl rfl (Or.inr ⟨_, rfl⟩) ?_
  refine s_aload_n (q := 44) d_C_join_43 rfl rfl (Or.inr ⟨_, rfl⟩) ?_
  refine s_iconst (v := 1) (q := 45) d_C_join_44 rfl ki_1 ?_
  refine s_iconst (v := 0) (q := 46) d_C_join_45 rfl ki_0 ?_
  refine g_callV (q := 49) d_C_join_46 rfl ml_C_139 mx_C_knownPairs mv_C_knownPairs (t_C_knownPairs hT0 hT1 (by decide) (by decide) k0 k1) hC.1 rfl rfl (Nat.le_of_ble_eq_true rfl) (by decide) ?_
  refine s_istore (q := 51) d_C_join_49 rfl (by decide) ?_
  refine s_iload_n (q := 52) d_C_join_51 rfl rfl ?_
  refine s_if_ne (tgt := 58) (q := 55) d_C_join_52 (by decide) rfl (fun z9 => absurd rfl z9) (fun _ => ?_)
  refine s_iload (q := 57) d_C_join_55 rfl rfl ?_
  exact g_iret d_C_join_57 rfl rfl rfl rfl
theorem sumI_congr {f g : Nat → Int32} {n : Nat} (h : ∀ i, i < n → f i = g i) : sumI f n = sumI g n := by
  induction n with
  | zero => rfl
  | succ n ih => unfold sumI; rw [ih (fun i hi => h i (by omega)), h n (by omega)]
theorem t_C_join_1 {X : RAM} (s0 : ¬ X 4 3 = 0) (s1 : ¬ X 59 3 = 0) (k0 : okZK X 4) (k1 : okZK X 59) : CG l D ac b y_C_join c_C_join 7 (some .int) 3 75 [.ref 0, .int 1] X (some (.int (kpT X 4 59 1 0 + (rwT X 4 - knT X 4) * rwT X 59 + knT X 4 * (rwT X 59 - knT X 59)))) (kcX X 4) := by
  refine Ct_of false (by decide) (fun h => by cases h) (Nat.le_of_ble_eq_true rfl) ?_
  show V l D ac b "SpanStore" c_C_join 7 (some .int) false 3 75 0 0 ((some (.int (kpT X 4 59 1 0 + (rwT X 4 - knT X 4) * rwT X 59 + knT X 4 * (rwT X 59 - knT X 59)))), 144, mk (kcX X 4)) 0 0 0 [(0, .ref 0), (1, .int 1)] [] 144 (mk X)
  refine s_iload_n (q := 1) d_C_join_0 rfl rfl ?_
  refine g_callS (q := 4) d_C_join_1 rfl ml_C_124 mx_C_isEnd ms_C_isEnd t_C_isEnd rfl rfl (Nat.le_of_ble_eq_true rfl) (by decide) ?_
  refine s_if_ne (tgt := 10) (q := 7) d_C_join_4 (by decide) rfl (fun _ => ?_) (fun z9 => absurd z9 (by decide))
  refine s_aload_n (q := 11) d_C_join_10 rfl rfl (Or.inr ⟨_, rfl⟩) ?_
  refine g_getr (q := 14) d_C_join_11 rfl fl_C_11 hC.1 rfl ?_
  refine s_iconst (v := 0) (q := 15) d_C_join_14 rfl ki_0 ?_
  refine g_aald (q := 16) d_C_join_15 rfl hC.2.1 (by decide) rfl (by decide) (rfl : (0 : Int32) = nI 0) (by decide) (if_pos (by decide : 0 < 2)) ?_
  refine s_astore_n (q := 17) d_C_join_16 rfl (by decide) (Or.inr ⟨_, rfl⟩) ?_
  refine s_aload_n (q := 18) d_C_join_17 rfl rfl (Or.inr ⟨_, rfl⟩) ?_
  refine g_getr (q := 21) d_C_join_18 rfl fl_C_11 hC.1 rfl ?_
  refine s_iconst (v := 1) (q := 22) d_C_join_21 rfl ki_1 ?_
  refine g_aald (q := 23) d_C_join_22 rfl hC.2.1 (by decide) rfl (by decide) (rfl : (1 : Int32) = nI 1) (by decide) (if_pos (by decide : 1 < 2)) ?_
  refine s_astore_n (q := 24) d_C_join_23 rfl (by decide) (Or.inr ⟨_, rfl⟩) ?_
  refine s_aload_n (q := 25) d_C_join_24 rfl rfl (Or.inr ⟨_, rfl⟩) ?_
  refine g_geti (q := 28) d_C_join_25 rfl fl_C_39 (hC.2.2.2.2.1 _ (by decide : 0 < 2)).1 rfl ?_
  refine s_if_eq (tgt := 38) (q := 31) d_C_join_28 (by decide) rfl (fun z9 => absurd z9 s0) (fun _ => ?_)
  refine s_aload_n (q := 32) d_C_join_31 rfl rfl (Or.inr ⟨_, rfl⟩) ?_
  refine g_geti (q := 35) d_C_join_32 rfl fl_C_39 (hC.2.2.2.2.1 _ (by decide : 1 < 2)).1 rfl ?_
  refine s_if_ne (tgt := 41) (q := 38) d_C_join_35 (by decide) rfl (fun _ => ?_) (fun z9 => absurd z9 s1)
  refine s_aload_n (q := 42) d_C_join_41 rfl rfl (Or.inr ⟨_, rfl⟩) ?_
  refine s_aload_n (q := 43) d_C_join_42 rfl rfl (Or.inr ⟨_, rfl⟩) ?_
  refine s_aload_n (q := 44) d_C_join_43 rfl rfl (Or.inr ⟨_, rfl⟩) ?_
  refine s_iconst (v := 1) (q := 45) d_C_join_44 rfl ki_1 ?_
  refine s_iconst (v := 0) (q := 46) d_C_join_45 rfl ki_0 ?_
  refine g_callV (q := 49) d_C_join_46 rfl ml_C_139 mx_C_knownPairs mv_C_knownPairs (t_C_knownPairs hT0 hT1 (by decide) (by decide) k0 k1) hC.1 rfl rfl (Nat.le_of_ble_eq_true rfl) (by decide) ?_
  refine s_istore (q := 51) d_C_join_49 rfl (by decide) ?_
  refine s_iload_n (q := 52) d_C_join_51 rfl rfl ?_
  refine s_if_ne (tgt := 58) (q := 55) d_C_join_52 (by decide) rfl (fun _ => ?_) (fun z9 => absurd z9 (by decide))
  refine s_aload_n (q := 59) d_C_join_58 rfl rfl (Or.inr ⟨_, rfl⟩) ?_
  refine g_callV (q := 62) d_C_join_59 rfl ml_C_84 mx_T_rows mv_T_rows (t_T_rows hT0) (hC.2.2.2.2.1 _ (by decide : 0 < 2)).1 rfl rfl (Nat.le_of_ble_eq_true rfl) (by decide) ?_
  refine s_aload_n (q := 63) d_C_join_62 rfl rfl (Or.inr ⟨_, rfl⟩) ?_
  refine g_callV (q := 66) d_C_join_63 rfl ml_C_80 mx_T_knownRows mv_T_knownRows (t_T_knownRows hT0) (hC.2.2.2.2.1 _ (by decide : 0 < 2)).1 rfl rfl (Nat.le_of_ble_eq_true rfl) (by decide) ?_
  refine s_isub (q := 67) d_C_join_66 rfl ?_
  refine s_istore (q := 69) d_C_join_67 rfl (by decide) ?_
  refine s_aload_n (q := 70) d_C_join_69 rfl rfl (Or.inr ⟨_, rfl⟩) ?_
  refine g_callV (q := 73) d_C_join_70 rfl ml_C_84 mx_T_rows mv_T_rows (t_T_rows hT1) (hC.2.2.2.2.1 _ (by decide : 1 < 2)).1 rfl rfl (Nat.le_of_ble_eq_true rfl) (by decide) ?_
  refine s_aload_n (q := 74) d_C_join_73 rfl rfl (Or.inr ⟨_, rfl⟩) ?_
  refine g_callV (q := 77) d_C_join_74 rfl ml_C_80 mx_T_knownRows mv_T_knownRows (t_T_knownRows hT1) (hC.2.2.2.2.1 _ (by decide : 1 < 2)).1 rfl rfl (Nat.le_of_ble_eq_true rfl) (by decide) ?_
  refine s_isub (q := 78) d_C_join_77 rfl ?_
  refine s_istore (q := 80) d_C_join_78 rfl (by decide) ?_
  refine s_iload (q := 82) d_C_join_80 rfl rfl ?_
  refine s_iload (q := 84) d_C_join_82 rfl rfl ?_
  refine s_aload_n (q := 85) d_C_join_84 rfl rfl (Or.inr ⟨_, rfl⟩) ?_
  refine g_callV (q := 88) d_C_join_85 rfl ml_C_84 mx_T_rows mv_T_rows (t_T_rows hT1) (hC.2.2.2.2.1 _ (by decide : 1 < 2)).1 rfl rfl (Nat.le_of_ble_eq_true rfl) (by decide) ?_
  refine s_imul (q := 89) d_C_join_88 rfl ?_
  refine s_iadd (q := 90) d_C_join_89 rfl ?_
  refine s_aload_n (q := 91) d_C_join_90 rfl rfl (Or.inr ⟨_, rfl⟩) ?_
  refine g_callV (q := 94) d_C_join_91 rfl ml_C_80 mx_T_knownRows mv_T_knownRows (t_T_knownRows hT0) (hC.2.2.2.2.1 _ (by decide : 0 < 2)).1 rfl rfl (Nat.le_of_ble_eq_true rfl) (by decide) ?_
  refine s_iload (q := 96) d_C_join_94 rfl rfl ?_
  refine s_imul (q := 97) d_C_join_96 rfl ?_
  refine s_iadd (q := 98) d_C_join_97 rfl ?_
  exact g_iret d_C_join_98 rfl rfl (by rw [show sumI (fun j => kcX X 4 (4 + 3 + 6 * j) 5) 8 = rwT X 4 from sumI_congr (fun j hj => by rw [kcX_ne (by omega)]), show sumI (fun j => kcX X 4 (4 + 3 + 6 * j) 6) 8 = knT X 4 from sumI_congr (fun j hj => by rw [kcX_ne (by omega)]), show sumI (fun j => kcX X 4 (59 + 3 + 6 * j) 5) 8 = rwT X 59 from sumI_congr (fun j hj => by rw [kcX_ne (by omega)]), show sumI (fun j => kcX X 4 (59 + 3 + 6 * j) 6) 8 = knT X 59 from sumI_congr (fun j hj => by rw [kcX_ne (by omega)])]) rfl
abbrev ModOK (a c : Int32) : Prop := (1 ≤ a ∧ a ≤ 100) ∧ ¬ c < 0 ∧ c < a
theorem t_C_part_M {X : RAM} {a c : Int32} (hm : ¬ ModOK a c) : CG l D ac b y_C_part c_C_part 5 (some .int) 3 75 [.ref 0, .int a, .int c] X (some (.int (-2))) (X) := by
  refine Ct_of false (by decide) (fun h => by cases h) (Nat.le_of_ble_eq_true rfl) ?_
  show V l D ac b "SpanStore" c_C_part 5 (some .int) false 3 75 0 0 ((some (.int (-2))), 144, mk (X)) 0 0 0 [(0, .ref 0), (1, .int a), (2, .int c)] [] 144 (mk X)
  refine s_iload_n (q := 1) d_C_part_0 rfl rfl ?_
  refine s_iload_n (q := 2) d_C_part_1 rfl rfl ?_
  refine g_callS (q := 5) d_C_part_2 rfl ml_C_143 mx_C_isModulus ms_C_isModulus t_C_isModulus rfl rfl (Nat.le_of_ble_eq_true rfl) (by decide) ?_
  refine s_if_ne (tgt := 11) (q := 8) d_C_part_5 (by decide) rfl (fun z9 => absurd (bI_d.mpr hm) z9) (fun _ => ?_)
  refine s_bipush (v := (-2)) (q := 10) d_C_part_8 rfl kb_m2 ?_
  exact g_iret d_C_part_10 rfl rfl rfl rfl
theorem t_C_part_S {X : RAM} {a c : Int32} (hm : ModOK a c) (hs : ¬ (¬ X 4 3 = 0 ∧ ¬ X 59 3 = 0)) : CG l D ac b y_C_part c_C_part 5 (some .int) 3 75 [.ref 0, .int a, .int c] X (some (.int (-3))) (X) := by
  refine Ct_of false (by decide) (fun h => by cases h) (Nat.le_of_ble_eq_true rfl) ?_
  show V l D ac b "SpanStore" c_C_part 5 (some .int) false 3 75 0 0 ((some (.int (-3))), 144, mk (X)) 0 0 0 [(0, .ref 0), (1, .int a), (2, .int c)] [] 144 (mk X)
  refine s_iload_n (q := 1) d_C_part_0 rfl rfl ?_
  refine s_iload_n (q := 2) d_C_part_1 rfl rfl ?_
  refine g_callS (q := 5) d_C_part_2 rfl ml_C_143 mx_C_isModulus ms_C_isModulus t_C_isModulus rfl rfl (Nat.le_of_ble_eq_true rfl) (by decide) ?_
  refine s_if_ne (tgt := 11) (q := 8) d_C_part_5 (by decide) rfl (fun _ => ?_) (fun z9 => absurd z9 (bI_dn.mpr hm))
  refine s_aload_n (q := 12) d_C_part_11 rfl rfl (Or.inr ⟨_, rfl⟩) ?_
  refine g_getr (q := 15) d_C_part_12 rfl fl_C_11 hC.1 rfl ?_
  refine s_iconst (v := 0) (q := 16) d_C_part_15 rfl ki_0 ?_
  refine g_aald (q := 17) d_C_part_16 rfl hC.2.1 (by decide) rfl (by decide) (rfl : (0 : Int32) = nI 0) (by decide) (if_pos (by decide : 0 < 2)) ?_
  refine s_astore_n (q := 18) d_C_part_17 rfl (by decide) (Or.inr ⟨_, rfl⟩) ?_
  refine s_aload_n (q := 19) d_C_part_18 rfl rfl (Or.inr ⟨_, rfl⟩) ?_
  refine g_getr (q := 22) d_C_part_19 rfl fl_C_11 hC.1 rfl ?_
  refine s_iconst (v := 1) (q := 23) d_C_part_22 rfl ki_1 ?_
  refine g_aald (q := 24) d_C_part_23 rfl hC.2.1 (by decide) rfl (by decide) (rfl : (1 : Int32) = nI 1) (by decide) (if_pos (by decide : 1 < 2)) ?_
  refine s_astore (q := 26) d_C_part_24 rfl (by decide) (Or.inr ⟨_, rfl⟩) ?_
  refine s_aload_n (q := 27) d_C_part_26 rfl rfl (Or.inr ⟨_, rfl⟩) ?_
  refine g_geti (q := 30) d_C_part_27 rfl fl_C_39 (hC.2.2.2.2.1 _ (by decide : 0 < 2)).1 rfl ?_
  refine s_if_eq (tgt := 41) (q := 33) d_C_part_30 (by decide) rfl (fun h_30 => ?_) (fun h_30 => ?_)
  · -- T 30
    refine s_bipush (v := (-3)) (q := 43) d_C_part_41 rfl kb_m3 ?_
    exact g_iret d_C_part_43 rfl rfl rfl rfl
  · -- F 30
    refine s_aload (q := 35) d_C_part_33 rfl rfl (Or.inr ⟨_, rfl⟩) ?_
    refine g_geti (q := 38) d_C_part_35 rfl fl_C_39 (hC.2.2.2.2.1 _ (by decide : 1 < 2)).1 rfl ?_
    refine s_if_ne (tgt := 44) (q := 41) d_C_part_38 (by decide) rfl (fun h_38 => ?_) (fun h_38 => ?_)
    · -- T 38
      exact absurd ⟨h_30, h_38⟩ hs --done
    · -- F 38
      refine s_bipush (v := (-3)) (q := 43) d_C_part_41 rfl kb_m3 ?_
      exact g_iret d_C_part_43 rfl rfl rfl rfl
theorem t_C_part_N {X : RAM} {a c : Int32} {q0 q1 : Nat} (hm : ModOK a c) (s0 : ¬ X 4 3 = 0) (s1 : ¬ X 59 3 = 0) (c0 : X 4 2 = nI q0) (d0 : q0 ≤ 4) (c1 : X 59 2 = nI q1) (d1 : q1 ≤ 4) (hk : ¬ (anyB (hkP X 4 a c) q0 = true ∧ anyB (hkP X 59 a c) q1 = true)) : CG l D ac b y_C_part c_C_part 5 (some .int) 3 75 [.ref 0, .int a, .int c] X (some (.int (-5))) (X) := by
  refine Ct_of false (by decide) (fun h => by cases h) (Nat.le_of_ble_eq_true rfl) ?_
  show V l D ac b "SpanStore" c_C_part 5 (some .int) false 3 75 0 0 ((some (.int (-5))), 144, mk (X)) 0 0 0 [(0, .ref 0), (1, .int a), (2, .int c)] [] 144 (mk X)
  refine s_iload_n (q := 1) d_C_part_0 rfl rfl ?_
  refine s_iload_n (q := 2) d_C_part_1 rfl rfl ?_
  refine g_callS (q := 5) d_C_part_2 rfl ml_C_143 mx_C_isModulus ms_C_isModulus t_C_isModulus rfl rfl (Nat.le_of_ble_eq_true rfl) (by decide) ?_
  refine s_if_ne (tgt := 11) (q := 8) d_C_part_5 (by decide) rfl (fun _ => ?_) (fun z9 => absurd z9 (bI_dn.mpr hm))
  refine s_aload_n (q := 12) d_C_part_11 rfl rfl (Or.inr ⟨_, rfl⟩) ?_
  refine g_getr (q := 15) d_C_part_12 rfl fl_C_11 hC.1 rfl ?_
  refine s_iconst (v := 0) (q := 16) d_C_part_15 rfl ki_0 ?_
  refine g_aald (q := 17) d_C_part_16 rfl hC.2.1 (by decide) rfl (by decide) (rfl : (0 : Int32) = nI 0) (by decide) (if_pos (by decide : 0 < 2)) ?_
  refine s_astore_n (q := 18) d_C_part_17 rfl (by decide) (Or.inr ⟨_, rfl⟩) ?_
  refine s_aload_n (q := 19) d_C_part_18 rfl rfl (Or.inr ⟨_, rfl⟩) ?_
  refine g_getr (q := 22) d_C_part_19 rfl fl_C_11 hC.1 rfl ?_
  refine s_iconst (v := 1) (q := 23) d_C_part_22 rfl ki_1 ?_
  refine g_aald (q := 24) d_C_part_23 rfl hC.2.1 (by decide) rfl (by decide) (rfl : (1 : Int32) = nI 1) (by decide) (if_pos (by decide : 1 < 2)) ?_
  refine s_astore (q := 26) d_C_part_24 rfl (by decide) (Or.inr ⟨_, rfl⟩) ?_
  refine s_aload_n (q := 27) d_C_part_26 rfl rfl (Or.inr ⟨_, rfl⟩) ?_
  refine g_geti (q := 30) d_C_part_27 rfl fl_C_39 (hC.2.2.2.2.1 _ (by decide : 0 < 2)).1 rfl ?_
  refine s_if_eq (tgt := 41) (q := 33) d_C_part_30 (by decide) rfl (fun z9 => absurd z9 s0) (fun _ => ?_)
  refine s_aload (q := 35) d_C_part_33 rfl rfl (Or.inr ⟨_, rfl⟩) ?_
  refine g_geti (q := 38) d_C_part_35 rfl fl_C_39 (hC.2.2.2.2.1 _ (by decide : 1 < 2)).1 rfl ?_
  refine s_if_ne (tgt := 44) (q := 41) d_C_part_38 (by decide) rfl (fun _ => ?_) (fun z9 => absurd z9 s1)
  refine s_aload_n (q := 45) d_C_part_44 rfl rfl (Or.inr ⟨_, rfl⟩) ?_
  refine s_iload_n (q := 46) d_C_part_45 rfl rfl ?_
  refine s_iload_n (q := 47) d_C_part_46 rfl rfl ?_
  refine g_callV (q := 50) d_C_part_47 rfl ml_C_147 mx_T_hasKeyed mv_T_hasKeyed (t_T_hasKeyed hT0 c0 d0) (hC.2.2.2.2.1 _ (by decide : 0 < 2)).1 rfl rfl (Nat.le_of_ble_eq_true rfl) (by decide) ?_
  refine s_if_eq (tgt := 63) (q := 53) d_C_part_50 (by decide) rfl (fun h_50 => ?_) (fun h_50 => ?_)
  · -- T 50
    refine s_bipush (v := (-5)) (q := 65) d_C_part_63 rfl kb_m5 ?_
    exact g_iret d_C_part_65 rfl rfl rfl rfl
  · -- F 50
    refine s_aload (q := 55) d_C_part_53 rfl rfl (Or.inr ⟨_, rfl⟩) ?_
    refine s_iload_n (q := 56) d_C_part_55 rfl rfl ?_
    refine s_iload_n (q := 57) d_C_part_56 rfl rfl ?_
    refine g_callV (q := 60) d_C_part_57 rfl ml_C_147 mx_T_hasKeyed mv_T_hasKeyed (t_T_hasKeyed hT1 c1 d1) (hC.2.2.2.2.1 _ (by decide : 1 < 2)).1 rfl rfl (Nat.le_of_ble_eq_true rfl) (by decide) ?_
    refine s_if_ne (tgt := 66) (q := 63) d_C_part_60 (by decide) rfl (fun h_60 => ?_) (fun h_60 => ?_)
    · -- T 60
      exact absurd ⟨bI_n0.mp h_50, bI_n0.mp h_60⟩ hk --done
    · -- F 60
      refine s_bipush (v := (-5)) (q := 65) d_C_part_63 rfl kb_m5 ?_
      exact g_iret d_C_part_65 rfl rfl rfl rfl
theorem t_C_part_D {X : RAM} {a c : Int32} {q0 q1 : Nat} (hm : ModOK a c) (s0 : ¬ X 4 3 = 0) (s1 : ¬ X 59 3 = 0) (c0 : X 4 2 = nI q0) (d0 : q0 ≤ 4) (c1 : X 59 2 = nI q1) (d1 : q1 ≤ 4) (e0 : anyB (hkP X 4 a c) q0 = true) (e1 : anyB (hkP X 59 a c) q1 = true) (k0 : okZK X 4) (k1 : okZK X 59) : CG l D ac b y_C_part c_C_part 5 (some .int) 3 75 [.ref 0, .int a, .int c] X (some (.int (kpT X 4 59 a c))) (kcX X 4) := by
  refine Ct_of false (by decide) (fun h => by cases h) (Nat.le_of_ble_eq_true rfl) ?_
  show V l D ac b "SpanStore" c_C_part 5 (some .int) false 3 75 0 0 ((some (.int (kpT X 4 59 a c))), 144, mk (kcX X 4)) 0 0 0 [(0, .ref 0), (1, .int a), (2, .int c)] [] 144 (mk X)
  refine s_iload_n (q := 1) d_C_part_0 rfl rfl ?_
  refine s_iload_n (q := 2) d_C_part_1 rfl rfl ?_
  refine g_callS (q := 5) d_C_part_2 rfl ml_C_143 mx_C_isModulus ms_C_isModulus t_C_isModulus rfl rfl (Nat.le_of_ble_eq_true rfl) (by decide) ?_
  refine s_if_ne (tgt := 11) (q := 8) d_C_part_5 (by decide) rfl (fun _ => ?_) (fun z9 => absurd z9 (bI_dn.mpr hm))
  refine s_aload_n (q := 12) d_C_part_11 rfl rfl (Or.inr ⟨_, rfl⟩) ?_
  refine g_getr (q := 15) d_C_part_12 rfl fl_C_11 hC.1 rfl ?_
  refine s_iconst (v := 0) (q := 16) d_C_part_15 rfl ki_0 ?_
  refine g_aald (q := 17) d_C_part_16 rfl hC.2.1 (by decide) rfl (by decide) (rfl : (0 : Int32) = nI 0) (by decide) (if_pos (by decide : 0 < 2)) ?_
  refine s_astore_n (q := 18) d_C_part_17 rfl (by decide) (Or.inr ⟨_, rfl⟩) ?_
  refine s_aload_n (q := 19) d_C_part_18 rfl rfl (Or.inr ⟨_, rfl⟩) ?_
  refine g_getr (q := 22) d_C_part_19 rfl fl_C_11 hC.1 rfl ?_
  refine s_iconst (v := 1) (q := 23) d_C_part_22 rfl ki_1 ?_
  refine g_aald (q := 24) d_C_part_23 rfl hC.2.1 (by decide) rfl (by decide) (rfl : (1 : Int32) = nI 1) (by decide) (if_pos (by decide : 1 < 2)) ?_
  refine s_astore (q := 26) d_C_part_24 rfl (by decide) (Or.inr ⟨_, rfl⟩) ?_
  refine s_aload_n (q := 27) d_C_part_26 rfl rfl (Or.inr ⟨_, rfl⟩) ?_
  refine g_geti (q := 30) d_C_part_27 rfl fl_C_39 (hC.2.2.2.2.1 _ (by decide : 0 < 2)).1 rfl ?_
  refine s_if_eq (tgt := 41) (q := 33) d_C_part_30 (by decide) rfl (fun z9 => absurd z9 s0) (fun _ => ?_)
  refine s_aload (q := 35) d_C_part_33 rfl rfl (Or.inr ⟨_, rfl⟩) ?_
  refine g_geti (q := 38) d_C_part_35 rfl fl_C_39 (hC.2.2.2.2.1 _ (by decide : 1 < 2)).1 rfl ?_
  refine s_if_ne (tgt := 44) (q := 41) d_C_part_38 (by decide) rfl (fun _ => ?_) (fun z9 => absurd z9 s1)
  refine s_aload_n (q := 45) d_C_part_44 rfl rfl (Or.inr ⟨_, rfl⟩) ?_
  refine s_iload_n (q := 46) d_C_part_45 rfl rfl ?_
  refine s_iload_n (q := 47) d_C_part_46 rfl rfl ?_
  refine g_callV (q := 50) d_C_part_47 rfl ml_C_147 mx_T_hasKeyed mv_T_hasKeyed (t_T_hasKeyed hT0 c0 d0) (hC.2.2.2.2.1 _ (by decide : 0 < 2)).1 rfl rfl (Nat.le_of_ble_eq_true rfl) (by decide) ?_
  refine s_if_eq (tgt := 63) (q := 53) d_C_part_50 (by decide) rfl (fun z9 => absurd z9 (bI_n0.mpr e0)) (fun _ => ?_)
  refine s_aload (q := 55) d_C_part_53 rfl rfl (Or.inr ⟨_, rfl⟩) ?_
  refine s_iload_n (q := 56) d_C_part_55 rfl rfl ?_
  refine s_iload_n (q := 57) d_C_part_56 rfl rfl ?_
  refine g_callV (q := 60) d_C_part_57 rfl ml_C_147 mx_T_hasKeyed mv_T_hasKeyed (t_T_hasKeyed hT1 c1 d1) (hC.2.2.2.2.1 _ (by decide : 1 < 2)).1 rfl rfl (Nat.le_of_ble_eq_true rfl) (by decide) ?_
  refine s_if_ne (tgt := 66) (q := 63) d_C_part_60 (by decide) rfl (fun _ => ?_) (fun z9 => absurd z9 (bI_n0.mpr e1))
  refine s_aload_n (q := 67) d_C_part_66 rfl rfl (Or.inr ⟨_, rfl⟩) ?_
  refine s_aload_n (q := 68) d_C_part_67 rfl rfl (Or.inr ⟨_, rfl⟩) ?_
  refine s_aload (q := 70) d_C_part_68 rfl rfl (Or.inr ⟨_, rfl⟩) ?_
  refine s_iload_n (q := 71) d_C_part_70 rfl rfl ?_
  refine s_iload_n (q := 72) d_C_part_71 rfl rfl ?_
  refine g_callV (q := 75) d_C_part_72 rfl ml_C_139 mx_C_knownPairs mv_C_knownPairs (t_C_knownPairs hT0 hT1 (by decide) (by decide) k0 k1) hC.1 rfl rfl (Nat.le_of_ble_eq_true rfl) (by decide) ?_
  exact g_iret d_C_part_75 rfl rfl rfl rfl
theorem t_C_next_T {X : RAM} {x g : Int32} (hx : x < 0 ∨ 2 ≤ x) : CG l D ac b y_C_next c_C_next 4 (some .int) 6 136 [.ref 0, .int x, .int g] X (some (.int (-2))) (X) := by
  refine Ct_of false (by decide) (fun h => by cases h) (Nat.le_of_ble_eq_true rfl) ?_
  show V l D ac b "SpanStore" c_C_next 4 (some .int) false 6 136 0 0 ((some (.int (-2))), 144, mk (X)) 0 0 0 [(0, .ref 0), (1, .int x), (2, .int g)] [] 144 (mk X)
  refine s_aload_n (q := 1) d_C_next_0 rfl rfl (Or.inr ⟨_, rfl⟩) ?_
  refine s_iload_n (q := 2) d_C_next_1 rfl rfl ?_
  refine g_callV (q := 5) d_C_next_2 rfl ml_C_27 mx_C_tableAt mv_C_tableAt (t_C_tableAt_no hx) hC.1 rfl rfl (Nat.le_of_ble_eq_true rfl) (by decide) ?_
  refine s_astore_n (q := 6) d_C_next_5 rfl (by decide) (Or.inl rfl) ?_
  refine s_aload_n (q := 7) d_C_next_6 rfl rfl (Or.inl rfl) ?_
  refine s_ifnull_n (tgt := 17) d_C_next_7 (by decide) ?_
  refine s_bipush (v := (-2)) (q := 19) d_C_next_17 rfl kb_m2 ?_
  exact g_iret d_C_next_19 rfl rfl rfl rfl
theorem t_C_next_G {X : RAM} {t : Nat} {g : Int32} (ht : t < 2) (hg : ¬ GrpOK g) : CG l D ac b y_C_next c_C_next 4 (some .int) 6 136 [.ref 0, .int (nI t), .int g] X (some (.int (-2))) (X) := by
  refine Ct_of false (by decide) (fun h => by cases h) (Nat.le_of_ble_eq_true rfl) ?_
  show V l D ac b "SpanStore" c_C_next 4 (some .int) false 6 136 0 0 ((some (.int (-2))), 144, mk (X)) 0 0 0 [(0, .ref 0), (1, .int (nI t)), (2, .int g)] [] 144 (mk X)
  refine s_aload_n (q := 1) d_C_next_0 rfl rfl (Or.inr ⟨_, rfl⟩) ?_
  refine s_iload_n (q := 2) d_C_next_1 rfl rfl ?_
  refine g_callV (q := 5) d_C_next_2 rfl ml_C_27 mx_C_tableAt mv_C_tableAt (t_C_tableAt_ok ht) hC.1 rfl rfl (Nat.le_of_ble_eq_true rfl) (by decide) ?_
  refine s_astore_n (q := 6) d_C_next_5 rfl (by decide) (Or.inr ⟨_, rfl⟩) ?_
  refine s_aload_n (q := 7) d_C_next_6 rfl rfl (Or.inr ⟨_, rfl⟩) ?_
  refine s_ifnull_r (q := 10) d_C_next_7 rfl ?_
  refine s_iload_n (q := 11) d_C_next_10 rfl rfl ?_
  refine g_callS (q := 14) d_C_next_11 rfl ml_C_121 mx_C_isGroupOrAll ms_C_isGroupOrAll t_C_isGroupOrAll rfl rfl (Nat.le_of_ble_eq_true rfl) (by decide) ?_
  refine s_if_ne (tgt := 20) (q := 17) d_C_next_14 (by decide) rfl (fun z9 => absurd (bI_d.mpr hg) z9) (fun _ => ?_)
  refine s_bipush (v := (-2)) (q := 19) d_C_next_17 rfl kb_m2 ?_
  exact g_iret d_C_next_19 rfl rfl rfl rfl
theorem t_C_next_S {X : RAM} {t : Nat} {g : Int32} (ht : t < 2) (hg : GrpOK g) (hs : X (4 + 55 * t) 3 = 0) : CG l D ac b y_C_next c_C_next 4 (some .int) 6 136 [.ref 0, .int (nI t), .int g] X (some (.int (-3))) (X) := by
  refine Ct_of false (by decide) (fun h => by cases h) (Nat.le_of_ble_eq_true rfl) ?_
  show V l D ac b "SpanStore" c_C_next 4 (some .int) false 6 136 0 0 ((some (.int (-3))), 144, mk (X)) 0 0 0 [(0, .ref 0), (1, .int (nI t)), (2, .int g)] [] 144 (mk X)
  refine s_aload_n (q := 1) d_C_next_0 rfl rfl (Or.inr ⟨_, rfl⟩) ?_
  refine s_iload_n (q := 2) d_C_next_1 rfl rfl ?_
  refine g_callV (q := 5) d_C_next_2 rfl ml_C_27 mx_C_tableAt mv_C_tableAt (t_C_tableAt_ok ht) hC.1 rfl rfl (Nat.le_of_ble_eq_true rfl) (by decide) ?_
  refine s_astore_n (q := 6) d_C_next_5 rfl (by decide) (Or.inr ⟨_, rfl⟩) ?_
  refine s_aload_n (q := 7) d_C_next_6 rfl rfl (Or.inr ⟨_, rfl⟩) ?_
  refine s_ifnull_r (q := 10) d_C_next_7 rfl ?_
  refine s_iload_n (q := 11) d_C_next_10 rfl rfl ?_
  refine g_callS (q := 14) d_C_next_11 rfl ml_C_121 mx_C_isGroupOrAll ms_C_isGroupOrAll t_C_isGroupOrAll rfl rfl (Nat.le_of_ble_eq_true rfl) (by decide) ?_
  refine s_if_ne (tgt := 20) (q := 17) d_C_next_14 (by decide) rfl (fun _ => ?_) (fun z9 => absurd z9 (bI_dn.mpr hg))
  refine s_aload_n (q := 21) d_C_next_20 rfl rfl (Or.inr ⟨_, rfl⟩) ?_
  refine g_geti (q := 24) d_C_next_21 rfl fl_C_39 (hC.2.2.2.2.1 _ ht).1 rfl ?_
  refine s_if_ne (tgt := 30) (q := 27) d_C_next_24 (by decide) rfl (fun z9 => absurd hs z9) (fun _ => ?_)
  refine s_bipush (v := (-3)) (q := 29) d_C_next_27 rfl kb_m3 ?_
  exact g_iret d_C_next_29 rfl rfl rfl rfl
theorem t_C_next_D {X : RAM} {t : Nat} {g : Int32} (ht : t < 2) (hg : GrpOK g) (hs : ¬ X (4 + 55 * t) 3 = 0) (hZ : okZ X (4 + 55 * t)) : CG l D ac b y_C_next c_C_next 4 (some .int) 6 136 [.ref 0, .int (nI t), .int g] X (some (.int (wdT X (4 + 55 * t) g))) (X) := by
  refine Ct_of false (by decide) (fun h => by cases h) (Nat.le_of_ble_eq_true rfl) ?_
  show V l D ac b "SpanStore" c_C_next 4 (some .int) false 6 136 0 0 ((some (.int (wdT X (4 + 55 * t) g))), 144, mk (X)) 0 0 0 [(0, .ref 0), (1, .int (nI t)), (2, .int g)] [] 144 (mk X)
  refine s_aload_n (q := 1) d_C_next_0 rfl rfl (Or.inr ⟨_, rfl⟩) ?_
  refine s_iload_n (q := 2) d_C_next_1 rfl rfl ?_
  refine g_callV (q := 5) d_C_next_2 rfl ml_C_27 mx_C_tableAt mv_C_tableAt (t_C_tableAt_ok ht) hC.1 rfl rfl (Nat.le_of_ble_eq_true rfl) (by decide) ?_
  refine s_astore_n (q := 6) d_C_next_5 rfl (by decide) (Or.inr ⟨_, rfl⟩) ?_
  refine s_aload_n (q := 7) d_C_next_6 rfl rfl (Or.inr ⟨_, rfl⟩) ?_
  refine s_ifnull_r (q := 10) d_C_next_7 rfl ?_
  refine s_iload_n (q := 11) d_C_next_10 rfl rfl ?_
  refine g_callS (q := 14) d_C_next_11 rfl ml_C_121 mx_C_isGroupOrAll ms_C_isGroupOrAll t_C_isGroupOrAll rfl rfl (Nat.le_of_ble_eq_true rfl) (by decide) ?_
  refine s_if_ne (tgt := 20) (q := 17) d_C_next_14 (by decide) rfl (fun _ => ?_) (fun z9 => absurd z9 (bI_dn.mpr hg))
  refine s_aload_n (q := 21) d_C_next_20 rfl rfl (Or.inr ⟨_, rfl⟩) ?_
  refine g_geti (q := 24) d_C_next_21 rfl fl_C_39 (hC.2.2.2.2.1 _ ht).1 rfl ?_
  refine s_if_ne (tgt := 30) (q := 27) d_C_next_24 (by decide) rfl (fun _ => ?_) (fun z9 => absurd z9 hs)
  refine s_aload_n (q := 31) d_C_next_30 rfl rfl (Or.inr ⟨_, rfl⟩) ?_
  refine s_iload_n (q := 32) d_C_next_31 rfl rfl ?_
  refine g_callV (q := 35) d_C_next_32 rfl ml_C_150 mx_T_widestBlock mv_T_widestBlock (t_T_widest (hC.2.2.2.2.1 _ ht) hZ) (hC.2.2.2.2.1 _ ht).1 rfl rfl (Nat.le_of_ble_eq_true rfl) (by decide) ?_
  exact g_iret d_C_next_35 rfl rfl rfl rfl
end P12
