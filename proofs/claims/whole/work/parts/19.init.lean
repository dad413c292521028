section P19
variable {l : Launch} {D : va_G} {ac : Nat → ClassId} {b : Nat}
def blk0 : List Value := [.null, .null, .null, .null, .null, .int 0, .int 0, .int 0, .int 0, .int 0, .int 0, .int 0, .int 0, .int 0]
theorem bl0 : ∀ j, j < fN 0 → defaultValue (fY 0 j) = vp_V blk0 j := by
  intro j hj
  rcases (show j = 0 ∨ j = 1 ∨ j = 2 ∨ j = 3 ∨ j = 4 ∨ j = 5 ∨ j = 6 ∨ j = 7 ∨ j = 8 ∨ j = 9 ∨ j = 10 ∨ j = 11 ∨ j = 12 ∨ j = 13 by simp only [fN] at hj; omega) with rfl | rfl | rfl | rfl | rfl | rfl | rfl | rfl | rfl | rfl | rfl | rfl | rfl | rfl <;> rfl
def blk1 : List Value := [.int 0, .int 0, .int 0]
theorem bl1 : ∀ j, j < fN 1 → defaultValue (fY 1 j) = vp_V blk1 j := by
  intro j hj
  rcases (show j = 0 ∨ j = 1 ∨ j = 2 by simp only [fN] at hj; omega) with rfl | rfl | rfl <;> rfl
def blk2 : List Value := [.null, .int 0, .int 0, .int 0]
theorem bl2 : ∀ j, j < fN 2 → defaultValue (fY 2 j) = vp_V blk2 j := by
  intro j hj
  rcases (show j = 0 ∨ j = 1 ∨ j = 2 ∨ j = 3 by simp only [fN] at hj; omega) with rfl | rfl | rfl | rfl <;> rfl
def blk3 : List Value := [.null, .null, .int 0, .int 0]
theorem bl3 : ∀ j, j < fN 3 → defaultValue (fY 3 j) = vp_V blk3 j := by
  intro j hj
  rcases (show j = 0 ∨ j = 1 ∨ j = 2 ∨ j = 3 by simp only [fN] at hj; omega) with rfl | rfl | rfl | rfl <;> rfl
def blk4 : List Value := [.null, .null, .null, .int 0, .int 0]
theorem bl4 : ∀ j, j < fN 4 → defaultValue (fY 4 j) = vp_V blk4 j := by
  intro j hj
  rcases (show j = 0 ∨ j = 1 ∨ j = 2 ∨ j = 3 ∨ j = 4 by simp only [fN] at hj; omega) with rfl | rfl | rfl | rfl | rfl <;> rfl
def blk5 : List Value := [.null, .null, .null, .null, .null, .null, .null, .null, .null, .null, .null, .null, .null, .null, .null, .null, .int 0, .null, .null, .null, .null, .null, .int 0]
theorem bl5 : ∀ j, j < fN 5 → defaultValue (fY 5 j) = vp_V blk5 j := by
  intro j hj
  rcases (show j = 0 ∨ j = 1 ∨ j = 2 ∨ j = 3 ∨ j = 4 ∨ j = 5 ∨ j = 6 ∨ j = 7 ∨ j = 8 ∨ j = 9 ∨ j = 10 ∨ j = 11 ∨ j = 12 ∨ j = 13 ∨ j = 14 ∨ j = 15 ∨ j = 16 ∨ j = 17 ∨ j = 18 ∨ j = 19 ∨ j = 20 ∨ j = 21 ∨ j = 22 by simp only [fN] at hj; omega) with rfl | rfl | rfl | rfl | rfl | rfl | rfl | rfl | rfl | rfl | rfl | rfl | rfl | rfl | rfl | rfl | rfl | rfl | rfl | rfl | rfl | rfl | rfl <;> rfl
def X0 : RAM := fun i k => if 114 ≤ i ∧ i < 122 ∧ i % 2 = 0 ∧ k = 3 then 1 else 0
theorem X0_z {i : Nat} (h : i < 114 ∨ 122 ≤ i) (k : Nat) : X0 i k = 0 := if_neg (by omega)
theorem X0_f {i : Nat} (h : i < 114 ∨ 122 ≤ i) : X0 i = fun _ => 0 := funext (X0_z h)
theorem X0_o {i : Nat} (h : i % 2 = 1) : X0 i = fun _ => 0 := by
  funext k
  exact if_neg (by omega)
def pm (M : Mem) (a n : Nat) : Mem := fun i => if a ≤ i ∧ i < a + n then mk X0 i else M i
theorem pm_in {M : Mem} {a n i : Nat} (h : a ≤ i ∧ i < a + n) : pm M a n i = mk X0 i := if_pos h
theorem pm_out {M : Mem} {a n i : Nat} (h : i < a ∨ a + n ≤ i) : pm M a n i = M i := if_neg (by omega)
theorem um_eq {M : Mem} {k : Nat} {e : PE} : um M k e k = e := if_pos rfl
theorem um_ne {M : Mem} {k i : Nat} {e : PE} (h : i ≠ k) : um M k e i = M i := if_neg h
theorem s_cg {own : String} {cc : ByteArray} {nL : Nat} {rt : Option FieldType} {i0 : Bool} {fr lo mc ms : Nat} {r : RS} {cs sl pc cs' sl' N' : Nat} {lv : List (Nat × Value)} {st : List Value} {N : Nat} {M M' : Mem} (h1 : cs = cs') (h2 : sl = sl') (h3 : N = N') (h4 : M = M') (k : V l D ac b own cc nL rt i0 fr lo mc ms r cs' sl' pc lv st N' M') : V l D ac b own cc nL rt i0 fr lo mc ms r cs sl pc lv st N M := by
  subst h1; subst h2; subst h3; subst h4
  exact k
theorem t_K_init {N k : Nat} {M : Mem} : Ct l D ac b y_K_init c_K_init 1 none 1 20 0 0 [.ref k] N M (none, N, M) := by
  refine Ct_of true (by decide) (fun _ => rfl) (Nat.le_of_ble_eq_true rfl) ?_
  show V l D ac b "SpanStore$Keeper" c_K_init 1 none true 1 20 0 0 (none, N, M) 0 0 0 [(0, .ref k)] [] N M
  refine s_aload_n (q := 1) d_K_init_0 rfl rfl (Or.inr ⟨_, rfl⟩) ?_
  refine s_objInit (q := 4) d_K_init_1 rfl ml_K_3 (Nat.le_of_ble_eq_true rfl) (by decide) (by decide) ?_
  refine s_ret d_K_init_4 rfl (by omega) (by omega) ?_
  rfl
theorem t_B_init {o : Nat} {M : Mem} (hB : isB o) (ho : o + 5 < 114) (hA : M o = .inr (0, blk0)) : Ct l D ac b y_B_init c_B_init 1 none 1 20 5 52 [.ref o] (o + 1) M (none, (o + 1 + 5), (pm M o 6)) := by
  refine Ct_of true (by decide) (fun _ => rfl) (Nat.le_of_ble_eq_true rfl) ?_
  show V l D ac b "SpanStore$Block" c_B_init 1 none true 1 20 5 52 (none, (o + 1 + 5), (pm M o 6)) 0 0 0 [(0, .ref o)] [] (o + 1) M
  refine s_aload_n (q := 1) d_B_init_0 rfl rfl (Or.inr ⟨_, rfl⟩) ?_
  refine s_objInit (q := 4) d_B_init_1 rfl ml_B_3 (Nat.le_of_ble_eq_true rfl) (by decide) (by decide) ?_
  refine s_aload_n (q := 5) d_B_init_4 rfl rfl (Or.inr ⟨_, rfl⟩) ?_
  refine s_bipush (v := 12) (q := 7) d_B_init_5 rfl kb_12 ?_
  refine s_newa (t := 0) (n := 12) (q := 9) d_B_init_7 rfl (by decide) rfl ak_int rfl (by decide) (by omega) (by omega) ?_
  refine s_putF (q := 12) (fs := [.null, .null, .null, .null, .null, .int 0, .int 0, .int 0, .int 0, .int 0, .int 0, .int 0, .int 0, .int 0]) rfl d_B_init_9 rfl fl_B_9 ⟨by omega, by simp [um, hA, blk0, Nat.add_assoc]⟩ rfl rfl (by intro b; exact ⟨rfl, rfl⟩) (Nat.le_of_ble_eq_true rfl) ?_
  refine s_aload_n (q := 13) d_B_init_12 rfl rfl (Or.inr ⟨_, rfl⟩) ?_
  refine s_bipush (v := 12) (q := 15) d_B_init_13 rfl kb_12 ?_
  refine s_newa (t := 0) (n := 12) (q := 17) d_B_init_15 rfl (by decide) rfl ak_int rfl (by decide) (by omega) (by omega) ?_
  refine s_putF (q := 20) (fs := [.ref (o + 1), .null, .null, .null, .null, .int 0, .int 0, .int 0, .int 0, .int 0, .int 0, .int 0, .int 0, .int 0]) rfl d_B_init_17 rfl fl_B_15 ⟨by omega, by simp [um, hA, blk0, Nat.add_assoc]⟩ rfl rfl (by intro b; exact ⟨rfl, rfl⟩) (Nat.le_of_ble_eq_true rfl) ?_
  refine s_aload_n (q := 21) d_B_init_20 rfl rfl (Or.inr ⟨_, rfl⟩) ?_
  refine s_bipush (v := 12) (q := 23) d_B_init_21 rfl kb_12 ?_
  refine s_newa (t := 0) (n := 12) (q := 25) d_B_init_23 rfl (by decide) rfl ak_int rfl (by decide) (by omega) (by omega) ?_
  refine s_putF (q := 28) (fs := [.ref (o + 1), .ref (o + 2), .null, .null, .null, .int 0, .int 0, .int 0, .int 0, .int 0, .int 0, .int 0, .int 0, .int 0]) rfl d_B_init_25 rfl fl_B_18 ⟨by omega, by simp [um, hA, blk0, Nat.add_assoc]⟩ rfl rfl (by intro b; exact ⟨rfl, rfl⟩) (Nat.le_of_ble_eq_true rfl) ?_
  refine s_aload_n (q := 29) d_B_init_28 rfl rfl (Or.inr ⟨_, rfl⟩) ?_
  refine s_bipush (v := 12) (q := 31) d_B_init_29 rfl kb_12 ?_
  refine s_newa (t := 1) (n := 12) (q := 33) d_B_init_31 rfl (by decide) rfl ak_boolean rfl (by decide) (by omega) (by omega) ?_
  refine s_putF (q := 36) (fs := [.ref (o + 1), .ref (o + 2), .ref (o + 3), .null, .null, .int 0, .int 0, .int 0, .int 0, .int 0, .int 0, .int 0, .int 0, .int 0]) rfl d_B_init_33 rfl fl_B_21 ⟨by omega, by simp [um, hA, blk0, Nat.add_assoc]⟩ rfl rfl (by intro b; exact ⟨rfl, rfl⟩) (Nat.le_of_ble_eq_true rfl) ?_
  refine s_aload_n (q := 37) d_B_init_36 rfl rfl (Or.inr ⟨_, rfl⟩) ?_
  refine s_iconst (v := 4) (q := 38) d_B_init_37 rfl ki_4 ?_
  refine s_newa (t := 0) (n := 4) (q := 40) d_B_init_38 rfl (by decide) rfl ak_int rfl (by decide) (by omega) (by omega) ?_
  refine s_putF (q := 43) (fs := [.ref (o + 1), .ref (o + 2), .ref (o + 3), .ref (o + 4), .null, .int 0, .int 0, .int 0, .int 0, .int 0, .int 0, .int 0, .int 0, .int 0]) rfl d_B_init_40 rfl fl_B_25 ⟨by omega, by simp [um, hA, blk0, Nat.add_assoc]⟩ rfl rfl (by intro b; exact ⟨rfl, rfl⟩) (Nat.le_of_ble_eq_true rfl) ?_
  refine s_ret d_B_init_43 rfl (by omega) (by omega) ?_
  symm
  refine Prod.ext rfl (Prod.ext rfl (funext fun i => ?_))
  show _ = pm M o 6 i
  by_cases h : o ≤ i ∧ i < o + 6
  · rw [pm_in h]
    rcases (show i = o ∨ i = o + 1 ∨ i = o + 2 ∨ i = o + 3 ∨ i = o + 4 ∨ i = o + 5 by omega) with rfl | rfl | rfl | rfl | rfl | rfl
    · simp [um, mk, hB.1, mkE, mkf, X0_z (show i < 114 ∨ 122 ≤ i by omega)]
    · simp [um, mk, hB.2.1, mkE, X0_f (show o + 1 < 114 ∨ 122 ≤ o + 1 by omega)]
    · simp [um, mk, hB.2.2.1, mkE, X0_f (show o + 2 < 114 ∨ 122 ≤ o + 2 by omega)]
    · simp [um, mk, hB.2.2.2.1, mkE, X0_f (show o + 3 < 114 ∨ 122 ≤ o + 3 by omega)]
    · simp [um, mk, hB.2.2.2.2.1, mkE, X0_f (show o + 4 < 114 ∨ 122 ≤ o + 4 by omega)]
    · simp [um, mk, hB.2.2.2.2.2, mkE, X0_f (show o + 5 < 114 ∨ 122 ≤ o + 5 by omega)]
  · rw [pm_out (by omega)]
    simp only [um, show ¬ i = o by omega, show ¬ i = o + 1 by omega, show ¬ i = o + 1 + 1 by omega, show ¬ i = o + 1 + 1 + 1 by omega, show ¬ i = o + 1 + 1 + 1 + 1 by omega, show ¬ i = o + 1 + 1 + 1 + 1 + 1 by omega, if_false]
theorem t_S_init {o : Nat} {M : Mem} (hS : isS o) (ho : 114 ≤ o ∧ o < 122 ∧ o % 2 = 0) (hA : M o = .inr (2, blk2)) : Ct l D ac b y_S_init c_S_init 1 none 1 20 1 40 [.ref o] (o + 1) M (none, (o + 1 + 1), (pm M o 2)) := by
  refine Ct_of true (by decide) (fun _ => rfl) (Nat.le_of_ble_eq_true rfl) ?_
  show V l D ac b "SpanStore$Sheet" c_S_init 1 none true 1 20 1 40 (none, (o + 1 + 1), (pm M o 2)) 0 0 0 [(0, .ref o)] [] (o + 1) M
  refine s_aload_n (q := 1) d_S_init_0 rfl rfl (Or.inr ⟨_, rfl⟩) ?_
  refine s_objInit (q := 4) d_S_init_1 rfl ml_S_3 (Nat.le_of_ble_eq_true rfl) (by decide) (by decide) ?_
  refine s_aload_n (q := 5) d_S_init_4 rfl rfl (Or.inr ⟨_, rfl⟩) ?_
  refine s_bipush (v := 40) (q := 7) d_S_init_5 rfl kb_40 ?_
  refine s_newa (t := 0) (n := 40) (q := 9) d_S_init_7 rfl (by decide) rfl ak_int rfl (by decide) (by omega) (by omega) ?_
  refine s_putF (q := 12) (fs := [.null, .int 0, .int 0, .int 0]) rfl d_S_init_9 rfl fl_S_9 ⟨by omega, by simp [um, hA, blk2, Nat.add_assoc]⟩ rfl rfl (by intro b; exact ⟨rfl, rfl⟩) (Nat.le_of_ble_eq_true rfl) ?_
  refine s_aload_n (q := 13) d_S_init_12 rfl rfl (Or.inr ⟨_, rfl⟩) ?_
  refine s_iconst (v := 1) (q := 14) d_S_init_13 rfl ki_1 ?_
  refine s_put (q := 17) (fs := [.ref (o + 1), .int 0, .int 0, .int 0]) d_S_init_14 rfl fl_S_15 ⟨by omega, by simp [um, hA, blk2, Nat.add_assoc]⟩ rfl (okB (Or.inr rfl)) (Nat.le_of_ble_eq_true rfl) ?_
  refine s_ret d_S_init_17 rfl (by omega) (by omega) ?_
  symm
  refine Prod.ext rfl (Prod.ext rfl (funext fun i => ?_))
  show _ = pm M o 2 i
  by_cases h : o ≤ i ∧ i < o + 2
  · rw [pm_in h]
    rcases (show i = o ∨ i = o + 1 by omega) with rfl | rfl
    · have e1 : X0 i 1 = 0 := if_neg (by omega)
      have e2 : X0 i 2 = 0 := if_neg (by omega)
      have e3 : X0 i 3 = 1 := if_pos ⟨ho.1, ho.2.1, ho.2.2, rfl⟩
      simp [um, mk, hS.1, mkE, mkf, e1, e2, e3]
    · simp [um, mk, hS.2, mkE, X0_o (show (o + 1) % 2 = 1 by omega)]
  · rw [pm_out (by omega)]
    simp only [um, show ¬ i = o by omega, show ¬ i = o + 1 by omega, if_false]
def tm (M : Mem) (o i j : Nat) : Mem := fun d => if d = o then .inr (3, [.ref (o + 1), .ref (o + 2), .int 0, .int 0]) else if d = o + 1 then .inl (4, 8, .inr (fun k => if k < i then some (o + 3 + 6 * k) else none)) else if d = o + 2 then .inl (5, 4, .inr (fun k => if k < j then some (o + 51 + k) else none)) else if o + 3 ≤ d ∧ d < o + 3 + 6 * i + j then mk X0 d else M d
theorem upf {i : Nat} {g : Nat → Nat} : va_up (fun k => if k < i then some (g k) else none) i (some (g i)) = fun k => if k < i + 1 then some (g k) else none := by
  funext k
  by_cases h : k = i
  · subst h; simp [va_up]
  · simp only [va_up, h, if_false]
    by_cases h2 : k < i
    · rw [if_pos h2, if_pos (by omega)]
    · rw [if_neg h2, if_neg (by omega)]
theorem tm_0 {M : Mem} {o i j : Nat} : tm M o i j o = .inr (3, [.ref (o + 1), .ref (o + 2), .int 0, .int 0]) := if_pos rfl
theorem tm_1 {M : Mem} {o i j : Nat} : tm M o i j (o + 1) = .inl (4, 8, .inr (fun k => if k < i then some (o + 3 + 6 * k) else none)) := by
  unfold tm
  rw [if_neg (by omega), if_pos rfl]
theorem tm_2 {M : Mem} {o i j : Nat} : tm M o i j (o + 2) = .inl (5, 4, .inr (fun k => if k < j then some (o + 51 + k) else none)) := by
  unfold tm
  rw [if_neg (by omega), if_neg (by omega), if_pos rfl]
theorem tm_b {M : Mem} {o i : Nat} : um (pm (um (tm M o i 0) (o + 3 + 6 * i) (.inr (0, blk0))) (o + 3 + 6 * i) 6) (o + 1) (.inl (4, 8, .inr (fun k => if k < i + 1 then some (o + 3 + 6 * k) else none))) = tm M o (i + 1) 0 := by
  funext d
  by_cases h1 : d = o + 1
  · subst h1; rw [um_eq, tm_1]
  · rw [um_ne h1]
    by_cases h2 : o + 3 + 6 * i ≤ d ∧ d < o + 3 + 6 * i + 6
    · rw [pm_in h2]
      unfold tm
      rw [if_neg (by omega), if_neg (by omega), if_neg (by omega), if_pos (by omega)]
    · rw [pm_out (by omega), um_ne (by omega)]
      unfold tm
      by_cases h0 : d = o
      · rw [if_pos h0, if_pos h0]
      · rw [if_neg h0, if_neg h0, if_neg h1, if_neg h1]
        by_cases h3 : d = o + 2
        · rw [if_pos h3, if_pos h3]
        · rw [if_neg h3, if_neg h3]
          by_cases h4 : o + 3 ≤ d ∧ d < o + 3 + 6 * i + 0
          · rw [if_pos h4, if_pos (by omega)]
          · rw [if_neg h4, if_neg (by omega)]
theorem tm_k {M : Mem} {o j : Nat} (ho : o + 54 < 114) (hK : isK (o + 51 + j)) (hj : j < 4) : um (um (tm M o 8 j) (o + 51 + j) (.inr (1, blk1))) (o + 2) (.inl (5, 4, .inr (fun k => if k < j + 1 then some (o + 51 + k) else none))) = tm M o 8 (j + 1) := by
  funext d
  by_cases h1 : d = o + 2
  · subst h1; rw [um_eq, tm_2]
  · rw [um_ne h1]
    by_cases h2 : d = o + 51 + j
    · subst h2
      rw [um_eq]
      unfold tm
      rw [if_neg (by omega), if_neg (by omega), if_neg (by omega), if_pos (by omega)]
      simp [mk, show sk (o + 51 + j) = .inr (1, [none, none, none]) from hK, mkE, mkf, blk1, X0_z (show o + 51 + j < 114 ∨ 122 ≤ o + 51 + j by omega)]
    · rw [um_ne h2]
      unfold tm
      by_cases h0 : d = o
      · rw [if_pos h0, if_pos h0]
      · rw [if_neg h0, if_neg h0]
        by_cases h3 : d = o + 1
        · rw [if_pos h3, if_pos h3]
        · rw [if_neg h3, if_neg h3, if_neg h1, if_neg h1]
          by_cases h4 : o + 3 ≤ d ∧ d < o + 3 + 6 * 8 + j
          · rw [if_pos h4, if_pos (by omega)]
          · rw [if_neg h4, if_neg (by omega)]
theorem tm_end {M : Mem} {o : Nat} (hT : isT o) (ho : o + 54 < 114) : tm M o 8 4 = pm M o 55 := by
  funext d
  by_cases h : o ≤ d ∧ d < o + 55
  · rw [pm_in h]
    unfold tm
    by_cases h0 : d = o
    · subst h0
      rw [if_pos rfl]
      simp [mk, hT.1, mkE, mkf, X0_z (show d < 114 ∨ 122 ≤ d by omega)]
    · rw [if_neg h0]
      by_cases h1 : d = o + 1
      · subst h1
        rw [if_pos rfl]
        simp [mk, hT.2.1, mkE]
      · rw [if_neg h1]
        by_cases h2 : d = o + 2
        · subst h2
          rw [if_pos rfl]
          simp [mk, hT.2.2.1, mkE]
        · rw [if_neg h2, if_pos (by omega)]
  · rw [pm_out (by omega)]
    unfold tm
    rw [if_neg (by omega), if_neg (by omega), if_neg (by omega), if_neg (by omega)]
theorem lp_TK {o : Nat} {M : Mem} (hT : isT o) (ho : o + 54 < 114) : ∀ j, j ≤ 4 → V l D ac b "SpanStore$Table" c_T_init 2 none true 2 40 54 552 (none, (o + 1 + 54), (pm M o 55)) (2 + 6 * 8 + j) (12 + 66 * 8 + 3 * j) 50 [(0, .ref o), (1, .int (nI j))] [] (o + 51 + j) (tm M o 8 j) := by
  refine nat_down ?_ (fun j hj ih => ?_)
  · skip
    refine s_iload_n (q := 51) d_T_init_50 rfl rfl ?_
    refine s_iconst (v := 4) (q := 52) d_T_init_51 rfl ki_4 ?_
    refine s_icmp_ge (tgt := 74) (q := 55) d_T_init_52 (by decide) rfl (fun _ => ?_) (fun z9 => absurd (by decide) z9)
    refine s_ret d_T_init_74 rfl (by omega) (by omega) ?_
    rw [tm_end hT ho]
  · skip
    refine s_iload_n (q := 51) d_T_init_50 rfl rfl ?_
    refine s_iconst (v := 4) (q := 52) d_T_init_51 rfl ki_4 ?_
    refine s_icmp_ge (tgt := 74) (q := 55) d_T_init_52 (by decide) rfl (fun z9 => absurd z9 (nI_ge (a := j) (b := 4) hj (by decide))) (fun _ => ?_)
    refine s_aload_n (q := 56) d_T_init_55 rfl rfl (Or.inr ⟨_, rfl⟩) ?_
    refine s_get (fs := [.ref (o + 1), .ref (o + 2), .int 0, .int 0]) (q := 59) d_T_init_56 rfl fl_T_19 ⟨by omega, tm_0⟩ rfl ?_
    refine s_iload_n (q := 60) d_T_init_59 rfl rfl ?_
    refine s_new (ci := 1) (fs := blk1) (q := 63) d_T_init_60 rfl (by decide) cl_T_17 it_1 bl1 (fun _ => rfl) (by show _ + 1 ≤ _; omega) (by show _ + 3 ≤ _; omega) ?_
    refine s_dup (q := 64) d_T_init_63 rfl rfl ?_
    refine s_callI (q := 67) d_T_init_64 rfl ml_T_24 mx_K_init mi_K_init t_K_init rfl rfl (Nat.le_of_ble_eq_true rfl) (by decide) ⟨by omega, by show 12 + 66 * 8 + 3 * j + 3 + 0 ≤ 552; omega⟩ rfl ?_
    refine s_aast (q := 68) d_T_init_67 rfl ⟨by show o + 2 < o + 51 + j + 1; omega, (um_ne (by omega)).trans tm_2⟩ (by decide) rfl ⟨by show o + 51 + j < o + 51 + j + 1; omega, um_eq⟩ (by decide) rfl hj (by decide) ?_
    refine s_iinc (q := 71) d_T_init_68 rfl rfl (inc1 _) (by decide) ?_
    refine s_goto (tgt := 50) d_T_init_71 (by decide) ?_
    exact s_lv (lv' := [(0, .ref o), (1, .int (nI (j + 1)))]) ⟨rfl, rfl, trivial⟩ (s_cg (by omega) (by show 12 + 66 * 8 + 3 * j + 3 + 0 = _; omega) (by show o + 51 + j + 1 = _; omega) (by rw [← tm_k ho (hT.2.2.2.2 _ hj) hj, ← upf (g := fun k => o + 51 + k)]) ih)
theorem lp_TB {o : Nat} {M : Mem} (hT : isT o) (ho : o + 54 < 114) : ∀ i, i ≤ 8 → V l D ac b "SpanStore$Table" c_T_init 2 none true 2 40 54 552 (none, (o + 1 + 54), (pm M o 55)) (2 + 6 * i) (12 + 66 * i) 23 [(0, .ref o), (1, .int (nI i))] [] (o + 3 + 6 * i) (tm M o i 0) := by
  refine nat_down ?_ (fun i hi ih => ?_)
  · skip
    refine s_iload_n (q := 24) d_T_init_23 rfl rfl ?_
    refine s_bipush (v := 8) (q := 26) d_T_init_24 rfl kb_8 ?_
    refine s_icmp_ge (tgt := 48) (q := 29) d_T_init_26 (by decide) rfl (fun _ => ?_) (fun z9 => absurd le8 z9)
    refine s_iconst (v := 0) (q := 49) d_T_init_48 rfl ki_0 ?_
    refine s_istore_n (q := 50) d_T_init_49 rfl (by decide) ?_
    exact s_lv (lv' := [(0, .ref o), (1, .int (nI 0))]) ⟨rfl, rfl, trivial⟩ (s_cg (by omega) (by omega) (by omega) rfl (lp_TK hT ho 0 (Nat.zero_le 4)))
  · skip
    refine s_iload_n (q := 24) d_T_init_23 rfl rfl ?_
    refine s_bipush (v := 8) (q := 26) d_T_init_24 rfl kb_8 ?_
    refine s_icmp_ge (tgt := 48) (q := 29) d_T_init_26 (by decide) rfl (fun z9 => absurd z9 (nle8 hi)) (fun _ => ?_)
    refine s_aload_n (q := 30) d_T_init_29 rfl rfl (Or.inr ⟨_, rfl⟩) ?_
    refine s_get (fs := [.ref (o + 1), .ref (o + 2), .int 0, .int 0]) (q := 33) d_T_init_30 rfl fl_T_11 ⟨by omega, tm_0⟩ rfl ?_
    refine s_iload_n (q := 34) d_T_init_33 rfl rfl ?_
    refine s_new (ci := 0) (fs := blk0) (q := 37) d_T_init_34 rfl (by decide) cl_T_9 it_0 bl0 (fun _ => rfl) (by show _ + 1 ≤ _; omega) (by show _ + 14 ≤ _; omega) ?_
    refine s_dup (q := 38) d_T_init_37 rfl rfl ?_
    refine s_callI (q := 41) d_T_init_38 rfl ml_T_23 mx_B_init mi_B_init (t_B_init (hT.2.2.2.1 _ hi) (by omega) um_eq) rfl rfl (Nat.le_of_ble_eq_true rfl) (by decide) ⟨by omega, by show 12 + 66 * i + 14 + 52 ≤ 552; omega⟩ rfl ?_
    refine s_aast (q := 42) d_T_init_41 rfl ⟨by show o + 1 < o + 3 + 6 * i + 1 + 5; omega, (pm_out (by omega)).trans ((um_ne (by omega)).trans tm_1)⟩ (by decide) rfl ⟨by show o + 3 + 6 * i < o + 3 + 6 * i + 1 + 5; omega, (pm_in (by omega)).trans (by unfold mk; rw [(hT.2.2.2.1 _ hi).1]; rfl)⟩ (by decide) rfl hi (by decide) ?_
    refine s_iinc (q := 45) d_T_init_42 rfl rfl (inc1 _) (by decide) ?_
    refine s_goto (tgt := 23) d_T_init_45 (by decide) ?_
    exact s_lv (lv' := [(0, .ref o), (1, .int (nI (i + 1)))]) ⟨rfl, rfl, trivial⟩ (s_cg (by omega) (by show 12 + 66 * i + 14 + 52 = _; omega) (by show o + 3 + 6 * i + 1 + 5 = _; omega) (by rw [← tm_b, ← upf (g := fun k => o + 3 + 6 * k)]) ih)
theorem t_T_init {o : Nat} {M : Mem} (hT : isT o) (ho : o + 54 < 114) (hA : M o = .inr (3, blk3)) : Ct l D ac b y_T_init c_T_init 2 none 2 40 54 552 [.ref o] (o + 1) M (none, (o + 1 + 54), (pm M o 55)) := by
  refine Ct_of true (by decide) (fun _ => rfl) (Nat.le_of_ble_eq_true rfl) ?_
  show V l D ac b "SpanStore$Table" c_T_init 2 none true 2 40 54 552 (none, (o + 1 + 54), (pm M o 55)) 0 0 0 [(0, .ref o)] [] (o + 1) M
  refine s_aload_n (q := 1) d_T_init_0 rfl rfl (Or.inr ⟨_, rfl⟩) ?_
  refine s_objInit (q := 4) d_T_init_1 rfl ml_T_3 (Nat.le_of_ble_eq_true rfl) (by decide) (by decide) ?_
  refine s_aload_n (q := 5) d_T_init_4 rfl rfl (Or.inr ⟨_, rfl⟩) ?_
  refine s_bipush (v := 8) (q := 7) d_T_init_5 rfl kb_8 ?_
  refine s_anew (t := 4) (ci := 0) (n := 8) (q := 10) d_T_init_7 rfl (by decide) rfl cl_T_9 (by decide) rfl (by decide) (by omega) (by omega) ?_
  refine s_putF (q := 13) (fs := [.null, .null, .int 0, .int 0]) rfl d_T_init_10 rfl fl_T_11 ⟨by omega, by simp [um, hA, blk3, Nat.add_assoc]⟩ rfl rfl (by intro b; exact ⟨rfl, rfl⟩) (Nat.le_of_ble_eq_true rfl) ?_
  refine s_aload_n (q := 14) d_T_init_13 rfl rfl (Or.inr ⟨_, rfl⟩) ?_
  refine s_iconst (v := 4) (q := 15) d_T_init_14 rfl ki_4 ?_
  refine s_anew (t := 5) (ci := 1) (n := 4) (q := 18) d_T_init_15 rfl (by decide) rfl cl_T_17 (by decide) rfl (by decide) (by omega) (by omega) ?_
  refine s_putF (q := 21) (fs := [.ref (o + 1), .null, .int 0, .int 0]) rfl d_T_init_18 rfl fl_T_19 ⟨by omega, by simp [um, hA, blk3, Nat.add_assoc]⟩ rfl rfl (by intro b; exact ⟨rfl, rfl⟩) (Nat.le_of_ble_eq_true rfl) ?_
  refine s_iconst (v := 0) (q := 22) d_T_init_21 rfl ki_0 ?_
  refine s_istore_n (q := 23) d_T_init_22 rfl (by decide) ?_
  refine s_lv (lv' := [(0, .ref o), (1, .int (nI 0))]) ⟨rfl, rfl, trivial⟩ (s_cg rfl rfl rfl ?_ (lp_TB hT ho 0 (Nat.zero_le 8)))
  funext d
  by_cases h0 : d = o
  · subst h0; rw [tm_0]; simp [um]
  · by_cases h1 : d = o + 1
    · subst h1; rw [tm_1]; simp [um]
    · by_cases h2 : d = o + 2
      · subst h2; rw [tm_2]; simp [um]
      · unfold tm
        rw [if_neg h0, if_neg h1, if_neg h2, if_neg (by omega)]
        simp only [um, h0, h1, show ¬ d = o + 1 + 1 by omega, if_false]
def cm (M : Mem) (i j : Nat) : Mem := fun d => if d = 0 then .inr (4, [.ref 1, .ref 2, .ref 3, .int 0, .int 0]) else if d = 1 then .inl (2, 2, .inr (fun k => if k < i then some (4 + 55 * k) else none)) else if d = 2 then .inl (3, 4, .inr (fun k => if k < j then some (114 + 2 * k) else none)) else if d = 3 then .inl (0, 100, .inl (fun _ => 0)) else if 4 ≤ d ∧ d < 4 + 55 * i + 2 * j then mk X0 d else M d
theorem cm_b {M : Mem} {i : Nat} : um (pm (um (cm M i 0) (4 + 55 * i) (.inr (3, blk3))) (4 + 55 * i) 55) 1 (.inl (2, 2, .inr (fun k => if k < i + 1 then some (4 + 55 * k) else none))) = cm M (i + 1) 0 := by
  funext d
  by_cases h1 : d = 1
  · subst h1; rw [um_eq]; rfl
  · rw [um_ne h1]
    by_cases h2 : 4 + 55 * i ≤ d ∧ d < 4 + 55 * i + 55
    · rw [pm_in h2]
      unfold cm
      rw [if_neg (by omega), if_neg (by omega), if_neg (by omega), if_neg (by omega), if_pos (by omega)]
    · rw [pm_out (by omega), um_ne (by omega)]
      unfold cm
      by_cases h0 : d = 0
      · rw [if_pos h0, if_pos h0]
      · rw [if_neg h0, if_neg h0, if_neg h1, if_neg h1]
        by_cases h3 : d = 2
        · rw [if_pos h3, if_pos h3]
        · rw [if_neg h3, if_neg h3]
          by_cases h5 : d = 3
          · rw [if_pos h5, if_pos h5]
          · rw [if_neg h5, if_neg h5]
            by_cases h4 : 4 ≤ d ∧ d < 4 + 55 * i + 2 * 0
            · rw [if_pos h4, if_pos (by omega)]
            · rw [if_neg h4, if_neg (by omega)]
theorem cm_s {M : Mem} {j : Nat} : um (pm (um (cm M 2 j) (114 + 2 * j) (.inr (2, blk2))) (114 + 2 * j) 2) 2 (.inl (3, 4, .inr (fun k => if k < j + 1 then some (114 + 2 * k) else none))) = cm M 2 (j + 1) := by
  funext d
  by_cases h1 : d = 2
  · subst h1; rw [um_eq]; rfl
  · rw [um_ne h1]
    by_cases h2 : 114 + 2 * j ≤ d ∧ d < 114 + 2 * j + 2
    · rw [pm_in h2]
      unfold cm
      rw [if_neg (by omega), if_neg (by omega), if_neg (by omega), if_neg (by omega), if_pos (by omega)]
    · rw [pm_out (by omega), um_ne (by omega)]
      unfold cm
      by_cases h0 : d = 0
      · rw [if_pos h0, if_pos h0]
      · rw [if_neg h0, if_neg h0]
        by_cases h3 : d = 1
        · rw [if_pos h3, if_pos h3]
        · rw [if_neg h3, if_neg h3, if_neg h1, if_neg h1]
          by_cases h5 : d = 3
          · rw [if_pos h5, if_pos h5]
          · rw [if_neg h5, if_neg h5]
            by_cases h4 : 4 ≤ d ∧ d < 4 + 55 * 2 + 2 * j
            · rw [if_pos h4, if_pos (by omega)]
            · rw [if_neg h4, if_neg (by omega)]
theorem cm_end {M : Mem} : cm M 2 4 = pm M 0 122 := by
  funext d
  by_cases h : 0 ≤ d ∧ d < 0 + 122
  · rw [pm_in h]
    unfold cm
    by_cases h0 : d = 0
    · subst h0
      rw [if_pos rfl]
      simp [mk, hC.1, mkE, mkf, X0_z (show 0 < 114 ∨ 122 ≤ 0 by omega)]
    · rw [if_neg h0]
      by_cases h1 : d = 1
      · subst h1
        rw [if_pos rfl]
        simp [mk, hC.2.1, mkE]
      · rw [if_neg h1]
        by_cases h2 : d = 2
        · subst h2
          rw [if_pos rfl]
          simp [mk, hC.2.2.1, mkE]
        · rw [if_neg h2]
          by_cases h3 : d = 3
          · subst h3
            rw [if_pos rfl]
            simp [mk, hC.2.2.2.1, mkE, X0_f (show 3 < 114 ∨ 122 ≤ 3 by omega)]
          · rw [if_neg h3, if_pos (by omega)]
  · rw [pm_out (by omega)]
    unfold cm
    rw [if_neg (by omega), if_neg (by omega), if_neg (by omega), if_neg (by omega), if_neg (by omega)]
theorem lp_CS {M : Mem} : ∀ j, j ≤ 4 → V l D ac b "SpanStore" c_C_init 2 none true 3 61 121 1394 (none, (1 + 121), (pm M 0 122)) (3 + 55 * 2 + 2 * j) (106 + 556 * 2 + 44 * j) 56 [(0, .ref 0), (1, .int (nI j))] [] (114 + 2 * j) (cm M 2 j) := by
  refine nat_down ?_ (fun j hj ih => ?_)
  · skip
    refine s_iload_n (q := 57) d_C_init_56 rfl rfl ?_
    refine s_iconst (v := 4) (q := 58) d_C_init_57 rfl ki_4 ?_
    refine s_icmp_ge (tgt := 80) (q := 61) d_C_init_58 (by decide) rfl (fun _ => ?_) (fun z9 => absurd (by decide) z9)
    refine s_ret d_C_init_80 rfl (by omega) (by omega) ?_
    rw [cm_end]
  · skip
    refine s_iload_n (q := 57) d_C_init_56 rfl rfl ?_
    refine s_iconst (v := 4) (q := 58) d_C_init_57 rfl ki_4 ?_
    refine s_icmp_ge (tgt := 80) (q := 61) d_C_init_58 (by decide) rfl (fun z9 => absurd z9 (nI_ge (a := j) (b := 4) hj (by decide))) (fun _ => ?_)
    refine s_aload_n (q := 62) d_C_init_61 rfl rfl (Or.inr ⟨_, rfl⟩) ?_
    refine s_get (fs := [.ref 1, .ref 2, .ref 3, .int 0, .int 0]) (q := 65) d_C_init_62 rfl fl_C_17 ⟨by omega, rfl⟩ rfl ?_
    refine s_iload_n (q := 66) d_C_init_65 rfl rfl ?_
    refine s_new (ci := 2) (fs := blk2) (q := 69) d_C_init_66 rfl (by decide) cl_C_15 it_2 bl2 (fun _ => rfl) (by show _ + 1 ≤ _; omega) (by show _ + 4 ≤ _; omega) ?_
    refine s_dup (q := 70) d_C_init_69 rfl rfl ?_
    refine s_callI (q := 73) d_C_init_70 rfl ml_C_26 mx_S_init mi_S_init (t_S_init (hC.2.2.2.2.2 _ hj) (by omega) um_eq) rfl rfl (Nat.le_of_ble_eq_true rfl) (by decide) ⟨by omega, by show 106 + 556 * 2 + 44 * j + 4 + 40 ≤ 1394; omega⟩ rfl ?_
    refine s_aast (q := 74) d_C_init_73 rfl ⟨by show 2 < 114 + 2 * j + 1 + 1; omega, (pm_out (by omega)).trans ((um_ne (by omega)).trans rfl)⟩ (by decide) rfl ⟨by show 114 + 2 * j < 114 + 2 * j + 1 + 1; omega, (pm_in (by omega)).trans (by unfold mk; rw [(hC.2.2.2.2.2 _ hj).1]; rfl)⟩ (by decide) rfl hj (by decide) ?_
    refine s_iinc (q := 77) d_C_init_74 rfl rfl (inc1 _) (by decide) ?_
    refine s_goto (tgt := 56) d_C_init_77 (by decide) ?_
    exact s_lv (lv' := [(0, .ref 0), (1, .int (nI (j + 1)))]) ⟨rfl, rfl, trivial⟩ (s_cg (by omega) (by show 106 + 556 * 2 + 44 * j + 4 + 40 = _; omega) (by show 114 + 2 * j + 1 + 1 = _; omega) (by rw [← cm_s, ← upf (g := fun k => 114 + 2 * k)]) ih)
theorem lp_CT {M : Mem} : ∀ i, i ≤ 2 → V l D ac b "SpanStore" c_C_init 2 none true 3 61 121 1394 (none, (1 + 121), (pm M 0 122)) (3 + 55 * i) (106 + 556 * i) 30 [(0, .ref 0), (1, .int (nI i))] [] (4 + 55 * i) (cm M i 0) := by
  refine nat_down ?_ (fun i hi ih => ?_)
  · skip
    refine s_iload_n (q := 31) d_C_init_30 rfl rfl ?_
    refine s_iconst (v := 2) (q := 32) d_C_init_31 rfl ki_2 ?_
    refine s_icmp_ge (tgt := 54) (q := 35) d_C_init_32 (by decide) rfl (fun _ => ?_) (fun z9 => absurd (by decide) z9)
    refine s_iconst (v := 0) (q := 55) d_C_init_54 rfl ki_0 ?_
    refine s_istore_n (q := 56) d_C_init_55 rfl (by decide) ?_
    exact s_lv (lv' := [(0, .ref 0), (1, .int (nI 0))]) ⟨rfl, rfl, trivial⟩ (s_cg (by omega) (by omega) (by omega) rfl (lp_CS 0 (Nat.zero_le 4)))
  · skip
    refine s_iload_n (q := 31) d_C_init_30 rfl rfl ?_
    refine s_iconst (v := 2) (q := 32) d_C_init_31 rfl ki_2 ?_
    refine s_icmp_ge (tgt := 54) (q := 35) d_C_init_32 (by decide) rfl (fun z9 => absurd z9 (nI_ge (a := i) (b := 2) hi (by decide))) (fun _ => ?_)
    refine s_aload_n (q := 36) d_C_init_35 rfl rfl (Or.inr ⟨_, rfl⟩) ?_
    refine s_get (fs := [.ref 1, .ref 2, .ref 3, .int 0, .int 0]) (q := 39) d_C_init_36 rfl fl_C_11 ⟨by omega, rfl⟩ rfl ?_
    refine s_iload_n (q := 40) d_C_init_39 rfl rfl ?_
    refine s_new (ci := 3) (fs := blk3) (q := 43) d_C_init_40 rfl (by decide) cl_C_9 it_3 bl3 (fun _ => rfl) (by show _ + 1 ≤ _; omega) (by show _ + 4 ≤ _; omega) ?_
    refine s_dup (q := 44) d_C_init_43 rfl rfl ?_
    refine s_callI (q := 47) d_C_init_44 rfl ml_C_25 mx_T_init mi_T_init (t_T_init (hC.2.2.2.2.1 _ hi) (by omega) um_eq) rfl rfl (Nat.le_of_ble_eq_true rfl) (by decide) ⟨by omega, by show 106 + 556 * i + 4 + 552 ≤ 1394; omega⟩ rfl ?_
    refine s_aast (q := 48) d_C_init_47 rfl ⟨by show 1 < 4 + 55 * i + 1 + 54; omega, (pm_out (by omega)).trans ((um_ne (by omega)).trans rfl)⟩ (by decide) rfl ⟨by show 4 + 55 * i < 4 + 55 * i + 1 + 54; omega, (pm_in (by omega)).trans (by unfold mk; rw [(hC.2.2.2.2.1 _ hi).1]; rfl)⟩ (by decide) rfl hi (by decide) ?_
    refine s_iinc (q := 51) d_C_init_48 rfl rfl (inc1 _) (by decide) ?_
    refine s_goto (tgt := 30) d_C_init_51 (by decide) ?_
    exact s_lv (lv' := [(0, .ref 0), (1, .int (nI (i + 1)))]) ⟨rfl, rfl, trivial⟩ (s_cg (by omega) (by show 106 + 556 * i + 4 + 552 = _; omega) (by show 4 + 55 * i + 1 + 54 = _; omega) (by rw [← cm_b, ← upf (g := fun k => 4 + 55 * k)]) ih)
theorem t_C_init {M : Mem} (hA : M 0 = .inr (4, blk4)) : Ct l D ac b y_C_init c_C_init 2 none 3 61 121 1394 [.ref 0] 1 M (none, (1 + 121), (pm M 0 122)) := by
  refine Ct_of true (by decide) (fun _ => rfl) (Nat.le_of_ble_eq_true rfl) ?_
  show V l D ac b "SpanStore" c_C_init 2 none true 3 61 121 1394 (none, (1 + 121), (pm M 0 122)) 0 0 0 [(0, .ref 0)] [] 1 M
  refine s_aload_n (q := 1) d_C_init_0 rfl rfl (Or.inr ⟨_, rfl⟩) ?_
  refine s_objInit (q := 4) d_C_init_1 rfl ml_C_1 (Nat.le_of_ble_eq_true rfl) (by decide) (by decide) ?_
  refine s_aload_n (q := 5) d_C_init_4 rfl rfl (Or.inr ⟨_, rfl⟩) ?_
  refine s_iconst (v := 2) (q := 6) d_C_init_5 rfl ki_2 ?_
  refine s_anew (t := 2) (ci := 3) (n := 2) (q := 9) d_C_init_6 rfl (by decide) rfl cl_C_9 (by decide) rfl (by decide) (by omega) (by omega) ?_
  refine s_putF (q := 12) (fs := [.null, .null, .null, .int 0, .int 0]) rfl d_C_init_9 rfl fl_C_11 ⟨by omega, by simp [um, hA, blk4]⟩ rfl rfl (by intro b; exact ⟨rfl, rfl⟩) (Nat.le_of_ble_eq_true rfl) ?_
  refine s_aload_n (q := 13) d_C_init_12 rfl rfl (Or.inr ⟨_, rfl⟩) ?_
  refine s_iconst (v := 4) (q := 14) d_C_init_13 rfl ki_4 ?_
  refine s_anew (t := 3) (ci := 2) (n := 4) (q := 17) d_C_init_14 rfl (by decide) rfl cl_C_15 (by decide) rfl (by decide) (by omega) (by omega) ?_
  refine s_putF (q := 20) (fs := [.ref 1, .null, .null, .int 0, .int 0]) rfl d_C_init_17 rfl fl_C_17 ⟨by omega, by simp [um, hA, blk4]⟩ rfl rfl (by intro b; exact ⟨rfl, rfl⟩) (Nat.le_of_ble_eq_true rfl) ?_
  refine s_aload_n (q := 21) d_C_init_20 rfl rfl (Or.inr ⟨_, rfl⟩) ?_
  refine s_bipush (v := 100) (q := 23) d_C_init_21 rfl kb_100 ?_
  refine s_newa (t := 0) (n := 100) (q := 25) d_C_init_23 rfl (by decide) rfl ak_int rfl (by decide) (by omega) (by omega) ?_
  refine s_putF (q := 28) (fs := [.ref 1, .ref 2, .null, .int 0, .int 0]) rfl d_C_init_25 rfl fl_C_21 ⟨by omega, by simp [um, hA, blk4]⟩ rfl rfl (by intro b; exact ⟨rfl, rfl⟩) (Nat.le_of_ble_eq_true rfl) ?_
  refine s_iconst (v := 0) (q := 29) d_C_init_28 rfl ki_0 ?_
  refine s_istore_n (q := 30) d_C_init_29 rfl (by decide) ?_
  refine s_lv (lv' := [(0, .ref 0), (1, .int (nI 0))]) ⟨rfl, rfl, trivial⟩ (s_cg rfl rfl rfl ?_ (lp_CT 0 (Nat.zero_le 2)))
  funext d
  by_cases h0 : d = 0
  · subst h0; simp [um, cm]
  · by_cases h1 : d = 1
    · subst h1; simp [um, cm]
    · by_cases h2 : d = 2
      · subst h2; simp [um, cm]
      · by_cases h3 : d = 3
        · subst h3; simp [um, cm]
        · unfold cm
          rw [if_neg h0, if_neg h1, if_neg h2, if_neg h3, if_neg (by omega)]
          simp only [um, h0, h1, show ¬ d = 1 + 1 by omega, show ¬ d = 1 + 1 + 1 by omega, if_false]
set_option maxHeartbeats 4000000 in
theorem t_M_init {M : Mem} (hA : M 122 = .inr (5, blk5)) : Ct l D ac b y_M_init c_M_init 1 none 1 20 21 1520 [.ref 122] 123 M (none, (123 + 21), (pm M 122 22)) := by
  refine Ct_of true (by decide) (fun _ => rfl) (Nat.le_of_ble_eq_true rfl) ?_
  show V l D ac b "SpanStoreModel" c_M_init 1 none true 1 20 21 1520 (none, (123 + 21), (pm M 122 22)) 0 0 0 [(0, .ref 122)] [] 123 M
  refine s_aload_n (q := 1) d_M_init_0 rfl rfl (Or.inr ⟨_, rfl⟩) ?_
  refine s_objInit (q := 4) d_M_init_1 rfl ml_M_1 (Nat.le_of_ble_eq_true rfl) (by decide) (by decide) ?_
  refine s_aload_n (q := 5) d_M_init_4 rfl rfl (Or.inr ⟨_, rfl⟩) ?_
  refine s_bipush (v := 16) (q := 7) d_M_init_5 rfl kb_16 ?_
  refine s_newa (t := 0) (n := 16) (q := 9) d_M_init_7 rfl (by decide) rfl ak_int rfl (by decide) (by omega) (by omega) ?_
  refine s_putF (q := 12) (fs := [.null, .null, .null, .null, .null, .null, .null, .null, .null, .null, .null, .null, .null, .null, .null, .null, .int 0, .null, .null, .null, .null, .null, .int 0]) rfl d_M_init_9 rfl fl_M_7 ⟨by omega, by simp [um, hA, blk5]⟩ rfl rfl (by intro b; exact ⟨rfl, rfl⟩) (Nat.le_of_ble_eq_true rfl) ?_
  refine s_aload_n (q := 13) d_M_init_12 rfl rfl (Or.inr ⟨_, rfl⟩) ?_
  refine s_sipush (v := 192) (q := 16) d_M_init_13 rfl kh_192 ?_
  refine s_newa (t := 0) (n := 192) (q := 18) d_M_init_16 rfl (by decide) rfl ak_int rfl (by decide) (by omega) (by omega) ?_
  refine s_putF (q := 21) (fs := [.ref 123, .null, .null, .null, .null, .null, .null, .null, .null, .null, .null, .null, .null, .null, .null, .null, .int 0, .null, .null, .null, .null, .null, .int 0]) rfl d_M_init_18 rfl fl_M_13 ⟨by omega, by simp [um, hA, blk5]⟩ rfl rfl (by intro b; exact ⟨rfl, rfl⟩) (Nat.le_of_ble_eq_true rfl) ?_
  refine s_aload_n (q := 22) d_M_init_21 rfl rfl (Or.inr ⟨_, rfl⟩) ?_
  refine s_sipush (v := 192) (q := 25) d_M_init_22 rfl kh_192 ?_
  refine s_newa (t := 0) (n := 192) (q := 27) d_M_init_25 rfl (by decide) rfl ak_int rfl (by decide) (by omega) (by omega) ?_
  refine s_putF (q := 30) (fs := [.ref 123, .ref 124, .null, .null, .null, .null, .null, .null, .null, .null, .null, .null, .null, .null, .null, .null, .int 0, .null, .null, .null, .null, .null, .int 0]) rfl d_M_init_27 rfl fl_M_16 ⟨by omega, by simp [um, hA, blk5]⟩ rfl rfl (by intro b; exact ⟨rfl, rfl⟩) (Nat.le_of_ble_eq_true rfl) ?_
  refine s_aload_n (q := 31) d_M_init_30 rfl rfl (Or.inr ⟨_, rfl⟩) ?_
  refine s_sipush (v := 192) (q := 34) d_M_init_31 rfl kh_192 ?_
  refine s_newa (t := 0) (n := 192) (q := 36) d_M_init_34 rfl (by decide) rfl ak_int rfl (by decide) (by omega) (by omega) ?_
  refine s_putF (q := 39) (fs := [.ref 123, .ref 124, .ref 125, .null, .null, .null, .null, .null, .null, .null, .null, .null, .null, .null, .null, .null, .int 0, .null, .null, .null, .null, .null, .int 0]) rfl d_M_init_36 rfl fl_M_19 ⟨by omega, by simp [um, hA, blk5]⟩ rfl rfl (by intro b; exact ⟨rfl, rfl⟩) (Nat.le_of_ble_eq_true rfl) ?_
  refine s_aload_n (q := 40) d_M_init_39 rfl rfl (Or.inr ⟨_, rfl⟩) ?_
  refine s_sipush (v := 192) (q := 43) d_M_init_40 rfl kh_192 ?_
  refine s_newa (t := 1) (n := 192) (q := 45) d_M_init_43 rfl (by decide) rfl ak_boolean rfl (by decide) (by omega) (by omega) ?_
  refine s_putF (q := 48) (fs := [.ref 123, .ref 124, .ref 125, .ref 126, .null, .null, .null, .null, .null, .null, .null, .null, .null, .null, .null, .null, .int 0, .null, .null, .null, .null, .null, .int 0]) rfl d_M_init_45 rfl fl_M_22 ⟨by omega, by simp [um, hA, blk5]⟩ rfl rfl (by intro b; exact ⟨rfl, rfl⟩) (Nat.le_of_ble_eq_true rfl) ?_
  refine s_aload_n (q := 49) d_M_init_48 rfl rfl (Or.inr ⟨_, rfl⟩) ?_
  refine s_sipush (v := 192) (q := 52) d_M_init_49 rfl kh_192 ?_
  refine s_newa (t := 1) (n := 192) (q := 54) d_M_init_52 rfl (by decide) rfl ak_boolean rfl (by decide) (by omega) (by omega) ?_
  refine s_putF (q := 57) (fs := [.ref 123, .ref 124, .ref 125, .ref 126, .ref 127, .null, .null, .null, .null, .null, .null, .null, .null, .null, .null, .null, .int 0, .null, .null, .null, .null, .null, .int 0]) rfl d_M_init_54 rfl fl_M_26 ⟨by omega, by simp [um, hA, blk5]⟩ rfl rfl (by intro b; exact ⟨rfl, rfl⟩) (Nat.le_of_ble_eq_true rfl) ?_
  refine s_aload_n (q := 58) d_M_init_57 rfl rfl (Or.inr ⟨_, rfl⟩) ?_
  refine s_sipush (v := 192) (q := 61) d_M_init_58 rfl kh_192 ?_
  refine s_newa (t := 0) (n := 192) (q := 63) d_M_init_61 rfl (by decide) rfl ak_int rfl (by decide) (by omega) (by omega) ?_
  refine s_putF (q := 66) (fs := [.ref 123, .ref 124, .ref 125, .ref 126, .ref 127, .ref 128, .null, .null, .null, .null, .null, .null, .null, .null, .null, .null, .int 0, .null, .null, .null, .null, .null, .int 0]) rfl d_M_init_63 rfl fl_M_29 ⟨by omega, by simp [um, hA, blk5]⟩ rfl rfl (by intro b; exact ⟨rfl, rfl⟩) (Nat.le_of_ble_eq_true rfl) ?_
  refine s_aload_n (q := 67) d_M_init_66 rfl rfl (Or.inr ⟨_, rfl⟩) ?_
  refine s_bipush (v := 16) (q := 69) d_M_init_67 rfl kb_16 ?_
  refine s_newa (t := 0) (n := 16) (q := 71) d_M_init_69 rfl (by decide) rfl ak_int rfl (by decide) (by omega) (by omega) ?_
  refine s_putF (q := 74) (fs := [.ref 123, .ref 124, .ref 125, .ref 126, .ref 127, .ref 128, .ref 129, .null, .null, .null, .null, .null, .null, .null, .null, .null, .int 0, .null, .null, .null, .null, .null, .int 0]) rfl d_M_init_71 rfl fl_M_32 ⟨by omega, by simp [um, hA, blk5]⟩ rfl rfl (by intro b; exact ⟨rfl, rfl⟩) (Nat.le_of_ble_eq_true rfl) ?_
  refine s_aload_n (q := 75) d_M_init_74 rfl rfl (Or.inr ⟨_, rfl⟩) ?_
  refine s_bipush (v := 16) (q := 77) d_M_init_75 rfl kb_16 ?_
  refine s_newa (t := 0) (n := 16) (q := 79) d_M_init_77 rfl (by decide) rfl ak_int rfl (by decide) (by omega) (by omega) ?_
  refine s_putF (q := 82) (fs := [.ref 123, .ref 124, .ref 125, .ref 126, .ref 127, .ref 128, .ref 129, .ref 130, .null, .null, .null, .null, .null, .null, .null, .null, .int 0, .null, .null, .null, .null, .null, .int 0]) rfl d_M_init_79 rfl fl_M_35 ⟨by omega, by simp [um, hA, blk5]⟩ rfl rfl (by intro b; exact ⟨rfl, rfl⟩) (Nat.le_of_ble_eq_true rfl) ?_
  refine s_aload_n (q := 83) d_M_init_82 rfl rfl (Or.inr ⟨_, rfl⟩) ?_
  refine s_bipush (v := 64) (q := 85) d_M_init_83 rfl kb_64 ?_
  refine s_newa (t := 0) (n := 64) (q := 87) d_M_init_85 rfl (by decide) rfl ak_int rfl (by decide) (by omega) (by omega) ?_
  refine s_putF (q := 90) (fs := [.ref 123, .ref 124, .ref 125, .ref 126, .ref 127, .ref 128, .ref 129, .ref 130, .ref 131, .null, .null, .null, .null, .null, .null, .null, .int 0, .null, .null, .null, .null, .null, .int 0]) rfl d_M_init_87 rfl fl_M_38 ⟨by omega, by simp [um, hA, blk5]⟩ rfl rfl (by intro b; exact ⟨rfl, rfl⟩) (Nat.le_of_ble_eq_true rfl) ?_
  refine s_aload_n (q := 91) d_M_init_90 rfl rfl (Or.inr ⟨_, rfl⟩) ?_
  refine s_bipush (v := 16) (q := 93) d_M_init_91 rfl kb_16 ?_
  refine s_newa (t := 1) (n := 16) (q := 95) d_M_init_93 rfl (by decide) rfl ak_boolean rfl (by decide) (by omega) (by omega) ?_
  refine s_putF (q := 98) (fs := [.ref 123, .ref 124, .ref 125, .ref 126, .ref 127, .ref 128, .ref 129, .ref 130, .ref 131, .ref 132, .null, .null, .null, .null, .null, .null, .int 0, .null, .null, .null, .null, .null, .int 0]) rfl d_M_init_95 rfl fl_M_41 ⟨by omega, by simp [um, hA, blk5]⟩ rfl rfl (by intro b; exact ⟨rfl, rfl⟩) (Nat.le_of_ble_eq_true rfl) ?_
  refine s_aload_n (q := 99) d_M_init_98 rfl rfl (Or.inr ⟨_, rfl⟩) ?_
  refine s_iconst (v := 2) (q := 100) d_M_init_99 rfl ki_2 ?_
  refine s_newa (t := 1) (n := 2) (q := 102) d_M_init_100 rfl (by decide) rfl ak_boolean rfl (by decide) (by omega) (by omega) ?_
  refine s_putF (q := 105) (fs := [.ref 123, .ref 124, .ref 125, .ref 126, .ref 127, .ref 128, .ref 129, .ref 130, .ref 131, .ref 132, .ref 133, .null, .null, .null, .null, .null, .int 0, .null, .null, .null, .null, .null, .int 0]) rfl d_M_init_102 rfl fl_M_44 ⟨by omega, by simp [um, hA, blk5]⟩ rfl rfl (by intro b; exact ⟨rfl, rfl⟩) (Nat.le_of_ble_eq_true rfl) ?_
  refine s_aload_n (q := 106) d_M_init_105 rfl rfl (Or.inr ⟨_, rfl⟩) ?_
  refine s_iconst (v := 2) (q := 107) d_M_init_106 rfl ki_2 ?_
  refine s_newa (t := 0) (n := 2) (q := 109) d_M_init_107 rfl (by decide) rfl ak_int rfl (by decide) (by omega) (by omega) ?_
  refine s_putF (q := 112) (fs := [.ref 123, .ref 124, .ref 125, .ref 126, .ref 127, .ref 128, .ref 129, .ref 130, .ref 131, .ref 132, .ref 133, .ref 134, .null, .null, .null, .null, .int 0, .null, .null, .null, .null, .null, .int 0]) rfl d_M_init_109 rfl fl_M_47 ⟨by omega, by simp [um, hA, blk5]⟩ rfl rfl (by intro b; exact ⟨rfl, rfl⟩) (Nat.le_of_ble_eq_true rfl) ?_
  refine s_aload_n (q := 113) d_M_init_112 rfl rfl (Or.inr ⟨_, rfl⟩) ?_
  refine s_bipush (v := 8) (q := 115) d_M_init_113 rfl kb_8 ?_
  refine s_newa (t := 0) (n := 8) (q := 117) d_M_init_115 rfl (by decide) rfl ak_int rfl (by decide) (by omega) (by omega) ?_
  refine s_putF (q := 120) (fs := [.ref 123, .ref 124, .ref 125, .ref 126, .ref 127, .ref 128, .ref 129, .ref 130, .ref 131, .ref 132, .ref 133, .ref 134, .ref 135, .null, .null, .null, .int 0, .null, .null, .null, .null, .null, .int 0]) rfl d_M_init_117 rfl fl_M_50 ⟨by omega, by simp [um, hA, blk5]⟩ rfl rfl (by intro b; exact ⟨rfl, rfl⟩) (Nat.le_of_ble_eq_true rfl) ?_
  refine s_aload_n (q := 121) d_M_init_120 rfl rfl (Or.inr ⟨_, rfl⟩) ?_
  refine s_bipush (v := 8) (q := 123) d_M_init_121 rfl kb_8 ?_
  refine s_newa (t := 0) (n := 8) (q := 125) d_M_init_123 rfl (by decide) rfl ak_int rfl (by decide) (by omega) (by omega) ?_
  refine s_putF (q := 128) (fs := [.ref 123, .ref 124, .ref 125, .ref 126, .ref 127, .ref 128, .ref 129, .ref 130, .ref 131, .ref 132, .ref 133, .ref 134, .ref 135, .ref 136, .null, .null, .int 0, .null, .null, .null, .null, .null, .int 0]) rfl d_M_init_125 rfl fl_M_53 ⟨by omega, by simp [um, hA, blk5]⟩ rfl rfl (by intro b; exact ⟨rfl, rfl⟩) (Nat.le_of_ble_eq_true rfl) ?_
  refine s_aload_n (q := 129) d_M_init_128 rfl rfl (Or.inr ⟨_, rfl⟩) ?_
  refine s_bipush (v := 8) (q := 131) d_M_init_129 rfl kb_8 ?_
  refine s_newa (t := 0) (n := 8) (q := 133) d_M_init_131 rfl (by decide) rfl ak_int rfl (by decide) (by omega) (by omega) ?_
  refine s_putF (q := 136) (fs := [.ref 123, .ref 124, .ref 125, .ref 126, .ref 127, .ref 128, .ref 129, .ref 130, .ref 131, .ref 132, .ref 133, .ref 134, .ref 135, .ref 136, .ref 137, .null, .int 0, .null, .null, .null, .null, .null, .int 0]) rfl d_M_init_133 rfl fl_M_56 ⟨by omega, by simp [um, hA, blk5]⟩ rfl rfl (by intro b; exact ⟨rfl, rfl⟩) (Nat.le_of_ble_eq_true rfl) ?_
  refine s_aload_n (q := 137) d_M_init_136 rfl rfl (Or.inr ⟨_, rfl⟩) ?_
  refine s_iconst (v := 4) (q := 138) d_M_init_137 rfl ki_4 ?_
  refine s_newa (t := 1) (n := 4) (q := 140) d_M_init_138 rfl (by decide) rfl ak_boolean rfl (by decide) (by omega) (by omega) ?_
  refine s_putF (q := 143) (fs := [.ref 123, .ref 124, .ref 125, .ref 126, .ref 127, .ref 128, .ref 129, .ref 130, .ref 131, .ref 132, .ref 133, .ref 134, .ref 135, .ref 136, .ref 137, .ref 138, .int 0, .null, .null, .null, .null, .null, .int 0]) rfl d_M_init_140 rfl fl_M_59 ⟨by omega, by simp [um, hA, blk5]⟩ rfl rfl (by intro b; exact ⟨rfl, rfl⟩) (Nat.le_of_ble_eq_true rfl) ?_
  refine s_aload_n (q := 144) d_M_init_143 rfl rfl (Or.inr ⟨_, rfl⟩) ?_
  refine s_iconst (v := 4) (q := 145) d_M_init_144 rfl ki_4 ?_
  refine s_newa (t := 0) (n := 4) (q := 147) d_M_init_145 rfl (by decide) rfl ak_int rfl (by decide) (by omega) (by omega) ?_
  refine s_putF (q := 150) (fs := [.ref 123, .ref 124, .ref 125, .ref 126, .ref 127, .ref 128, .ref 129, .ref 130, .ref 131, .ref 132, .ref 133, .ref 134, .ref 135, .ref 136, .ref 137, .ref 138, .int 0, .ref 139, .null, .null, .null, .null, .int 0]) rfl d_M_init_147 rfl fl_M_62 ⟨by omega, by simp [um, hA, blk5]⟩ rfl rfl (by intro b; exact ⟨rfl, rfl⟩) (Nat.le_of_ble_eq_true rfl) ?_
  refine s_aload_n (q := 151) d_M_init_150 rfl rfl (Or.inr ⟨_, rfl⟩) ?_
  refine s_iconst (v := 4) (q := 152) d_M_init_151 rfl ki_4 ?_
  refine s_newa (t := 0) (n := 4) (q := 154) d_M_init_152 rfl (by decide) rfl ak_int rfl (by decide) (by omega) (by omega) ?_
  refine s_putF (q := 157) (fs := [.ref 123, .ref 124, .ref 125, .ref 126, .ref 127, .ref 128, .ref 129, .ref 130, .ref 131, .ref 132, .ref 133, .ref 134, .ref 135, .ref 136, .ref 137, .ref 138, .int 0, .ref 139, .ref 140, .null, .null, .null, .int 0]) rfl d_M_init_154 rfl fl_M_65 ⟨by omega, by simp [um, hA, blk5]⟩ rfl rfl (by intro b; exact ⟨rfl, rfl⟩) (Nat.le_of_ble_eq_true rfl) ?_
  refine s_aload_n (q := 158) d_M_init_157 rfl rfl (Or.inr ⟨_, rfl⟩) ?_
  refine s_sipush (v := 160) (q := 161) d_M_init_158 rfl kh_160 ?_
  refine s_newa (t := 0) (n := 160) (q := 163) d_M_init_161 rfl (by decide) rfl ak_int rfl (by decide) (by omega) (by omega) ?_
  refine s_putF (q := 166) (fs := [.ref 123, .ref 124, .ref 125, .ref 126, .ref 127, .ref 128, .ref 129, .ref 130, .ref 131, .ref 132, .ref 133, .ref 134, .ref 135, .ref 136, .ref 137, .ref 138, .int 0, .ref 139, .ref 140, .ref 141, .null, .null, .int 0]) rfl d_M_init_163 rfl fl_M_68 ⟨by omega, by simp [um, hA, blk5]⟩ rfl rfl (by intro b; exact ⟨rfl, rfl⟩) (Nat.le_of_ble_eq_true rfl) ?_
  refine s_aload_n (q := 167) d_M_init_166 rfl rfl (Or.inr ⟨_, rfl⟩) ?_
  refine s_bipush (v := 40) (q := 169) d_M_init_167 rfl kb_40 ?_
  refine s_newa (t := 0) (n := 40) (q := 171) d_M_init_169 rfl (by decide) rfl ak_int rfl (by decide) (by omega) (by omega) ?_
  refine s_putF (q := 174) (fs := [.ref 123, .ref 124, .ref 125, .ref 126, .ref 127, .ref 128, .ref 129, .ref 130, .ref 131, .ref 132, .ref 133, .ref 134, .ref 135, .ref 136, .ref 137, .ref 138, .int 0, .ref 139, .ref 140, .ref 141, .ref 142, .null, .int 0]) rfl d_M_init_171 rfl fl_M_71 ⟨by omega, by simp [um, hA, blk5]⟩ rfl rfl (by intro b; exact ⟨rfl, rfl⟩) (Nat.le_of_ble_eq_true rfl) ?_
  refine s_ret d_M_init_174 rfl (by omega) (by omega) ?_
  symm
  refine Prod.ext rfl (Prod.ext rfl (funext fun i => ?_))
  show _ = pm M 122 22 i
  by_cases h : 122 ≤ i ∧ i < 122 + 22
  · rw [pm_in h]
    rcases (show i = 122 ∨ i = 123 ∨ i = 124 ∨ i = 125 ∨ i = 126 ∨ i = 127 ∨ i = 128 ∨ i = 129 ∨ i = 130 ∨ i = 131 ∨ i = 132 ∨ i = 133 ∨ i = 134 ∨ i = 135 ∨ i = 136 ∨ i = 137 ∨ i = 138 ∨ i = 139 ∨ i = 140 ∨ i = 141 ∨ i = 142 ∨ i = 143 by omega) with rfl | rfl | rfl | rfl | rfl | rfl | rfl | rfl | rfl | rfl | rfl | rfl | rfl | rfl | rfl | rfl | rfl | rfl | rfl | rfl | rfl | rfl
    · simp [um, mk, skM, mkE, mkf, X0_z (show 122 < 114 ∨ 122 ≤ 122 by omega)]
    · simp [um, mk, sm_0, mkE, X0_f (show 123 < 114 ∨ 122 ≤ 123 by omega)]
    · simp [um, mk, sm_1, mkE, X0_f (show 124 < 114 ∨ 122 ≤ 124 by omega)]
    · simp [um, mk, sm_2, mkE, X0_f (show 125 < 114 ∨ 122 ≤ 125 by omega)]
    · simp [um, mk, sm_3, mkE, X0_f (show 126 < 114 ∨ 122 ≤ 126 by omega)]
    · simp [um, mk, sm_4, mkE, X0_f (show 127 < 114 ∨ 122 ≤ 127 by omega)]
    · simp [um, mk, sm_5, mkE, X0_f (show 128 < 114 ∨ 122 ≤ 128 by omega)]
    · simp [um, mk, sm_6, mkE, X0_f (show 129 < 114 ∨ 122 ≤ 129 by omega)]
    · simp [um, mk, sm_7, mkE, X0_f (show 130 < 114 ∨ 122 ≤ 130 by omega)]
    · simp [um, mk, sm_8, mkE, X0_f (show 131 < 114 ∨ 122 ≤ 131 by omega)]
    · simp [um, mk, sm_9, mkE, X0_f (show 132 < 114 ∨ 122 ≤ 132 by omega)]
    · simp [um, mk, sm_10, mkE, X0_f (show 133 < 114 ∨ 122 ≤ 133 by omega)]
    · simp [um, mk, sm_11, mkE, X0_f (show 134 < 114 ∨ 122 ≤ 134 by omega)]
    · simp [um, mk, sm_12, mkE, X0_f (show 135 < 114 ∨ 122 ≤ 135 by omega)]
    · simp [um, mk, sm_13, mkE, X0_f (show 136 < 114 ∨ 122 ≤ 136 by omega)]
    · simp [um, mk, sm_14, mkE, X0_f (show 137 < 114 ∨ 122 ≤ 137 by omega)]
    · simp [um, mk, sm_15, mkE, X0_f (show 138 < 114 ∨ 122 ≤ 138 by omega)]
    · simp [um, mk, sm_16, mkE, X0_f (show 139 < 114 ∨ 122 ≤ 139 by omega)]
    · simp [um, mk, sm_17, mkE, X0_f (show 140 < 114 ∨ 122 ≤ 140 by omega)]
    · simp [um, mk, sm_18, mkE, X0_f (show 141 < 114 ∨ 122 ≤ 141 by omega)]
    · simp [um, mk, sm_19, mkE, X0_f (show 142 < 114 ∨ 122 ≤ 142 by omega)]
    · simp [um, mk, sm_20, mkE, X0_f (show 143 < 114 ∨ 122 ≤ 143 by omega)]
  · rw [pm_out (by omega)]
    simp only [um, show ¬ i = 122 by omega, show ¬ i = 123 by omega, show ¬ i = 123 + 1 by omega, show ¬ i = 123 + 1 + 1 by omega, show ¬ i = 123 + 1 + 1 + 1 by omega, show ¬ i = 123 + 1 + 1 + 1 + 1 by omega, show ¬ i = 123 + 1 + 1 + 1 + 1 + 1 by omega, show ¬ i = 123 + 1 + 1 + 1 + 1 + 1 + 1 by omega, show ¬ i = 123 + 1 + 1 + 1 + 1 + 1 + 1 + 1 by omega, show ¬ i = 123 + 1 + 1 + 1 + 1 + 1 + 1 + 1 + 1 by omega, show ¬ i = 123 + 1 + 1 + 1 + 1 + 1 + 1 + 1 + 1 + 1 by omega, show ¬ i = 123 + 1 + 1 + 1 + 1 + 1 + 1 + 1 + 1 + 1 + 1 by omega, show ¬ i = 123 + 1 + 1 + 1 + 1 + 1 + 1 + 1 + 1 + 1 + 1 + 1 by omega, show ¬ i = 123 + 1 + 1 + 1 + 1 + 1 + 1 + 1 + 1 + 1 + 1 + 1 + 1 by omega, show ¬ i = 123 + 1 + 1 + 1 + 1 + 1 + 1 + 1 + 1 + 1 + 1 + 1 + 1 + 1 by omega, show ¬ i = 123 + 1 + 1 + 1 + 1 + 1 + 1 + 1 + 1 + 1 + 1 + 1 + 1 + 1 + 1 by omega, show ¬ i = 123 + 1 + 1 + 1 + 1 + 1 + 1 + 1 + 1 + 1 + 1 + 1 + 1 + 1 + 1 + 1 by omega, show ¬ i = 123 + 1 + 1 + 1 + 1 + 1 + 1 + 1 + 1 + 1 + 1 + 1 + 1 + 1 + 1 + 1 + 1 by omega, show ¬ i = 123 + 1 + 1 + 1 + 1 + 1 + 1 + 1 + 1 + 1 + 1 + 1 + 1 + 1 + 1 + 1 + 1 + 1 by omega, show ¬ i = 123 + 1 + 1 + 1 + 1 + 1 + 1 + 1 + 1 + 1 + 1 + 1 + 1 + 1 + 1 + 1 + 1 + 1 + 1 by omega, show ¬ i = 123 + 1 + 1 + 1 + 1 + 1 + 1 + 1 + 1 + 1 + 1 + 1 + 1 + 1 + 1 + 1 + 1 + 1 + 1 + 1 by omega, show ¬ i = 123 + 1 + 1 + 1 + 1 + 1 + 1 + 1 + 1 + 1 + 1 + 1 + 1 + 1 + 1 + 1 + 1 + 1 + 1 + 1 + 1 by omega, if_false]
end P19
