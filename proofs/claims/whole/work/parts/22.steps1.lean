section P22
variable {l : Launch} {D : va_G} {ac : Nat → ClassId} {b : Nat}
theorem Inv_same {X Y : RAM} (hs : ∀ a, a ≠ 3 → a ≠ 143 → Y a = X a) (h : Inv X) : Inv Y := by
  obtain ⟨i1, i2, i3, i4, i5, i6⟩ := h
  refine ⟨fun t ht => ?_, fun t ht j hj => ?_, fun k hk => ?_, ?_, ?_, fun r hr => ?_⟩
  · obtain ⟨c, hc⟩ := i1 t ht
    exact ⟨c, TI_of (hs _ (by omega) (by omega)) (fun k hk => hs _ (by omega) (by omega)) (by rw [hs 134 (by decide) (by decide)]) (by rw [hs 135 (by decide) (by decide)]) (fun a h1 h2 k hk => by rw [hs a (by omega) (by omega)]) hc⟩
  · obtain ⟨n, hn⟩ := i2 t ht j hj
    obtain ⟨c, hc⟩ := i1 t ht
    have hb : bC t j = 4 + 55 * t + 3 + 6 * j := rfl
    exact ⟨n, BI_of (by rw [TI_c hc]; exact hc.1) (fun a h1 h2 => hs a (by omega) (by omega)) (by rw [hs _ (by omega) (by omega)]) (fun a h1 h2 i hi => by rw [hs a (by omega) (by omega)]) (fun a ha => by rw [hs a (by omega) (by omega)]) (fun g hg => by rw [hs _ (by omega) (by omega)]) (by rw [hs _ (by omega) (by omega)]) (by rw [hs _ (by omega) (by omega)]) (fun a h1 h2 k hk => by rw [hs a (by omega) (by omega)]) hn⟩
  · obtain ⟨m, hm⟩ := i3 k hk
    exact ⟨m, SI_of (hs _ (by omega) (by omega)) (hs _ (by omega) (by omega)) (fun a h1 h2 => by rw [hs a (by omega) (by omega)]) (fun i hi => by rw [hs _ (by omega) (by omega)]) hm⟩
  · rw [hs 122 (by decide) (by decide), hs 0 (by decide) (by decide)]
    exact i4
  · rw [hs 122 (by decide) (by decide), hs 0 (by decide) (by decide)]
    exact i5
  · have e : gpN Y r = gpN X r := by unfold gpN; rw [hs 125 (by decide) (by decide)]
    rw [e, hs 125 (by decide) (by decide)]
    exact i6 r hr
theorem f0 {X : RAM} {z : Int32} {a : Nat} (h : 123 ≤ a) : up2 X 0 4 z a = X a := up2_ne (by omega)
theorem Inv_seal {X : RAM} (h : Inv X) {t : Nat} (ht : t < 2) : X (4 + 55 * t) 3 = X 134 t := by
  obtain ⟨c, hc⟩ := h.1 t ht
  exact hc.2.2.2.1
theorem Inv_c {X : RAM} (h : Inv X) {t : Nat} (ht : t < 2) : TI X t (cN X t) := by
  obtain ⟨c, hc⟩ := h.1 t ht
  rw [TI_c hc]
  exact hc
theorem Inv_b {X : RAM} (h : Inv X) {t j : Nat} (ht : t < 2) (hj : j < 8) : BI X t j (mnN X (8 * t + j)) := by
  obtain ⟨n, hn⟩ := h.2.1 t ht j hj
  rw [BI_mn hn]
  exact hn
theorem st_sum {X : RAM} (hI : Inv X) (x g e : Int32) : ∃ (rv : Int64) (X1 X2 : RAM), CG l D ac b y_C_sum c_C_sum 5 (some .long) 5 113 [.ref 0, .int x, .int g, .int e] X (some (.long rv)) X1 ∧ CG l D ac b y_M_sum c_M_sum 4 (some .long) 5 126 [.ref 122, .int x, .int g, .int e] X1 (some (.long rv)) X2 ∧ Inv X2 := by
  rcases ix2 (x := x) with hx | ⟨t, ht, rfl⟩
  · exact ⟨_, X, X, t_C_sum_T hx, t_M_sum_T hx, hI⟩
  · have hc := Inv_c hI ht
    by_cases hg : GrpOK g
    · by_cases he : EndOK e
      · by_cases hs : X 134 t = 0
        · exact ⟨_, X, X, t_C_sum_S ht hg he ((Inv_seal hI ht).trans hs), t_M_sum_S ht hg he hs, hI⟩
        · refine ⟨_, X, X, t_C_sum_D ht hg he (fun z => hs ((Inv_seal hI ht).symm.trans z)) (Inv_okZ hI ht), ?_, hI⟩
          rw [sumT_eq hI ht hs hg]
          exact t_M_sum_D ht hg he hs hc.2.2.1 hc.1 (Inv_okM hI)
      · exact ⟨_, X, X, t_C_sum_E ht hg he, t_M_sum_E ht hg he, hI⟩
    · exact ⟨_, X, X, t_C_sum_G ht hg, t_M_sum_G ht hg, hI⟩
theorem st_count {X : RAM} (hI : Inv X) (x y e : Int32) : ∃ (rv : Int32) (X1 X2 : RAM), CG l D ac b y_C_count c_C_count 5 (some .int) 5 111 [.ref 0, .int x, .int y, .int e] X (some (.int rv)) X1 ∧ CG l D ac b y_M_count c_M_count 6 (some .int) 4 94 [.ref 122, .int x, .int y, .int e] X1 (some (.int rv)) X2 ∧ Inv X2 := by
  rcases ix2 (x := x) with hx | ⟨t, ht, rfl⟩
  · exact ⟨_, X, X, t_C_count_T hx, t_M_count_T hx, hI⟩
  · have hc := Inv_c hI ht
    by_cases he : EndOK e
    · by_cases hs : X 134 t = 0
      · exact ⟨_, X, X, t_C_count_S ht he ((Inv_seal hI ht).trans hs), t_M_count_S ht he hs, hI⟩
      · refine ⟨_, X, X, t_C_count_D ht he (fun z => hs ((Inv_seal hI ht).symm.trans z)) (Inv_okZ hI ht), ?_, hI⟩
        rw [cntT_eq hI ht hs]
        exact t_M_count_D ht he hs hc.2.2.1 hc.1 (Inv_okM hI)
    · exact ⟨_, X, X, t_C_count_E ht he, t_M_count_E ht he, hI⟩
theorem st_next {X : RAM} (hI : Inv X) (x g : Int32) : ∃ (rv : Int32) (X1 X2 : RAM), CG l D ac b y_C_next c_C_next 4 (some .int) 6 136 [.ref 0, .int x, .int g] X (some (.int rv)) X1 ∧ CG l D ac b y_M_next c_M_next 3 (some .int) 5 129 [.ref 122, .int x, .int g] X1 (some (.int rv)) X2 ∧ Inv X2 := by
  rcases ix2 (x := x) with hx | ⟨t, ht, rfl⟩
  · exact ⟨_, X, X, t_C_next_T hx, t_M_next_T hx, hI⟩
  · have hc := Inv_c hI ht
    by_cases hg : GrpOK g
    · by_cases hs : X 134 t = 0
      · exact ⟨_, X, X, t_C_next_S ht hg ((Inv_seal hI ht).trans hs), t_M_next_S ht hg hs, hI⟩
      · refine ⟨_, X, X, t_C_next_D ht hg (fun z => hs ((Inv_seal hI ht).symm.trans z)) (Inv_okZ hI ht), ?_, hI⟩
        rw [wdT_eq hI ht hs hg]
        exact t_M_next_D ht hg hs hc.2.2.1 hc.1 (Inv_okM hI)
    · exact ⟨_, X, X, t_C_next_G ht hg, t_M_next_G ht hg, hI⟩
theorem in_row {r : Int32} {n : Nat} (hn : n ≤ 12) (h : ¬ r < 0 ∧ r < nI n) : ∃ k, k < n ∧ r = nI k := nn_of h.1 (i_nle.mpr h.2) (by omega)
theorem st_value {X : RAM} (hI : Inv X) (x y r : Int32) : ∃ (rv : Int32) (X1 X2 : RAM), CG l D ac b y_C_value c_C_value 6 (some .int) 1 21 [.ref 0, .int x, .int y, .int r] X (some (.int rv)) X1 ∧ CG l D ac b y_M_value c_M_value 5 (some .int) 4 86 [.ref 122, .int x, .int y, .int r] X1 (some (.int rv)) X2 ∧ Inv X2 := by
  rcases ix2 (x := x) with hx | ⟨t, ht, rfl⟩
  · exact ⟨_, X, X, t_C_value_T hx, t_M_value_T hx, hI⟩
  · rcases ix8 (x := y) with hy | ⟨j, hj, rfl⟩
    · exact ⟨_, X, X, t_C_value_B ht hy, t_M_value_B ht hy, hI⟩
    · have hb := Inv_b hI ht hj
      by_cases hr : ¬ r < 0 ∧ r < nI (mnN X (8 * t + j))
      · obtain ⟨k, hk, rfl⟩ := in_row hb.1 hr
        have rr := hb.2.2.2.1 k hk
        by_cases hs : X 134 t = 0
        · exact ⟨_, X, X, t_C_value_S ht hj hb.2.1 hb.1 hk ((Inv_seal hI ht).trans hs), t_M_value_S ht hj hb.2.2.1 hb.1 hk hs, hI⟩
        · have hs2 : ¬ X (4 + 55 * t) 3 = 0 := fun z => hs ((Inv_seal hI ht).symm.trans z)
          by_cases hw : X (bC t j + 4) k = 0
          · exact ⟨_, X, X, t_C_value_N ht hj hb.2.1 hb.1 hk hs2 hw, t_M_value_N ht hj hb.2.2.1 hb.1 hk hs (rr.2.2.2.1.trans hw), hI⟩
          · refine ⟨_, X, X, t_C_value_D ht hj hb.2.1 hb.1 hk hs2 hw, ?_, hI⟩
            have h3 := t_M_value_D (l := l) (D := D) (ac := ac) (b := b) ht hj hb.2.2.1 hb.1 hk hs (fun z => hw (rr.2.2.2.1.symm.trans z))
            rw [rr.2.2.1] at h3
            exact h3
      · exact ⟨_, X, X, t_C_value_R ht hj (by rw [show X (4 + 55 * t + 3 + 6 * j) 5 = _ from hb.2.1]; exact hr), t_M_value_R ht hj hb.2.2.1 hb.1 hr, hI⟩
theorem st_about {X : RAM} (hI : Inv X) (x y w : Int32) : ∃ (rv : Int32) (X1 X2 : RAM), CG l D ac b y_C_about c_C_about 6 (some .int) 3 61 [.ref 0, .int x, .int y, .int w] X (some (.int rv)) X1 ∧ CG l D ac b y_M_about c_M_about 6 (some .int) 3 68 [.ref 122, .int x, .int y, .int w] X1 (some (.int rv)) X2 ∧ Inv X2 := by
  rcases ix2 (x := x) with hx | ⟨t, ht, rfl⟩
  · exact ⟨_, X, X, t_C_about_T hx, t_M_about_T hx, hI⟩
  · rcases ix8 (x := y) with hy | ⟨j, hj, rfl⟩
    · exact ⟨_, X, X, t_C_about_B ht hy, t_M_about_B ht hy, hI⟩
    · have hb := Inv_b hI ht hj
      have hc := Inv_c hI ht
      by_cases hw : (0 ≤ w ∧ w ≤ 7) ∨ (10 ≤ w ∧ w < 14)
      · obtain ⟨k, hk, rfl⟩ : ∃ k : Nat, (k ≤ 7 ∨ 10 ≤ k ∧ k < 14) ∧ w = nI k := by
          have h0 : ¬ w < 0 := by simp only [i_le, i_lt, tI_0, tI_7, tI_10, tI_14] at *; omega
          obtain ⟨k, hk, rfl⟩ := nI_of h0
          refine ⟨k, ?_, rfl⟩
          simp only [i_le, i_lt, tI_0, tI_7, tI_10, tI_14, nI_toInt hk] at hw
          omega
        by_cases hs : X 134 t = 0
        · exact ⟨_, X, X, t_C_about_S ht hj hk ((Inv_seal hI ht).trans hs), t_M_about_S ht hj hs, hI⟩
        · refine ⟨_, X, X, t_C_about_D ht hj hk (fun z => hs ((Inv_seal hI ht).symm.trans z)), ?_, hI⟩
          rw [show faV X (4 + 55 * t + 3 + 6 * j) k = _ from fact_eq hb hs hk]
          exact t_M_about_D ht hj hs hc.2.2.1 hc.1 hb.2.2.1 hb.1 hk
      · by_cases hs : X 134 t = 0
        · exact ⟨_, X, X, t_C_about_W ht hj hw, t_M_about_S ht hj hs, hI⟩
        · exact ⟨_, X, X, t_C_about_W ht hj hw, t_M_about_W ht hj hs hc.2.2.1 hc.1 hb.2.2.1 hb.1 hw, hI⟩
theorem st_told {X : RAM} (hI : Inv X) (w : Int32) : ∃ (rv : Int32) (X1 X2 : RAM), CG l D ac b y_C_told c_C_told 2 (some .int) 1 22 [.ref 0, .int w] X (some (.int rv)) X1 ∧ CG l D ac b y_M_told c_M_told 2 (some .int) 2 46 [.ref 122, .int w] X1 (some (.int rv)) X2 ∧ Inv X2 := by
  by_cases hw : w < 0 ∨ 9 < w
  · exact ⟨_, X, X, t_C_told_B hw, t_M_told_B hw, hI⟩
  · have h0 : ¬ w < 0 := fun z => hw (Or.inl z)
    obtain ⟨k, hk, rfl⟩ := nI_of h0
    have hk2 : k < 10 := by
      have h1 : ¬ (9 : Int32) < nI k := fun z => hw (Or.inr z)
      rcases Nat.lt_or_ge k 10 with q | q
      · exact q
      · exact absurd (nI_lt (a := 9) (b := k) (by omega) hk) h1
    refine ⟨_, X, X, t_C_told hk2, ?_, hI⟩
    rw [told_eq hI hk2]
    exact t_M_told hk2 (Inv_okM hI)
theorem st_digest {X : RAM} (hI : Inv X) : ∃ (rv : Int64) (X1 X2 : RAM), CG l D ac b y_C_digest c_C_digest 4 (some .long) 6 138 [.ref 0] X (some (.long rv)) X1 ∧ CG l D ac b y_M_digest c_M_digest 7 (some .long) 5 126 [.ref 122] X1 (some (.long rv)) X2 ∧ Inv X2 := by
  have c0 := Inv_c hI (t := 0) (by decide)
  have c1 := Inv_c hI (t := 1) (by decide)
  have z0 := Inv_okZ hI (t := 0) (by decide)
  have z1 := Inv_okZ hI (t := 1) (by decide)
  refine ⟨_, X, X, t_C_digest z0 z1, ?_, hI⟩
  rw [dt_eq hI 2 (Nat.le_refl 2)]
  exact t_M_digest c0.2.2.1 c0.1 c1.2.2.1 c1.1 (Inv_okM hI)
theorem Inv_s {X : RAM} (h : Inv X) {k : Nat} (hk : k < 4) : ∃ m, SI X k m := h.2.2.1 k hk
theorem SI_there {X : RAM} {k m : Nat} (h : SI X k m) : X (114 + 2 * k) 3 = 0 ↔ ¬ X 139 k = 0 := by
  rcases h.2.2.2.2.1 with ⟨a, b⟩ | ⟨a, b⟩ <;> rw [a, b] <;> decide
theorem fault_eq {X : RAM} {k m : Nat} {f i : Int32} (h : SI X k m) : faultV X (114 + 2 * k) f i = lkV X k m f i := by
  have h1 := SI_there h
  unfold faultV lkV
  rw [h.2.2.2.1, h.2.1]
  by_cases q : X (114 + 2 * k) 3 = 0
  · rw [if_pos q, if_neg (h1.mp q)]
    by_cases q2 : X (114 + 2 * k) 1 = f
    · rw [if_pos q2, if_pos q2]
      by_cases q3 : i < 0
      · rw [if_pos q3, if_neg (fun z => z.1 q3)]
      · rw [if_neg q3]
        by_cases q4 : nI m ≤ i
        · rw [if_pos q4, if_neg (fun z => absurd q4 (i_nle.mpr z.2))]
        · rw [if_neg q4, if_pos ⟨q3, i_nle.mp q4⟩]
    · rw [if_neg q2, if_neg q2]
  · rw [if_neg q, if_pos (Classical.not_not.mp (fun z => q (h1.mpr z)))]
theorem lk_cases {X : RAM} {k m : Nat} {f i : Int32} : lkV X k m f i = 1 ∨ lkV X k m f i = 2 ∨ lkV X k m f i = 3 ∨ (lkV X k m f i = 0 ∧ ¬ i < 0 ∧ i < nI m) := by
  unfold lkV
  split
  · exact Or.inl rfl
  · split
    · split
      · rename_i h; exact Or.inr (Or.inr (Or.inr ⟨rfl, h⟩))
      · exact Or.inr (Or.inl rfl)
    · exact Or.inr (Or.inr (Or.inl rfl))
theorem lk_f0 {X : RAM} {k m : Nat} {f i z : Int32} : lkV (up2 X 0 4 z) k m f i = lkV X k m f i := by unfold lkV; rw [f0 (by decide), f0 (by decide)]
theorem st_get {X : RAM} (hI : Inv X) (x f i : Int32) : ∃ (rv : Int32) (X1 X2 : RAM), CG l D ac b y_C_get c_C_get 6 (some .int) 1 22 [.ref 0, .int x, .int f, .int i] X (some (.int rv)) X1 ∧ CG l D ac b y_M_get c_M_get 5 (some .int) 2 45 [.ref 122, .int x, .int f, .int i] X1 (some (.int rv)) X2 ∧ Inv X2 := by
  rcases ix4 (x := x) with hz | ⟨k, hk, rfl⟩
  · exact ⟨_, X, X, t_C_get_N hz, t_M_get_N hz, hI⟩
  · by_cases hf : FrmOK f
    · obtain ⟨m, hm⟩ := Inv_s hI hk
      have e := fault_eq (f := f) (i := i) hm
      rcases lk_cases (X := X) (k := k) (m := m) (f := f) (i := i) with q | q | q | ⟨q, h0, h1⟩
      · exact ⟨_, _, _, t_C_get_1 hk hf (e.trans q), t_M_get_1 hk hf (by rw [f0 (by decide)]; exact hm.2.2.1) hm.1 (lk_f0.trans q), Inv_find 1 hI⟩
      · exact ⟨_, _, _, t_C_get_2 hk hf (e.trans q), t_M_get_2 hk hf (by rw [f0 (by decide)]; exact hm.2.2.1) hm.1 (lk_f0.trans q), Inv_find 2 hI⟩
      · exact ⟨_, _, _, t_C_get_3 hk hf (e.trans q), t_M_get_3 hk hf (by rw [f0 (by decide)]; exact hm.2.2.1) hm.1 (lk_f0.trans q), Inv_find 3 hI⟩
      · obtain ⟨i, hi, rfl⟩ := nn_of h0 (i_nle.mpr h1) (by have := hm.1; omega)
        refine ⟨_, X, X, t_C_get_D hk hf (e.trans q) hm.2.1 hi hm.1, ?_, hI⟩
        rw [← hm.2.2.2.2.2 i (by have := hm.1; omega)]
        exact t_M_get_D hk hf hm.2.2.1 hm.1 hi q
    · exact ⟨_, X, X, t_C_get_F hk hf, t_M_get_F hk hf, hI⟩
end P22
