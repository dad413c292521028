section P25
variable {l : Launch} {D : va_G} {ac : Nat → ClassId} {b : Nat}
theorem up2_v {X : RAM} {o k a p : Nat} {v : Int32} : up2 X o k v a p = if a = o ∧ p = k then v else X a p := by
  by_cases q : a = o ∧ p = k
  · obtain ⟨rfl, rfl⟩ := q
    rw [um_u, if_pos ⟨rfl, rfl⟩]
  · rw [up2_n q, if_neg q]
theorem addX_v {W : RAM} {o n gg a p : Nat} {k v : Int32} : addX W o n gg k v a p = if a = o ∧ p = 5 then nI (n + 1) else if a = o + 5 ∧ p = gg then W (o + 5) gg + 1 else if a = o + 4 ∧ p = n then 0 else if a = o + 3 ∧ p = n then v else if a = o + 2 ∧ p = n then nI gg else if a = o + 1 ∧ p = n then k else W a p := by
  unfold addX
  simp only [up2_v]
theorem ml_add {W : RAM} {o q gg B n : Nat} {k v a c d : Int32} (ho : o + 5 < 122) : mlX (addX W o q gg k v) B n a c d = addX (mlX W B n a c d) o q gg k v := by
  funext x p
  by_cases h : x < 122
  · rw [mlX_ne (by omega), addX_v, addX_v, mlX_ne (a := o + 5) (by omega), mlX_ne (a := x) (by omega)]
  · rw [addX_ne (by omega)]
    unfold mlX
    simp only [up2_v]
    rw [addX_ne (a := x) (by omega)]
theorem md_add {Z : RAM} {o q gg B k g v n : Nat} {a c : Int32} (ho : o + 5 < 122) (i : Nat) : mdS (addX Z o q gg a c) B k g v n i = addX (mdS Z B k g v n i) o q gg a c := by
  induction i with
  | zero => rfl
  | succ i ih =>
    unfold mdS
    rw [ih, ml_add ho, addX_ne (by omega)]
theorem Inv_load {X : RAM} {t j n k g v m : Nat} (ht : t < 2) (hj : j < 8) (hI : Inv X) (hb : BI X t j n) (hk : k < 4) (hg : g < 4) (hv : v < 4) (hn : n + m ≤ 12) (hs : X 134 t = 0) (hall : ∀ i, i < m → itR X k g v i) : ∀ i, i ≤ m → BI (mdS (ldS X (bC t j) k g v n i) (8 * t + j) k g v n i) t j (n + i) ∧ Inv (mdS (ldS X (bC t j) k g v n i) (8 * t + j) k g v n i) := by
  intro i
  have hbC : bC t j = 4 + 55 * t + 3 + 6 * j := rfl
  induction i with
  | zero => exact fun _ => ⟨hb, hI⟩
  | succ i ih =>
    intro hi
    obtain ⟨h1, h2⟩ := ih (by omega)
    have hr := hall i (by omega)
    obtain ⟨g1, g2⟩ := grp_of hr.2.1
    have e : mdS (ldS X (bC t j) k g v n (i + 1)) (8 * t + j) k g v n (i + 1) = mlX (addX (mdS (ldS X (bC t j) k g v n i) (8 * t + j) k g v n i) (bC t j) (n + i) (X (114 + 2 * g + 1) i).toNatClampNeg (X (114 + 2 * k + 1) i) (X (114 + 2 * v + 1) i)) (8 * t + j) (n + i) (X (114 + 2 * k + 1) i) (nI (X (114 + 2 * g + 1) i).toNatClampNeg) (X (114 + 2 * v + 1) i) := by
      have i0 := Inv_its hI
      rw [← g1, ← i0 k hk i (by omega), ← i0 g hg i (by omega), ← i0 v hv i (by omega)]
      show mlX (mdS (addX (ldS X (bC t j) k g v n i) _ _ _ _ _) _ _ _ _ _ _) _ _ (ldS X (bC t j) k g v n (i + 1) 142 _) (ldS X (bC t j) k g v n (i + 1) 142 _) (ldS X (bC t j) k g v n (i + 1) 142 _) = _
      rw [ldS_ne (by omega), md_add (by omega), i0 k hk i (by omega), i0 g hg i (by omega), i0 v hv i (by omega)]
    have hs2 : mdS (ldS X (bC t j) k g v n i) (8 * t + j) k g v n i 134 t = 0 := by rw [mdS_ne (by omega), ldS_ne (by omega)]; exact hs
    rw [e, ← Nat.add_assoc]
    exact Inv_row ht hj h2 h1 (by omega) hs2 g2 (by rw [← g1]; exact hr)
theorem least_bad {P : Nat → Prop} {m : Nat} (h : ¬ ∀ i, i < m → P i) : ∃ k, k < m ∧ ¬ P k ∧ ∀ i, i < k → P i := by
  induction m with
  | zero => exact absurd (fun i hi => absurd hi (Nat.not_lt_zero i)) h
  | succ m ih =>
    by_cases q : ∀ i, i < m → P i
    · refine ⟨m, by omega, fun z => h (fun i hi => ?_), q⟩
      by_cases e : i = m
      · rw [e]; exact z
      · exact q i (by omega)
    · obtain ⟨k, h1, h2, h3⟩ := ih q
      exact ⟨k, by omega, h2, h3⟩
theorem st_load {X : RAM} (hI : Inv X) (x y a c d n : Int32) : ∃ (rv : Int32) (X1 X2 : RAM), CG l D ac b y_C_load c_C_load 13 (some .int) 2 42 [.ref 0, .int x, .int y, .int a, .int c, .int d, .int n] X (some (.int rv)) X1 ∧ CG l D ac b y_M_load c_M_load 9 (some .int) 3 63 [.ref 122, .int x, .int y, .int a, .int c, .int d, .int n] X1 (some (.int rv)) X2 ∧ Inv X2 := by
  rcases ix2 (x := x) with hx | ⟨t, ht, rfl⟩
  · exact ⟨_, X, X, t_C_load_T hx, t_M_load_T hx, hI⟩
  · rcases ix8 (x := y) with hy | ⟨j, hj, rfl⟩
    · exact ⟨_, X, X, t_C_load_B ht hy, t_M_load_B ht hy, hI⟩
    · rcases ix4 (x := a) with hz | ⟨k, hk, rfl⟩
      · exact ⟨_, X, X, t_C_load_K ht hj hz, t_M_load_K ht hj hz, hI⟩
      · rcases ix4 (x := c) with hz | ⟨g, hg, rfl⟩
        · exact ⟨_, X, X, t_C_load_G ht hj hk hz, t_M_load_G ht hj hk hz, hI⟩
        · rcases ix4 (x := d) with hz | ⟨v, hv, rfl⟩
          · exact ⟨_, X, X, t_C_load_V ht hj hk hg hz, t_M_load_V ht hj hk hg hz, hI⟩
          · by_cases hn : n < 1 ∨ 12 < n
            · exact ⟨_, X, X, t_C_load_N ht hj hk hg hv hn, t_M_load_N ht hj hk hg hv hn, hI⟩
            · obtain ⟨m, hm1, hm, rfl⟩ : ∃ m : Nat, 1 ≤ m ∧ m ≤ 12 ∧ n = nI m := by
                have h0 : ¬ n < 0 := by simp only [i_lt, tI_0, tI_1, tI_12] at *; omega
                obtain ⟨m, hm, rfl⟩ := nI_of h0
                refine ⟨m, ?_, ?_, rfl⟩
                · simp only [i_lt, tI_1, tI_12, nI_toInt hm] at hn; omega
                · simp only [i_lt, tI_1, tI_12, nI_toInt hm] at hn; omega
              have hb := Inv_b hI ht hj
              have hbC : bC t j = 4 + 55 * t + 3 + 6 * j := rfl
              by_cases hs : X 134 t = 0
              · have hs2 := (Inv_seal hI ht).trans hs
                by_cases hf : 12 < mnN X (8 * t + j) + m
                · exact ⟨_, X, X, t_C_load_F ht hj hk hg hv hm1 hm hs2 hb.2.1 hb.1 hf, t_M_load_F ht hj hk hg hv hm1 hm hs hb.2.2.1 hb.1 hf, hI⟩
                · have hf2 : mnN X (8 * t + j) + m ≤ 12 := by omega
                  obtain ⟨m1, k1⟩ := Inv_s hI hk
                  obtain ⟨m2, k2⟩ := Inv_s hI hg
                  obtain ⟨m3, k3⟩ := Inv_s hI hv
                  have h1 := SI_there k1
                  have h2 := SI_there k2
                  have h3 := SI_there k3
                  by_cases q : X (114 + 2 * k) 3 = 0 ∧ X (114 + 2 * g) 3 = 0 ∧ X (114 + 2 * v) 3 = 0
                  · obtain ⟨q1, q2, q3⟩ := q
                    have p1 := h1.mp q1
                    have p2 := h2.mp q2
                    have p3 := h3.mp q3
                    by_cases hi : m1 < m ∨ m2 < m ∨ m3 < m
                    · exact ⟨_, _, _, t_C_load_I ht hj hk hg hv hm1 hm hs2 hb.2.1 hf2 q1 q2 q3 k1.2.1 k2.2.1 k3.2.1 k1.1 k2.1 k3.1 hi, t_M_load_I ht hj hk hg hv hm1 hm (by rw [f0 (by decide)]; exact hs) (by rw [f0 (by decide)]; exact hb.2.2.1) hf2 (by rw [f0 (by decide)]; exact p1) (by rw [f0 (by decide)]; exact p2) (by rw [f0 (by decide)]; exact p3) (by rw [f0 (by decide)]; exact k1.2.2.1) (by rw [f0 (by decide)]; exact k2.2.2.1) (by rw [f0 (by decide)]; exact k3.2.2.1) k1.1 k2.1 k3.1 hi, Inv_find 2 hI⟩
                    · have l1 : m ≤ m1 := by omega
                      have l2 : m ≤ m2 := by omega
                      have l3 : m ≤ m3 := by omega
                      have eit : ∀ i, i < m → (itM X k g v i ↔ itR X k g v i) := fun i hi => by
                        have i0 := Inv_its hI
                        unfold itM itR
                        rw [i0 k hk i (by omega), i0 g hg i (by omega), i0 v hv i (by omega)]
                      by_cases hall : ∀ i, i < m → itR X k g v i
                      · have hne : ∀ a, 122 ≤ a → ldS X (4 + 55 * t + 3 + 6 * j) k g v (mnN X (8 * t + j)) m a = X a := fun a ha => ldS_ne (by omega) m
                        refine ⟨_, _, _, t_C_load_D ht hj hk hg hv hm1 hm hs2 hb.2.1 hf2 q1 q2 q3 k1.2.1 k2.2.1 k3.2.1 k1.1 k2.1 k3.1 l1 l2 l3 hall, t_M_load_D ht hj hk hg hv hm1 hm (by rw [hne _ (by decide)]; exact hs) (by rw [hne _ (by decide)]; exact hb.2.2.1) hf2 (by rw [hne _ (by decide)]; exact p1) (by rw [hne _ (by decide)]; exact p2) (by rw [hne _ (by decide)]; exact p3) (by rw [hne _ (by decide)]; exact k1.2.2.1) (by rw [hne _ (by decide)]; exact k2.2.2.1) (by rw [hne _ (by decide)]; exact k3.2.2.1) k1.1 k2.1 k3.1 l1 l2 l3 (fun i hi => ?_), (Inv_load ht hj hI hb hk hg hv hf2 hs hall m (Nat.le_refl m)).2⟩
                        unfold itM
                        rw [hne _ (by decide)]
                        exact (eit i hi).mpr (hall i hi)
                      · obtain ⟨k0, b1, b2, b3⟩ := least_bad hall
                        exact ⟨_, X, X, t_C_load_R ht hj hk hg hv hm1 hm hs2 hb.2.1 hf2 q1 q2 q3 k1.2.1 k2.2.1 k3.2.1 k1.1 k2.1 k3.1 l1 l2 l3 k0 b1 b2 b3, t_M_load_R ht hj hk hg hv hm1 hm hs hb.2.2.1 hf2 p1 p2 p3 k1.2.2.1 k2.2.2.1 k3.2.2.1 k1.1 k2.1 k3.1 l1 l2 l3 k0 b1 (fun z => b2 ((eit k0 b1).mp z)) (fun i hi => (eit i (by omega)).mpr (b3 i hi)), hI⟩
                  · exact ⟨_, _, _, t_C_load_L ht hj hk hg hv hm1 hm hs2 hb.2.1 hf2 q, t_M_load_L ht hj hk hg hv hm1 hm (by rw [f0 (by decide)]; exact hs) (by rw [f0 (by decide)]; exact hb.2.2.1) hf2 (by rw [f0 (by decide), ← h1, ← h2, ← h3]; exact q), Inv_find 1 hI⟩
              · exact ⟨_, X, X, t_C_load_S ht hj hk hg hv hm1 hm (fun z => hs ((Inv_seal hI ht).symm.trans z)), t_M_load_S ht hj hk hg hv hm1 hm hs, hI⟩
theorem BI_open {X Y : RAM} {t j n : Nat} (hb : BI X t j n) (hs : X 134 t = 0) (hs2 : Y 134 t = 0) (hC : ∀ a, bC t j ≤ a → a ≤ bC t j + 5 → Y a = X a) (h1 : Y 123 (8 * t + j) = X 123 (8 * t + j)) (hr : ∀ a, 124 ≤ a → a ≤ 127 → Y a = X a) : BI Y t j n := by
  obtain ⟨a1, a2, a3, a4, a5, a6, a7, a8⟩ := hb
  have c0 := hC (bC t j) (Nat.le_refl _) (by omega)
  have c2 := hC (bC t j + 2) (by omega) (by omega)
  have c4 := hC (bC t j + 4) (by omega) (by omega)
  have c5 := hC (bC t j + 5) (by omega) (by omega)
  have ek : knP Y (bC t j) = knP X (bC t j) := by unfold knP; rw [c4]
  have eg : ∀ g, grP Y (bC t j) g = grP X (bC t j) g := fun g => by unfold grP; rw [c2]
  exact ⟨a1, by rw [c0]; exact a2, by rw [h1]; exact a3, fun i hi => RI_of hC (fun a q1 q2 => by rw [hr a q1 q2]) (a4 i hi), by rw [c0, ek]; exact a5, fun g hg => by rw [c5, eg]; exact a6 g hg, fun _ i hi => by rw [c4]; exact a7 hs i hi, fun z => absurd hs2 z⟩
theorem akpX_ne {X : RAM} {o c a : Nat} {kd e m : Int32} (h1 : a ≠ o) (h2 : a ≠ o + 51 + c) : akpX X o c kd e m a = X a := by
  unfold akpX; rw [up2_ne h1, up2_ne h2, up2_ne h2, up2_ne h2]
theorem mkpX_ne {X : RAM} {t m a : Nat} {kd e c : Int32} (h : a < 135 ∨ 138 < a) : mkpX X t m kd e c a = X a := by
  unfold mkpX; rw [up2_ne (by omega), up2_ne (by omega), up2_ne (by omega), up2_ne (by omega)]
theorem Inv_keep {X : RAM} {t c : Nat} {kd a m : Int32} (ht : t < 2) (hI : Inv X) (hT : TI X t c) (hc : c < 4) (hs : X 134 t = 0) (hk : KeepOK kd a m) : Inv (mkpX (akpX X (4 + 55 * t) c kd a m) t c kd a m) := by
  have hm : ∀ x p, 122 < x → x < 143 → ¬ plT t x p → mkpX (akpX X (4 + 55 * t) c kd a m) t c kd a m x p = X x p := fun x p h1 h2 h3 => by
    unfold plT at h3
    unfold mkpX
    rw [up2_n (by omega), up2_n (by omega), up2_n (by omega), up2_n (by omega), akpX_ne (by omega) (by omega)]
  have hY : ∀ x, x < 135 ∨ 138 < x → x ≠ 4 + 55 * t → x ≠ 4 + 55 * t + 51 + c → mkpX (akpX X (4 + 55 * t) c kd a m) t c kd a m x = X x := fun x h1 h2 h3 => by rw [mkpX_ne h1, akpX_ne h2 h3]
  refine Inv_tab ht hI (fun x h1 h2 h3 h4 => hY x (by omega) (by omega) (by omega)) hm ?_ ?_ (fun p hp => ?_) ⟨c + 1, ?_⟩ (fun j hj => ?_)
  · rw [hY 122 (by omega) (by omega) (by omega), hY 0 (by omega) (by omega) (by omega)]; exact hI.2.2.2.1
  · rw [hY 122 (by omega) (by omega) (by omega), hY 0 (by omega) (by omega) (by omega)]; exact hI.2.2.2.2.1
  · have e := hY 125 (by omega) (by omega) (by omega)
    rw [gpN_of (X := X) (by rw [e]), e]
    exact hI.2.2.2.2.2 p (by omega)
  · obtain ⟨a1, a2, a3, a4, a5⟩ := hT
    have e0 : ∀ x, x < 122 → mkpX (akpX X (4 + 55 * t) c kd a m) t c kd a m x = akpX X (4 + 55 * t) c kd a m x := fun x hx => mkpX_ne (by omega)
    refine ⟨by omega, ?_, ?_, ?_, fun k hk2 => ?_⟩
    · rw [e0 _ (by omega)]; unfold akpX; rw [um_u]
    · unfold mkpX; rw [um_u]
    · rw [e0 _ (by omega), hY 134 (by omega) (by omega) (by omega)]; unfold akpX; rw [up2_same (by decide), up2_ne (by omega), up2_ne (by omega), up2_ne (by omega)]; exact a4
    · rw [e0 (4 + 55 * t + 51 + k) (by omega)]
      by_cases q : k = c
      · subst q
        have v0 : akpX X (4 + 55 * t) k kd a m (4 + 55 * t + 51 + k) 0 = kd := by unfold akpX; rw [up2_ne (by omega), up2_same (by decide), up2_same (by decide), um_u]
        have v1 : akpX X (4 + 55 * t) k kd a m (4 + 55 * t + 51 + k) 1 = a := by unfold akpX; rw [up2_ne (by omega), up2_same (by decide), um_u]
        have v2 : akpX X (4 + 55 * t) k kd a m (4 + 55 * t + 51 + k) 2 = m := by unfold akpX; rw [up2_ne (by omega), um_u]
        rw [v0, v1, v2]
        refine ⟨?_, ?_, ?_, hk⟩
        · unfold mkpX; rw [up2_ne (by decide), up2_ne (by decide), up2_ne (by decide), um_u]
        · unfold mkpX; rw [up2_ne (by decide), up2_ne (by decide), um_u]
        · unfold mkpX; rw [up2_ne (by decide), um_u]
      · rw [akpX_ne (a := 4 + 55 * t + 51 + k) (by omega) (by omega)]
        have mo : ∀ x, x ≠ 135 → mkpX (akpX X (4 + 55 * t) c kd a m) t c kd a m x (4 * t + k) = akpX X (4 + 55 * t) c kd a m x (4 * t + k) := fun x hx => by
          unfold mkpX; rw [up2_ne hx, up2_n (by omega), up2_n (by omega), up2_n (by omega)]
        rw [mo 136 (by decide), mo 137 (by decide), mo 138 (by decide), akpX_ne (by omega) (by omega), akpX_ne (by omega) (by omega), akpX_ne (by omega) (by omega)]
        exact a5 k (by omega)
  · obtain ⟨n, hn⟩ := hI.2.1 t ht j hj
    have hbC : bC t j = 4 + 55 * t + 3 + 6 * j := rfl
    exact ⟨n, BI_open hn hs (by rw [hY 134 (by omega) (by omega) (by omega)]; exact hs) (fun x h1 h2 => hY x (by omega) (by omega) (by omega)) (by rw [hY 123 (by omega) (by omega) (by omega)]) (fun x h1 h2 => hY x (by omega) (by omega) (by omega))⟩
theorem st_keeper {X : RAM} (hI : Inv X) (x kd a c : Int32) : ∃ (rv : Int32) (X1 X2 : RAM), CG l D ac b y_C_keeper c_C_keeper 6 (some .int) 2 46 [.ref 0, .int x, .int kd, .int a, .int c] X (some (.int rv)) X1 ∧ CG l D ac b y_M_keeper c_M_keeper 7 (some .int) 2 42 [.ref 122, .int x, .int kd, .int a, .int c] X1 (some (.int rv)) X2 ∧ Inv X2 := by
  rcases ix2 (x := x) with hx | ⟨t, ht, rfl⟩
  · exact ⟨_, X, X, t_C_keeper_T hx, t_M_keeper_T hx, hI⟩
  · by_cases hk : KeepOK kd a c
    · have hT := Inv_c hI ht
      by_cases hs : X 134 t = 0
      · have hs2 := (Inv_seal hI ht).trans hs
        by_cases h4 : cN X t = 4
        · exact ⟨_, X, X, t_C_keeper_F (m := 0) ht hk hs2 (by rw [hT.2.1, h4]), t_M_keeper_F (m := 0) ht hk hs (by rw [hT.2.2.1, h4]), hI⟩
        · have hc : cN X t < 4 := by have := hT.1; omega
          exact ⟨_, _, _, t_C_keeper_D ht hk hs2 hT.2.1 hc, t_M_keeper_D ht hk (by rw [akpX_ne (by omega) (by omega)]; exact hs) (by rw [akpX_ne (by omega) (by omega)]; exact hT.2.2.1) hc, Inv_keep ht hI hT hc hs hk⟩
      · exact ⟨_, X, X, t_C_keeper_S (m := 0) ht hk (fun z => hs ((Inv_seal hI ht).symm.trans z)), t_M_keeper_S (m := 0) ht hk hs, hI⟩
    · exact ⟨_, X, X, t_C_keeper_K (m := 0) ht hk, t_M_keeper_K (m := 0) ht hk, hI⟩
theorem emB_ne {X : RAM} {bo a : Nat} (h1 : a ≠ bo) (h2 : a ≠ bo + 5) : emB X bo a = X a := by
  unfold emB; rw [filA_ne h2, up2_ne h1, up2_ne h1]
theorem emS_ne {X : RAM} {o a : Nat} (j : Nat) (h : ∀ i, i < j → a ≠ o + 3 + 6 * i ∧ a ≠ o + 3 + 6 * i + 5) : emS X o j a = X a := by
  induction j with
  | zero => rfl
  | succ j ih => unfold emS; rw [emB_ne (h j (by omega)).1 (h j (by omega)).2, ih (fun i hi => h i (by omega))]
theorem emS_at {X : RAM} {o i : Nat} (j : Nat) (hi : i < j) : emS X o j (o + 3 + 6 * i) 5 = 0 ∧ emS X o j (o + 3 + 6 * i) 6 = 0 ∧ ∀ g, g < 4 → emS X o j (o + 3 + 6 * i + 5) g = 0 := by
  induction j with
  | zero => omega
  | succ j ih =>
    unfold emS
    by_cases q : i = j
    · subst q
      unfold emB
      refine ⟨?_, ?_, fun g hg => filA_at hg⟩
      · rw [filA_ne (by omega), up2_same (by decide), um_u]
      · rw [filA_ne (by omega), um_u]
    · rw [emB_ne (by omega) (by omega), emB_ne (by omega) (by omega)]
      exact ih (by omega)
theorem mcS_ne {X : RAM} {t a : Nat} (h : a ≠ 123) (j : Nat) : mcS X t j a = X a := by
  induction j with
  | zero => rfl
  | succ j ih => unfold mcS; rw [up2_ne h, ih]
theorem mcS_at {X : RAM} {t p : Nat} (j : Nat) : mcS X t j 123 p = if 8 * t ≤ p ∧ p < 8 * t + j then 0 else X 123 p := by
  induction j with
  | zero => rw [if_neg (by omega)]; rfl
  | succ j ih =>
    unfold mcS
    by_cases q : p = 8 * t + j
    · subst q; rw [um_u, if_pos (by omega)]
    · rw [up2_n (by omega), ih]
      by_cases q2 : 8 * t ≤ p ∧ p < 8 * t + j
      · rw [if_pos q2, if_pos (by omega)]
      · rw [if_neg q2, if_neg (by omega)]
theorem Inv_clear {X : RAM} {t : Nat} (ht : t < 2) (hI : Inv X) : Inv (mcX (emX X (4 + 55 * t)) t) := by
  have hE : ∀ a, (a < 4 + 55 * t ∨ 4 + 55 * t + 54 < a) → emX X (4 + 55 * t) a = X a := fun a ha => by
    unfold emX; rw [up2_ne (by omega), up2_ne (by omega), emS_ne 8 (fun i hi => by omega)]
  have hM : ∀ (W : RAM) a, a < 123 ∨ 135 < a → mcX W t a = W a := fun W a ha => by
    unfold mcX; rw [up2_ne (by omega), up2_ne (by omega), mcS_ne (by omega)]
  have h134 : mcX (emX X (4 + 55 * t)) t 134 t = 0 := by unfold mcX; rw [um_u]
  refine Inv_tab ht hI (fun a h1 h2 h3 h4 => by rw [hM _ a (by omega), hE a h4]) (fun a p h1 h2 h3 => ?_) ?_ ?_ (fun p hp => ?_) ⟨0, ?_⟩ (fun j hj => ⟨0, ?_⟩)
  · unfold plT at h3
    unfold mcX
    rw [up2_n (by omega), up2_n (by omega)]
    by_cases q : a = 123
    · subst q
      rw [mcS_at, if_neg (by omega), hE _ (by omega)]
    · rw [mcS_ne q, hE _ (by omega)]
  · rw [hM _ 122 (by omega), hM _ 0 (by omega), hE _ (by omega), hE _ (by omega)]; exact hI.2.2.2.1
  · rw [hM _ 122 (by omega), hM _ 0 (by omega), hE _ (by omega), hE _ (by omega)]; exact hI.2.2.2.2.1
  · have e : mcX (emX X (4 + 55 * t)) t 125 = X 125 := by unfold mcX; rw [up2_ne (by omega), up2_ne (by omega), mcS_ne (by omega), hE _ (by omega)]
    rw [gpN_of (X := X) (by rw [e]), e]
    exact hI.2.2.2.2.2 p (by omega)
  · refine ⟨by omega, ?_, ?_, ?_, fun k hk => absurd hk (Nat.not_lt_zero k)⟩
    · rw [hM _ _ (by omega)]; unfold emX; rw [up2_same (by decide), um_u]; rfl
    · unfold mcX; rw [up2_ne (by decide), um_u]; rfl
    · rw [hM _ _ (by omega), h134]; unfold emX; rw [um_u]
  · have hbC : bC t j = 4 + 55 * t + 3 + 6 * j := rfl
    have e := emS_at (X := X) (o := 4 + 55 * t) 8 hj
    have c0 : ∀ p, mcX (emX X (4 + 55 * t)) t (bC t j) p = emS X (4 + 55 * t) 8 (4 + 55 * t + 3 + 6 * j) p := fun p => by
      rw [hM _ _ (by omega)]; unfold emX; rw [up2_ne (by omega), up2_ne (by omega)]
    have c5 : ∀ p, mcX (emX X (4 + 55 * t)) t (bC t j + 5) p = emS X (4 + 55 * t) 8 (4 + 55 * t + 3 + 6 * j + 5) p := fun p => by
      rw [hM _ _ (by omega)]; unfold emX; rw [up2_ne (by omega), up2_ne (by omega)]
    refine ⟨by omega, by rw [c0, e.1]; rfl, ?_, fun i hi => absurd hi (Nat.not_lt_zero i), by rw [c0, e.2.1]; rfl, fun g hg => by rw [c5, e.2.2 g hg]; rfl, fun _ i hi => absurd hi (Nat.not_lt_zero i), fun z => absurd h134 z⟩
    unfold mcX
    rw [up2_ne (by decide), up2_ne (by decide), mcS_at, if_pos (by omega)]
    rfl
theorem st_clear {X : RAM} (hI : Inv X) (x : Int32) : ∃ (rv : Int32) (X1 X2 : RAM), CG l D ac b y_C_clear c_C_clear 4 (some .int) 3 64 [.ref 0, .int x] X (some (.int rv)) X1 ∧ CG l D ac b y_M_clear c_M_clear 4 (some .int) 2 42 [.ref 122, .int x] X1 (some (.int rv)) X2 ∧ Inv X2 := by
  rcases ix2 (x := x) with hx | ⟨t, ht, rfl⟩
  · exact ⟨_, X, X, t_C_clear_T hx, t_M_clear_T hx, hI⟩
  · have hM := t_M_clear_D (l := l) (D := D) (ac := ac) (b := b) (X := emX X (4 + 55 * t)) ht
    have e : sumI (fun j => emX X (4 + 55 * t) 123 (8 * t + j)) 8 = sumI (fun j => X (4 + 55 * t + 3 + 6 * j) 5) 8 := by
      have h1 := rwT_eq hI ht
      have h2 : emX X (4 + 55 * t) 123 = X 123 := by unfold emX; rw [up2_ne (by omega), up2_ne (by omega), emS_ne 8 (fun i hi => by omega)]
      rw [h2]
      exact h1.symm
    rw [e] at hM
    exact ⟨_, _, _, t_C_clear_D ht, hM, Inv_clear ht hI⟩
end P25
