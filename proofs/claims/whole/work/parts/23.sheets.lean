section P23
variable {l : Launch} {D : va_G} {ac : Nat → ClassId} {b : Nat}
theorem up2_n {X : RAM} {o k a p : Nat} {v : Int32} (h : ¬ (a = o ∧ p = k)) : up2 X o k v a p = X a p := by
  by_cases q : a = o
  · subst q
    exact up2_same (fun z => h ⟨rfl, z⟩)
  · exact up2_nej q
theorem Inv_sh {X Y : RAM} (hs : ∀ a, a < 114 → a ≠ 3 → Y a = X a) (hm : ∀ a, 122 ≤ a → a < 139 → Y a = X a) (hS : ∀ k, k < 4 → ∃ m, SI Y k m) (h : Inv X) : Inv Y := by
  obtain ⟨i1, i2, i3, i4, i5, i6⟩ := h
  refine ⟨fun t ht => ?_, fun t ht j hj => ?_, hS, ?_, ?_, fun r hr => ?_⟩
  · obtain ⟨c, hc⟩ := i1 t ht
    exact ⟨c, TI_of (hs _ (by omega) (by omega)) (fun k hk => hs _ (by omega) (by omega)) (by rw [hm 134 (by decide) (by decide)]) (by rw [hm 135 (by decide) (by decide)]) (fun a h1 h2 k hk => by rw [hm a (by omega) (by omega)]) hc⟩
  · obtain ⟨n, hn⟩ := i2 t ht j hj
    obtain ⟨c, hc⟩ := i1 t ht
    have hb : bC t j = 4 + 55 * t + 3 + 6 * j := rfl
    exact ⟨n, BI_of (by rw [TI_c hc]; exact hc.1) (fun a h1 h2 => hs a (by omega) (by omega)) (by rw [hm _ (by omega) (by omega)]) (fun a h1 h2 i hi => by rw [hm a (by omega) (by omega)]) (fun a ha => by rw [hm a (by omega) (by omega)]) (fun g hg => by rw [hm _ (by omega) (by omega)]) (by rw [hm _ (by omega) (by omega)]) (by rw [hm _ (by omega) (by omega)]) (fun a h1 h2 k hk => by rw [hm a (by omega) (by omega)]) hn⟩
  · rw [hm 122 (by decide) (by decide), hs 0 (by decide) (by decide)]
    exact i4
  · rw [hm 122 (by decide) (by decide), hs 0 (by decide) (by decide)]
    exact i5
  · have e : gpN Y r = gpN X r := by unfold gpN; rw [hm 125 (by decide) (by decide)]
    rw [e, hm 125 (by decide) (by decide)]
    exact i6 r hr
def Its (A B : RAM) : Prop := ∀ k, k < 4 → ∀ i, i < 40 → B 142 (40 * k + i) = A (114 + 2 * k + 1) i
theorem Inv_its {X : RAM} (h : Inv X) : Its X X := fun k hk i hi => by
  obtain ⟨m, hm⟩ := h.2.2.1 k hk
  exact hm.2.2.2.2.2 i hi
theorem Inv_items {X Y : RAM} (hs : ∀ a, a < 122 → a ≠ 3 → (a < 114 ∨ a % 2 = 0) → Y a = X a) (hm : ∀ a, 122 ≤ a → a < 142 → Y a = X a) (hi : Its Y Y) (h : Inv X) : Inv Y := by
  refine Inv_sh (fun a h1 h2 => hs a (by omega) h2 (Or.inl h1)) (fun a h1 h2 => hm a h1 (by omega)) (fun k hk => ?_) h
  obtain ⟨m, a1, a2, a3, a4, a5, a6⟩ := h.2.2.1 k hk
  have e := hs (114 + 2 * k) (by omega) (by omega) (Or.inr (by omega))
  exact ⟨m, a1, by rw [e]; exact a2, by rw [hm 141 (by decide) (by decide)]; exact a3, by rw [e, hm 140 (by decide) (by decide)]; exact a4, by rw [e, hm 139 (by decide) (by decide)]; exact a5, hi k hk⟩
theorem Its_put {A B : RAM} {k i : Nat} {v : Int32} (hk : k < 4) (hi : i < 40) (h : Its A B) : Its (up2 A (114 + 2 * k + 1) i v) (up2 B 142 (40 * k + i) v) := by
  intro k1 hk1 i1 hi1
  by_cases q : k1 = k ∧ i1 = i
  · obtain ⟨rfl, rfl⟩ := q
    rw [um_u, um_u]
  · rw [up2_n (by omega), up2_n (by omega)]
    exact h k1 hk1 i1 hi1
theorem lk_of {X Y : RAM} {k m : Nat} {f i : Int32} (h1 : Y 139 = X 139) (h2 : Y 140 = X 140) : lkV Y k m f i = lkV X k m f i := by unfold lkV; rw [h1, h2]
theorem st_put {X : RAM} (hI : Inv X) (x f i v : Int32) : ∃ (rv : Int32) (X1 X2 : RAM), CG l D ac b y_C_put c_C_put 7 (some .int) 2 43 [.ref 0, .int x, .int f, .int i, .int v] X (some (.int rv)) X1 ∧ CG l D ac b y_M_put c_M_put 6 (some .int) 2 45 [.ref 122, .int x, .int f, .int i, .int v] X1 (some (.int rv)) X2 ∧ Inv X2 := by
  rcases ix4 (x := x) with hz | ⟨k, hk, rfl⟩
  · exact ⟨_, X, X, t_C_put_N hz, t_M_put_N hz, hI⟩
  · by_cases hf : FrmOK f
    · obtain ⟨m, hm⟩ := Inv_s hI hk
      have e := fault_eq (f := f) (i := i) hm
      rcases lk_cases (X := X) (k := k) (m := m) (f := f) (i := i) with q | q | q | ⟨q, h0, h1⟩
      · exact ⟨_, _, _, t_C_put_1 hk hf (e.trans q), t_M_put_1 hk hf (by rw [f0 (by decide)]; exact hm.2.2.1) hm.1 (lk_f0.trans q), Inv_find 1 hI⟩
      · exact ⟨_, _, _, t_C_put_2 hk hf (e.trans q), t_M_put_2 hk hf (by rw [f0 (by decide)]; exact hm.2.2.1) hm.1 (lk_f0.trans q), Inv_find 2 hI⟩
      · exact ⟨_, _, _, t_C_put_3 hk hf (e.trans q), t_M_put_3 hk hf (by rw [f0 (by decide)]; exact hm.2.2.1) hm.1 (lk_f0.trans q), Inv_find 3 hI⟩
      · obtain ⟨i, hi, rfl⟩ := nn_of h0 (i_nle.mpr h1) (by have := hm.1; omega)
        have hm1 := hm.1
        refine ⟨_, _, _, t_C_put_D hk hf (e.trans q) hm.2.1 hi hm.1, t_M_put_D hk hf (by rw [up2_ne (by omega)]; exact hm.2.2.1) hm.1 hi ((lk_of (up2_ne (by omega)) (up2_ne (by omega))).trans q), ?_⟩
        have ec : up2 X (114 + 2 * k + 1) i (cutV (X (114 + 2 * k) 1) v) 140 k = X (114 + 2 * k) 1 := by rw [up2_nej (by omega)]; exact hm.2.2.2.1
        rw [ec]
        refine Inv_items (fun a h1 h2 h3 => ?_) (fun a h1 h2 => ?_) ?_ hI
        · rw [up2_ne (by omega), up2_ne (by omega)]
        · rw [up2_ne (by omega), up2_ne (by omega)]
        · intro k1 hk1 i1 hi1
          have := Its_put (v := cutV (X (114 + 2 * k) 1) v) hk (show i < 40 by omega) (Inv_its hI) k1 hk1 i1 hi1
          rw [up2_ne (o := 142) (o' := 114 + 2 * k1 + 1) (by omega), ← this]
          by_cases q : 40 * k1 + i1 = 40 * k + i
          · rw [q, um_u, um_u]
          · rw [up2_n (by omega), up2_n (by omega), up2_n (by omega)]
    · exact ⟨_, X, X, t_C_put_F hk hf, t_M_put_F hk hf, hI⟩
theorem znS_ne {Y : RAM} {k a : Nat} (h : a ≠ 142) (i : Nat) : znS Y k i a = Y a := by
  induction i with
  | zero => rfl
  | succ i ih => unfold znS; rw [up2_ne h, ih]
theorem znS_at {Y : RAM} {k p : Nat} (i : Nat) : znS Y k i 142 p = if 40 * k ≤ p ∧ p < 40 * k + i then 0 else Y 142 p := by
  induction i with
  | zero => rw [if_neg (by omega)]; rfl
  | succ i ih =>
    unfold znS
    by_cases q : p = 40 * k + i
    · subst q; rw [um_u, if_pos (by omega)]
    · rw [up2_n (by omega), ih]
      by_cases q2 : 40 * k ≤ p ∧ p < 40 * k + i
      · rw [if_pos q2, if_pos (by omega)]
      · rw [if_neg q2, if_neg (by omega)]
theorem filA_at {X : RAM} {a n p : Nat} {v : Int32} (h : p < n) : filA X a n v a p = v := by
  unfold filA; rw [upA_same, if_pos h]
theorem st_sheet {X : RAM} (hI : Inv X) (x f n : Int32) : ∃ (rv : Int32) (X1 X2 : RAM), CG l D ac b y_C_sheet c_C_sheet 5 (some .int) 2 45 [.ref 0, .int x, .int f, .int n] X (some (.int rv)) X1 ∧ CG l D ac b y_M_sheet c_M_sheet 5 (some .int) 2 42 [.ref 122, .int x, .int f, .int n] X1 (some (.int rv)) X2 ∧ Inv X2 := by
  rcases ix4 (x := x) with hz | ⟨k, hk, rfl⟩
  · exact ⟨_, X, X, t_C_sheet_N hz, t_M_sheet_N hz, hI⟩
  · by_cases hf : FrmOK f
    · by_cases hn : 40 < n
      · exact ⟨_, X, X, t_C_sheet_B hk hf hn, t_M_sheet_B hk hf hn, hI⟩
      · by_cases h0 : n < 0
        · exact ⟨_, _, _, t_C_sheet_Z hk hf h0, t_M_sheet_Z hk hf h0, Inv_find 5 hI⟩
        · obtain ⟨m, hm0, rfl⟩ := nI_of h0
          have hm : m ≤ 40 := by
            rcases Nat.lt_or_ge 40 m with q | q
            · exact absurd (nI_lt (a := 40) (b := m) q hm0) hn
            · exact q
          refine ⟨_, _, _, t_C_sheet_D hk hf hm, t_M_sheet_D hk hf hm, ?_⟩
          have hc : ∀ a, a < 122 → a ≠ 114 + 2 * k → a ≠ 114 + 2 * k + 1 → mshX (shX X k m f) k m f a = X a := fun a h1 h2 h3 => by
            unfold mshX shX
            rw [znS_ne (by omega), up2_ne (by omega), up2_ne (by omega), up2_ne (by omega), up2_ne h2, up2_ne h2, up2_ne h2, filA_ne h3]
          have hd : ∀ a, 122 ≤ a → a ≠ 142 → ∀ p, ¬ (139 ≤ a ∧ a ≤ 141 ∧ p = k) → mshX (shX X k m f) k m f a p = X a p := fun a h1 h2 p h3 => by
            unfold mshX shX
            rw [znS_ne (by omega), up2_n (by omega), up2_n (by omega), up2_n (by omega), up2_ne (by omega), up2_ne (by omega), up2_ne (by omega), filA_ne (by omega)]
          refine Inv_sh (fun a h1 h2 => hc a (by omega) (by omega) (by omega)) (fun a h1 h2 => funext fun p => hd a (by omega) (by omega) p (by omega)) (fun k1 hk1 => ?_) hI
          by_cases q : k1 = k
          · subst q
            have e1 : ∀ p, mshX (shX X k1 m f) k1 m f (114 + 2 * k1) p = shX X k1 m f (114 + 2 * k1) p := fun p => by
              unfold mshX
              rw [znS_ne (by omega), up2_ne (by omega), up2_ne (by omega), up2_ne (by omega)]
            have e2 : ∀ p, p < 40 → mshX (shX X k1 m f) k1 m f (114 + 2 * k1 + 1) p = 0 := fun p hp => by
              unfold mshX shX
              rw [znS_ne (by omega), up2_ne (by omega), up2_ne (by omega), up2_ne (by omega), up2_ne (by omega), up2_ne (by omega), up2_ne (by omega), filA_at hp]
            refine ⟨m, hm, ?_, ?_, ?_, Or.inl ⟨?_, ?_⟩, fun i hi => ?_⟩
            · rw [e1]; unfold shX; rw [up2_same (by decide), um_u]
            · unfold mshX; rw [znS_ne (by decide), um_u]
            · rw [e1]; unfold mshX shX; rw [znS_ne (by decide), up2_ne (by decide), um_u, up2_same (by decide), up2_same (by decide), um_u]
            · rw [e1]; unfold shX; rw [um_u]
            · unfold mshX; rw [znS_ne (by decide), up2_ne (by decide), up2_ne (by decide), um_u]
            · rw [e2 i hi]; unfold mshX; rw [znS_at, if_pos (by omega)]
          · obtain ⟨m1, hm1⟩ := Inv_s hI hk1
            refine ⟨m1, SI_of (hc _ (by omega) (by omega) (by omega)) (hc _ (by omega) (by omega) (by omega)) (fun a h1 h2 => hd a (by omega) (by omega) k1 (by omega)) (fun i hi => ?_) hm1⟩
            unfold mshX shX
            rw [znS_at, if_neg (by omega), up2_ne (by decide), up2_ne (by decide), up2_ne (by decide), up2_ne (by omega), up2_ne (by omega), up2_ne (by omega), filA_ne (by omega)]
    · exact ⟨_, X, X, t_C_sheet_F hk hf, t_M_sheet_F hk hf, hI⟩
theorem st_lose {X : RAM} (hI : Inv X) (x : Int32) : ∃ (rv : Int32) (X1 X2 : RAM), CG l D ac b y_C_lose c_C_lose 3 (some .int) 1 21 [.ref 0, .int x] X (some (.int rv)) X1 ∧ CG l D ac b y_M_lose c_M_lose 2 (some .int) 2 42 [.ref 122, .int x] X1 (some (.int rv)) X2 ∧ Inv X2 := by
  rcases ix4 (x := x) with hz | ⟨k, hk, rfl⟩
  · exact ⟨_, X, X, t_C_lose_N hz, t_M_lose_N hz, hI⟩
  · obtain ⟨m, hm⟩ := Inv_s hI hk
    have h1 := SI_there hm
    by_cases q : X (114 + 2 * k) 3 = 0
    · have h3 := t_M_lose_D (l := l) (D := D) (ac := ac) (b := b) (X := up2 X (114 + 2 * k) 3 1) hk (by rw [up2_ne (by omega)]; exact h1.mp q)
      rw [up2_nej (o := 114 + 2 * k) (o' := 141) (by omega), hm.2.2.1, ← hm.2.1] at h3
      refine ⟨_, _, _, t_C_lose_D hk q, h3, ?_⟩
      · refine Inv_sh (fun a h1 h2 => by rw [up2_ne (by omega), up2_ne (by omega)]) (fun a h1 h2 => by rw [up2_ne (by omega), up2_ne (by omega)]) (fun k1 hk1 => ?_) hI
        by_cases qk : k1 = k
        · subst qk
          refine ⟨m, hm.1, ?_, ?_, ?_, Or.inr ⟨?_, ?_⟩, fun i hi => ?_⟩
          · rw [up2_ne (by omega), up2_same (by decide)]; exact hm.2.1
          · rw [up2_ne (by decide), up2_ne (by omega)]; exact hm.2.2.1
          · rw [up2_ne (by decide), up2_ne (by omega), up2_ne (o' := 114 + 2 * k1) (by omega), up2_same (by decide)]; exact hm.2.2.2.1
          · rw [up2_ne (by omega), um_u]
          · rw [um_u]
          · rw [up2_ne (by decide), up2_ne (by omega), up2_ne (o' := 114 + 2 * k1 + 1) (by omega), up2_ne (by omega)]; exact hm.2.2.2.2.2 i hi
        · obtain ⟨m1, hm1⟩ := Inv_s hI hk1
          exact ⟨m1, SI_of (by rw [up2_ne (by omega), up2_ne (by omega)]) (by rw [up2_ne (by omega), up2_ne (by omega)]) (fun a h1 h2 => by rw [up2_n (by omega), up2_n (by omega)]) (fun i hi => by rw [up2_ne (by decide), up2_ne (by omega)]) hm1⟩
    · exact ⟨_, _, _, t_C_lose_L hk q, t_M_lose_L hk (by rw [f0 (by decide)]; exact Classical.not_not.mp (fun z => q (h1.mpr z))), Inv_find 1 hI⟩
theorem cpS_at {X Y : RAM} {s i u w p : Nat} (n : Nat) : cpS X Y s i u w n 142 p = if 40 * u + w ≤ p ∧ p < 40 * u + w + n then X 142 (40 * s + i + (p - (40 * u + w))) else Y 142 p := by
  induction n with
  | zero => rw [if_neg (by omega)]; rfl
  | succ n ih =>
    unfold cpS
    by_cases q : p = 40 * u + w + n
    · subst q; rw [um_u, if_pos (by omega)]; congr 2; omega
    · rw [up2_n (by omega), ih]
      by_cases q2 : 40 * u + w ≤ p ∧ p < 40 * u + w + n
      · rw [if_pos q2, if_pos (by omega)]
      · rw [if_neg q2, if_neg (by omega)]
theorem strN {m i n : Nat} (hm : m ≤ 40) (hi : i < 2 ^ 31) (hn : n < 2 ^ 31) (h : strV (nI m) (nI i) (nI n) = true) : i + n ≤ m := by
  have h1 := of_decide_eq_true h
  obtain ⟨a1, a2, a3, a4⟩ := h1
  have e1 := nI_toInt hi
  have e2 := nI_toInt hn
  have e3 := nI_toInt (show m < 2 ^ 31 by omega)
  rw [i_le, e1, e3] at a3
  have e4 : (nI m - nI i).toInt = (m : Int) - i := by rw [is32 (by rw [e1, e3]; omega) (by rw [e1, e3]; omega), e1, e3]
  rw [i_le, e2, e4] at a4
  omega
theorem strP {m i n : Int32} (h : strV m i n = true) : ¬ i < 0 ∧ ¬ n < 0 := ⟨(of_decide_eq_true h).1, (of_decide_eq_true h).2.1⟩
theorem st_copy {X : RAM} (hI : Inv X) (x i y w n : Int32) : ∃ (rv : Int32) (X1 X2 : RAM), CG l D ac b y_C_copy c_C_copy 8 (some .int) 1 40 [.ref 0, .int x, .int i, .int y, .int w, .int n] X (some (.int rv)) X1 ∧ CG l D ac b y_M_copy c_M_copy 7 (some .int) 2 42 [.ref 122, .int x, .int i, .int y, .int w, .int n] X1 (some (.int rv)) X2 ∧ Inv X2 := by
  rcases ix4 (x := x) with hz | ⟨s, hs, rfl⟩
  · exact ⟨_, X, X, t_C_copy_S hz, t_M_copy_S hz, hI⟩
  · rcases ix4 (x := y) with hz | ⟨u, hu, rfl⟩
    · exact ⟨_, X, X, t_C_copy_U hs hz, t_M_copy_U hs hz, hI⟩
    · obtain ⟨m1, k1⟩ := Inv_s hI hs
      obtain ⟨m2, k2⟩ := Inv_s hI hu
      have h1 := SI_there k1
      have h2 := SI_there k2
      by_cases q : X (114 + 2 * s) 3 = 0 ∧ X (114 + 2 * u) 3 = 0
      · obtain ⟨q1, q2⟩ := q
        have p1 := h1.mp q1
        have p2 := h2.mp q2
        by_cases qf : X (114 + 2 * s) 1 = X (114 + 2 * u) 1
        · have pf : X 140 s = X 140 u := by rw [k1.2.2.2.1, k2.2.2.2.1, qf]
          by_cases qi : strV (X (114 + 2 * s) 2) i n = true ∧ strV (X (114 + 2 * u) 2) w n = true
          · obtain ⟨g1, g2⟩ := qi
            rw [k1.2.1] at g1
            rw [k2.2.1] at g2
            obtain ⟨i, ii, rfl⟩ := nI_of (strP g1).1
            obtain ⟨n, nn, rfl⟩ := nI_of (strP g1).2
            obtain ⟨w, ww, rfl⟩ := nI_of (strP g2).1
            have e1 := strN k1.1 ii nn g1
            have e2 := strN k2.1 ww nn g2
            have l1 := k1.1
            have l2 := k2.1
            refine ⟨_, _, _, t_C_copy_D hs hu q1 q2 qf k1.2.1 k2.2.1 k1.1 k2.1 e1 e2, t_M_copy_D hs hu (by rw [upA_ne (by omega)]; exact p1) (by rw [upA_ne (by omega)]; exact p2) (by rw [upA_ne (by omega)]; exact pf) (by rw [upA_ne (by omega)]; exact k1.2.2.1) (by rw [upA_ne (by omega)]; exact k2.2.2.1) k1.1 k2.1 e1 e2, ?_⟩
            generalize hY : upA X (114 + 2 * u + 1) (va_cpy (X (114 + 2 * s + 1)) (X (114 + 2 * u + 1)) i w n) = Y
            have hY1 : ∀ a, a ≠ 114 + 2 * u + 1 → Y a = X a := fun a ha => by rw [← hY, upA_ne ha]
            have hY2 : Y (114 + 2 * u + 1) = va_cpy (X (114 + 2 * s + 1)) (X (114 + 2 * u + 1)) i w n := by rw [← hY, upA_same]
            refine Inv_items (fun a h1 h2 h3 => ?_) (fun a h1 h2 => ?_) ?_ hI
            · rw [cpS_ne (by omega), mvS_ne (by omega), hY1 a (by omega)]
            · rw [cpS_ne (by omega), mvS_ne (by omega), hY1 a (by omega)]
            · intro k hk p hp
              rw [cpS_at, cpS_ne (by omega), mvS_ne (by omega), mvS_ne (by omega), hY1 142 (by omega)]
              have i0 := Inv_its hI
              by_cases qk : k = u
              · subst qk
                rw [hY2]
                by_cases qp : w ≤ p ∧ p < w + n
                · rw [if_pos (by omega), pk_cpy_in qp.1 qp.2, ← i0 s hs (i + (p - w)) (by omega)]
                  congr 1
                  omega
                · rw [if_neg (by omega), pk_cpy_out (by omega)]
                  exact i0 k hk p hp
              · rw [if_neg (by omega), hY1 _ (by omega)]
                exact i0 k hk p hp
          · exact ⟨_, _, _, t_C_copy_I hs hu q1 q2 qf qi, t_M_copy_I hs hu (by rw [f0 (by decide)]; exact p1) (by rw [f0 (by decide)]; exact p2) (by rw [f0 (by decide)]; exact pf) (by rw [f0 (by decide)]; exact k1.2.2.1) (by rw [f0 (by decide)]; exact k2.2.2.1) k1.1 k2.1 (by rw [← k1.2.1, ← k2.2.1]; exact qi), Inv_find 2 hI⟩
        · exact ⟨_, _, _, t_C_copy_F hs hu q1 q2 qf, t_M_copy_F hs hu (by rw [f0 (by decide)]; exact p1) (by rw [f0 (by decide)]; exact p2) (by rw [f0 (by decide), k1.2.2.2.1, k2.2.2.2.1]; exact qf), Inv_find 4 hI⟩
      · exact ⟨_, _, _, t_C_copy_L hs hu q, t_M_copy_L hs hu (by rw [f0 (by decide), ← h1, ← h2]; exact q), Inv_find 1 hI⟩
def WR (X : RAM) (A B : RAM × Nat) : Prop := A.2 = B.2 ∧ Its A.1 B.1 ∧ (∀ a, a < 114 → A.1 a = X a) ∧ (∀ k, k < 4 → A.1 (114 + 2 * k) = X (114 + 2 * k)) ∧ (∀ a, a ≠ 142 → 122 ≤ a → B.1 a = X a)
theorem WR_put {X : RAM} {A B : RAM × Nat} {k g v : Nat} {a1 a2 a3 : Int32} (hk : k < 4) (hg : g < 4) (hv : v < 4) (hF : ∀ k, k < 4 → X 140 k = X (114 + 2 * k) 1) (hi : A.2 < 40) (h : WR X A B) : WR X (st3 A.1 (114 + 2 * k) (114 + 2 * g) (114 + 2 * v) A.2 a1 a2 a3, A.2 + 1) (ly3 B.1 k g v B.2 a1 a2 a3, B.2 + 1) := by
  obtain ⟨h1, h2, h3, h4, h5⟩ := h
  refine ⟨by show A.2 + 1 = B.2 + 1; rw [h1], ?_, fun a ha => ?_, fun k1 hk1 => ?_, fun a ha hb => ?_⟩
  · show Its (st3 A.1 _ _ _ A.2 a1 a2 a3) (ly3 B.1 k g v B.2 a1 a2 a3)
    unfold st3 ly3
    rw [h4 k hk, h4 g hg, h4 v hv, h5 140 (by decide) (by decide), hF k hk, hF g hg, hF v hv, ← h1]
    exact Its_put hv hi (Its_put hg hi (Its_put hk hi h2))
  · show st3 A.1 _ _ _ A.2 a1 a2 a3 a = X a
    rw [st3_ne (by omega) (by omega) (by omega)]
    exact h3 a ha
  · show st3 A.1 _ _ _ A.2 a1 a2 a3 _ = _
    rw [st3_ne (by omega) (by omega) (by omega)]
    exact h4 k1 hk1
  · show ly3 B.1 k g v B.2 a1 a2 a3 a = _
    unfold ly3
    rw [up2_ne ha, up2_ne ha, up2_ne ha]
    exact h5 a ha hb
theorem WR_row {X Y : RAM} {t j n k g v rm : Nat} {Z : RAM × Nat} (ht : t < 2) (hj : j < 8) (hb : BI X t j n) (hk : k < 4) (hg : g < 4) (hv : v < 4) (hrm : rm ≤ 40) (hF : ∀ k, k < 4 → X 140 k = X (114 + 2 * k) 1) (hY : ∀ a, a ≠ 142 → 122 ≤ a → Y a = X a) (hR : WR X Z (mwS Y t k g v rm (12 * j))) : ∀ i, i ≤ n → WR X (wkS Z.1 (bC t j) (114 + 2 * k) (114 + 2 * g) (114 + 2 * v) rm Z.2 i) (mwS Y t k g v rm (12 * j + i)) := by
  intro i
  have hn := hb.1
  induction i with
  | zero => exact fun _ => hR
  | succ i ih =>
    intro hi
    have h := ih (by omega)
    have hbC : bC t j = 4 + 55 * t + 3 + 6 * j := rfl
    have rr := hb.2.2.2.1 i (by omega)
    have z1 := hR.2.2.1 (bC t j + 1) (by omega)
    have z2 := hR.2.2.1 (bC t j + 2) (by omega)
    have z3 := hR.2.2.1 (bC t j + 3) (by omega)
    have z4 := hR.2.2.1 (bC t j + 4) (by omega)
    have er : 96 * t + (12 * j + i) = 12 * (8 * t + j) + i := by omega
    have eK : kaV Y (96 * t + (12 * j + i)) = knP Z.1 (bC t j) i := by
      unfold kaV knP
      rw [hY 123 (by decide) (by decide), hY 127 (by decide) (by decide), er, z4, rr.2.2.2.1, show (12 * (8 * t + j) + i) / 12 = 8 * t + j by omega, show (12 * (8 * t + j) + i) % 12 = i by omega, hb.2.2.1]
      have : nI i < nI n := nI_lt (by omega) (by omega)
      simp [this]
    rw [show 12 * j + (i + 1) = (12 * j + i) + 1 by omega]
    unfold wkS mwS
    rw [eK]
    have h1 := h.1
    by_cases q : (wkS Z.1 (bC t j) (114 + 2 * k) (114 + 2 * g) (114 + 2 * v) rm Z.2 i).2 < rm ∧ knP Z.1 (bC t j) i = true
    · rw [if_pos q, if_pos (by rw [← h1]; exact q), er, hY 124 (by decide) (by decide), hY 125 (by decide) (by decide), hY 126 (by decide) (by decide), rr.1, rr.2.1, rr.2.2.1, z1, z2, z3]
      exact WR_put hk hg hv hF (by omega) h
    · rw [if_neg q, if_neg (by rw [← h1]; exact q)]
      exact h
theorem mw_rest {X Y : RAM} {t j n k g v rm : Nat} (hj : j < 8) (hb : BI X t j n) (hY : ∀ a, a ≠ 142 → 122 ≤ a → Y a = X a) : ∀ d, n + d ≤ 12 → mwS Y t k g v rm (12 * j + (n + d)) = mwS Y t k g v rm (12 * j + n) := by
  intro d
  have hn := hb.1
  induction d with
  | zero => exact fun _ => rfl
  | succ d ih =>
    intro hd
    rw [show 12 * j + (n + (d + 1)) = (12 * j + (n + d)) + 1 by omega]
    have er : 96 * t + (12 * j + (n + d)) = 12 * (8 * t + j) + (n + d) := by omega
    refine Eq.trans (if_neg ?_) (ih (by omega))
    intro z
    have z2 := (of_decide_eq_true z.2).1
    rw [hY 123 (by decide) (by decide), er, show (12 * (8 * t + j) + (n + d)) / 12 = 8 * t + j by omega, show (12 * (8 * t + j) + (n + d)) % 12 = n + d by omega, hb.2.2.1] at z2
    exact nI_nlt (by omega) (by omega) z2
theorem WR_all {X Y : RAM} {t k g v rm : Nat} (hI : Inv X) (ht : t < 2) (hk : k < 4) (hg : g < 4) (hv : v < 4) (hrm : rm ≤ 40) (hY : ∀ a, a ≠ 142 → 122 ≤ a → Y a = X a) (hY2 : Y 142 = X 142) : ∀ j, j ≤ 8 → WR X (wtS X (4 + 55 * t) (114 + 2 * k) (114 + 2 * g) (114 + 2 * v) rm j) (mwS Y t k g v rm (12 * j)) := by
  intro j
  induction j with
  | zero => exact fun _ => ⟨rfl, fun k1 hk1 i1 hi1 => by show Y 142 _ = X _ _; rw [hY2]; exact Inv_its hI k1 hk1 i1 hi1, fun a ha => rfl, fun k1 hk1 => rfl, fun a h1 h2 => hY a h1 h2⟩
  | succ j ih =>
    intro hj
    obtain ⟨n, hn⟩ := hI.2.1 t ht j (by omega)
    have hF : ∀ k, k < 4 → X 140 k = X (114 + 2 * k) 1 := fun k hk => by
      obtain ⟨m, hm⟩ := Inv_s hI hk
      exact hm.2.2.2.1
    have h1 := WR_row ht (by omega) hn hk hg hv hrm hF hY (ih (by omega)) n (Nat.le_refl n)
    have h2 := mw_rest (t := t) (k := k) (g := g) (v := v) (rm := rm) (show j < 8 by omega) hn hY (12 - n) (by have := hn.1; omega)
    rw [show n + (12 - n) = 12 by have := hn.1; omega] at h2
    rw [show 12 * (j + 1) = 12 * j + 12 by omega, h2]
    unfold wtS
    rw [show szN X (4 + 55 * t + 3 + 6 * j) = n from BI_sz hn]
    exact h1
theorem st_write {X : RAM} (hI : Inv X) (x y z w : Int32) : ∃ (rv : Int32) (X1 X2 : RAM), CG l D ac b y_C_write c_C_write 11 (some .int) 3 70 [.ref 0, .int x, .int y, .int z, .int w] X (some (.int rv)) X1 ∧ CG l D ac b y_M_write c_M_write 8 (some .int) 2 42 [.ref 122, .int x, .int y, .int z, .int w] X1 (some (.int rv)) X2 ∧ Inv X2 := by
  rcases ix2 (x := x) with hx | ⟨t, ht, rfl⟩
  · exact ⟨_, X, X, t_C_write_T hx, t_M_write_T hx, hI⟩
  · rcases ix4 (x := y) with hz | ⟨k, hk, rfl⟩
    · exact ⟨_, X, X, t_C_write_K ht hz, t_M_write_K ht hz, hI⟩
    · rcases ix4 (x := z) with hz | ⟨g, hg, rfl⟩
      · exact ⟨_, X, X, t_C_write_G ht hk hz, t_M_write_G ht hk hz, hI⟩
      · rcases ix4 (x := w) with hz | ⟨v, hv, rfl⟩
        · exact ⟨_, X, X, t_C_write_V ht hk hg hz, t_M_write_V ht hk hg hz, hI⟩
        · by_cases hs : X 134 t = 0
          · exact ⟨_, X, X, t_C_write_S ht hk hg hv ((Inv_seal hI ht).trans hs), t_M_write_S ht hk hg hv hs, hI⟩
          · have hs2 : ¬ X (4 + 55 * t) 3 = 0 := fun z => hs ((Inv_seal hI ht).symm.trans z)
            obtain ⟨m1, k1⟩ := Inv_s hI hk
            obtain ⟨m2, k2⟩ := Inv_s hI hg
            obtain ⟨m3, k3⟩ := Inv_s hI hv
            have h1 := SI_there k1
            have h2 := SI_there k2
            have h3 := SI_there k3
            by_cases q : X (114 + 2 * k) 3 = 0 ∧ X (114 + 2 * g) 3 = 0 ∧ X (114 + 2 * v) 3 = 0
            · obtain ⟨q1, q2, q3⟩ := q
              have hrm : min3 m1 m2 m3 ≤ 40 := by have := k1.1; unfold min3; omega
              have hC := t_C_write_D (l := l) (D := D) (ac := ac) (b := b) ht hk hg hv k1.2.1 k2.2.1 k3.2.1 k1.1 k2.1 k3.1 (Inv_okZ hI ht) hs2 q1 q2 q3
              generalize hA : wtS X (4 + 55 * t) (114 + 2 * k) (114 + 2 * g) (114 + 2 * v) (min3 m1 m2 m3) 8 = A at hC
              have hne : ∀ j a, a ≠ 114 + 2 * k + 1 → a ≠ 114 + 2 * g + 1 → a ≠ 114 + 2 * v + 1 → (wtS X (4 + 55 * t) (114 + 2 * k) (114 + 2 * g) (114 + 2 * v) (min3 m1 m2 m3) j).1 a = X a := by
                intro j a e1 e2 e3
                induction j with
                | zero => rfl
                | succ j ih => unfold wtS; rw [wkS_ne e1 e2 e3, ih]
              have hA1 : ∀ a, a ≠ 114 + 2 * k + 1 → a ≠ 114 + 2 * g + 1 → a ≠ 114 + 2 * v + 1 → A.1 a = X a := fun a e1 e2 e3 => by rw [← hA]; exact hne 8 a e1 e2 e3
              have hR := WR_all (rm := min3 m1 m2 m3) (Y := A.1) hI ht hk hg hv hrm (fun a _ h => hA1 a (by omega) (by omega) (by omega)) (hA1 142 (by omega) (by omega) (by omega)) 8 (Nat.le_refl 8)
              rw [hA] at hR
              have e := hR.1
              have hM := t_M_write_D (l := l) (D := D) (ac := ac) (b := b) (X := A.1) ht hk hg hv (by rw [hA1 141 (by omega) (by omega) (by omega)]; exact k1.2.2.1) (by rw [hA1 141 (by omega) (by omega) (by omega)]; exact k2.2.2.1) (by rw [hA1 141 (by omega) (by omega) (by omega)]; exact k3.2.2.1) k1.1 k2.1 k3.1 (by rw [hA1 134 (by omega) (by omega) (by omega)]; exact hs) (by rw [hA1 139 (by omega) (by omega) (by omega)]; exact h1.mp q1) (by rw [hA1 139 (by omega) (by omega) (by omega)]; exact h2.mp q2) (by rw [hA1 139 (by omega) (by omega) (by omega)]; exact h3.mp q3)
              rw [show (mwS A.1 t k g v (min3 m1 m2 m3) 96).2 = A.2 from e.symm] at hM
              refine ⟨_, _, _, hC, hM, ?_⟩
              refine Inv_items (fun a h1 h2 h3 => ?_) (fun a h1 h2 => ?_) ?_ hI
              · rw [mwS_ne (by omega), hA1 a (by omega) (by omega) (by omega)]
              · rw [mwS_ne (by omega), hA1 a (by omega) (by omega) (by omega)]
              · intro k4 hk4 i4 hi4
                rw [mwS_ne (a := 114 + 2 * k4 + 1) (by omega)]
                exact hR.2.1 k4 hk4 i4 hi4
            · exact ⟨_, _, _, t_C_write_L ht hk hg hv hs2 q, t_M_write_L ht hk hg hv (by rw [f0 (by decide)]; exact hs) (by rw [f0 (by decide), ← h1, ← h2, ← h3]; exact q), Inv_find 1 hI⟩
end P23
