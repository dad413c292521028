section P29
variable {l : Launch} {D : va_G} {ac : Nat → ClassId} {b : Nat}
theorem amt_eq (v : Int32) : amtI v = absI v := by
  unfold amtI absI
  split
  · rfl
  · grind
theorem keep_eq {X : RAM} {t j n c i k : Nat} (hT : TI X t c) (hb : BI X t j n) (hi : i < n) (hk : k < c) : ikM X t (8 * t + j) i k = ikP X (4 + 55 * t) (bC t j) i k := by
  obtain ⟨k1, k2, k3, k4⟩ := hT.2.2.2.2 k hk
  have r := hb.2.2.2.1 i hi
  have eG : cntB (mG X (8 * t + j) i) i = cntB (eqG X (bC t j) i) i := cntB_congr (fun p hp => by
    unfold mG eqG
    rw [(hb.2.2.2.1 p (by omega)).2.1, r.2.1])
  unfold ikM ikP mkV kpV
  rw [k1, k2, k3, r.1, r.2.2.1, amt_eq, eG]
  rcases k4 with ⟨h, h1, _⟩ | ⟨h, h1, _⟩ | ⟨h, h1, _⟩ | ⟨h, h1, _⟩
  · rw [if_pos h, if_pos h]
    have : (0 : Int32) < X (4 + 55 * t + 51 + k) 1 := by simp only [i_le, i_lt, tI_0, tI_1] at *; omega
    simp [this]
  · rw [h, if_neg (show ¬ (1 : Int32) = 0 by decide), if_neg (show ¬ (1 : Int32) = 0 by decide), if_pos rfl, if_pos rfl]
  · have : (0 : Int32) < X (4 + 55 * t + 51 + k) 1 := by
      have := h1.1
      simp only [i_le, i_lt, tI_0, tI_1] at *; omega
    rw [h, if_neg (show ¬ (2 : Int32) = 0 by decide), if_neg (show ¬ (2 : Int32) = 0 by decide), if_neg (show ¬ (2 : Int32) = 1 by decide), if_neg (show ¬ (2 : Int32) = 1 by decide), if_pos rfl, if_pos rfl]
    simp [this]
  · rw [h, if_neg (show ¬ (3 : Int32) = 0 by decide), if_neg (show ¬ (3 : Int32) = 0 by decide), if_neg (show ¬ (3 : Int32) = 1 by decide), if_neg (show ¬ (3 : Int32) = 1 by decide), if_neg (show ¬ (3 : Int32) = 2 by decide), if_neg (show ¬ (3 : Int32) = 2 by decide), if_pos rfl]
theorem kept_eq {X : RAM} {t j n c i : Nat} (hT : TI X t c) (hb : BI X t j n) (hi : i < n) : anyB (ikM X t (8 * t + j) i) c = kpt X t j c i := anyB_congr (fun k hk => keep_eq hT hb hi hk)
theorem tI_1001 : (1001 : Int32).toInt = 1001 := by decide
theorem th_eq {X : RAM} {t c : Nat} (hT : TI X t c) : ∀ k, k ≤ c → (thS X (4 + 55 * t) k).toInt = (hvS X t k).toInt - 1 ∧ 1 ≤ (hvS X t k).toInt ∧ (hvS X t k).toInt ≤ 1001 := by
  intro k
  induction k with
  | zero => exact fun _ => ⟨show (1000 : Int32).toInt = (1001 : Int32).toInt - 1 by decide, show 1 ≤ (1001 : Int32).toInt by decide, show (1001 : Int32).toInt ≤ 1001 by decide⟩
  | succ k ih =>
    intro hk
    obtain ⟨i1, i2, i3⟩ := ih (by omega)
    obtain ⟨k1, k2, k3, k4⟩ := hT.2.2.2.2 k (by omega)
    unfold thS hvS
    rw [k1, k2]
    by_cases h3 : X (4 + 55 * t + 51 + k) 0 = 3
    · have ha : 1 ≤ (X (4 + 55 * t + 51 + k) 1).toInt ∧ (X (4 + 55 * t + 51 + k) 1).toInt ≤ 1000 := by
        rcases k4 with ⟨h, _⟩ | ⟨h, _⟩ | ⟨h, _⟩ | ⟨h, h1, h2, _⟩
        · rw [h] at h3; exact absurd h3 (by decide)
        · rw [h] at h3; exact absurd h3 (by decide)
        · rw [h] at h3; exact absurd h3 (by decide)
        · simp only [i_le, tI_1, tI_1000] at h1 h2; exact ⟨h1, h2⟩
      have e1 : (X (4 + 55 * t + 51 + k) 1 - 1).toInt = (X (4 + 55 * t + 51 + k) 1).toInt - 1 := by rw [is32 (by rw [tI_1]; omega) (by rw [tI_1]; omega), tI_1]
      rw [if_pos h3]
      by_cases q : X (4 + 55 * t + 51 + k) 1 < hvS X t k
      · have q1 : X (4 + 55 * t + 51 + k) 1 - 1 < thS X (4 + 55 * t) k := by rw [i_lt, e1, i1]; rw [i_lt] at q; omega
        rw [if_pos q1, if_pos (And.intro h3 q), e1]
        omega
      · have q1 : ¬ X (4 + 55 * t + 51 + k) 1 - 1 < thS X (4 + 55 * t) k := by rw [i_lt, e1, i1]; rw [i_lt] at q; omega
        rw [if_neg q1, if_neg (fun z : X (4 + 55 * t + 51 + k) 0 = 3 ∧ X (4 + 55 * t + 51 + k) 1 < hvS X t k => q z.2)]
        omega
    · rw [if_neg h3, if_neg (fun z => h3 z.1)]
      exact ⟨i1, i2, i3⟩
theorem minF_congr {f g : Nat → Int32} {i : Nat} (h : ∀ p, p ≤ i → f p = g p) : minF f i = minF g i := by
  induction i with
  | zero => exact h 0 (Nat.le_refl 0)
  | succ i ih => unfold minF; rw [ih (fun p hp => h p (by omega)), h (i + 1) (Nat.le_refl _)]
theorem maxF_congr {f g : Nat → Int32} {i : Nat} (h : ∀ p, p ≤ i → f p = g p) : maxF f i = maxF g i := by
  induction i with
  | zero => exact h 0 (Nat.le_refl 0)
  | succ i ih => unfold maxF; rw [ih (fun p hp => h p (by omega)), h (i + 1) (Nat.le_refl _)]
theorem minF_le {f : Nat → Int32} {i p : Nat} (h : p ≤ i) : minF f i ≤ f p := by
  induction i with
  | zero => rw [show p = 0 by omega]; exact i_nlt.mp (fun z => by rw [i_lt] at z; exact absurd z (Int.lt_irrefl _))
  | succ i ih =>
    unfold minF
    by_cases q : p = i + 1
    · subst q
      split
      · simp only [i_le]; omega
      · rename_i z; exact i_nlt.mp z
    · have := ih (by omega)
      split
      · rename_i z; simp only [i_le, i_lt] at *; omega
      · exact this
theorem maxF_ge {f : Nat → Int32} {i p : Nat} (h : p ≤ i) : f p ≤ maxF f i := by
  induction i with
  | zero => rw [show p = 0 by omega]; exact i_nlt.mp (fun z => by rw [i_lt] at z; exact absurd z (Int.lt_irrefl _))
  | succ i ih =>
    unfold maxF
    by_cases q : p = i + 1
    · subst q
      split
      · simp only [i_le]; omega
      · rename_i z; exact i_nlt.mp z
    · have := ih (by omega)
      split
      · rename_i z; simp only [i_le, i_lt] at *; omega
      · exact this
theorem minF_ok {f : Nat → Int32} {i : Nat} (h : ∀ p, p ≤ i → ValOK (f p)) : ValOK (minF f i) := by
  induction i with
  | zero => exact h 0 (Nat.le_refl 0)
  | succ i ih =>
    unfold minF
    split
    · exact h (i + 1) (Nat.le_refl _)
    · exact ih (fun p hp => h p (by omega))
theorem maxF_ok {f : Nat → Int32} {i : Nat} (h : ∀ p, p ≤ i → ValOK (f p)) : ValOK (maxF f i) := by
  induction i with
  | zero => exact h 0 (Nat.le_refl 0)
  | succ i ih =>
    unfold maxF
    split
    · exact h (i + 1) (Nat.le_refl _)
    · exact ih (fun p hp => h p (by omega))
theorem ls_eq {X : RAM} {t j n : Nat} (hb : BI X t j n) : lsN (fM X (8 * t + j)) n = lstV X (bC t j) n := by
  unfold lsN lstV
  by_cases q : n = 0
  · rw [if_pos q, if_pos q]
  · rw [if_neg q, if_neg q]
    exact minF_congr (fun p hp => (hb.2.2.2.1 p (by omega)).2.2.1)
theorem gr_eq {X : RAM} {t j n : Nat} (hb : BI X t j n) : grN (fM X (8 * t + j)) n = grtV X (bC t j) n := by
  unfold grN grtV
  by_cases q : n = 0
  · rw [if_pos q, if_pos q]
  · rw [if_neg q, if_neg q]
    exact maxF_congr (fun p hp => (hb.2.2.2.1 p (by omega)).2.2.1)
theorem lv_ok {X : RAM} {t j n : Nat} (hb : BI X t j n) : ValOK (lstV X (bC t j) n) := by
  unfold lstV
  split
  · decide
  · exact minF_ok (fun p hp => (hb.2.2.2.1 p (by omega)).2.2.2.2.1.2.2)
theorem gv_ok {X : RAM} {t j n : Nat} (hb : BI X t j n) : ValOK (grtV X (bC t j) n) := by
  unfold grtV
  split
  · decide
  · exact maxF_ok (fun p hp => (hb.2.2.2.1 p (by omega)).2.2.2.2.1.2.2)
theorem anyB_nf {p : Nat → Bool} {n i : Nat} (h : anyB p n = false) (hi : i < n) : p i = false := by
  cases q : p i with
  | false => rfl
  | true => rw [anyB_t hi q] at h; cases h
theorem abs_int {v : Int32} (h : ValOK v) : (absI v).toInt = if 0 ≤ v.toInt then v.toInt else -v.toInt := by
  have h1 := valB h
  unfold absI
  by_cases q : (0 : Int32) ≤ v
  · rw [if_pos q, if_pos (by rw [i_le, tI_0] at q; exact q)]
  · rw [if_neg q, if_neg (by rw [i_le, tI_0] at q; exact q), is32 (by rw [tI_0]; omega) (by rw [tI_0]; omega), tI_0]
    omega
theorem hid_th {X : RAM} {t j n c i : Nat} (hT : TI X t c) (hb : BI X t j n) (hi : i < n) (h : kpt X t j c i = false) : ∀ k, k ≤ c → (absI (X (bC t j + 3) i)).toInt ≤ (thS X (4 + 55 * t) k).toInt := by
  have r := hb.2.2.2.1 i hi
  have hv := r.2.2.2.2.1.2.2
  have hv2 := valB hv
  intro k
  induction k with
  | zero =>
    intro _
    show _ ≤ (1000 : Int32).toInt
    rw [abs_int hv, tI_1000]
    split <;> omega
  | succ k ih =>
    intro hk
    have ih := ih (by omega)
    have hf := anyB_nf (p := ikP X (4 + 55 * t) (bC t j) i) h (show k < c by omega)
    obtain ⟨k1, k2, k3, k4⟩ := hT.2.2.2.2 k (by omega)
    unfold thS
    by_cases h3 : X (4 + 55 * t + 51 + k) 0 = 3
    · rw [if_pos h3]
      have ha : 1 ≤ (X (4 + 55 * t + 51 + k) 1).toInt ∧ (X (4 + 55 * t + 51 + k) 1).toInt ≤ 1000 := by
        rcases k4 with ⟨h, _⟩ | ⟨h, _⟩ | ⟨h, _⟩ | ⟨h, h1, h2, _⟩
        · rw [h] at h3; exact absurd h3 (by decide)
        · rw [h] at h3; exact absurd h3 (by decide)
        · rw [h] at h3; exact absurd h3 (by decide)
        · simp only [i_le, tI_1, tI_1000] at h1 h2; exact ⟨h1, h2⟩
      have e1 : (X (4 + 55 * t + 51 + k) 1 - 1).toInt = (X (4 + 55 * t + 51 + k) 1).toInt - 1 := by rw [is32 (by rw [tI_1]; omega) (by rw [tI_1]; omega), tI_1]
      unfold ikP kpV at hf
      rw [h3, if_neg (by decide), if_neg (by decide), if_neg (by decide), if_pos rfl] at hf
      have hl := Classical.not_not.mp (of_decide_eq_false hf)
      rw [i_lt] at hl
      split
      · rw [e1]; omega
      · exact ih
    · rw [if_neg h3]
      exact ih
theorem clX_ne {X : RAM} {t c a : Nat} (h : a < 4 + 55 * t ∨ 4 + 55 * t + 50 < a) : clX X (4 + 55 * t) c a = X a := by
  unfold clX
  rw [up2_ne (by omega), clS_ne2 8 (fun j hj => by omega)]
theorem hv_of {X Y : RAM} {t c : Nat} (h : ∀ a, 134 < a → Y a = X a) : hvS Y t c = hvS X t c := hvS_congr (fun a h1 h2 k hk => by rw [h a (by omega)])
theorem BI_seal {X : RAM} {t j n c : Nat} (ht : t < 2) (hj : j < 8) (hI : Inv X) (hT : TI X t c) (hb : BI X t j n) (hs : X 134 t = 0) : BI (sbS (clX X (4 + 55 * t) c) t c 8) t j n := by
  have hbC : bC t j = 4 + 55 * t + 3 + 6 * j := rfl
  have hn := hb.1
  have hc := hT.1
  have hne : ∀ a, 122 ≤ a → clX X (4 + 55 * t) c a = X a := fun a ha => clX_ne (by omega)
  have hM : okM (clX X (4 + 55 * t) c) := okM_of (hne 123 (by decide)) (Inv_okM hI)
  have hG : GI (clX X (4 + 55 * t) c) := fun r hr => by
    rw [gpN_of (X := X) (by rw [hne 125 (by decide)]), hne 125 (by decide)]
    exact hI.2.2.2.2.2 r hr
  obtain ⟨c1, c2, c3, c4, c5, c6, c7, c8, c9, c10, c11⟩ := cl_facts ht hj hb hs hc
  obtain ⟨s1, s2, s3, s4, s5⟩ := sb_facts (c := c) ht hj hM hG
  have hmn : mnN (clX X (4 + 55 * t) c) (8 * t + j) = n := by rw [mnN_of (hne 123 (by decide)), BI_mn hb]
  have ef : fM (clX X (4 + 55 * t) c) (8 * t + j) = fM X (8 * t + j) := by unfold fM; rw [hne 126 (by decide)]
  have eg : ∀ g, gmP (clX X (4 + 55 * t) c) (8 * t + j) g = gmP X (8 * t + j) g := fun g => by funext p; unfold gmP; rw [gpN_of (X := X) (by rw [hne 125 (by decide)])]
  have ek : ∀ i, ikM (clX X (4 + 55 * t) c) t (8 * t + j) i = ikM X t (8 * t + j) i := fun i => by
    funext k
    unfold ikM mkV mG
    rw [hne 136 (by decide), hne 137 (by decide), hne 138 (by decide), hne 124 (by decide), hne 125 (by decide), hne 126 (by decide)]
  rw [hmn] at s1 s2 s4 s5
  rw [ef, ls_eq hb] at s1
  rw [ef, gr_eq hb] at s2
  have hlo : ∀ a, a < 127 → sbS (clX X (4 + 55 * t) c) t c 8 a = clX X (4 + 55 * t) c a := fun a ha => sbS_ne (by omega) 8
  have hhi : ∀ a, 134 < a → sbS (clX X (4 + 55 * t) c) t c 8 a = X a := fun a ha => by rw [sbS_ne (by omega), hne a (by omega)]
  have h134 : sbS (clX X (4 + 55 * t) c) t c 8 134 t = 1 := by
    have : ∀ j, sbS (clX X (4 + 55 * t) c) t c j 134 t = 1 := by
      intro j
      induction j with
      | zero => unfold sbS; rw [um_u]
      | succ j ih => rw [sbS_s, slS_ne (by decide)]; exact ih
    exact this 8
  have s5k : ∀ i, i < n → sbS (clX X (4 + 55 * t) c) t c 8 127 (12 * (8 * t + j) + i) = bI (kpt X t j c i) ∧ sbS (clX X (4 + 55 * t) c) t c 8 128 (12 * (8 * t + j) + i) = bI (kpt X t j c i) ∧ sbS (clX X (4 + 55 * t) c) t c 8 129 (12 * (8 * t + j) + i) = X (bC t j + 3) i := fun i hi => by
    have := s5 i hi
    rw [ek, kept_eq hT hb hi, hne 126 (by decide), (hb.2.2.2.1 i hi).2.2.1] at this
    exact this
  have s4g : ∀ g, g < 4 → sbS (clX X (4 + 55 * t) c) t c 8 132 (4 * (8 * t + j) + g) = X (bC t j + 5) g := fun g hg => by
    rw [s4 g hg, eg, hb.2.2.2.2.2.1 g hg]
    congr 1
    refine cntB_congr (fun i hi => ?_)
    obtain ⟨g1, g2⟩ := hI.2.2.2.2.2 (12 * (8 * t + j) + i) (by omega)
    unfold gmP grP
    rw [← (hb.2.2.2.1 i hi).2.1, g1]
    exact decide_eq_decide.mpr (by rw [← g1]; rw [g1]; exact (nI_eq (by omega) (by omega)).symm)
  generalize sbS (clX X (4 + 55 * t) c) t c 8 = Y at *
  have y0 : ∀ d, d ≤ 5 → Y (bC t j + d) = clX X (4 + 55 * t) c (bC t j + d) := fun d hd => hlo _ (by omega)
  have y00 : Y (bC t j) = clX X (4 + 55 * t) c (bC t j) := hlo _ (by omega)
  have ym : ∀ a, 122 < a → a < 127 → Y a = X a := fun a h1 h2 => by rw [hlo a h2, hne a (by omega)]
  have k4 : ∀ i, i < n → Y (bC t j + 4) i = bI (kpt X t j c i) := fun i hi => by rw [y0 4 (by decide)]; exact c2 i hi
  obtain ⟨a1, a2, a3, a4, a5, a6, a7, a8⟩ := hb
  have hb : BI X t j n := ⟨a1, a2, a3, a4, a5, a6, a7, a8⟩
  have hth := th_eq hT c (Nat.le_refl c)
  have ecN : cN Y t = c := by unfold cN; rw [hhi 135 (by decide)]; exact TI_c hT
  have ehv : hvS Y t (cN Y t) = hvS X t c := by rw [ecN]; exact hv_of hhi
  have l1 := valB (lv_ok hb)
  have g1 := valB (gv_ok hb)
  have eth : thS X (4 + 55 * t) c = hvS X t c - 1 := by
    rw [i_eq, hth.1, is32 (by rw [tI_1]; omega) (by rw [tI_1]; omega), tI_1]
  have enth : -(thS X (4 + 55 * t) c) = 1 - hvS X t c := by rw [eth]; grind
  have int1 : (1 - hvS X t c).toInt = 1 - (hvS X t c).toInt := by rw [is32 (by rw [tI_1]; omega) (by rw [tI_1]; omega), tI_1]
  have int2 : (hvS X t c - 1).toInt = (hvS X t c).toInt - 1 := by rw [is32 (by rw [tI_1]; omega) (by rw [tI_1]; omega), tI_1]
  have lowI : Y (bC t j) 9 = if lstV X (bC t j) n < 1 - hvS X t c then 1 - hvS X t c else lstV X (bC t j) n := by rw [y00, c7]; unfold lowV; rw [enth]
  have higI : Y (bC t j) 10 = if hvS X t c - 1 < grtV X (bC t j) n then hvS X t c - 1 else grtV X (bC t j) n := by rw [y00, c8]; unfold higV; rw [eth]
  refine ⟨a1, by rw [y00, c3]; exact a2, by rw [ym 123 (by decide) (by decide)]; exact a3, fun i hi => ?_, ?_, fun g hg => ?_, fun z => ?_, fun _ => ?_⟩
  · have := a4 i hi
    unfold RI at *
    rw [ym 124 (by decide) (by decide), ym 125 (by decide) (by decide), ym 126 (by decide) (by decide), (s5k i hi).1, k4 i hi, y0 1 (by decide), y0 2 (by decide), y0 3 (by decide), c1 1 (by decide), c1 2 (by decide), c1 3 (by decide)]
    exact ⟨this.1, this.2.1, this.2.2.1, rfl, this.2.2.2.2.1, bI_cases _⟩
  · rw [y00, c4]
    congr 1
    refine cntB_congr (fun i hi => ?_)
    unfold knP
    rw [k4 i hi]
    cases kpt X t j c i <;> rfl
  · rw [y0 5 (by decide), c1 5 (by decide), a6 g hg]
    congr 1
    exact cntB_congr (fun i hi => by unfold grP; rw [y0 2 (by decide), c1 2 (by decide)])
  · rw [h134] at z
    exact absurd z (by decide)
  · have ew : ∀ v, anyB (wkP Y (8 * t + j) v) n = anyB (fun i => kpt X t j c i && decide (X (bC t j + 3) i = v)) n := fun v => anyB_congr (fun i hi => by
      unfold wkP
      rw [(s5k i hi).2.1, (s5k i hi).2.2]
      cases kpt X t j c i <;> simp [bI])
    have y7 : Y (bC t j) 7 = lstV X (bC t j) n := by rw [y00, c5]
    have y8 : Y (bC t j) 8 = grtV X (bC t j) n := by rw [y00, c6]
    have y13 : Y (bC t j) 13 = 0 := by rw [y00, c11]
    refine ⟨by rw [s1, y7], by rw [s2, y8], ?_, ?_, fun g hg => ?_, ?_, ?_, by rw [s3, y13], Or.inl y13, ?_, ?_, fun i hi z => ?_⟩
    · rw [lowI]; unfold mlo; rw [ehv, s1]
    · rw [higI]; unfold mhi; rw [ehv, s2]
    · rw [s4g g hg, y0 5 (by decide), c1 5 (by decide)]
    · rw [ew, y7, y00, c9]
    · rw [ew, y8, y00, c10]
    · rw [lowI]
      split
      · rename_i q
        show (-1000 : Int32) ≤ _ ∧ _ ≤ (1000 : Int32)
        simp only [i_le, tI_1000, tI_m1000, int1]
        omega
      · exact lv_ok hb
    · rw [higI]
      split
      · show (-1000 : Int32) ≤ _ ∧ _ ≤ (1000 : Int32)
        simp only [i_le, tI_1000, tI_m1000, int2]
        omega
      · exact gv_ok hb
    · rw [k4 i hi] at z
      have zk := bI_0.mp z
      have hh := hid_th hT hb hi zk c (Nat.le_refl c)
      rw [abs_int (a4 i hi).2.2.2.2.1.2.2, hth.1] at hh
      have hmin : lstV X (bC t j) n ≤ X (bC t j + 3) i := by
        unfold lstV
        rw [if_neg (by omega)]
        exact minF_le (by omega)
      have hmax : X (bC t j + 3) i ≤ grtV X (bC t j) n := by
        unfold grtV
        rw [if_neg (by omega)]
        exact maxF_ge (by omega)
      rw [y0 3 (by decide), c1 3 (by decide), lowI, higI]
      refine ⟨?_, ?_⟩
      · split
        · simp only [i_le, int1]
          split at hh <;> omega
        · exact hmin
      · split
        · simp only [i_le, int2]
          split at hh <;> omega
        · exact hmax
theorem Inv_seals {X : RAM} {t c : Nat} (ht : t < 2) (hI : Inv X) (hT : TI X t c) (hs : X 134 t = 0) : Inv (sbS (clX X (4 + 55 * t) c) t c 8) := by
  have hne : ∀ a, 122 ≤ a → clX X (4 + 55 * t) c a = X a := fun a ha => clX_ne (by omega)
  have hM : okM (clX X (4 + 55 * t) c) := okM_of (hne 123 (by decide)) (Inv_okM hI)
  have hG : GI (clX X (4 + 55 * t) c) := fun r hr => by
    rw [gpN_of (X := X) (by rw [hne 125 (by decide)]), hne 125 (by decide)]
    exact hI.2.2.2.2.2 r hr
  have hlo : ∀ a, a < 127 → sbS (clX X (4 + 55 * t) c) t c 8 a = clX X (4 + 55 * t) c a := fun a ha => sbS_ne (by omega) 8
  have hhi : ∀ a, 134 < a → sbS (clX X (4 + 55 * t) c) t c 8 a = X a := fun a ha => by rw [sbS_ne (by omega), hne a (by omega)]
  have h134 : sbS (clX X (4 + 55 * t) c) t c 8 134 t = 1 := by
    have : ∀ j, sbS (clX X (4 + 55 * t) c) t c j 134 t = 1 := by
      intro j
      induction j with
      | zero => unfold sbS; rw [um_u]
      | succ j ih => rw [sbS_s, slS_ne (by decide)]; exact ih
    exact this 8
  refine Inv_tab ht hI (fun a h1 h2 h3 h4 => by rw [hlo a (by omega), clX_ne (by omega)]) (fun a p h1 h2 h3 => ?_) ?_ ?_ (fun p hp => ?_) ⟨c, ?_⟩ (fun j hj => ?_)
  · unfold plT at h3
    rw [sbS_fr ht hM hG (by omega) 8 (Nat.le_refl 8) (fun i hi => by unfold plB; omega), hne a (by omega)]
  · rw [hlo 122 (by decide), hlo 0 (by decide), hne 122 (by decide), clX_ne (by omega)]; exact hI.2.2.2.1
  · rw [hlo 122 (by decide), hlo 0 (by decide), hne 122 (by decide), clX_ne (by omega)]; exact hI.2.2.2.2.1
  · have e : sbS (clX X (4 + 55 * t) c) t c 8 125 = X 125 := by rw [hlo 125 (by decide), hne 125 (by decide)]
    rw [gpN_of (X := X) (by rw [e]), e]
    exact hI.2.2.2.2.2 p (by omega)
  · obtain ⟨a1, a2, a3, a4, a5⟩ := hT
    refine ⟨a1, ?_, by rw [hhi 135 (by decide)]; exact a3, ?_, fun k hk => ?_⟩
    · rw [hlo _ (by omega)]; unfold clX; rw [up2_same (by decide), clS_ne2 8 (fun j hj => by omega)]; exact a2
    · rw [hlo _ (by omega), h134]; unfold clX; rw [um_u]
    · rw [hlo (4 + 55 * t + 51 + k) (by omega), clX_ne (a := 4 + 55 * t + 51 + k) (by omega), hhi 136 (by decide), hhi 137 (by decide), hhi 138 (by decide)]
      exact a5 k hk
  · obtain ⟨n, hb⟩ := hI.2.1 t ht j hj
    exact ⟨n, BI_seal ht hj hI hT hb hs⟩
theorem st_seal {X : RAM} (hI : Inv X) (x : Int32) : ∃ (rv : Int32) (X1 X2 : RAM), CG l D ac b y_C_seal c_C_seal 3 (some .int) 5 112 [.ref 0, .int x] X (some (.int rv)) X1 ∧ CG l D ac b y_M_seal c_M_seal 3 (some .int) 3 73 [.ref 122, .int x] X1 (some (.int rv)) X2 ∧ Inv X2 := by
  rcases ix2 (x := x) with hx | ⟨t, ht, rfl⟩
  · exact ⟨_, X, X, t_C_seal_T hx, t_M_seal_T hx, hI⟩
  · by_cases hs : X 134 t = 0
    · have hT := Inv_c hI ht
      have hne : ∀ a, 122 ≤ a → clX X (4 + 55 * t) (cN X t) a = X a := fun a ha => clX_ne (by omega)
      have hR := Inv_seals ht hI hT hs
      have hM := t_M_seal_D (l := l) (D := D) (ac := ac) (b := b) (X := clX X (4 + 55 * t) (cN X t)) (c := cN X t) ht (okM_of (hne 123 (by decide)) (Inv_okM hI)) (by rw [hne 135 (by decide)]; exact hT.2.2.1) hT.1 (fun r hr => by
        rw [gpN_of (X := X) (by rw [hne 125 (by decide)]), hne 125 (by decide)]
        exact hI.2.2.2.2.2 r hr) (fun k hk => by
        rw [hne 137 (by decide)]
        obtain ⟨k1, k2, k3, k4⟩ := hT.2.2.2.2 k hk
        rw [k2]
        intro z
        rw [z] at k4
        rcases k4 with ⟨_, h, _⟩ | ⟨_, h, _⟩ | ⟨_, h, _⟩ | ⟨_, h, _⟩
        · exact absurd h (by decide)
        · exact absurd h (by decide)
        · exact absurd h.1 (by decide)
        · exact absurd h (by decide)) (by rw [hne 134 (by decide)]; exact hs)
      have e : sumI (fun j => clX X (4 + 55 * t) (cN X t) (4 + 55 * t + 3 + 6 * j) 6) 8 = mkS (sbS (clX X (4 + 55 * t) (cN X t)) t (cN X t) 8) t 8 := by
        rw [← knT_eq hR ht]
        exact sumI_congr (fun j hj => by rw [sbS_ne (by omega)])
      rw [← e] at hM
      exact ⟨_, _, _, t_C_seal_D ht ((Inv_seal hI ht).trans hs) hT.2.1 hT.1 (Inv_okZ hI ht), hM, hR⟩
    · exact ⟨_, X, X, t_C_seal_S ht (fun z => hs ((Inv_seal hI ht).symm.trans z)), t_M_seal_S ht hs, hI⟩
end P29
