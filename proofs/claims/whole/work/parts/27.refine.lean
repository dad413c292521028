section P27
variable {l : Launch} {D : va_G} {ac : Nat → ClassId} {b : Nat}
def CE (A P : RAM) : Prop := ∀ a, a < 122 → A a = P a
def ME (A P : RAM) : Prop := ∀ a, 122 ≤ a → A a = P a
theorem CE_up2 {A P : RAM} {o k : Nat} {v : Int32} (h : CE A P) : CE (up2 A o k v) (up2 P o k v) := fun a ha => by
  funext p
  rw [up2_v, up2_v, h a ha]
theorem ME_up2 {A P : RAM} {o k : Nat} {v : Int32} (h : ME A P) : ME (up2 A o k v) (up2 P o k v) := fun a ha => by
  funext p
  rw [up2_v, up2_v, h a ha]
theorem CE_kwX {A P : RAM} {o k : Nat} (ho : o + 4 < 122) (h : CE A P) : CE (kwX A o k) (kwX P o k) := by
  unfold kwX
  rw [h (o + 4) ho, h o (by omega)]
  by_cases q : P (o + 4) k = 0
  · rw [if_pos q, if_pos q]; exact CE_up2 (CE_up2 h)
  · rw [if_neg q, if_neg q]; exact h
theorem CE_kwA {A P : RAM} {o : Nat} (ho : o + 4 < 122) (h : CE A P) (n : Nat) : CE (kwA A o n) (kwA P o n) := by
  induction n with
  | zero => exact h
  | succ n ih => rw [kwA_s, kwA_s]; exact CE_kwX ho ih
theorem CE_rbX {A P : RAM} {o n : Nat} (ho : o + 4 < 122) (h : CE A P) : CE (rbX A o n) (rbX P o n) := by
  unfold rbX
  rw [h o (by omega), h 0 (by decide)]
  by_cases q : P o 5 - P o 6 ≤ 0
  · rw [if_pos q, if_pos q]; exact h
  · rw [if_neg q, if_neg q]; exact CE_up2 (CE_kwA ho h n)
theorem ME_raS {A P : RAM} {B : Nat} (h : ME A P) (n : Nat) : ME (raS A B n) (raS P B n) := by
  induction n with
  | zero => exact h
  | succ n ih => unfold raS; exact ME_up2 ih
theorem unP_of {A P : RAM} {B : Nat} (h : A 127 = P 127) : unP A B = unP P B := by unfold unP; rw [h]
theorem ME_raX {A P : RAM} {B n : Nat} (h : ME A P) : ME (raX A B n) (raX P B n) := by
  unfold raX
  rw [h 122 (by decide), unP_of (h 127 (by decide))]
  exact ME_up2 (ME_raS h n)
theorem raX_ne {X : RAM} {B n a : Nat} (h1 : a ≠ 122) (h2 : a ≠ 127) : raX X B n a = X a := by unfold raX; rw [up2_ne h1, raS_ne h2]
theorem sumK_of {X Y : RAM} {o : Nat} {g : Int32} (h2 : Y (o + 2) = X (o + 2)) (h3 : Y (o + 3) = X (o + 3)) (h4 : Y (o + 4) = X (o + 4)) (n : Nat) : sumK Y o g n = sumK X o g n := by
  induction n with
  | zero => rfl
  | succ n ih => unfold sumK seP knP; rw [ih, h2, h3, h4]
theorem sumV_of {X Y : RAM} {o n : Nat} {g e : Int32} (h0 : Y o = X o) (h2 : Y (o + 2) = X (o + 2)) (h3 : Y (o + 3) = X (o + 3)) (h4 : Y (o + 4) = X (o + 4)) : sumV Y o n g e = sumV X o n g e := by
  have e1 : hidP Y o g = hidP X o g := by funext i; unfold hidP seP knP; rw [h2, h4]
  have e2 : ∀ h, hsV Y o h e = hsV X o h e := fun h => by unfold hsV olP ogP; rw [h0]
  unfold sumV
  rw [e1, e2, sumK_of h2 h3 h4]
theorem sumT_of {A P : RAM} {t : Nat} {g e : Int32} (ht : t < 2) (h : CE A P) : sumT A (4 + 55 * t) g e = sumT P (4 + 55 * t) g e :=
  sumL_congr (fun j hj => by
    have e := h (4 + 55 * t + 3 + 6 * j) (by omega)
    rw [szN_of e]
    exact sumV_of e (h _ (by omega)) (h _ (by omega)) (h _ (by omega)))
theorem wdT_of {A P : RAM} {t : Nat} {g : Int32} (ht : t < 2) (h : CE A P) : wdT A (4 + 55 * t) g = wdT P (4 + 55 * t) g := by
  unfold wdT
  rw [wdS_congr (fun j hj => ?_)]
  have e := h (4 + 55 * t + 3 + 6 * j) (by omega)
  unfold apV
  rw [szN_of e, sumV_of e (h _ (by omega)) (h _ (by omega)) (h _ (by omega)), sumV_of e (h _ (by omega)) (h _ (by omega)) (h _ (by omega))]
theorem smV_of {A P : RAM} {t B c n : Nat} {g e : Int32} (h : ME A P) : smV A t B c n g e = smV P t B c n g e := by
  have e1 : smP A B g = smP P B g := by funext i; unfold smP; rw [h 127 (by decide), h 125 (by decide)]
  have e2 : ∀ n, smL A B g n = smL P B g n := fun n => by
    induction n with
    | zero => rfl
    | succ n ih => unfold smL; rw [ih, e1, h 126 (by decide)]
  have e3 : ∀ n, smN A B g n = smN P B g n := fun n => by
    induction n with
    | zero => unfold smN m0V; rw [h 123 (by decide), h 132 (by decide)]
    | succ n ih => unfold smN; rw [ih, e1]
  have e4 : hvS A t c = hvS P t c := hvS_congr (fun a q1 q2 k hk => by rw [h a (by omega)])
  have e5 : mlo A t B c = mlo P t B c := by unfold mlo; rw [e4, h 130 (by decide)]
  have e6 : mhi A t B c = mhi P t B c := by unfold mhi; rw [e4, h 131 (by decide)]
  have e7 : ∀ v, wkP A B v = wkP P B v := fun v => by unfold wkP; rw [h 128 (by decide), h 129 (by decide)]
  have e8 : molP A t B c n = molP P t B c n := by unfold molP usV; rw [e5, h 130 (by decide), h 133 (by decide), e7]
  have e9 : mogP A t B c n = mogP P t B c n := by unfold mogP usV; rw [e6, h 131 (by decide), h 133 (by decide), e7]
  unfold smV
  rw [e2, e3, e5, e6, e8, e9, unP_of (h 127 (by decide))]
theorem mnN_of {A P : RAM} {B : Nat} (h : A 123 = P 123) : mnN A B = mnN P B := by unfold mnN; rw [h]
theorem smT_of {A P : RAM} {t c : Nat} {g e : Int32} (h : ME A P) : smT A t c g e = smT P t c g e := by
  unfold smT
  exact sumL_congr (fun j hj => by rw [smV_of h, mnN_of (h 123 (by decide))])
theorem mwT_of {A P : RAM} {t c : Nat} {g : Int32} (h : ME A P) : mwT A t c g = mwT P t c g := by
  unfold mwT
  rw [wdS_congr (fun j hj => ?_)]
  unfold mapV
  rw [smV_of h, smV_of h, mnN_of (h 123 (by decide))]
def hfP (P : RAM) (t : Nat) : Nat → Bool := fun j => decide (P (bC t j) 6 < P (bC t j) 5)
theorem full_eq {X : RAM} {t j n : Nat} {g : Int32} (h : BI X t j n) (hf : hfP X t j = false) : sumV X (bC t j) n g 1 = sumV X (bC t j) n g 0 := by
  have h1 := half_iff h
  have h2 := of_decide_eq_false hf
  have h3 : cntB (unP X (8 * t + j)) n = 0 := Classical.not_not.mp (fun z => h2 (h1.mpr z))
  have h4 := hid_le (g := g) h
  unfold sumV
  rw [if_pos (by omega), if_pos (by omega)]
theorem sV_r {X : RAM} {o n : Nat} {g e : Int32} : -2147483648 ≤ (sumV X o n g e).toInt ∧ (sumV X o n g e).toInt < 2147483648 := by
  unfold sumV
  split
  · rw [t64]; exact i32r _
  · rw [t64]; exact i32r _
theorem sumL_le {f h : Nat → Int64} {n : Nat} (hn : n ≤ 8) (h1 : ∀ j, j < n → -2147483648 ≤ (f j).toInt ∧ (f j).toInt < 2147483648) (h2 : ∀ j, j < n → -2147483648 ≤ (h j).toInt ∧ (h j).toInt < 2147483648) (hl : ∀ j, j < n → (f j).toInt ≤ (h j).toInt) : (sumL f n).toInt ≤ (sumL h n).toInt ∧ -2147483648 * (n : Int) ≤ (sumL f n).toInt ∧ (sumL f n).toInt ≤ 2147483648 * (n : Int) ∧ -2147483648 * (n : Int) ≤ (sumL h n).toInt ∧ (sumL h n).toInt ≤ 2147483648 * (n : Int) := by
  induction n with
  | zero => exact ⟨Int.le_refl _, show -2147483648 * ((0 : Nat) : Int) ≤ (0 : Int64).toInt by decide, show (0 : Int64).toInt ≤ 2147483648 * ((0 : Nat) : Int) by decide, show -2147483648 * ((0 : Nat) : Int) ≤ (0 : Int64).toInt by decide, show (0 : Int64).toInt ≤ 2147483648 * ((0 : Nat) : Int) by decide⟩
  | succ n ih =>
    obtain ⟨i1, i2, i3, i4, i5⟩ := ih (by omega) (fun j hj => h1 j (by omega)) (fun j hj => h2 j (by omega)) (fun j hj => hl j (by omega))
    have a1 := h1 n (by omega)
    have a2 := h2 n (by omega)
    have a3 := hl n (by omega)
    unfold sumL
    rw [Int64.toInt_add, Int64.toInt_add, bm64 (by omega) (by omega), bm64 (by omega) (by omega)]
    omega
theorem l_lt (a b : Int64) : a < b ↔ a.toInt < b.toInt := Int64.lt_iff_toInt_lt
theorem wd_cases (a : Nat → Int64) (n : Nat) (hn : n ≤ 8) : (wdS a n = (-1, 0) ∧ ∀ j, j < n → ¬ (0 : Int64) < a j) ∨ ∃ j, j < n ∧ (wdS a n).1 = nI j ∧ (wdS a n).2 = a j ∧ (0 : Int64) < a j := by
  induction n with
  | zero => exact Or.inl ⟨rfl, fun j hj => absurd hj (Nat.not_lt_zero j)⟩
  | succ n ih =>
    unfold wdS
    rcases ih (by omega) with ⟨h1, h2⟩ | ⟨j, h1, h2, h3, h4⟩
    · by_cases q : (wdS a n).2 < a n
      · rw [if_pos q]
        rw [h1] at q
        exact Or.inr ⟨n, by omega, rfl, rfl, q⟩
      · rw [if_neg q]
        rw [h1] at q
        refine Or.inl ⟨h1, fun j hj => ?_⟩
        by_cases e : j = n
        · rw [e]; exact q
        · exact h2 j (by omega)
    · by_cases q : (wdS a n).2 < a n
      · rw [if_pos q]
        refine Or.inr ⟨n, by omega, rfl, rfl, ?_⟩
        rw [h3] at q
        simp only [l_lt] at *
        omega
      · rw [if_neg q]
        exact Or.inr ⟨j, by omega, h2, h3, h4⟩
theorem ap_int {X : RAM} {o : Nat} {g : Int32} : (apV X o g).toInt = (sumV X o (szN X o) g 1).toInt - (sumV X o (szN X o) g 0).toInt := by
  have h1 := sV_r (X := X) (o := o) (n := szN X o) (g := g) (e := 1)
  have h2 := sV_r (X := X) (o := o) (n := szN X o) (g := g) (e := 0)
  unfold apV
  rw [Int64.toInt_sub, bm64 (by omega) (by omega)]
theorem wide_half {X : RAM} {t : Nat} {g ap : Int32} (hI : Inv X) (ht : t < 2) (ha : ¬ ap < 0) (h : ap.toInt64 < sumT X (4 + 55 * t) g 1 - sumT X (4 + 55 * t) g 0) : ¬ wdT X (4 + 55 * t) g = -1 ∧ hfP X t (wdN X (4 + 55 * t) g) = true := by
  rcases wd_cases (fun j => apV X (4 + 55 * t + 3 + 6 * j) g) 8 (Nat.le_refl 8) with ⟨h1, h2⟩ | ⟨j, h1, h2, h3, h4⟩
  · exfalso
    have hl := sumL_le (f := fun j => sumV X (4 + 55 * t + 3 + 6 * j) (szN X (4 + 55 * t + 3 + 6 * j)) g 1) (h := fun j => sumV X (4 + 55 * t + 3 + 6 * j) (szN X (4 + 55 * t + 3 + 6 * j)) g 0) (Nat.le_refl 8) (fun j _ => sV_r) (fun j _ => sV_r) (fun j hj => by
      have := h2 j hj
      rw [l_lt, ap_int] at this
      have h0 : (0 : Int64).toInt = 0 := by decide
      rw [h0] at this
      show (sumV _ _ _ _ _).toInt ≤ (sumV _ _ _ _ _).toInt
      omega)
    rw [l_lt, t64] at h
    have e : (sumT X (4 + 55 * t) g 1 - sumT X (4 + 55 * t) g 0).toInt = (sumT X (4 + 55 * t) g 1).toInt - (sumT X (4 + 55 * t) g 0).toInt := by
      unfold sumT
      rw [Int64.toInt_sub, bm64 (by omega) (by omega)]
    rw [e] at h
    unfold sumT at h
    rw [i_lt, tI_0] at ha
    omega
  · have hw : wdT X (4 + 55 * t) g = nI j := h2
    have hn : wdN X (4 + 55 * t) g = j := by unfold wdN; rw [hw, nI_clamp (by omega)]
    refine ⟨fun z => ?_, ?_⟩
    · rw [hw, i_eq, nI_toInt (by omega), tI_m1] at z
      omega
    · rw [hn]
      obtain ⟨n, hb⟩ := hI.2.1 t ht j h1
      cases q : hfP X t j with
      | true => rfl
      | false =>
        exfalso
        have e := full_eq (g := g) hb q
        have h5 : (0 : Int64) < apV X (bC t j) g := h4
        rw [l_lt, ap_int, BI_sz hb, e] at h5
        have h0 : (0 : Int64).toInt = 0 := by decide
        omega
theorem none_half {X : RAM} {t : Nat} {g ap : Int32} (hI : Inv X) (ht : t < 2) (ha : ¬ ap < 0) (h : cntB (hfP X t) 8 = 0) : ¬ ap.toInt64 < sumT X (4 + 55 * t) g 1 - sumT X (4 + 55 * t) g 0 := by
  intro z
  have h1 := (wide_half hI ht ha z)
  have h2 := wdN_of h1.1
  have := cnt_pos h2.1 h1.2
  omega
theorem rd_fewer {X : RAM} {t w n : Nat} (ht : t < 2) (hw : w < 8) (hI : Inv X) (hb : BI X t w n) (hh : hfP X t w = true) : cntB (hfP X t) 8 = cntB (hfP (raX (rbX X (bC t w) n) (8 * t + w) n) t) 8 + 1 := by
  have hbC : bC t w = 4 + 55 * t + 3 + 6 * w := rfl
  refine cnt_upd hw ?_ hh (fun i hi he => ?_)
  · unfold hfP
    rw [raX_ne (by omega) (by omega), (rb_facts hb).2.1, rbX_o (by decide) (by omega), hb.2.1]
    exact decide_eq_false (nI_nlt (Nat.le_refl n) (by have := hb.1; omega))
  · have hbi : bC t i = 4 + 55 * t + 3 + 6 * i := rfl
    unfold hfP
    rw [raX_ne (by omega) (by omega), rbX_ne (by omega) (by omega) (by omega)]
theorem rf_all {t c : Nat} {g ap : Int32} (ht : t < 2) (hg : GrpOK g) (ha : ¬ ap < 0) : ∀ (f d : Nat) (P A B : RAM), Inv P → ¬ P 134 t = 0 → cN P t = c → CE A P → ME B P → cntB (hfP P t) 8 ≤ f → Fin8 t c g ap f B ∧ (rfS (4 + 55 * t) g ap f d A).1 = (rfM t c g ap f d B).1 ∧ ∃ Q, Inv Q ∧ CE (rfS (4 + 55 * t) g ap f d A).2 Q ∧ ME (rfM t c g ap f d B).2 Q := by
  intro f
  induction f with
  | zero =>
    intro d P A B hI hs hc hA hB hf
    have h1 := none_half (g := g) hI ht ha (show cntB (hfP P t) 8 = 0 by omega)
    have h2 := (Inv_c hI ht).2.2.1
    rw [hc] at h2
    refine ⟨⟨⟨by rw [hB 135 (by decide)]; exact h2, okM_of (hB 123 (by decide)) (Inv_okM hI)⟩, ?_⟩, rfl, P, hI, hA, hB⟩
    rw [smT_of hB, smT_of hB, ← hc, ← sumT_eq hI ht hs hg, ← sumT_eq hI ht hs hg]
    exact h1
  | succ f ih =>
    intro d P A B hI hs hc hA hB hf
    have h2 := (Inv_c hI ht).2.2.1
    rw [hc] at h2
    have ok : B 135 t = nI c ∧ okM B := ⟨by rw [hB 135 (by decide)]; exact h2, okM_of (hB 123 (by decide)) (Inv_okM hI)⟩
    have em : smT B t c g 1 - smT B t c g 0 = sumT P (4 + 55 * t) g 1 - sumT P (4 + 55 * t) g 0 := by rw [smT_of hB, smT_of hB, ← hc, ← sumT_eq hI ht hs hg, ← sumT_eq hI ht hs hg]
    have ec : sumT A (4 + 55 * t) g 1 - sumT A (4 + 55 * t) g 0 = sumT P (4 + 55 * t) g 1 - sumT P (4 + 55 * t) g 0 := by rw [sumT_of ht hA, sumT_of ht hA]
    by_cases q : ap.toInt64 < sumT P (4 + 55 * t) g 1 - sumT P (4 + 55 * t) g 0
    · obtain ⟨w1, w2⟩ := wide_half hI ht ha q
      obtain ⟨w3, w4⟩ := wdN_of w1
      have eB : mwT B t c g = wdT P (4 + 55 * t) g := by rw [mwT_of hB, ← hc, ← wdT_eq hI ht hs hg]
      have eN : mwN B t c g = wdN P (4 + 55 * t) g := by unfold mwN wdN; rw [eB]
      have eA : wdT A (4 + 55 * t) g = wdT P (4 + 55 * t) g := wdT_of ht hA
      have eM : wdN A (4 + 55 * t) g = wdN P (4 + 55 * t) g := by unfold wdN; rw [eA]
      obtain ⟨n, hb⟩ := hI.2.1 t ht (wdN P (4 + 55 * t) g) w3
      have hr := (Inv_read ht w3 hI hb hs).2
      have hd := rd_fewer ht w3 hI hb w2
      have hbC : bC t (wdN P (4 + 55 * t) g) = 4 + 55 * t + 3 + 6 * wdN P (4 + 55 * t) g := rfl
      have xA : rdX A (4 + 55 * t) g = rbX A (bC t (wdN P (4 + 55 * t) g)) n := by
        unfold rdX
        rw [eM, szN_of (hA (4 + 55 * t + 3 + 6 * wdN P (4 + 55 * t) g) (by omega)), show szN P (4 + 55 * t + 3 + 6 * wdN P (4 + 55 * t) g) = n from BI_sz hb]
      have xB : mrX B t c g = raX B (8 * t + wdN P (4 + 55 * t) g) n := by
        unfold mrX
        rw [eN, mnN_of (hB 123 (by decide)), BI_mn hb]
      have hz : ∀ a, 122 ≤ a → rbX P (bC t (wdN P (4 + 55 * t) g)) n a = P a := fun a h0 => rbX_ne (by omega) (by omega) (by omega)
      have i1 := ih (d + 1) (raX (rbX P (bC t (wdN P (4 + 55 * t) g)) n) (8 * t + wdN P (4 + 55 * t) g) n) (rbX A (bC t (wdN P (4 + 55 * t) g)) n) (raX B (8 * t + wdN P (4 + 55 * t) g) n) hr (by rw [raX_ne (by decide) (by decide), hz 134 (by decide)]; exact hs) (by unfold cN; rw [raX_ne (by decide) (by decide), hz 135 (by decide)]; exact hc) (fun a h1 => by rw [raX_ne (by omega) (by omega)]; exact CE_rbX (by omega) hA a h1) (ME_raX (fun a h1 => by rw [hz a h1]; exact hB a h1)) (by omega)
      unfold Fin8 rfS rfM
      rw [em, ec, if_pos q, if_pos q, eA, if_neg w1, xA, xB]
      refine ⟨⟨ok, fun _ => ⟨⟨by rw [eN]; exact w3, by rw [eN, eB]; exact w4⟩, i1.1⟩⟩, i1.2.1, i1.2.2⟩
    · unfold Fin8 rfS rfM
      rw [em, ec, if_neg q, if_neg q]
      exact ⟨⟨ok, fun z => absurd z q⟩, rfl, P, hI, hA, hB⟩
theorem rdX_ne {X : RAM} {t a : Nat} {g : Int32} (ht : t < 2) (h : 122 ≤ a) (hw : ¬ wdT X (4 + 55 * t) g = -1) : rdX X (4 + 55 * t) g a = X a := by
  have := (wdN_of hw).1
  unfold rdX
  exact rbX_ne (by omega) (by omega) (by omega)
theorem rfS_ne {t a : Nat} {g ap : Int32} (ht : t < 2) (h : 122 ≤ a) : ∀ (f d : Nat) (X : RAM), (rfS (4 + 55 * t) g ap f d X).2 a = X a := by
  intro f
  induction f with
  | zero => intro d X; rfl
  | succ f ih =>
    intro d X
    unfold rfS
    split
    · split
      · rfl
      · rename_i hw
        rw [ih, rdX_ne ht h hw]
    · rfl
theorem rfM_ne {t c a : Nat} {g ap : Int32} (h : a < 122) : ∀ (f d : Nat) (X : RAM), (rfM t c g ap f d X).2 a = X a := by
  intro f
  induction f with
  | zero => intro d X; rfl
  | succ f ih =>
    intro d X
    unfold rfM
    split
    · rw [ih]
      unfold mrX
      exact raX_ne (by omega) (by omega)
    · rfl
theorem st_refine {X : RAM} (hI : Inv X) (x g ap : Int32) : ∃ (rv : Int32) (X1 X2 : RAM), CG l D ac b y_C_refine c_C_refine 7 (some .int) 6 136 [.ref 0, .int x, .int g, .int ap] X (some (.int rv)) X1 ∧ CG l D ac b y_M_refine c_M_refine 6 (some .int) 5 129 [.ref 122, .int x, .int g, .int ap] X1 (some (.int rv)) X2 ∧ Inv X2 := by
  rcases ix2 (x := x) with hx | ⟨t, ht, rfl⟩
  · exact ⟨_, X, X, t_C_refine_T hx, t_M_refine_T hx, hI⟩
  · by_cases hg : GrpOK g
    · by_cases ha : ApOK ap
      · by_cases hs : X 134 t = 0
        · exact ⟨_, X, X, t_C_refine_S ht hg ha ((Inv_seal hI ht).trans hs), t_M_refine_S ht hg ha hs, hI⟩
        · have hC := t_C_refine_D (l := l) (D := D) (ac := ac) (b := b) ht hg ha (fun z => hs ((Inv_seal hI ht).symm.trans z)) (Inv_okZ hI ht)
          have hne : ∀ a, 122 ≤ a → (rfS (4 + 55 * t) g ap 8 0 X).2 a = X a := fun a h => rfS_ne ht h 8 0 X
          obtain ⟨r1, r2, Q, r3, r4, r5⟩ := rf_all (g := g) (ap := ap) ht hg ha.1 8 0 X X (rfS (4 + 55 * t) g ap 8 0 X).2 hI hs rfl (fun a _ => rfl) hne (cntB_le _ 8)
          have hM := t_M_refine_D (l := l) (D := D) (ac := ac) (b := b) (X := (rfS (4 + 55 * t) g ap 8 0 X).2) ht hg ha (by rw [hne 134 (by decide)]; exact hs) (Inv_c hI ht).1 r1
          rw [← r2] at hM
          refine ⟨_, _, _, hC, hM, ?_⟩
          have e : (rfM t (cN X t) g ap 8 0 (rfS (4 + 55 * t) g ap 8 0 X).2).2 = Q := by
            funext a
            by_cases q : a < 122
            · rw [rfM_ne q, r4 a q]
            · exact r5 a (by omega)
          rw [e]
          exact r3
      · exact ⟨_, X, X, t_C_refine_A ht hg ha, t_M_refine_A ht hg ha, hI⟩
    · exact ⟨_, X, X, t_C_refine_G ht hg, t_M_refine_G ht hg, hI⟩
end P27
