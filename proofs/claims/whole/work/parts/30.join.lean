section P30
variable {l : Launch} {D : va_G} {ac : Nat → ClassId} {b : Nat}
theorem sumI_s (f : Nat → Int32) (n : Nat) : sumI f (n + 1) = sumI f n + f n := rfl
theorem sumI_zero {f : Nat → Int32} {n : Nat} (h : ∀ i, i < n → f i = 0) : sumI f n = 0 := by
  induction n with
  | zero => rfl
  | succ n ih => rw [sumI_s, ih (fun i hi => h i (by omega)), h n (by omega)]; rfl
theorem sumI_add {f g : Nat → Int32} (n : Nat) : sumI (fun i => f i + g i) n = sumI f n + sumI g n := by
  induction n with
  | zero => rfl
  | succ n ih => rw [sumI_s, sumI_s, sumI_s, ih]; grind
theorem sumI_swap {w : Nat → Nat → Int32} (n m : Nat) : sumI (fun r => sumI (fun z => w r z) m) n = sumI (fun z => sumI (fun r => w r z) n) m := by
  induction n with
  | zero => exact (sumI_zero (fun _ _ => rfl)).symm
  | succ n ih =>
    rw [sumI_s, ih]
    exact (sumI_add (f := fun z => sumI (fun r => w r z) n) (g := fun z => w n z) m).symm
theorem sumI_more {f : Nat → Int32} {n : Nat} (d : Nat) (h : ∀ i, n ≤ i → i < n + d → f i = 0) : sumI f (n + d) = sumI f n := by
  induction d with
  | zero => rfl
  | succ d ih =>
    rw [← Nat.add_assoc, sumI_s, ih (fun i h1 h2 => h i h1 (by omega)), h (n + d) (by omega) (by omega)]
    grind
theorem sumI_cat {f : Nat → Int32} (a d : Nat) : sumI f (a + d) = sumI f a + sumI (fun i => f (a + i)) d := by
  induction d with
  | zero => show sumI f a = sumI f a + 0; grind
  | succ d ih => rw [← Nat.add_assoc, sumI_s, sumI_s, ih]; grind
theorem cntB_I (p : Nat → Bool) (n : Nat) : nI (cntB p n) = sumI (fun i => if p i = true then 1 else 0) n := by
  induction n with
  | zero => rfl
  | succ n ih =>
    rw [cntB_s, sumI_s, ← ih]
    cases p n
    · show nI (cntB p n + 0) = nI (cntB p n) + 0
      rw [Nat.add_zero]; grind
    · show nI (cntB p n + 1) = nI (cntB p n) + 1
      rw [nI_s]
theorem ka_in {X : RAM} {t j n i : Nat} (hb : BI X t j n) (hi : i < n) : kaV X (12 * (8 * t + j) + i) = knP X (bC t j) i := by
  have hn := hb.1
  unfold kaV knP
  rw [(hb.2.2.2.1 i hi).2.2.2.1, show (12 * (8 * t + j) + i) / 12 = 8 * t + j by omega, show (12 * (8 * t + j) + i) % 12 = i by omega, hb.2.2.1]
  have : nI i < nI n := nI_lt (by omega) (by omega)
  simp [this]
theorem ka_out {X : RAM} {t j n i : Nat} (hb : BI X t j n) (hi : n ≤ i) (h2 : i < 12) : kaV X (12 * (8 * t + j) + i) = false := by
  unfold kaV
  rw [show (12 * (8 * t + j) + i) / 12 = 8 * t + j by omega, show (12 * (8 * t + j) + i) % 12 = i by omega, hb.2.2.1]
  exact decide_eq_false (fun z => nI_nlt hi (by omega) z.1)
theorem key_in {X : RAM} {t j n i k : Nat} (hb : BI X t j n) (hi : i < n) (hk : k < 100) : kyN X (bC t j) i = k ↔ X 124 (12 * (8 * t + j) + i) = nI k := by
  have r := hb.2.2.2.1 i hi
  obtain ⟨q, q1, q2⟩ := nn_of (n := 100) r.2.2.2.2.1.1.1 (i_nle.mpr r.2.2.2.2.1.1.2) (by decide)
  have e : kyN X (bC t j) i = q := by unfold kyN; rw [q2, nI_clamp (by omega)]
  rw [e, r.1, q2]
  exact (nI_eq (by omega) (by omega)).symm
theorem key_lt {X : RAM} {t j n i : Nat} (hb : BI X t j n) (hi : i < n) : kyN X (bC t j) i < 100 ∧ X 124 (12 * (8 * t + j) + i) = nI (kyN X (bC t j) i) := by
  have r := hb.2.2.2.1 i hi
  obtain ⟨q, q1, q2⟩ := nn_of (n := 100) r.2.2.2.2.1.1.1 (i_nle.mpr r.2.2.2.2.1.1.2) (by decide)
  have e : kyN X (bC t j) i = q := by unfold kyN; rw [q2, nI_clamp (by omega)]
  rw [e, r.1, q2]
  exact ⟨q1, rfl⟩
/-- how often a key stands among the known rows of the first table -/
def kF (X : RAM) (v : Int32) (r : Nat) : Int32 := if (kaV X r && decide (X 124 r = v)) = true then 1 else 0
theorem kc_eq {X : RAM} {k : Nat} (hI : Inv X) (hk : k < 100) : ∀ j, j ≤ 8 → akS (filA X 3 100 0) 4 j 3 k = sumI (kF X (nI k)) (12 * j) := by
  intro j
  induction j with
  | zero => intro _; exact filA_at hk
  | succ j ih =>
    intro hj
    obtain ⟨n, hb⟩ := hI.2.1 0 (by decide) j (by omega)
    have hbC : bC 0 j = 4 + 3 + 6 * j := by show 4 + 55 * 0 + 3 + 6 * j = _; omega
    have ea : ∀ a, a ≠ 3 → akS (filA X 3 100 0) 4 j a = X a := fun a ha => by rw [akS_ne ha, filA_ne ha]
    rw [show 12 * (j + 1) = 12 * j + 12 by omega, sumI_cat, ← ih (by omega)]
    show akX (akS (filA X 3 100 0) 4 j) (4 + 3 + 6 * j) (szN (akS (filA X 3 100 0) 4 j) (4 + 3 + 6 * j)) 3 k = _
    rw [szN_of (ea _ (by omega)), ← hbC, BI_sz hb]
    unfold akX
    rw [upA_same]
    congr 1
    have hn := hb.1
    have e1 : cntB (keP (akS (filA X 3 100 0) 4 j) (bC 0 j) k) n = cntB (fun i => kaV X (12 * j + i) && decide (X 124 (12 * j + i) = nI k)) n := cntB_congr (fun i hi => by
      have h1 := ka_in hb hi
      have h2 := key_in hb hi hk
      rw [show 12 * (8 * 0 + j) + i = 12 * j + i by omega] at h1 h2
      have e2 : kyN (akS (filA X 3 100 0) 4 j) (bC 0 j) i = kyN X (bC 0 j) i := by unfold kyN; rw [ea _ (by omega)]
      have e3 : knP (akS (filA X 3 100 0) 4 j) (bC 0 j) i = knP X (bC 0 j) i := by unfold knP; rw [ea _ (by omega)]
      unfold keP
      rw [e2, e3, h1]
      congr 1
      exact decide_eq_decide.mpr h2)
    rw [e1, cntB_I]
    have e4 := sumI_more (f := fun i => kF X (nI k) (12 * j + i)) (n := n) (12 - n) (fun i h1 h2 => by
      have h3 := ka_out hb h1 (by omega)
      rw [show 12 * (8 * 0 + j) + i = 12 * j + i by omega] at h3
      show kF X (nI k) (12 * j + i) = 0
      unfold kF
      rw [h3]
      rfl)
    rw [show n + (12 - n) = 12 by omega] at e4
    rw [e4]
    rfl
theorem pwS_I (X : RAM) (o : Nat) (m r : Int32) (n : Nat) : pwS X o m r n = sumI (fun i => if pwP X o m r i = true then X 3 (kyN X o i) else 0) n := by
  induction n with
  | zero => rfl
  | succ n ih =>
    rw [sumI_s, ← ih]
    show (if pwP X o m r n = true then _ else _) = _
    split
    · rfl
    · grind
def pG (X : RAM) (a m : Int32) (z : Nat) : Int32 := if (kaV X (96 + z) && decide (remI (X 124 (96 + z)) a = m)) = true then sumI (kF X (X 124 (96 + z))) 96 else 0
theorem kp_flat {X : RAM} {a m : Int32} (hI : Inv X) (ha : 0 < a) : ∀ j, j ≤ 8 → kpS (kcX X 4) 59 a m j = sumI (pG X a m) (12 * j) := by
  intro j
  induction j with
  | zero => intro _; rfl
  | succ j ih =>
    intro hj
    obtain ⟨n, hb⟩ := hI.2.1 1 (by decide) j (by omega)
    have hbC : bC 1 j = 59 + 3 + 6 * j := by show 4 + 55 * 1 + 3 + 6 * j = _; omega
    have hn := hb.1
    have ea : ∀ x, x ≠ 3 → kcX X 4 x = X x := fun x hx => kcX_ne hx
    rw [show 12 * (j + 1) = 12 * j + 12 by omega, sumI_cat, ← ih (by omega)]
    show kpS (kcX X 4) 59 a m j + pwS (kcX X 4) (59 + 3 + 6 * j) a m (szN (kcX X 4) (59 + 3 + 6 * j)) = _
    congr 1
    rw [szN_of (ea _ (by omega)), ← hbC, BI_sz hb, pwS_I]
    have e4 := sumI_more (f := fun i => pG X a m (12 * j + i)) (n := n) (12 - n) (fun i h1 h2 => by
      have h3 := ka_out hb h1 (by omega)
      rw [show 12 * (8 * 1 + j) + i = 96 + (12 * j + i) by omega] at h3
      show pG X a m (12 * j + i) = 0
      unfold pG
      rw [h3]
      rfl)
    rw [show n + (12 - n) = 12 by omega] at e4
    rw [e4]
    refine sumI_congr (fun i hi => ?_)
    have h1 := ka_in hb hi
    obtain ⟨h2, h3⟩ := key_lt hb hi
    have er : 12 * (8 * 1 + j) + i = 96 + (12 * j + i) := by omega
    rw [er] at h1 h3
    have e2 : kyN (kcX X 4) (bC 1 j) i = kyN X (bC 1 j) i := by unfold kyN; rw [ea _ (by omega)]
    have e3 : knP (kcX X 4) (bC 1 j) i = knP X (bC 1 j) i := by unfold knP; rw [ea _ (by omega)]
    have ek : X (bC 1 j + 1) i = X 124 (96 + (12 * j + i)) := by rw [← er]; exact (hb.2.2.2.1 i hi).1.symm
    have e5 : pwP (kcX X 4) (bC 1 j) a m i = (kaV X (96 + (12 * j + i)) && decide (remI (X 124 (96 + (12 * j + i))) a = m)) := by
      unfold pwP
      rw [e3, h1, ea _ (by omega), ek]
      simp [ha]
    rw [e5, e2]
    unfold pG
    by_cases q : (kaV X (96 + (12 * j + i)) && decide (remI (X 124 (96 + (12 * j + i))) a = m)) = true
    · rw [if_pos q, if_pos q, h3]
      exact kc_eq hI h2 8 (Nat.le_refl 8)
    · rw [if_neg q, if_neg q]
theorem prS_I (X : RAM) (a m : Int32) (n : Nat) : prS X a m n = sumI (fun r => if kaV X r = true ∧ remI (X 124 r) a = m then nI (cntB (prP X r) 96) else 0) n := by
  induction n with
  | zero => rfl
  | succ n ih =>
    rw [sumI_s, ← ih]
    show (if kaV X n = true ∧ remI (X 124 n) a = m then _ else _) = _
    split
    · rfl
    · grind
theorem pairs_eq {X : RAM} {a m : Int32} (hI : Inv X) (ha : 0 < a) : kpT X 4 59 a m = prS X a m 96 := by
  unfold kpT
  rw [kp_flat hI ha 8 (Nat.le_refl 8), prS_I]
  have e1 : ∀ z, pG X a m z = sumI (fun r => if kaV X r = true ∧ kaV X (96 + z) = true ∧ X 124 r = X 124 (96 + z) ∧ remI (X 124 r) a = m then (1 : Int32) else 0) 96 := fun z => by
    unfold pG
    by_cases q : (kaV X (96 + z) && decide (remI (X 124 (96 + z)) a = m)) = true
    · rw [if_pos q]
      simp only [Bool.and_eq_true, decide_eq_true_eq] at q
      refine sumI_congr (fun r hr => ?_)
      unfold kF
      by_cases q2 : (kaV X r && decide (X 124 r = X 124 (96 + z))) = true
      · rw [if_pos q2]
        simp only [Bool.and_eq_true, decide_eq_true_eq] at q2
        rw [if_pos ⟨q2.1, q.1, q2.2, by rw [q2.2]; exact q.2⟩]
      · rw [if_neg q2, if_neg]
        intro h
        apply q2
        simp only [Bool.and_eq_true, decide_eq_true_eq]
        exact ⟨h.1, h.2.2.1⟩
    · rw [if_neg q]
      refine (sumI_zero (fun r hr => ?_)).symm
      rw [if_neg]
      intro h
      apply q
      simp only [Bool.and_eq_true, decide_eq_true_eq]
      exact ⟨h.2.1, by rw [← h.2.2.1]; exact h.2.2.2⟩
  have e2 : ∀ r, (if kaV X r = true ∧ remI (X 124 r) a = m then nI (cntB (prP X r) 96) else 0) = sumI (fun z => if kaV X r = true ∧ kaV X (96 + z) = true ∧ X 124 r = X 124 (96 + z) ∧ remI (X 124 r) a = m then (1 : Int32) else 0) 96 := fun r => by
    by_cases q : kaV X r = true ∧ remI (X 124 r) a = m
    · rw [if_pos q, cntB_I]
      refine sumI_congr (fun z hz => ?_)
      unfold prP
      by_cases q2 : (kaV X (96 + z) && decide (X 124 (96 + z) = X 124 r)) = true
      · rw [if_pos q2]
        simp only [Bool.and_eq_true, decide_eq_true_eq] at q2
        rw [if_pos ⟨q.1, q2.1, q2.2.symm, q.2⟩]
      · rw [if_neg q2, if_neg]
        intro h
        apply q2
        simp only [Bool.and_eq_true, decide_eq_true_eq]
        exact ⟨h.2.1, h.2.2.1.symm⟩
    · rw [if_neg q]
      refine (sumI_zero (fun z hz => ?_)).symm
      rw [if_neg]
      intro h
      exact q ⟨h.1, h.2.2.2⟩
  rw [sumI_congr (fun z _ => e1 z), sumI_congr (fun r _ => e2 r)]
  exact (sumI_swap 96 96).symm
theorem prS_of {X Y : RAM} {a m : Int32} (h1 : Y 123 = X 123) (h2 : Y 124 = X 124) (h3 : Y 127 = X 127) (n : Nat) : prS Y a m n = prS X a m n := by
  have e1 : ∀ r, kaV Y r = kaV X r := fun r => kaV_same h1 h3
  have e2 : ∀ r, prP Y r = prP X r := fun r => by funext z; unfold prP; rw [e1, h2]
  induction n with
  | zero => rfl
  | succ n ih => unfold prS; rw [ih, e1, e2, h2]
theorem mkS_of {X Y : RAM} {t : Nat} (h1 : Y 123 = X 123) (h2 : Y 127 = X 127) (n : Nat) : mkS Y t n = mkS X t n := by
  induction n with
  | zero => unfold mkS; rw [h1]
  | succ n ih => unfold mkS unV; rw [ih, mnN_of h1, unP_of h2]
theorem st_join {X : RAM} (hI : Inv X) (e : Int32) : ∃ (rv : Int32) (X1 X2 : RAM), CG l D ac b y_C_join c_C_join 7 (some .int) 3 75 [.ref 0, .int e] X (some (.int rv)) X1 ∧ CG l D ac b y_M_join c_M_join 5 (some .int) 2 46 [.ref 122, .int e] X1 (some (.int rv)) X2 ∧ Inv X2 := by
  by_cases he : EndOK e
  · have q0 : X 4 3 = X 134 0 := Inv_seal hI (t := 0) (by decide)
    have q1 : X 59 3 = X 134 1 := Inv_seal hI (t := 1) (by decide)
    by_cases hs : ¬ X 134 0 = 0 ∧ ¬ X 134 1 = 0
    · have hne : ∀ a, a ≠ 3 → kcX X 4 a = X a := fun a ha => kcX_ne ha
      have hR : Inv (kcX X 4) := Inv_same (fun a h1 h2 => hne a h1) hI
      have p1 : ¬ X 4 3 = 0 := by rw [q0]; exact hs.1
      have p2 : ¬ X 59 3 = 0 := by rw [q1]; exact hs.2
      have z0 : okZK X 4 := Inv_okK hI (t := 0) (by decide)
      have z1 : okZK X 59 := Inv_okK hI (t := 1) (by decide)
      have s0 : ¬ kcX X 4 134 0 = 0 := by rw [hne 134 (by decide)]; exact hs.1
      have s1 : ¬ kcX X 4 134 1 = 0 := by rw [hne 134 (by decide)]; exact hs.2
      have ep : prS (kcX X 4) 1 0 96 = kpT X 4 59 1 0 := by rw [prS_of (hne 123 (by decide)) (hne 124 (by decide)) (hne 127 (by decide)), pairs_eq hI (by decide)]
      rcases he with rfl | rfl
      · have hM := t_M_join_0 (l := l) (D := D) (ac := ac) (b := b) s0 s1 (Inv_okM hR)
        rw [ep] at hM
        exact ⟨_, _, _, t_C_join_0 p1 p2 z0 z1, hM, hR⟩
      · have hM := t_M_join_1 (l := l) (D := D) (ac := ac) (b := b) s0 s1 (Inv_okM hR)
        have r0 : rwT X 4 = mrT X 0 := rwT_eq hI (t := 0) (by decide)
        have r1 : rwT X 59 = mrT X 1 := rwT_eq hI (t := 1) (by decide)
        have k0 : knT X 4 = mkS X 0 8 := knT_eq hI (t := 0) (by decide)
        have k1 : knT X 59 = mkS X 1 8 := knT_eq hI (t := 1) (by decide)
        have e0 : mrT (kcX X 4) 0 = rwT X 4 := by rw [r0]; unfold mrT; rw [hne 123 (by decide)]
        have e1 : mrT (kcX X 4) 1 = rwT X 59 := by rw [r1]; unfold mrT; rw [hne 123 (by decide)]
        rw [ep, e0, e1, mkS_of (hne 123 (by decide)) (hne 127 (by decide)), mkS_of (hne 123 (by decide)) (hne 127 (by decide)), ← k0, ← k1] at hM
        have ee : kpT X 4 59 1 0 + ((rwT X 4 - knT X 4) * rwT X 59 + knT X 4 * (rwT X 59 - knT X 59)) = kpT X 4 59 1 0 + (rwT X 4 - knT X 4) * rwT X 59 + knT X 4 * (rwT X 59 - knT X 59) := by
          generalize kpT X 4 59 1 0 = a
          generalize rwT X 4 = b1
          generalize knT X 4 = b2
          generalize rwT X 59 = b3
          generalize knT X 59 = b4
          grind
        rw [ee] at hM
        exact ⟨_, _, _, t_C_join_1 p1 p2 z0 z1, hM, hR⟩
    · exact ⟨_, X, X, t_C_join_S he (by rw [q0, q1]; exact hs), t_M_join_S he hs, hI⟩
  · exact ⟨_, X, X, t_C_join_E he, t_M_join_E he, hI⟩
theorem st_part {X : RAM} (hI : Inv X) (a c : Int32) : ∃ (rv : Int32) (X1 X2 : RAM), CG l D ac b y_C_part c_C_part 5 (some .int) 3 75 [.ref 0, .int a, .int c] X (some (.int rv)) X1 ∧ CG l D ac b y_M_part c_M_part 3 (some .int) 2 46 [.ref 122, .int a, .int c] X1 (some (.int rv)) X2 ∧ Inv X2 := by
  by_cases hm : ModOK a c
  · have q0 : X 4 3 = X 134 0 := Inv_seal hI (t := 0) (by decide)
    have q1 : X 59 3 = X 134 1 := Inv_seal hI (t := 1) (by decide)
    by_cases hs : ¬ X 134 0 = 0 ∧ ¬ X 134 1 = 0
    · have p1 : ¬ X 4 3 = 0 := by rw [q0]; exact hs.1
      have p2 : ¬ X 59 3 = 0 := by rw [q1]; exact hs.2
      have T0 := Inv_c hI (t := 0) (by decide)
      have T1 := Inv_c hI (t := 1) (by decide)
      have ek0 : anyB (hkP X 4 a c) (cN X 0) = anyB (mhP X 0 a c) (cN X 0) := anyB_congr (fun k hk => by
        obtain ⟨k1, k2, k3, _⟩ := T0.2.2.2.2 k hk
        unfold mhP
        rw [k1, k2, k3]
        rfl)
      have ek1 : anyB (hkP X 59 a c) (cN X 1) = anyB (mhP X 1 a c) (cN X 1) := anyB_congr (fun k hk => by
        obtain ⟨k1, k2, k3, _⟩ := T1.2.2.2.2 k hk
        unfold mhP
        rw [k1, k2, k3]
        rfl)
      have c0 : X 4 2 = nI (cN X 0) := T0.2.1
      have c1 : X 59 2 = nI (cN X 1) := T1.2.1
      by_cases hk : anyB (mhP X 0 a c) (cN X 0) = true ∧ anyB (mhP X 1 a c) (cN X 1) = true
      · have hne : ∀ a, a ≠ 3 → kcX X 4 a = X a := fun a ha => kcX_ne ha
        have hR : Inv (kcX X 4) := Inv_same (fun a h1 h2 => hne a h1) hI
        have z0 : okZK X 4 := Inv_okK hI (t := 0) (by decide)
        have z1 : okZK X 59 := Inv_okK hI (t := 1) (by decide)
        have ha : (0 : Int32) < a := by
          have := hm.1.1
          simp only [i_le, i_lt, tI_0, tI_1] at *
          omega
        have eh : ∀ t, mhP (kcX X 4) t a c = mhP X t a c := fun t => by funext k; unfold mhP; rw [hne 136 (by decide), hne 137 (by decide), hne 138 (by decide)]
        have hM := t_M_part_D (l := l) (D := D) (ac := ac) (b := b) (X := kcX X 4) (q0 := cN X 0) (q1 := cN X 1) hm (by rw [hne 134 (by decide)]; exact hs.1) (by rw [hne 134 (by decide)]; exact hs.2) (by rw [hne 135 (by decide)]; exact T0.2.2.1) T0.1 (by rw [hne 135 (by decide)]; exact T1.2.2.1) T1.1 (by rw [eh]; exact hk.1) (by rw [eh]; exact hk.2)
        rw [prS_of (hne 123 (by decide)) (hne 124 (by decide)) (hne 127 (by decide)), ← pairs_eq hI ha] at hM
        exact ⟨_, _, _, t_C_part_D hm p1 p2 c0 T0.1 c1 T1.1 (ek0.trans hk.1) (ek1.trans hk.2) z0 z1, hM, hR⟩
      · exact ⟨_, X, X, t_C_part_N hm p1 p2 c0 T0.1 c1 T1.1 (by rw [ek0, ek1]; exact hk), t_M_part_N hm hs.1 hs.2 T0.2.2.1 T0.1 T1.2.2.1 T1.1 hk, hI⟩
    · exact ⟨_, X, X, t_C_part_S hm (by rw [q0, q1]; exact hs), t_M_part_S hm hs, hI⟩
  · exact ⟨_, X, X, t_C_part_M hm, t_M_part_M hm, hI⟩
end P30
