/-! sums, counts, facts, digests: the class's numbers are the model's -/
theorem neg1 {g : Int32} (hg : GrpOK g) : g < 0 ↔ g = -1 := by
  obtain ⟨h1, h2⟩ := hg
  simp only [i_le, i_lt, i_eq, tI_0, tI_m1, tI_4] at *
  omega
theorem valB {v : Int32} (h : (-1000) ≤ v ∧ v ≤ 1000) : -1000 ≤ v.toInt ∧ v.toInt ≤ 1000 := by
  simp only [i_le, tI_1000, tI_m1000] at h
  exact h
theorem pb {H : Nat} (hH : H ≤ 12) {l : Int} (h1 : -1000 ≤ l) (h2 : l ≤ 1000) : -12000 ≤ (H : Int) * l ∧ (H : Int) * l ≤ 12000 := by
  rcases (show H = 0 ∨ H = 1 ∨ H = 2 ∨ H = 3 ∨ H = 4 ∨ H = 5 ∨ H = 6 ∨ H = 7 ∨ H = 8 ∨ H = 9 ∨ H = 10 ∨ H = 11 ∨ H = 12 by omega) with rfl | rfl | rfl | rfl | rfl | rfl | rfl | rfl | rfl | rfl | rfl | rfl | rfl <;> omega
theorem sel_eq {X : RAM} {t j n : Nat} {g : Int32} (h : BI X t j n) (hg : GrpOK g) {i : Nat} (hi : i < n) : smP X (8 * t + j) g i = (seP X (bC t j) g i && knP X (bC t j) i) := by
  have r := h.2.2.2.1 i hi
  have hn := neg1 hg
  unfold smP seP knP
  rw [r.2.1, r.2.2.2.1]
  by_cases q1 : X (bC t j + 4) i = 0 <;> by_cases q2 : g = -1 <;> by_cases q3 : X (bC t j + 2) i = g <;> simp [q1, q2, q3, hn]
theorem sumK_b {X : RAM} {t j n : Nat} {g : Int32} (h : BI X t j n) (hg : GrpOK g) : ∀ i, i ≤ n → (-1000 * (i : Int) ≤ (sumK X (bC t j) g i).toInt ∧ (sumK X (bC t j) g i).toInt ≤ 1000 * (i : Int)) ∧ smL X (8 * t + j) g i = (sumK X (bC t j) g i).toInt64 := by
  intro i
  induction i with
  | zero => exact fun _ => ⟨⟨show -1000 * ((0 : Nat) : Int) ≤ (0 : Int32).toInt by decide, show (0 : Int32).toInt ≤ 1000 * ((0 : Nat) : Int) by decide⟩, show (0 : Int64) = (0 : Int32).toInt64 by decide⟩
  | succ i ih =>
    intro hi
    obtain ⟨⟨b1, b2⟩, e⟩ := ih (by omega)
    have hn := h.1
    have r := h.2.2.2.1 i (by omega)
    have hv := valB r.2.2.2.2.1.2.2
    unfold sumK smL
    rw [sel_eq h hg (show i < n by omega)]
    by_cases q : (seP X (bC t j) g i && knP X (bC t j) i) = true
    · rw [if_pos q, if_pos q, ia32 (by omega) (by omega)]
      refine ⟨⟨by omega, by omega⟩, ?_⟩
      rw [add64 (by omega) (by omega), e, r.2.2.1]
    · rw [if_neg q, if_neg q]
      exact ⟨⟨by omega, by omega⟩, e⟩
theorem sub_s (a : Int32) (c : Nat) : a - nI c + Int32.ofInt (-1) = a - nI (c + 1) := by
  rw [← nI_s, ki_m1]
  grind
theorem smN_i {X : RAM} {t j n : Nat} {g : Int32} (h : BI X t j n) (hg : GrpOK g) : ∀ i, i ≤ n → smN X (8 * t + j) g i = m0V X (8 * t + j) g - nI (cntB (fun k => seP X (bC t j) g k && knP X (bC t j) k) i) := by
  intro i
  induction i with
  | zero =>
    intro _
    show m0V X (8 * t + j) g = m0V X (8 * t + j) g - nI 0
    rw [show nI 0 = 0 from rfl]
    grind
  | succ i ih =>
    intro hi
    unfold smN
    rw [sel_eq h hg (show i < n by omega), ih (by omega)]
    by_cases q : (seP X (bC t j) g i && knP X (bC t j) i) = true
    · rw [if_pos q, sub_s]
      congr 2
      simp [cntB, q]
    · rw [if_neg q]
      congr 2
      simp [cntB, q]
theorem m0_eq {X : RAM} {t j n : Nat} {g : Int32} (h : BI X t j n) (hs : ¬ X 134 t = 0) (hg : GrpOK g) : m0V X (8 * t + j) g = nI (cntB (seP X (bC t j) g) n) := by
  unfold m0V
  by_cases q : g < 0
  · rw [if_pos q, h.2.2.1, cnt_all (fun i hi => by simp [seP, (neg1 hg).mp q])]
  · rw [if_neg q]
    obtain ⟨e1, e2⟩ := gp_of hg q
    have hm : ¬ g = -1 := fun z => q ((neg1 hg).mpr z)
    rw [(h.2.2.2.2.2.2.2 hs).2.2.2.2.1 _ e2, h.2.2.2.2.2.1 _ e2]
    congr 1
    exact cntB_congr (fun i hi => by unfold grP seP; rw [← e1]; simp [hm])
theorem hid_sp {X : RAM} {o : Nat} {g : Int32} (n : Nat) : cntB (seP X o g) n = cntB (fun k => seP X o g k && knP X o k) n + cntB (hidP X o g) n :=
  cnt_add (fun i _ => by unfold hidP; cases seP X o g i <;> cases knP X o i <;> rfl)
theorem smN_n {X : RAM} {t j n : Nat} {g : Int32} (h : BI X t j n) (hs : ¬ X 134 t = 0) (hg : GrpOK g) : smN X (8 * t + j) g n = nI (cntB (hidP X (bC t j) g) n) := by
  rw [smN_i h hg n (Nat.le_refl n), m0_eq h hs hg]
  have h1 := hid_sp (X := X) (o := bC t j) (g := g) n
  rw [pk_sub (by omega)]
  congr 1
  omega
theorem hid_le {X : RAM} {t j n : Nat} {g : Int32} (h : BI X t j n) : cntB (hidP X (bC t j) g) n ≤ cntB (unP X (8 * t + j)) n :=
  cnt_mono (fun i hi q => by rw [un_kn h i hi]; unfold hidP at q; simp only [Bool.and_eq_true] at q; exact q.2)
theorem E0 {s lo d : Int32} {H : Nat} (hH : H ≤ 12) (s1 : -12000 ≤ s.toInt) (s2 : s.toInt ≤ 12000) (l1 : -1000 ≤ lo.toInt) (l2 : lo.toInt ≤ 1000) (d1 : -2000 ≤ d.toInt) (d2 : d.toInt ≤ 2000) : (s + (nI H * lo + d)).toInt64 = s.toInt64 + (nI H).toInt64 * lo.toInt64 + d.toInt64 := by
  have hp := pb hH l1 l2
  have hh : (nI H).toInt = (H : Int) := nI_toInt (by omega)
  have e1 : (nI H * lo).toInt = (H : Int) * lo.toInt := by rw [im32 (by rw [hh]; omega) (by rw [hh]; omega), hh]
  have e2 : (nI H * lo + d).toInt = (H : Int) * lo.toInt + d.toInt := by rw [ia32 (by rw [e1]; omega) (by rw [e1]; omega), e1]
  rw [add64 (by rw [e2]; omega) (by rw [e2]; omega), add64 (by rw [e1]; omega) (by rw [e1]; omega), mul64 (by rw [hh]; omega) (by rw [hh]; omega)]
  grind
theorem E1 {s lo d : Int32} {H : Nat} (hH : H ≤ 12) (s1 : -12000 ≤ s.toInt) (s2 : s.toInt ≤ 12000) (l1 : -1000 ≤ lo.toInt) (l2 : lo.toInt ≤ 1000) (d1 : -2000 ≤ d.toInt) (d2 : d.toInt ≤ 2000) : (s + (nI H * lo - d)).toInt64 = s.toInt64 + (nI H).toInt64 * lo.toInt64 - d.toInt64 := by
  have hp := pb hH l1 l2
  have hh : (nI H).toInt = (H : Int) := nI_toInt (by omega)
  have e1 : (nI H * lo).toInt = (H : Int) * lo.toInt := by rw [im32 (by rw [hh]; omega) (by rw [hh]; omega), hh]
  have e2 : (nI H * lo - d).toInt = (H : Int) * lo.toInt - d.toInt := by rw [is32 (by rw [e1]; omega) (by rw [e1]; omega), e1]
  rw [add64 (by rw [e2]; omega) (by rw [e2]; omega), sub64 (by rw [e1]; omega) (by rw [e1]; omega), mul64 (by rw [hh]; omega) (by rw [hh]; omega)]
  grind
theorem sum_eq {X : RAM} {t j n : Nat} {g e : Int32} (h : BI X t j n) (hs : ¬ X 134 t = 0) (hg : GrpOK g) : sumV X (bC t j) n g e = smV X t (8 * t + j) (cN X t) n g e := by
  obtain ⟨b1, b2, b3, b4, b5, b6, b7, b8, b9, b10, b11, b12⟩ := h.2.2.2.2.2.2.2 hs
  have hK := sumK_b h hg n (Nat.le_refl n)
  have hn := h.1
  have hN := smN_n h hs hg
  have hl := hid_le (g := g) h
  have hl2 := cntB_le (hidP X (bC t j) g) n
  have ho := og_eq h hs
  have hm := ol_eq h hs
  have hu := un_sub h
  have l9 := valB b10
  have l10 := valB b11
  unfold sumV smV
  rw [hN, hK.2]
  generalize hHe : cntB (hidP X (bC t j) g) n = H at *
  by_cases q : H = 0
  · rw [if_pos q, if_pos (by rw [q]; rfl)]
  · have qn : ¬ nI H = 0 := fun z => q ((nI_eq (a := H) (b := 0) (by omega) (by decide)).mp z)
    have hun : ¬ cntB (unP X (8 * t + j)) n = 0 := by omega
    rw [show decide (¬ cntB (unP X (8 * t + j)) n = 0) = true by simp [hun], Bool.true_and] at ho hm
    rw [if_neg q, if_neg qn]
    unfold hsV
    rw [hu, ho, hm, ← b3, ← b4]
    have d0 : (X (bC t j) 10 - X (bC t j) 9).toInt = (X (bC t j) 10).toInt - (X (bC t j) 9).toInt := is32 (by omega) (by omega)
    have d1 : (X (bC t j) 10 - X (bC t j) 9).toInt64 = (X (bC t j) 10).toInt64 - (X (bC t j) 9).toInt64 := sub64 (by omega) (by omega)
    by_cases qe : e = 0
    · rw [if_pos qe, if_pos qe]
      by_cases qc : nI H = nI (cntB (unP X (8 * t + j)) n) ∧ mogP X t (8 * t + j) (cN X t) n = true
      · rw [if_pos qc, if_pos qc, E0 (by omega) (by omega) (by omega) l9.1 l9.2 (by omega) (by omega), d1]
      · rw [if_neg qc, if_neg qc, E0 (by omega) (by omega) (by omega) l9.1 l9.2 (by decide) (by decide)]
        rfl
    · rw [if_neg qe, if_neg qe]
      by_cases qc : nI H = nI (cntB (unP X (8 * t + j)) n) ∧ molP X t (8 * t + j) (cN X t) n = true
      · rw [if_pos qc, if_pos qc, E1 (by omega) (by omega) (by omega) l10.1 l10.2 (by omega) (by omega), d1]
      · rw [if_neg qc, if_neg qc, E1 (by omega) (by omega) (by omega) l10.1 l10.2 (by decide) (by decide)]
        rfl
theorem ge_eq {X : RAM} {t j n : Nat} {x : Int32} (h : BI X t j n) {i : Nat} (hi : i < n) : mgP X (8 * t + j) x i = geP X (bC t j) x i := by
  have r := h.2.2.2.1 i hi
  unfold mgP geP knP
  rw [r.2.2.2.1, r.2.2.1]
  by_cases q1 : X (bC t j + 4) i = 0 <;> by_cases q2 : X (bC t j + 3) i < x <;> simp [q1, q2]
theorem lohi {X : RAM} {t j n : Nat} (h : BI X t j n) (hs : ¬ X 134 t = 0) (hu : ¬ cntB (unP X (8 * t + j)) n = 0) : X (bC t j) 9 ≤ X (bC t j) 10 := by
  obtain ⟨i, hi, h1⟩ := cnt_ex (Nat.pos_of_ne_zero hu)
  rw [un_kn h i hi] at h1
  have h2 : X (bC t j + 4) i = 0 := by simpa [knP] using h1
  have h3 := (h.2.2.2.2.2.2.2 hs).2.2.2.2.2.2.2.2.2.2.2 i hi h2
  simp only [i_le] at *
  omega
theorem cnt_eq {X : RAM} {t j n : Nat} {x e : Int32} (h : BI X t j n) (hs : ¬ X 134 t = 0) : cntV X (bC t j) n x e = mcV X t (8 * t + j) (cN X t) n x e := by
  obtain ⟨b1, b2, b3, b4, b5, b6, b7, b8, b9, b10, b11, b12⟩ := h.2.2.2.2.2.2.2 hs
  have ho := og_eq h hs
  have hm := ol_eq h hs
  have hu := un_sub h
  have hf := half_iff h
  unfold cntV mcV
  rw [cntB_congr (fun i hi => ge_eq (x := x) h hi)]
  by_cases q : cntB (unP X (8 * t + j)) n = 0
  · rw [if_neg (fun z => hf.mp z q), if_pos (Or.inl q)]
  · rw [if_pos (hf.mpr q)]
    rw [show decide (¬ cntB (unP X (8 * t + j)) n = 0) = true by simp [q], Bool.true_and] at ho hm
    have hlh := lohi h hs q
    unfold hcV
    rw [← b3, ← b4, ho, hm, hu]
    generalize nI (cntB (geP X (bC t j) x) n) = a
    generalize nI (cntB (unP X (8 * t + j)) n) = u
    by_cases qh : X (bC t j) 10 < x
    · rw [if_pos (Or.inr qh), if_pos (by simp only [i_lt, i_le] at *; omega), if_neg (fun z => absurd qh (i_nlt.mpr z))]
      grind
    · have hor : ¬ (cntB (unP X (8 * t + j)) n = 0 ∨ X (bC t j) 10 < x) := fun z => z.elim q qh
      rw [if_neg hor]
      by_cases ql : X (bC t j) 9 < x
      · rw [if_pos ql, if_pos (i_nlt.mp qh), if_pos ql]
        by_cases qe : e = 0
        · rw [if_pos qe, if_pos qe]
        · rw [if_neg qe, if_neg qe]
          cases molP X t (8 * t + j) (cN X t) n
          · rw [if_neg (by decide)]
            show a + u = a + u - 0
            grind
          · rw [if_pos rfl]
            show a + (u - 1) = a + u - 1
            grind
      · rw [if_neg ql, if_neg ql]
theorem fact_eq {X : RAM} {t j n w : Nat} (h : BI X t j n) (hs : ¬ X 134 t = 0) (hw : w ≤ 7 ∨ 10 ≤ w ∧ w < 14) : faV X (bC t j) w = maV X t (8 * t + j) (cN X t) n w := by
  obtain ⟨b1, b2, b3, b4, b5, b6, b7, b8, b9, b10, b11, b12⟩ := h.2.2.2.2.2.2.2 hs
  have ho := og_eq h hs
  have hm := ol_eq h hs
  have hu := un_sub h
  have hf := half_iff h
  rcases (show w = 0 ∨ w = 1 ∨ w = 2 ∨ w = 3 ∨ w = 4 ∨ w = 5 ∨ w = 6 ∨ w = 7 ∨ w = 10 ∨ w = 11 ∨ w = 12 ∨ w = 13 by omega) with rfl | rfl | rfl | rfl | rfl | rfl | rfl | rfl | rfl | rfl | rfl | rfl
  · exact h.2.1.trans h.2.2.1.symm
  · exact b1.symm
  · exact b2.symm
  · exact hu
  · show (if _ then _ else _) = (if _ then _ else _)
    by_cases q : cntB (unP X (8 * t + j)) n = 0
    · rw [if_neg (fun z => hf.mp z q), if_pos q]
    · rw [if_pos (hf.mpr q), if_neg q, b3]
  · show (if _ then _ else _) = (if _ then _ else _)
    by_cases q : cntB (unP X (8 * t + j)) n = 0
    · rw [if_neg (fun z => hf.mp z q), if_pos q]
    · rw [if_pos (hf.mpr q), if_neg q, b4]
  · show bI (olP X (bC t j)) = (if _ then _ else _)
    rw [hm]
    by_cases q : cntB (unP X (8 * t + j)) n = 0
    · rw [if_pos q, show decide (¬ cntB (unP X (8 * t + j)) n = 0) = false by simp [q]]
      rfl
    · rw [if_neg q, show decide (¬ cntB (unP X (8 * t + j)) n = 0) = true by simp [q], Bool.true_and]
  · show bI (ogP X (bC t j)) = (if _ then _ else _)
    rw [ho]
    by_cases q : cntB (unP X (8 * t + j)) n = 0
    · rw [if_pos q, show decide (¬ cntB (unP X (8 * t + j)) n = 0) = false by simp [q]]
      rfl
    · rw [if_neg q, show decide (¬ cntB (unP X (8 * t + j)) n = 0) = true by simp [q], Bool.true_and]
  · exact (b5 0 (by decide)).symm
  · exact (b5 1 (by decide)).symm
  · exact (b5 2 (by decide)).symm
  · exact (b5 3 (by decide)).symm
/-! tables -/
theorem sumL_congr {f g : Nat → Int64} {n : Nat} (h : ∀ i, i < n → f i = g i) : sumL f n = sumL g n := by
  induction n with
  | zero => rfl
  | succ n ih => unfold sumL; rw [ih (fun i hi => h i (by omega)), h n (by omega)]
theorem wdS_congr {f g : Nat → Int64} {n : Nat} (h : ∀ i, i < n → f i = g i) : wdS f n = wdS g n := by
  induction n with
  | zero => rfl
  | succ n ih => unfold wdS; rw [ih (fun i hi => h i (by omega)), h n (by omega)]
theorem sumT_eq {X : RAM} {t : Nat} {g e : Int32} (h : Inv X) (ht : t < 2) (hs : ¬ X 134 t = 0) (hg : GrpOK g) : sumT X (4 + 55 * t) g e = smT X t (cN X t) g e :=
  sumL_congr (fun j hj => by
    obtain ⟨n, hn⟩ := h.2.1 t ht j hj
    show sumV X (bC t j) (szN X (bC t j)) g e = _
    rw [BI_sz hn, BI_mn hn]
    exact sum_eq hn hs hg)
theorem cntT_eq {X : RAM} {t : Nat} {x e : Int32} (h : Inv X) (ht : t < 2) (hs : ¬ X 134 t = 0) : cntT X (4 + 55 * t) x e = mcT X t (cN X t) x e :=
  sumI_congr (fun j hj => by
    obtain ⟨n, hn⟩ := h.2.1 t ht j hj
    show cntV X (bC t j) (szN X (bC t j)) x e = _
    rw [BI_sz hn, BI_mn hn]
    exact cnt_eq hn hs)
theorem ap_eq {X : RAM} {t j : Nat} {g : Int32} (h : Inv X) (ht : t < 2) (hs : ¬ X 134 t = 0) (hg : GrpOK g) (hj : j < 8) : apV X (4 + 55 * t + 3 + 6 * j) g = mapV X t (cN X t) g j := by
  obtain ⟨n, hn⟩ := h.2.1 t ht j hj
  show sumV X (bC t j) (szN X (bC t j)) g 1 - sumV X (bC t j) (szN X (bC t j)) g 0 = _
  unfold mapV
  rw [BI_sz hn, BI_mn hn, sum_eq hn hs hg, sum_eq hn hs hg]
theorem wdT_eq {X : RAM} {t : Nat} {g : Int32} (h : Inv X) (ht : t < 2) (hs : ¬ X 134 t = 0) (hg : GrpOK g) : wdT X (4 + 55 * t) g = mwT X t (cN X t) g := by
  unfold wdT mwT
  rw [wdS_congr (fun j hj => ap_eq h ht hs hg hj)]
theorem rwT_eq {X : RAM} {t : Nat} (h : Inv X) (ht : t < 2) : rwT X (4 + 55 * t) = mrT X t :=
  sumI_congr (fun j hj => by
    obtain ⟨n, hn⟩ := h.2.1 t ht j hj
    exact hn.2.1.trans hn.2.2.1.symm)
theorem mkS_i {X : RAM} {t : Nat} (i : Nat) : mkS X t i = mrT X t - sumI (fun j => nI (unV X (8 * t + j))) i := by
  induction i with
  | zero =>
    show mrT X t = mrT X t - 0
    grind
  | succ i ih =>
    unfold mkS sumI
    rw [ih]
    grind
theorem knT_eq {X : RAM} {t : Nat} (h : Inv X) (ht : t < 2) : knT X (4 + 55 * t) = mkS X t 8 := by
  rw [mkS_i]
  have h1 : ∀ i, i ≤ 8 → sumI (fun j => X 123 (8 * t + j)) i = sumI (fun j => X (4 + 55 * t + 3 + 6 * j) 6) i + sumI (fun j => nI (unV X (8 * t + j))) i := by
    intro i
    induction i with
    | zero => intro _; rfl
    | succ i ih =>
      intro hi
      obtain ⟨n, hn⟩ := h.2.1 t ht i (by omega)
      have e1 : X 123 (8 * t + i) = X (4 + 55 * t + 3 + 6 * i) 6 + nI (unV X (8 * t + i)) := by
        have := un_cnt hn
        rw [show X (4 + 55 * t + 3 + 6 * i) 6 = nI (cntB (knP X (bC t i)) n) from hn.2.2.2.2.1, hn.2.2.1, nI_add]
        unfold unV
        rw [BI_mn hn]
        congr 1
        omega
      unfold sumI
      rw [ih (by omega), e1]
      grind
  have h2 := h1 8 (Nat.le_refl 8)
  show sumI _ 8 = mrT X t - _
  unfold mrT
  rw [h2]
  grind
theorem knT_0 {X : RAM} {t : Nat} (h : Inv X) (ht : t < 2) (hs : X 134 t = 0) : knT X (4 + 55 * t) = 0 := by
  have h1 : ∀ i, i ≤ 8 → sumI (fun j => X (4 + 55 * t + 3 + 6 * j) 6) i = 0 := by
    intro i
    induction i with
    | zero => intro _; rfl
    | succ i ih =>
      intro hi
      obtain ⟨n, hn⟩ := h.2.1 t ht i (by omega)
      unfold sumI
      rw [ih (by omega), show X (4 + 55 * t + 3 + 6 * i) 6 = nI (cntB (knP X (bC t i)) n) from hn.2.2.2.2.1, cnt_none (fun k hk => by simp [knP, hn.2.2.2.2.2.2.1 hs k hk])]
      rfl
  exact h1 8 (Nat.le_refl 8)
theorem told_eq {X : RAM} {w : Nat} (h : Inv X) (hw : w < 10) : toV X w = mtV2 X w := by
  obtain ⟨c0, t0⟩ := h.1 0 (by decide)
  obtain ⟨c1, t1⟩ := h.1 1 (by decide)
  have k0 := knT_eq (t := 0) h (by decide)
  have k1 := knT_eq (t := 1) h (by decide)
  have z0 := knT_0 (t := 0) h (by decide)
  have z1 := knT_0 (t := 1) h (by decide)
  have r0 := rwT_eq (t := 0) h (by decide)
  have r1 := rwT_eq (t := 1) h (by decide)
  rw [show 4 + 55 * 0 = 4 from rfl] at r0 k0 z0
  rw [show 4 + 55 * 1 = 59 from rfl] at r1 k1 z1
  have s0 : X 4 3 = X 134 0 := t0.2.2.2.1
  have s1 : X 59 3 = X 134 1 := t1.2.2.2.1
  have n0 : X 4 2 = X 135 0 := t0.2.1.trans t0.2.2.1.symm
  have n1 : X 59 2 = X 135 1 := t1.2.1.trans t1.2.2.1.symm
  have q4 := h.2.2.2.1
  have q5 := h.2.2.2.2.1
  clear t0 t1 h
  rcases (show w = 0 ∨ w = 1 ∨ w = 2 ∨ w = 3 ∨ w = 4 ∨ w = 5 ∨ w = 6 ∨ w = 7 ∨ w = 8 ∨ w = 9 by omega) with rfl | rfl | rfl | rfl | rfl | rfl | rfl | rfl | rfl | rfl
  · exact r0
  · exact r1
  · exact q4.symm
  · exact q5.symm
  · show bI (decide (¬ X 4 3 = 0)) = bI (decide (¬ X 134 0 = 0))
    rw [s0]
  · show bI (decide (¬ X 59 3 = 0)) = bI (decide (¬ X 134 1 = 0))
    rw [s1]
  · exact n0
  · exact n1
  · show knT X 4 = (if X 134 0 = 0 then 0 else mkS X 0 8)
    by_cases q : X 134 0 = 0
    · rw [if_pos q, z0 q]
    · rw [if_neg q, k0]
  · show knT X 59 = (if X 134 1 = 0 then 0 else mkS X 1 8)
    by_cases q : X 134 1 = 0
    · rw [if_pos q, z1 q]
    · rw [if_neg q, k1]
theorem mf_eq {X : RAM} {t j n : Nat} {k : Int64} (h : BI X t j n) (hs : ¬ X 134 t = 0) : ∀ w, w ≤ 14 → mfV X (bC t j) k w = maS X t (8 * t + j) (cN X t) n k w := by
  intro w
  induction w with
  | zero => intro _; rfl
  | succ w ih =>
    intro hw
    unfold mfV maS
    rw [ih (by omega)]
    by_cases q : w = 8 ∨ w = 9
    · rw [if_pos q, if_neg (by simp [isF]; omega)]
    · have hf : w ≤ 7 ∨ 10 ≤ w ∧ w < 14 := by omega
      rw [if_neg q, if_pos (by simpa [isF] using hf), fact_eq h hs hf]
theorem mr_eq {X : RAM} {t j n : Nat} {k : Int64} (h : BI X t j n) : ∀ i, i ≤ n → mrV X (bC t j) k i = mrS X (8 * t + j) k i := by
  intro i
  induction i with
  | zero => intro _; rfl
  | succ i ih =>
    intro hi
    have r := h.2.2.2.1 i (by omega)
    unfold mrV mrS
    rw [ih (by omega), r.2.2.2.1, r.2.2.1]
    by_cases q : X (bC t j + 4) i = 0
    · rw [if_pos q, if_neg (by simp [knP, q])]
    · rw [if_neg q, if_pos (by simp [knP, q])]
theorem mb_eq {X : RAM} {t : Nat} {k : Int64} (h : Inv X) (ht : t < 2) (hs : ¬ X 134 t = 0) : ∀ j, j ≤ 8 → mbS X (4 + 55 * t) k j = mbS2 X t (cN X t) k j := by
  intro j
  induction j with
  | zero => intro _; rfl
  | succ j ih =>
    intro hj
    obtain ⟨n, hn⟩ := h.2.1 t ht j (by omega)
    unfold mbS mbS2
    rw [ih (by omega), BI_mn hn, show szN X (4 + 55 * t + 3 + 6 * j) = n from BI_sz hn]
    unfold mxV
    rw [← mf_eq hn hs 14 (Nat.le_refl 14)]
    exact mr_eq hn n (Nat.le_refl n)
theorem dg_eq {X : RAM} (h : Inv X) : ∀ w, w ≤ 10 → dgS X w = mgS X w := by
  intro w
  induction w with
  | zero => intro _; rfl
  | succ w ih =>
    intro hw
    unfold dgS mgS
    rw [ih (by omega), told_eq h (show w < 10 by omega)]
theorem dt_eq {X : RAM} (h : Inv X) : ∀ t, t ≤ 2 → dtS X t = mtS X (cN X 0) (cN X 1) t := by
  intro t
  induction t with
  | zero => intro _; exact dg_eq h 10 (Nat.le_refl 10)
  | succ t ih =>
    intro ht
    obtain ⟨c, hc⟩ := h.1 t (by omega)
    have ec : (if t = 0 then cN X 0 else cN X 1) = cN X t := by
      rcases (show t = 0 ∨ t = 1 by omega) with rfl | rfl <;> rfl
    unfold dtS mtS
    rw [ih (by omega), ec, hc.2.2.2.1]
    by_cases q : X 134 t = 0
    · rw [if_pos q, if_pos q]
    · rw [if_neg q, if_neg q]
      unfold mtV
      have hg : GrpOK (-1) := by decide
      rw [mb_eq h (by omega) q 8 (Nat.le_refl 8), sumT_eq h (by omega) q hg, sumT_eq h (by omega) q hg]
