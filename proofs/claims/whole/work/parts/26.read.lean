section P26
variable {l : Launch} {D : va_G} {ac : Nat → ClassId} {b : Nat}
theorem SB_of {X Y : RAM} {t j n : Nat} (hn : n ≤ 12) (hc4 : cN X t ≤ 4) (h0 : ∀ q, 7 ≤ q → q ≠ 13 → Y (bC t j) q = X (bC t j) q) (h5 : Y (bC t j + 5) = X (bC t j + 5)) (hm : ∀ a, 127 < a → a < 139 → a ≠ 133 → Y a = X a) (h13 : Y 133 (8 * t + j) = Y (bC t j) 13) (h14 : Y (bC t j) 13 = 0 ∨ Y (bC t j) 13 = 1) (hu : ∀ i, i < n → Y (bC t j + 4) i = 0 → X (bC t j + 4) i = 0 ∧ Y (bC t j + 3) i = X (bC t j + 3) i) (h : SB X t j n) : SB Y t j n := by
  obtain ⟨b1, b2, b3, b4, b5, b6, b7, b8, b9, b10, b11, b12⟩ := h
  have ec : cN Y t = cN X t := by unfold cN; rw [hm 135 (by decide) (by decide) (by decide)]
  have eh : hvS Y t (cN Y t) = hvS X t (cN X t) := by rw [ec]; exact hvS_congr (fun a q1 q2 k hk => by rw [hm a (by omega) (by omega) (by omega)])
  have ew : ∀ v, anyB (wkP Y (8 * t + j) v) n = anyB (wkP X (8 * t + j) v) n := fun v => anyB_congr (fun i hi => by unfold wkP; rw [hm 128 (by decide) (by decide) (by decide), hm 129 (by decide) (by decide) (by decide)])
  have m130 := hm 130 (by decide) (by decide) (by decide)
  have m131 := hm 131 (by decide) (by decide) (by decide)
  have m132 := hm 132 (by decide) (by decide) (by decide)
  have el : mlo Y t (8 * t + j) (cN Y t) = mlo X t (8 * t + j) (cN X t) := by unfold mlo; rw [eh, m130]
  have ei : mhi Y t (8 * t + j) (cN Y t) = mhi X t (8 * t + j) (cN X t) := by unfold mhi; rw [eh, m131]
  unfold SB
  rw [m130, m131, m132, el, ei, h5, h0 7 (by decide) (by decide), h0 8 (by decide) (by decide), h0 9 (by decide) (by decide), h0 10 (by decide) (by decide), h0 11 (by decide) (by decide), h0 12 (by decide) (by decide), ew, ew]
  refine ⟨b1, b2, b3, b4, b5, b6, b7, h13, h14, b10, b11, fun i hi z => ?_⟩
  obtain ⟨z1, z2⟩ := hu i hi z
  rw [z2]
  exact b12 i hi z1
theorem kwA_s (X : RAM) (o i : Nat) : kwA X o (i + 1) = kwX (kwA X o i) o i := rfl
theorem kwX_at {X : RAM} {o k p : Nat} : kwX X o k (o + 4) p = if p = k ∧ X (o + 4) k = 0 then 1 else X (o + 4) p := by
  unfold kwX
  by_cases h : X (o + 4) k = 0
  · rw [if_pos h, up2_ne (by omega)]
    by_cases q : p = k
    · subst q; rw [um_u, if_pos ⟨rfl, h⟩]
    · rw [up2_same q, if_neg (fun z => q z.1)]
  · rw [if_neg h, if_neg (fun z => h z.2)]
theorem kwX_6 {X : RAM} {o k : Nat} : kwX X o k o 6 = if X (o + 4) k = 0 then X o 6 + 1 else X o 6 := by
  unfold kwX
  by_cases h : X (o + 4) k = 0
  · rw [if_pos h, if_pos h, um_u]
  · rw [if_neg h, if_neg h]
theorem kwA_at {X : RAM} {o p : Nat} (n : Nat) : kwA X o n (o + 4) p = if p < n ∧ X (o + 4) p = 0 then 1 else X (o + 4) p := by
  induction n with
  | zero => rw [if_neg (by omega)]; rfl
  | succ n ih =>
    have e : kwA X o n (o + 4) n = X (o + 4) n := by
      clear ih
      have : ∀ m, m ≤ n → kwA X o m (o + 4) n = X (o + 4) n := by
        intro m
        induction m with
        | zero => exact fun _ => rfl
        | succ m ih => intro hm; rw [kwA_s, kwX_at, if_neg (by omega), ih (by omega)]
      exact this n (Nat.le_refl n)
    rw [kwA_s, kwX_at, e, ih]
    by_cases q : p = n
    · subst q
      by_cases h : X (o + 4) p = 0
      · rw [if_pos ⟨rfl, h⟩, if_pos ⟨by omega, h⟩]
      · rw [if_neg (fun z => h z.2), if_neg (fun z => h z.2), if_neg (fun z => h z.2)]
    · rw [if_neg (fun z => q z.1)]
      by_cases h : p < n ∧ X (o + 4) p = 0
      · rw [if_pos h, if_pos ⟨by omega, h.2⟩]
      · rw [if_neg h, if_neg (fun z => h ⟨by omega, z.2⟩)]
theorem kwA_6 {X : RAM} {o : Nat} (n : Nat) : kwA X o n o 6 = X o 6 + nI (cntB (fun i => !knP X o i) n) := by
  induction n with
  | zero =>
    show X o 6 = X o 6 + nI 0
    rw [show nI 0 = 0 from rfl]
    grind
  | succ n ih =>
    have e : kwA X o n (o + 4) n = X (o + 4) n := by rw [kwA_at, if_neg (by omega)]
    rw [kwA_s, kwX_6, e, ih, cntB_s]
    by_cases h : X (o + 4) n = 0
    · rw [if_pos h, show (if (!knP X o n) = true then 1 else 0) = 1 by simp [knP, h], ← nI_s]
      grind
    · rw [if_neg h, show (if (!knP X o n) = true then 1 else 0) = 0 by simp [knP, h], Nat.add_zero]
theorem rb_facts {X : RAM} {t j n : Nat} (hb : BI X t j n) : (∀ i, i < n → rbX X (bC t j) n (bC t j + 4) i = 1) ∧ rbX X (bC t j) n (bC t j) 6 = nI n ∧ rbX X (bC t j) n 0 3 = X 0 3 + (if nI (cntB (unP X (8 * t + j)) n) ≤ 0 then 0 else 1) ∧ rbX X (bC t j) n 0 4 = X 0 4 := by
  have hbC : bC t j = 4 + 55 * t + 3 + 6 * j := rfl
  have hu := un_sub hb
  have hc := un_cnt hb
  have hn := hb.1
  have ez := unz (p := unP X (8 * t + j)) hn
  unfold rbX
  rw [hu]
  by_cases q : nI (cntB (unP X (8 * t + j)) n) ≤ 0
  · rw [if_pos q, if_pos q]
    have q2 := ez.mp q
    refine ⟨fun i hi => ?_, ?_, ?_, rfl⟩
    · rcases (hb.2.2.2.1 i hi).2.2.2.2.2 with h | h
      · have := cnt_pos (p := unP X (8 * t + j)) hi (by rw [un_kn hb i hi]; simp [knP, h])
        omega
      · exact h
    · rw [hb.2.2.2.2.1]
      congr 1
      omega
    · grind
  · rw [if_neg q, if_neg q]
    refine ⟨fun i hi => ?_, ?_, ?_, ?_⟩
    · rw [up2_ne (by omega), kwA_at]
      rcases (hb.2.2.2.1 i hi).2.2.2.2.2 with h | h
      · rw [if_pos ⟨hi, h⟩]
      · rw [if_neg (by rw [h]; exact fun z => absurd z.2 (by decide)), h]
    · rw [up2_ne (by omega), kwA_6, hb.2.2.2.2.1, nI_add]
      congr 1
      have : cntB (fun i => !knP X (bC t j) i) n = cntB (unP X (8 * t + j)) n := cntB_congr (fun i hi => (un_kn hb i hi).symm)
      omega
    · rw [um_u]
    · rw [up2_same (by decide), kwA_ne (by omega) (by omega)]
theorem raS_at {X : RAM} {B p : Nat} (n : Nat) : raS X B n 127 p = if 12 * B ≤ p ∧ p < 12 * B + n then 1 else X 127 p := by
  induction n with
  | zero => rw [if_neg (by omega)]; rfl
  | succ n ih =>
    unfold raS
    by_cases q : p = 12 * B + n
    · subst q; rw [um_u, if_pos (by omega)]
    · rw [up2_n (by omega), ih]
      by_cases q2 : 12 * B ≤ p ∧ p < 12 * B + n
      · rw [if_pos q2, if_pos (by omega)]
      · rw [if_neg q2, if_neg (by omega)]
theorem Inv_read {X : RAM} {t j n : Nat} (ht : t < 2) (hj : j < 8) (hI : Inv X) (hb : BI X t j n) (hs : ¬ X 134 t = 0) : BI (raX (rbX X (bC t j) n) (8 * t + j) n) t j n ∧ Inv (raX (rbX X (bC t j) n) (8 * t + j) n) := by
  have hbC : bC t j = 4 + 55 * t + 3 + 6 * j := rfl
  have hn := hb.1
  obtain ⟨r1, r2, r3, r4⟩ := rb_facts hb
  have hz : ∀ a, a ≠ 0 → a ≠ bC t j → a ≠ bC t j + 4 → rbX X (bC t j) n a = X a := fun a h0 h1 h2 => rbX_ne h1 h2 h0
  have ho : ∀ q, q ≠ 6 → rbX X (bC t j) n (bC t j) q = X (bC t j) q := fun q hq => rbX_o hq (by omega)
  have e1 : ∀ a, a ≠ 122 → a ≠ 127 → raX (rbX X (bC t j) n) (8 * t + j) n a = rbX X (bC t j) n a := fun a h1 h2 => by
    unfold raX; rw [up2_ne h1, raS_ne h2]
  have e2 : ∀ p, raX (rbX X (bC t j) n) (8 * t + j) n 127 p = if 12 * (8 * t + j) ≤ p ∧ p < 12 * (8 * t + j) + n then 1 else X 127 p := fun p => by
    unfold raX; rw [up2_ne (by decide), raS_at, hz 127 (by omega) (by omega) (by omega)]
  have eu : unP (rbX X (bC t j) n) (8 * t + j) = unP X (8 * t + j) := by unfold unP; rw [hz 127 (by omega) (by omega) (by omega)]
  have e3 : raX (rbX X (bC t j) n) (8 * t + j) n 122 16 = X 122 16 + (if nI (cntB (unP X (8 * t + j)) n) ≤ 0 then 0 else 1) := by
    unfold raX; rw [um_u, eu, hz 122 (by omega) (by omega) (by omega)]
  have e4 : raX (rbX X (bC t j) n) (8 * t + j) n 122 22 = X 122 22 := by
    unfold raX; rw [up2_same (by decide), raS_ne (by decide), hz 122 (by omega) (by omega) (by omega)]
  generalize raX (rbX X (bC t j) n) (8 * t + j) n = Y at *
  have k1 : ∀ i, i < n → Y (bC t j + 4) i = 1 := fun i hi => by rw [e1 _ (by omega) (by omega)]; exact r1 i hi
  have y0 : ∀ q, q ≠ 6 → Y (bC t j) q = X (bC t j) q := fun q hq => by rw [e1 _ (by omega) (by omega)]; exact ho q hq
  have ya : ∀ a, a ≠ 122 → a ≠ 127 → a ≠ 0 → a ≠ bC t j → a ≠ bC t j + 4 → Y a = X a := fun a h1 h2 h3 h4 h5 => by rw [e1 a h1 h2, hz a h3 h4 h5]
  have hB : BI Y t j n := by
    obtain ⟨a1, a2, a3, a4, a5, a6, a7, a8⟩ := hb
    refine ⟨a1, by rw [y0 5 (by decide)]; exact a2, by rw [ya 123 (by omega) (by omega) (by omega) (by omega) (by omega)]; exact a3, fun i hi => ?_, ?_, fun g hg => ?_, fun z => ?_, fun _ => ?_⟩
    · have := a4 i hi
      unfold RI at *
      rw [ya 124 (by omega) (by omega) (by omega) (by omega) (by omega), ya 125 (by omega) (by omega) (by omega) (by omega) (by omega), ya 126 (by omega) (by omega) (by omega) (by omega) (by omega), e2, if_pos (by omega), k1 i hi, ya (bC t j + 1) (by omega) (by omega) (by omega) (by omega) (by omega), ya (bC t j + 2) (by omega) (by omega) (by omega) (by omega) (by omega), ya (bC t j + 3) (by omega) (by omega) (by omega) (by omega) (by omega)]
      exact ⟨this.1, this.2.1, this.2.2.1, rfl, this.2.2.2.2.1, Or.inr rfl⟩
    · rw [e1 _ (by omega) (by omega), r2]
      congr 1
      exact (cnt_all (fun i hi => by simp [knP, k1 i hi])).symm
    · rw [ya (bC t j + 5) (by omega) (by omega) (by omega) (by omega) (by omega), a6 g hg]
      congr 1
      exact cntB_congr (fun i hi => by unfold grP; rw [ya (bC t j + 2) (by omega) (by omega) (by omega) (by omega) (by omega)])
    · rw [ya 134 (by omega) (by omega) (by omega) (by omega) (by omega)] at z
      exact absurd z hs
    · have b := a8 hs
      refine SB_of a1 (by have := (Inv_c hI ht).1; exact this) (fun q h1 h2 => y0 q (by omega)) (ya _ (by omega) (by omega) (by omega) (by omega) (by omega)) (fun a h1 h2 h3 => ya a (by omega) (by omega) (by omega) (by omega) (by omega)) ?_ ?_ (fun i hi z => ?_) b
      · rw [ya 133 (by omega) (by omega) (by omega) (by omega) (by omega), y0 13 (by decide)]; exact b.2.2.2.2.2.2.2.1
      · rw [y0 13 (by decide)]; exact b.2.2.2.2.2.2.2.2.1
      · rw [k1 i hi] at z
        exact absurd z (by decide)
  refine ⟨hB, Inv_blk ht hj hI (fun a h1 h2 h3 h4 => ya a (by omega) (by omega) h2 (by omega) (by omega)) (fun a p h1 h2 h3 => ?_) ?_ ?_ (fun p hp => ?_) ⟨n, hB⟩⟩
  · unfold plB at h3
    by_cases q : a = 127
    · subst q
      rw [e2, if_neg (by omega)]
    · rw [ya a (by omega) q (by omega) (by omega) (by omega)]
  · rw [e3, e1 0 (by decide) (by decide), r3, hI.2.2.2.1]
  · rw [e4, e1 0 (by decide) (by decide), r4, hI.2.2.2.2.1]
  · have e := ya 125 (by omega) (by omega) (by omega) (by omega) (by omega)
    rw [gpN_of (X := X) (by rw [e]), e]
    exact hI.2.2.2.2.2 p (by omega)
theorem st_read {X : RAM} (hI : Inv X) (x y : Int32) : ∃ (rv : Int32) (X1 X2 : RAM), CG l D ac b y_C_read c_C_read 5 (some .int) 4 85 [.ref 0, .int x, .int y] X (some (.int rv)) X1 ∧ CG l D ac b y_M_read c_M_read 3 (some .int) 3 63 [.ref 122, .int x, .int y] X1 (some (.int rv)) X2 ∧ Inv X2 := by
  rcases ix2 (x := x) with hx | ⟨t, ht, rfl⟩
  · exact ⟨_, X, X, t_C_read_T hx, t_M_read_T hx, hI⟩
  · rcases ix8 (x := y) with hy | ⟨j, hj, rfl⟩
    · exact ⟨_, X, X, t_C_read_B ht hy, t_M_read_B ht hy, hI⟩
    · have hb := Inv_b hI ht hj
      have hbC : bC t j = 4 + 55 * t + 3 + 6 * j := rfl
      by_cases hs : X 134 t = 0
      · exact ⟨_, X, X, t_C_read_S ht hj ((Inv_seal hI ht).trans hs), t_M_read_S ht hj hs, hI⟩
      · have hz : ∀ a, 122 ≤ a → rbX X (4 + 55 * t + 3 + 6 * j) (mnN X (8 * t + j)) a = X a := fun a h0 => rbX_ne (by omega) (by omega) (by omega)
        have hM := t_M_read_D (l := l) (D := D) (ac := ac) (b := b) (X := rbX X (4 + 55 * t + 3 + 6 * j) (mnN X (8 * t + j))) ht hj (by rw [hz 134 (by decide)]; exact hs) (by rw [hz 123 (by decide)]; exact hb.2.2.1) hb.1
        rw [show unP (rbX X (4 + 55 * t + 3 + 6 * j) (mnN X (8 * t + j))) (8 * t + j) = unP X (8 * t + j) by unfold unP; rw [hz 127 (by decide)], ← un_sub hb] at hM
        exact ⟨_, _, _, t_C_read_D ht hj (fun z => hs ((Inv_seal hI ht).symm.trans z)) hb.2.1 hb.1, hM, (Inv_read ht hj hI hb hs).2⟩
theorem cnt_upd {p q : Nat → Bool} {n k : Nat} (hk : k < n) (h1 : p k = false) (h2 : q k = true) (h : ∀ i, i < n → i ≠ k → q i = p i) : cntB q n = cntB p n + 1 := by
  induction n with
  | zero => omega
  | succ n ih =>
    rw [cntB_s, cntB_s]
    by_cases e : k = n
    · subst e
      rw [h1, h2, cntB_congr (fun i hi => h i (by omega) (by omega))]
      rfl
    · rw [ih (by omega) (fun i hi he => h i (by omega) he), h n (by omega) (fun z => e z.symm)]
      omega
theorem Inv_change {X : RAM} {t j n k : Nat} {v : Int32} (ht : t < 2) (hj : j < 8) (hI : Inv X) (hb : BI X t j n) (hs : ¬ X 134 t = 0) (hk : k < n) (hv : ValOK v) : Inv (mchX (chX X (bC t j) k v) (8 * t + j) k v) := by
  have hbC : bC t j = 4 + 55 * t + 3 + 6 * j := rfl
  have hn := hb.1
  have rk := hb.2.2.2.1 k hk
  have sb := hb.2.2.2.2.2.2.2 hs
  have w0 : ∀ q, q ≠ 6 → q ≠ 13 → chX X (bC t j) k v (bC t j) q = X (bC t j) q := fun q h1 h2 => by
    unfold chX; rw [up2_ne (by omega), kwX_o h1, up2_same h2]
  have w13 : chX X (bC t j) k v (bC t j) 13 = cuV X (bC t j) k := by
    unfold chX; rw [up2_ne (by omega), kwX_o (by decide), um_u]
  have w6 : chX X (bC t j) k v (bC t j) 6 = if X (bC t j + 4) k = 0 then X (bC t j) 6 + 1 else X (bC t j) 6 := by
    unfold chX; rw [up2_ne (by omega), kwX_6, up2_ne (by omega), up2_same (by decide)]
  have w4 : ∀ p, chX X (bC t j) k v (bC t j + 4) p = if p = k ∧ X (bC t j + 4) k = 0 then 1 else X (bC t j + 4) p := fun p => by
    unfold chX; rw [up2_ne (by omega), kwX_at, up2_ne (by omega)]
  have w3 : ∀ p, chX X (bC t j) k v (bC t j + 3) p = if p = k then v else X (bC t j + 3) p := fun p => by
    unfold chX
    by_cases q : p = k
    · subst q; rw [um_u, if_pos rfl]
    · rw [up2_same q, if_neg q, kwX_ne (by omega) (by omega), up2_ne (by omega)]
  have wa : ∀ a, a ≠ bC t j → a ≠ bC t j + 3 → a ≠ bC t j + 4 → chX X (bC t j) k v a = X a := fun a h1 h2 h3 => by
    unfold chX; rw [up2_ne h2, kwX_ne h1 h3, up2_ne h1]
  generalize chX X (bC t j) k v = W at *
  have ya : ∀ a, a ≠ 126 → a ≠ 127 → a ≠ 133 → mchX W (8 * t + j) k v a = W a := fun a h1 h2 h3 => by
    unfold mchX; rw [up2_ne h1, up2_ne h2, up2_ne h3]
  have y6 : ∀ p, mchX W (8 * t + j) k v 126 p = if p = 12 * (8 * t + j) + k then v else X 126 p := fun p => by
    unfold mchX
    by_cases q : p = 12 * (8 * t + j) + k
    · rw [q, um_u, if_pos rfl]
    · rw [up2_same q, if_neg q, up2_ne (by decide), up2_ne (by decide), wa 126 (by omega) (by omega) (by omega)]
  have y7 : ∀ p, mchX W (8 * t + j) k v 127 p = if p = 12 * (8 * t + j) + k then 1 else X 127 p := fun p => by
    unfold mchX
    rw [up2_ne (by decide)]
    by_cases q : p = 12 * (8 * t + j) + k
    · rw [q, um_u, if_pos rfl]
    · rw [up2_same q, if_neg q, up2_ne (by decide), wa 127 (by omega) (by omega) (by omega)]
  have y3 : ∀ p, mchX W (8 * t + j) k v 133 p = if p = 8 * t + j then tcV W (8 * t + j) (12 * (8 * t + j) + k) else X 133 p := fun p => by
    unfold mchX
    rw [up2_ne (by decide), up2_ne (by decide)]
    by_cases q : p = 8 * t + j
    · rw [q, um_u, if_pos rfl]
    · rw [up2_same q, if_neg q, wa 133 (by omega) (by omega) (by omega)]
  have et : tcV W (8 * t + j) (12 * (8 * t + j) + k) = cuV X (bC t j) k := by
    unfold tcV cuV
    rw [wa 133 (by omega) (by omega) (by omega), wa 127 (by omega) (by omega) (by omega), rk.2.2.2.1, sb.2.2.2.2.2.2.2.1]
    rcases sb.2.2.2.2.2.2.2.2.1 with h | h <;> by_cases h4 : X (bC t j + 4) k = 0 <;> rw [h] <;> simp [h4]
  generalize mchX W (8 * t + j) k v = Y at *
  have z4 : ∀ i, i < n → Y (bC t j + 4) i = if i = k then 1 else X (bC t j + 4) i := fun i hi => by
    rw [ya _ (by omega) (by omega) (by omega), w4]
    by_cases q : i = k
    · subst q
      rcases rk.2.2.2.2.2 with h | h
      · rw [if_pos ⟨rfl, h⟩, if_pos rfl]
      · rw [if_neg (by rw [h]; exact fun z => absurd z.2 (by decide)), if_pos rfl, h]
    · rw [if_neg (fun z => q z.1), if_neg q]
  have hB : BI Y t j n := by
    obtain ⟨a1, a2, a3, a4, a5, a6, a7, a8⟩ := hb
    refine ⟨a1, by rw [ya _ (by omega) (by omega) (by omega), w0 5 (by decide) (by decide)]; exact a2, by rw [ya 123 (by omega) (by omega) (by omega), wa 123 (by omega) (by omega) (by omega)]; exact a3, fun i hi => ?_, ?_, fun g hg => ?_, fun z => ?_, fun _ => ?_⟩
    · have := a4 i hi
      unfold RI at *
      rw [ya 124 (by omega) (by omega) (by omega), ya 125 (by omega) (by omega) (by omega), y6, y7, z4 i hi, ya (bC t j + 1) (by omega) (by omega) (by omega), ya (bC t j + 2) (by omega) (by omega) (by omega), ya (bC t j + 3) (by omega) (by omega) (by omega), w3, wa 124 (by omega) (by omega) (by omega), wa 125 (by omega) (by omega) (by omega), wa (bC t j + 1) (by omega) (by omega) (by omega), wa (bC t j + 2) (by omega) (by omega) (by omega)]
      by_cases q : i = k
      · subst q
        rw [if_pos rfl, if_pos rfl, if_pos rfl, if_pos rfl]
        exact ⟨this.1, this.2.1, rfl, rfl, ⟨this.2.2.2.2.1.1, this.2.2.2.2.1.2.1, hv⟩, Or.inr rfl⟩
      · rw [if_neg q, if_neg q, if_neg (by omega), if_neg (by omega)]
        exact this
    · rw [ya _ (by omega) (by omega) (by omega), w6, a5]
      by_cases h4 : X (bC t j + 4) k = 0
      · rw [if_pos h4, nI_s]
        congr 1
        refine (cnt_upd hk (by simp [knP, h4]) (by unfold knP; rw [z4 k hk, if_pos rfl]; rfl) (fun i hi he => ?_)).symm
        unfold knP
        rw [z4 i hi, if_neg he]
      · rw [if_neg h4]
        congr 1
        refine cntB_congr (fun i hi => ?_)
        unfold knP
        rw [z4 i hi]
        by_cases q : i = k
        · subst q; rw [if_pos rfl]; simp [h4]
        · rw [if_neg q]
    · rw [ya _ (by omega) (by omega) (by omega), wa _ (by omega) (by omega) (by omega), a6 g hg]
      congr 1
      exact cntB_congr (fun i hi => by unfold grP; rw [ya _ (by omega) (by omega) (by omega), wa _ (by omega) (by omega) (by omega)])
    · rw [ya 134 (by omega) (by omega) (by omega), wa 134 (by omega) (by omega) (by omega)] at z
      exact absurd z hs
    · have b := a8 hs
      have y13 : Y (bC t j) 13 = cuV X (bC t j) k := by rw [ya _ (by omega) (by omega) (by omega), w13]
      refine SB_of a1 (by have := (Inv_c hI ht).1; exact this) (fun q h1 h2 => by rw [ya _ (by omega) (by omega) (by omega), w0 q (by omega) h2]) (by rw [ya _ (by omega) (by omega) (by omega), wa _ (by omega) (by omega) (by omega)]) (fun a h1 h2 h3 => by rw [ya a (by omega) (by omega) h3, wa a (by omega) (by omega) (by omega)]) ?_ ?_ (fun i hi z => ?_) b
      · rw [y3, if_pos rfl, et, y13]
      · rw [y13]
        unfold cuV
        by_cases h1 : X (bC t j) 13 = 0
        · by_cases h2 : X (bC t j + 4) k = 0
          · rw [if_pos h1, if_pos h2]; exact Or.inr rfl
          · rw [if_pos h1, if_neg h2]; exact Or.inl rfl
        · rw [if_neg h1]; exact Or.inr rfl
      · rw [z4 i hi] at z
        by_cases q : i = k
        · rw [if_pos q] at z
          exact absurd z (by decide)
        · rw [if_neg q] at z
          rw [ya _ (by omega) (by omega) (by omega), w3, if_neg q]
          exact ⟨z, rfl⟩
  refine Inv_blk ht hj hI (fun a h1 h2 h3 h4 => by rw [ya a (by omega) (by omega) (by omega), wa a (by omega) (by omega) (by omega)]) (fun a p h1 h2 h3 => ?_) ?_ ?_ (fun p hp => ?_) ⟨n, hB⟩
  · unfold plB at h3
    by_cases q6 : a = 126
    · subst q6; rw [y6, if_neg (by omega)]
    · by_cases q7 : a = 127
      · subst q7; rw [y7, if_neg (by omega)]
      · by_cases q3 : a = 133
        · subst q3; rw [y3, if_neg (by omega)]
        · rw [ya a q6 q7 q3, wa a (by omega) (by omega) (by omega)]
  · rw [ya 122 (by decide) (by decide) (by decide), ya 0 (by decide) (by decide) (by decide), wa 122 (by omega) (by omega) (by omega), wa 0 (by omega) (by omega) (by omega)]; exact hI.2.2.2.1
  · rw [ya 122 (by decide) (by decide) (by decide), ya 0 (by decide) (by decide) (by decide), wa 122 (by omega) (by omega) (by omega), wa 0 (by omega) (by omega) (by omega)]; exact hI.2.2.2.2.1
  · have e : Y 125 = X 125 := by rw [ya 125 (by decide) (by decide) (by decide), wa 125 (by omega) (by omega) (by omega)]
    rw [gpN_of (X := X) (by rw [e]), e]
    exact hI.2.2.2.2.2 p (by omega)
theorem chX_ne {X : RAM} {o k a : Nat} {v : Int32} (h1 : a ≠ o) (h2 : a ≠ o + 3) (h3 : a ≠ o + 4) : chX X o k v a = X a := by
  unfold chX; rw [up2_ne h2, kwX_ne h1 h3, up2_ne h1]
theorem st_change {X : RAM} (hI : Inv X) (x y r v : Int32) : ∃ (rv : Int32) (X1 X2 : RAM), CG l D ac b y_C_change c_C_change 7 (some .int) 3 64 [.ref 0, .int x, .int y, .int r, .int v] X (some (.int rv)) X1 ∧ CG l D ac b y_M_change c_M_change 7 (some .int) 4 86 [.ref 122, .int x, .int y, .int r, .int v] X1 (some (.int rv)) X2 ∧ Inv X2 := by
  rcases ix2 (x := x) with hx | ⟨t, ht, rfl⟩
  · exact ⟨_, X, X, t_C_change_T hx, t_M_change_T hx, hI⟩
  · rcases ix8 (x := y) with hy | ⟨j, hj, rfl⟩
    · exact ⟨_, X, X, t_C_change_B ht hy, t_M_change_B ht hy, hI⟩
    · have hb := Inv_b hI ht hj
      have hbC : bC t j = 4 + 55 * t + 3 + 6 * j := rfl
      by_cases hr : ¬ r < 0 ∧ r < nI (mnN X (8 * t + j))
      · obtain ⟨k, hk, rfl⟩ := in_row hb.1 hr
        by_cases hv : ValOK v
        · by_cases hs : X 134 t = 0
          · exact ⟨_, X, X, t_C_change_S ht hj hb.2.1 hb.1 hk hv ((Inv_seal hI ht).trans hs), t_M_change_S ht hj hb.2.2.1 hb.1 hk hv hs, hI⟩
          · have sb := hb.2.2.2.2.2.2.2 hs
            have hz : ∀ a, 122 ≤ a → chX X (4 + 55 * t + 3 + 6 * j) k v a = X a := fun a h0 => chX_ne (by omega) (by omega) (by omega)
            exact ⟨_, _, _, t_C_change_D ht hj hb.2.1 hb.1 hk hv (fun z => hs ((Inv_seal hI ht).symm.trans z)), t_M_change_D ht hj (by rw [hz _ (by decide)]; exact hb.2.2.1) hb.1 hk hv (by rw [hz _ (by decide)]; exact hs) (by rw [hz _ (by decide), sb.2.2.2.2.2.2.2.1]; exact sb.2.2.2.2.2.2.2.2.1), Inv_change ht hj hI hb hs hk hv⟩
        · exact ⟨_, X, X, t_C_change_V ht hj hb.2.1 hb.1 hk hv, t_M_change_V ht hj hb.2.2.1 hb.1 hk hv, hI⟩
      · exact ⟨_, X, X, t_C_change_R ht hj (by rw [show X (4 + 55 * t + 3 + 6 * j) 5 = _ from hb.2.1]; exact hr), t_M_change_R ht hj hb.2.2.1 hb.1 hr, hI⟩
end P26
