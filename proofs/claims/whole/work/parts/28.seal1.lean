section P28
variable {l : Launch} {D : va_G} {ac : Nat → ClassId} {b : Nat}
theorem krS_s (X : RAM) (o bo c i : Nat) : krS X o bo c (i + 1) = if anyB (ikP X o bo i) c = true then kwX (krS X o bo c i) bo i else krS X o bo c i := rfl
theorem krS_at {Z : RAM} {o bo c p n : Nat} (h0 : ∀ i, i < n → Z (bo + 4) i = 0) : ∀ m, m ≤ n → krS Z o bo c m (bo + 4) p = if p < m then bI (anyB (ikP Z o bo p) c) else Z (bo + 4) p := by
  intro m
  induction m with
  | zero => exact fun _ => by rw [if_neg (by omega)]; rfl
  | succ m ih =>
    intro hm
    have ih := ih (by omega)
    have e : krS Z o bo c m (bo + 4) m = 0 := by
      clear ih
      have : ∀ q, q ≤ m → krS Z o bo c q (bo + 4) m = 0 := by
        intro q
        induction q with
        | zero => exact fun _ => h0 m (by omega)
        | succ q ihq =>
          intro hq
          rw [krS_s]
          split
          · rw [kwX_at, if_neg (by omega), ihq (by omega)]
          · exact ihq (by omega)
      exact this m (Nat.le_refl m)
    rw [krS_s]
    by_cases q : p = m
    · subst q
      rw [if_pos (show p < p + 1 by omega)]
      by_cases h : anyB (ikP Z o bo p) c = true
      · rw [if_pos h, kwX_at, if_pos ⟨rfl, e⟩, bI_t h]
      · rw [if_neg h, e, bI_f (by simpa using h)]
    · have e2 : (if p < m + 1 then bI (anyB (ikP Z o bo p) c) else Z (bo + 4) p) = if p < m then bI (anyB (ikP Z o bo p) c) else Z (bo + 4) p := by
        by_cases h : p < m
        · rw [if_pos h, if_pos (by omega)]
        · rw [if_neg h, if_neg (by omega)]
      rw [e2]
      split
      · rw [kwX_at, if_neg (fun z => q z.1)]; exact ih
      · exact ih
theorem krS_6 {Z : RAM} {o bo c n : Nat} (h0 : ∀ i, i < n → Z (bo + 4) i = 0) : ∀ m, m ≤ n → krS Z o bo c m bo 6 = Z bo 6 + nI (cntB (fun i => anyB (ikP Z o bo i) c) m) := by
  intro m
  induction m with
  | zero =>
    intro _
    show Z bo 6 = Z bo 6 + nI 0
    rw [show nI 0 = 0 from rfl]
    grind
  | succ m ih =>
    intro hm
    have ih := ih (by omega)
    have e : krS Z o bo c m (bo + 4) m = 0 := by rw [krS_at h0 m (by omega), if_neg (by omega)]; exact h0 m (by omega)
    rw [krS_s, cntB_s]
    by_cases h : anyB (ikP Z o bo m) c = true
    · rw [if_pos h, kwX_6, if_pos e, ih, if_pos h, ← nI_s]
      grind
    · rw [if_neg h, ih, if_neg h, Nat.add_zero]
theorem clS_ne2 {X : RAM} {o c a : Nat} (i : Nat) (h : ∀ j, j < i → a ≠ o + 3 + 6 * j ∧ a ≠ o + 3 + 6 * j + 4) : clS X o c i a = X a := by
  induction i with
  | zero => rfl
  | succ i ih =>
    unfold clS
    rw [clB_ne (h i (by omega)).1 (h i (by omega)).2, ih (fun j hj => h j (by omega))]
theorem clS_blk {X : RAM} {o c j d : Nat} (hj : j < 8) (hd : d ≤ 5) : clS X o c 8 (o + 3 + 6 * j + d) = clB X (clS X o c j) o c (o + 3 + 6 * j) (o + 3 + 6 * j + d) := by
  have : ∀ i, i ≤ 8 → j < i → clS X o c i (o + 3 + 6 * j + d) = clB X (clS X o c j) o c (o + 3 + 6 * j) (o + 3 + 6 * j + d) := by
    intro i
    induction i with
    | zero => omega
    | succ i ih =>
      intro h1 h2
      show clB X (clS X o c i) o c (o + 3 + 6 * i) _ = _
      by_cases q : j = i
      · subst q; rfl
      · rw [clB_ne (by omega) (by omega)]
        exact ih (by omega) (by omega)
  exact this 8 (Nat.le_refl 8) hj
/-- which rows are kept -/
def kpt (X : RAM) (t j c : Nat) (i : Nat) : Bool := anyB (ikP X (4 + 55 * t) (bC t j) i) c
theorem cl_facts {X : RAM} {t j n c : Nat} (ht : t < 2) (hj : j < 8) (hb : BI X t j n) (hs : X 134 t = 0) (hc : c ≤ 4) :
    (∀ d, d = 1 ∨ d = 2 ∨ d = 3 ∨ d = 5 → clX X (4 + 55 * t) c (bC t j + d) = X (bC t j + d)) ∧ (∀ i, i < n → clX X (4 + 55 * t) c (bC t j + 4) i = bI (kpt X t j c i)) ∧ clX X (4 + 55 * t) c (bC t j) 5 = X (bC t j) 5 ∧ clX X (4 + 55 * t) c (bC t j) 6 = nI (cntB (kpt X t j c) n) ∧
    clX X (4 + 55 * t) c (bC t j) 7 = lstV X (bC t j) n ∧ clX X (4 + 55 * t) c (bC t j) 8 = grtV X (bC t j) n ∧ clX X (4 + 55 * t) c (bC t j) 9 = lowV X (bC t j) n (thS X (4 + 55 * t) c) ∧ clX X (4 + 55 * t) c (bC t j) 10 = higV X (bC t j) n (thS X (4 + 55 * t) c) ∧
    clX X (4 + 55 * t) c (bC t j) 11 = bI (anyB (fun i => kpt X t j c i && decide (X (bC t j + 3) i = lstV X (bC t j) n)) n) ∧ clX X (4 + 55 * t) c (bC t j) 12 = bI (anyB (fun i => kpt X t j c i && decide (X (bC t j + 3) i = grtV X (bC t j) n)) n) ∧ clX X (4 + 55 * t) c (bC t j) 13 = 0 := by
  have hbC : bC t j = 4 + 55 * t + 3 + 6 * j := rfl
  have hn := hb.1
  have hz : ∀ a, (bC t j ≤ a ∧ a ≤ bC t j + 5) ∨ (4 + 55 * t + 51 ≤ a ∧ a ≤ 4 + 55 * t + 54) → clS X (4 + 55 * t) c j a = X a := fun a ha => clS_ne2 j (fun i hi => by omega)
  have hx : ∀ d, d ≤ 5 → clX X (4 + 55 * t) c (bC t j + d) = clB X (clS X (4 + 55 * t) c j) (4 + 55 * t) c (bC t j) (bC t j + d) := fun d hd => by
    unfold clX
    rw [up2_ne (by omega)]
    exact clS_blk hj hd
  generalize hZ : clS X (4 + 55 * t) c j = Z at *
  have ek : ∀ i, i < n → anyB (ikP Z (4 + 55 * t) (bC t j) i) c = kpt X t j c i := fun i hi => by
    unfold kpt
    exact anyB_congr (fun k hk => by unfold ikP; exact kpV_same (hz _ (by omega)) (hz _ (by omega)) (hz _ (by omega)) (hz _ (by omega)))
  have h0 : ∀ i, i < n → Z (bC t j + 4) i = 0 := fun i hi => by rw [hz _ (by omega)]; exact hb.2.2.2.2.2.2.1 hs i hi
  have e4 : ∀ i, i < n → krS Z (4 + 55 * t) (bC t j) c n (bC t j + 4) i = bI (kpt X t j c i) := fun i hi => by rw [krS_at h0 n (Nat.le_refl n), if_pos hi, ek i hi]
  have esz : szN X (bC t j) = n := BI_sz hb
  have e3 : krS Z (4 + 55 * t) (bC t j) c n (bC t j + 3) = X (bC t j + 3) := by rw [krS_ne (by omega) (by omega), hz _ (by omega)]
  have e6 : krS Z (4 + 55 * t) (bC t j) c n (bC t j) 6 = nI (cntB (kpt X t j c) n) := by
    rw [krS_6 h0 n (Nat.le_refl n), hz _ (by omega), hb.2.2.2.2.1, cnt_none (fun i hi => by simp [knP, hb.2.2.2.2.2.2.1 hs i hi]), nI_add, Nat.zero_add]
    congr 1
    exact cntB_congr (fun i hi => ek i hi)
  have e5 : krS Z (4 + 55 * t) (bC t j) c n (bC t j) 5 = X (bC t j) 5 := by rw [krS_o (by decide), hz _ (by omega)]
  have el : lstV (krS Z (4 + 55 * t) (bC t j) c n) (bC t j) n = lstV X (bC t j) n := by unfold lstV; rw [e3]
  have eg : grtV (krS Z (4 + 55 * t) (bC t j) c n) (bC t j) n = grtV X (bC t j) n := by unfold grtV; rw [e3]
  have ew : ∀ v, anyB (kvP (krS Z (4 + 55 * t) (bC t j) c n) (bC t j) v) n = anyB (fun i => kpt X t j c i && decide (X (bC t j + 3) i = v)) n := fun v => anyB_congr (fun i hi => by
    unfold kvP
    rw [e4 i hi, e3]
    cases kpt X t j c i <;> simp [bI])
  have hx0 := hx 0 (by decide)
  rw [Nat.add_zero] at hx0
  unfold clB at hx hx0
  rw [esz] at hx hx0
  have ho : ∀ q, q < 7 ∨ 13 < q → clX X (4 + 55 * t) c (bC t j) q = krS Z (4 + 55 * t) (bC t j) c n (bC t j) q := fun q hq => by
    rw [hx0]; unfold msX meX
    rw [up2_same (by omega), up2_same (by omega), up2_same (by omega), up2_same (by omega), up2_same (by omega), up2_same (by omega), up2_same (by omega)]
  refine ⟨fun d hd => ?_, fun i hi => ?_, ?_, ?_, ?_, ?_, ?_, ?_, ?_, ?_, ?_⟩
  · rw [hx d (by omega), msX_ne (by omega), krS_ne (by omega) (by omega), hz _ (by omega)]
  · rw [hx 4 (by decide), msX_ne (by omega)]; exact e4 i hi
  · rw [ho 5 (by decide), e5]
  · rw [ho 6 (by decide), e6]
  · rw [hx0]; unfold msX meX; rw [up2_same (by decide), up2_same (by decide), up2_same (by decide), up2_same (by decide), up2_same (by decide), up2_same (by decide), um_u, el]
  · rw [hx0]; unfold msX meX; rw [up2_same (by decide), up2_same (by decide), up2_same (by decide), up2_same (by decide), up2_same (by decide), um_u, eg]
  · rw [hx0]; unfold msX; rw [up2_same (by decide), up2_same (by decide), up2_same (by decide), up2_same (by decide), um_u]; unfold lowV; rw [el]
  · rw [hx0]; unfold msX; rw [up2_same (by decide), up2_same (by decide), up2_same (by decide), um_u]; unfold higV; rw [eg]
  · rw [hx0]; unfold msX; rw [up2_same (by decide), up2_same (by decide), um_u, ew, el]
  · rw [hx0]; unfold msX; rw [up2_same (by decide), um_u, ew, eg]
  · rw [hx0]; unfold msX; rw [um_u]
/-! the model's seal -/
theorem gzS_at {Y : RAM} {B p : Nat} (n : Nat) : gzS Y B n 132 p = if 4 * B ≤ p ∧ p < 4 * B + n then 0 else Y 132 p := by
  induction n with
  | zero => rw [if_neg (by omega)]; rfl
  | succ n ih =>
    unfold gzS
    by_cases q : p = 4 * B + n
    · subst q; rw [um_u, if_pos (by omega)]
    · rw [up2_n (by omega), ih]
      by_cases q2 : 4 * B ≤ p ∧ p < 4 * B + n
      · rw [if_pos q2, if_pos (by omega)]
      · rw [if_neg q2, if_neg (by omega)]
def fM (Z : RAM) (B : Nat) : Nat → Int32 := fun p => Z 126 (12 * B + p)
def lsN (f : Nat → Int32) (i : Nat) : Int32 := if i = 0 then 0 else minF f (i - 1)
def grN (f : Nat → Int32) (i : Nat) : Int32 := if i = 0 then 0 else maxF f (i - 1)
def gmP (Z : RAM) (B g : Nat) : Nat → Bool := fun p => decide (gpN Z (12 * B + p) = g)
theorem lsN_s (f : Nat → Int32) (i : Nat) : (if i = 0 ∨ f i < lsN f i then f i else lsN f i) = lsN f (i + 1) := by
  unfold lsN
  rw [if_neg (Nat.succ_ne_zero i)]
  cases i with
  | zero => rw [if_pos (Or.inl rfl)]; rfl
  | succ i =>
    rw [if_neg (Nat.succ_ne_zero i)]
    show _ = minF f (i + 1)
    unfold minF
    simp only [Nat.add_sub_cancel, Nat.succ_ne_zero, false_or]
    cases i <;> rfl
theorem grN_s (f : Nat → Int32) (i : Nat) : (if i = 0 ∨ grN f i < f i then f i else grN f i) = grN f (i + 1) := by
  unfold grN
  rw [if_neg (Nat.succ_ne_zero i)]
  cases i with
  | zero => rw [if_pos (Or.inl rfl)]; rfl
  | succ i =>
    rw [if_neg (Nat.succ_ne_zero i)]
    show _ = maxF f (i + 1)
    unfold maxF
    simp only [Nat.add_sub_cancel, Nat.succ_ne_zero, false_or]
    cases i <;> rfl
theorem slS_fr {Z : RAM} {t B c a p n : Nat} (hn : n ≤ 12) (hg : ∀ i, i < n → gpN Z (12 * B + i) < 4) (h1 : ¬ ((a = 130 ∨ a = 131 ∨ a = 133) ∧ p = B)) (h2 : ¬ (127 ≤ a ∧ a ≤ 129 ∧ p / 12 = B)) (h3 : ¬ (a = 132 ∧ p / 4 = B)) : ∀ i, i ≤ n → slS Z t B c i a p = Z a p := by
  intro i
  induction i with
  | zero =>
    intro _
    unfold slS
    by_cases q : a = 132
    · subst q
      rw [gzS_at, if_neg (by omega), up2_ne (by decide), up2_ne (by decide), up2_ne (by decide)]
    · rw [gzS_ne q, up2_n (by omega), up2_n (by omega), up2_n (by omega)]
  | succ i ih =>
    intro hi
    have h4 := hg i (by omega)
    unfold slS slR slW
    rw [up2_n (by omega), up2_n (by omega), up2_n (by omega), up2_n (by omega), up2_n (by omega), up2_n (by omega)]
    exact ih (by omega)
theorem slS_at {Z : RAM} {t B c n : Nat} (hn : n ≤ 12) (hg : ∀ i, i < n → gpN Z (12 * B + i) < 4) : ∀ i, i ≤ n → slS Z t B c i 130 B = lsN (fM Z B) i ∧ slS Z t B c i 131 B = grN (fM Z B) i ∧ slS Z t B c i 133 B = 0 ∧ (∀ g, g < 4 → slS Z t B c i 132 (4 * B + g) = nI (cntB (gmP Z B g) i)) ∧ ∀ p, p < i → slS Z t B c i 127 (12 * B + p) = bI (anyB (ikM Z t B p) c) ∧ slS Z t B c i 128 (12 * B + p) = bI (anyB (ikM Z t B p) c) ∧ slS Z t B c i 129 (12 * B + p) = Z 126 (12 * B + p) := by
  intro i
  induction i with
  | zero =>
    intro _
    unfold slS
    refine ⟨?_, ?_, ?_, fun g hg => ?_, fun p hp => absurd hp (Nat.not_lt_zero p)⟩
    · rw [gzS_ne (by decide), up2_ne (by decide), um_u]; rfl
    · rw [gzS_ne (by decide), um_u]; rfl
    · rw [gzS_ne (by decide), up2_ne (by decide), up2_ne (by decide), um_u]
    · rw [gzS_at, if_pos (by omega)]; rfl
  | succ i ih =>
    intro hi
    obtain ⟨a1, a2, a3, a4, a5⟩ := ih (by omega)
    have h4 := hg i (by omega)
    have u : slS Z t B c (i + 1) = slR Z (slS Z t B c i) t B c i := rfl
    rw [u]
    generalize slS Z t B c i = Y at *
    refine ⟨?_, ?_, ?_, fun g hg2 => ?_, fun p hp => ?_⟩
    · unfold slR slW
      rw [up2_ne (by decide), up2_ne (by decide), up2_ne (by decide), up2_ne (by decide), up2_ne (by decide), um_u]
      unfold lsM
      rw [a1]
      exact lsN_s (fM Z B) i
    · unfold slR slW
      rw [up2_ne (by decide), up2_ne (by decide), up2_ne (by decide), up2_ne (by decide), um_u]
      unfold grM
      rw [a2]
      exact grN_s (fM Z B) i
    · unfold slR slW
      rw [up2_ne (by decide), up2_ne (by decide), up2_ne (by decide), up2_ne (by decide), up2_ne (by decide), up2_ne (by decide)]
      exact a3
    · unfold slR slW
      rw [up2_ne (by decide), up2_ne (by decide), up2_ne (by decide), cntB_s]
      by_cases q : gpN Z (12 * B + i) = g
      · rw [q, um_u, a4 g hg2, nI_s]
        congr 2
        unfold gmP
        simp [q]
      · rw [up2_same (by omega), up2_ne (by decide), up2_ne (by decide), a4 g hg2]
        congr 1
        unfold gmP
        simp [q]
    · unfold slR
      by_cases q : p = i
      · subst q
        refine ⟨?_, ?_, ?_⟩
        · rw [up2_ne (by decide), up2_ne (by decide), um_u]
        · rw [up2_ne (by decide), um_u]
        · rw [um_u]
      · have hw : ∀ a, 127 ≤ a → a ≤ 129 → slW Z Y B i a = Y a := fun a h1 h2 => by unfold slW; rw [up2_ne (by omega), up2_ne (by omega), up2_ne (by omega)]
        obtain ⟨b1, b2, b3⟩ := a5 p (by omega)
        refine ⟨?_, ?_, ?_⟩
        · rw [up2_ne (by decide), up2_ne (by decide), up2_same (by omega), hw 127 (by decide) (by decide)]; exact b1
        · rw [up2_ne (by decide), up2_same (by omega), up2_ne (by decide), hw 128 (by decide) (by decide)]; exact b2
        · rw [up2_same (by omega), up2_ne (by decide), up2_ne (by decide), hw 129 (by decide) (by decide)]; exact b3
theorem sbS_s (X : RAM) (t c j : Nat) : sbS X t c (j + 1) = slS (sbS X t c j) t (8 * t + j) c (mnN X (8 * t + j)) := rfl
theorem sb_gp {X : RAM} {t c r j : Nat} : gpN (sbS X t c j) r = gpN X r := gpN_of (by rw [sbS_ne (by omega)])
/-- what the seal of a table leaves as it was -/
theorem sbS_fr {X : RAM} {t c a p : Nat} (ht : t < 2) (hM : okM X) (hG : GI X) (h0 : ¬ (a = 134 ∧ p = t)) : ∀ j, j ≤ 8 → (∀ i, i < j → ¬ plB t i a p) → sbS X t c j a p = X a p := by
  intro j
  induction j with
  | zero => intro _ _; unfold sbS; rw [up2_n h0]
  | succ j ih =>
    intro hj h
    have hb := (hM (8 * t + j) (by omega)).2
    rw [sbS_s, slS_fr hb (fun i hi => by rw [sb_gp]; exact (hG _ (by omega)).2) (by have := h j (by omega); unfold plB at this; omega) (by have := h j (by omega); unfold plB at this; omega) (by have := h j (by omega); unfold plB at this; omega) _ (Nat.le_refl _)]
    exact ih (by omega) (fun i hi => h i (by omega))
theorem ikM_of {X Y : RAM} {t B i : Nat} (h : ∀ a, a < 127 ∨ 134 < a → Y a = X a) : ikM Y t B i = ikM X t B i := by
  funext k
  unfold ikM mkV mG
  rw [h 136 (by omega), h 137 (by omega), h 138 (by omega), h 124 (by omega), h 125 (by omega), h 126 (by omega)]
theorem sb_facts {X : RAM} {t c j : Nat} (ht : t < 2) (hj : j < 8) (hM : okM X) (hG : GI X) : sbS X t c 8 130 (8 * t + j) = lsN (fM X (8 * t + j)) (mnN X (8 * t + j)) ∧ sbS X t c 8 131 (8 * t + j) = grN (fM X (8 * t + j)) (mnN X (8 * t + j)) ∧ sbS X t c 8 133 (8 * t + j) = 0 ∧ (∀ g, g < 4 → sbS X t c 8 132 (4 * (8 * t + j) + g) = nI (cntB (gmP X (8 * t + j) g) (mnN X (8 * t + j)))) ∧ ∀ p, p < mnN X (8 * t + j) → sbS X t c 8 127 (12 * (8 * t + j) + p) = bI (anyB (ikM X t (8 * t + j) p) c) ∧ sbS X t c 8 128 (12 * (8 * t + j) + p) = bI (anyB (ikM X t (8 * t + j) p) c) ∧ sbS X t c 8 129 (12 * (8 * t + j) + p) = X 126 (12 * (8 * t + j) + p) := by
  have hn := (hM (8 * t + j) (by omega)).2
  have hstep : ∀ a p, plB t j a p → ∀ i, i ≤ 8 → j < i → sbS X t c i a p = slS (sbS X t c j) t (8 * t + j) c (mnN X (8 * t + j)) a p := by
    intro a p hp i
    unfold plB at hp
    induction i with
    | zero => omega
    | succ i ih =>
      intro h1 h2
      by_cases q : j = i
      · subst q; rfl
      · have hb := (hM (8 * t + i) (by omega)).2
        rw [sbS_s, slS_fr hb (fun k hk => by rw [sb_gp]; exact (hG _ (by omega)).2) (by omega) (by omega) (by omega) _ (Nat.le_refl _)]
        exact ih (by omega) (by omega)
  have hs := slS_at (Z := sbS X t c j) (t := t) (B := 8 * t + j) (c := c) hn (fun i hi => by rw [sb_gp]; exact (hG _ (by omega)).2) (mnN X (8 * t + j)) (Nat.le_refl _)
  have ef : fM (sbS X t c j) (8 * t + j) = fM X (8 * t + j) := by unfold fM; rw [sbS_ne (by omega)]
  have eg : ∀ g, gmP (sbS X t c j) (8 * t + j) g = gmP X (8 * t + j) g := fun g => by funext p; unfold gmP; rw [sb_gp]
  have ek : ∀ i, ikM (sbS X t c j) t (8 * t + j) i = ikM X t (8 * t + j) i := fun i => ikM_of (fun a ha => sbS_ne ha j)
  obtain ⟨a1, a2, a3, a4, a5⟩ := hs
  refine ⟨?_, ?_, ?_, fun g hg => ?_, fun p hp => ⟨?_, ?_, ?_⟩⟩
  · rw [hstep _ _ (by unfold plB; omega) 8 (Nat.le_refl 8) hj, a1, ef]
  · rw [hstep _ _ (by unfold plB; omega) 8 (Nat.le_refl 8) hj, a2, ef]
  · rw [hstep _ _ (by unfold plB; omega) 8 (Nat.le_refl 8) hj, a3]
  · rw [hstep _ _ (by unfold plB; omega) 8 (Nat.le_refl 8) hj, a4 g hg, eg]
  · rw [hstep _ _ (by unfold plB; omega) 8 (Nat.le_refl 8) hj, (a5 p hp).1, ek]
  · rw [hstep _ _ (by unfold plB; omega) 8 (Nat.le_refl 8) hj, (a5 p hp).2.1, ek]
  · rw [hstep _ _ (by unfold plB; omega) 8 (Nat.le_refl 8) hj, (a5 p hp).2.2, sbS_ne (by omega)]
end P28
