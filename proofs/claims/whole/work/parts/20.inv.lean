/-! THE INVARIANT between the class's cells and the model's, and what it gives -/
theorem bm32 {x : Int} (h1 : -2147483648 ≤ x) (h2 : x < 2147483648) : x.bmod (2 ^ 32) = x := by
  dsimp only [Int.bmod]
  split <;> omega
theorem bm64 {x : Int} (h1 : -9223372036854775808 ≤ x) (h2 : x < 9223372036854775808) : x.bmod (2 ^ 64) = x := by
  dsimp only [Int.bmod]
  split <;> omega
theorem ia32 {a b : Int32} (h1 : -2147483648 ≤ a.toInt + b.toInt) (h2 : a.toInt + b.toInt < 2147483648) : (a + b).toInt = a.toInt + b.toInt := by rw [Int32.toInt_add, bm32 h1 h2]
theorem is32 {a b : Int32} (h1 : -2147483648 ≤ a.toInt - b.toInt) (h2 : a.toInt - b.toInt < 2147483648) : (a - b).toInt = a.toInt - b.toInt := by rw [Int32.toInt_sub, bm32 h1 h2]
theorem im32 {a b : Int32} (h1 : -2147483648 ≤ a.toInt * b.toInt) (h2 : a.toInt * b.toInt < 2147483648) : (a * b).toInt = a.toInt * b.toInt := by rw [Int32.toInt_mul, bm32 h1 h2]
theorem in32 {a : Int32} (h1 : -2147483648 < a.toInt) : (-a).toInt = -a.toInt := by
  have h2 := Int32.toInt_lt a
  rw [Int32.toInt_neg, bm32 (by omega) (by omega)]
theorem i32r (a : Int32) : -2147483648 ≤ a.toInt ∧ a.toInt < 2147483648 := ⟨Int32.le_toInt a, Int32.toInt_lt a⟩
theorem t64 (a : Int32) : a.toInt64.toInt = a.toInt := Int32.toInt_toInt64 a
theorem l64 {a b : Int64} (h : a.toInt = b.toInt) : a = b := Int64.toInt_inj.mp h
theorem add64 {a b : Int32} (h1 : -2147483648 ≤ a.toInt + b.toInt) (h2 : a.toInt + b.toInt < 2147483648) : (a + b).toInt64 = a.toInt64 + b.toInt64 := by
  apply l64
  rw [t64, ia32 h1 h2, Int64.toInt_add, t64, t64, bm64 (by omega) (by omega)]
theorem sub64 {a b : Int32} (h1 : -2147483648 ≤ a.toInt - b.toInt) (h2 : a.toInt - b.toInt < 2147483648) : (a - b).toInt64 = a.toInt64 - b.toInt64 := by
  apply l64
  rw [t64, is32 h1 h2, Int64.toInt_sub, t64, t64, bm64 (by omega) (by omega)]
theorem mul64 {a b : Int32} (h1 : -2147483648 ≤ a.toInt * b.toInt) (h2 : a.toInt * b.toInt < 2147483648) : (a * b).toInt64 = a.toInt64 * b.toInt64 := by
  apply l64
  rw [t64, im32 h1 h2, Int64.toInt_mul, t64, t64, bm64 (by omega) (by omega)]
theorem cntB_congr {p q : Nat → Bool} {n : Nat} (h : ∀ i, i < n → p i = q i) : cntB p n = cntB q n := by
  induction n with
  | zero => rfl
  | succ n ih => unfold cntB; rw [ih (fun i hi => h i (by omega)), h n (by omega)]
theorem cnt_add {p q r : Nat → Bool} {n : Nat} (h : ∀ i, i < n → (if r i then 1 else 0) = (if p i then 1 else 0) + (if q i then 1 else 0)) : cntB r n = cntB p n + cntB q n := by
  induction n with
  | zero => rfl
  | succ n ih =>
    have h1 := ih (fun i hi => h i (by omega))
    have h2 := h n (by omega)
    unfold cntB
    omega
theorem cnt_all {p : Nat → Bool} {n : Nat} (h : ∀ i, i < n → p i = true) : cntB p n = n := by
  induction n with
  | zero => rfl
  | succ n ih => unfold cntB; rw [ih (fun i hi => h i (by omega)), h n (by omega)]; rfl
theorem cnt_none {p : Nat → Bool} {n : Nat} (h : ∀ i, i < n → p i = false) : cntB p n = 0 := by
  induction n with
  | zero => rfl
  | succ n ih => unfold cntB; rw [ih (fun i hi => h i (by omega)), h n (by omega)]; rfl
theorem cnt_pos {p : Nat → Bool} {n i : Nat} (hi : i < n) (h : p i = true) : 0 < cntB p n := by
  induction n with
  | zero => omega
  | succ n ih =>
    unfold cntB
    by_cases he : i = n
    · subst he; rw [h]; simp
    · have := ih (by omega); omega
theorem cnt_ex {p : Nat → Bool} {n : Nat} (h : 0 < cntB p n) : ∃ i, i < n ∧ p i = true := by
  induction n with
  | zero => exact absurd h (Nat.lt_irrefl 0)
  | succ n ih =>
    by_cases hp : p n = true
    · exact ⟨n, by omega, hp⟩
    · unfold cntB at h
      rw [if_neg hp] at h
      obtain ⟨i, hi, h2⟩ := ih h
      exact ⟨i, by omega, h2⟩
theorem cnt_mono {p q : Nat → Bool} {n : Nat} (h : ∀ i, i < n → p i = true → q i = true) : cntB p n ≤ cntB q n := by
  induction n with
  | zero => exact Nat.le_refl 0
  | succ n ih =>
    have h1 := ih (fun i hi => h i (by omega))
    unfold cntB
    by_cases hp : p n = true
    · rw [if_pos hp, if_pos (h n (by omega) hp)]; omega
    · rw [if_neg hp]; omega
def cN (X : RAM) (t : Nat) : Nat := (X 135 t).toNatClampNeg
def grP (X : RAM) (bo g : Nat) : Nat → Bool := fun i => decide (X (bo + 2) i = nI g)
abbrev bC (t j : Nat) : Nat := 4 + 55 * t + 3 + 6 * j
def SB (X : RAM) (t j n : Nat) : Prop :=
  X 130 (8 * t + j) = X (bC t j) 7 ∧ X 131 (8 * t + j) = X (bC t j) 8 ∧ X (bC t j) 9 = mlo X t (8 * t + j) (cN X t) ∧ X (bC t j) 10 = mhi X t (8 * t + j) (cN X t) ∧ (∀ g, g < 4 → X 132 (4 * (8 * t + j) + g) = X (bC t j + 5) g) ∧
  X (bC t j) 11 = bI (anyB (wkP X (8 * t + j) (X (bC t j) 7)) n) ∧ X (bC t j) 12 = bI (anyB (wkP X (8 * t + j) (X (bC t j) 8)) n) ∧ X 133 (8 * t + j) = X (bC t j) 13 ∧ (X (bC t j) 13 = 0 ∨ X (bC t j) 13 = 1) ∧ ValOK (X (bC t j) 9) ∧ ValOK (X (bC t j) 10) ∧
  ∀ i, i < n → X (bC t j + 4) i = 0 → X (bC t j) 9 ≤ X (bC t j + 3) i ∧ X (bC t j + 3) i ≤ X (bC t j) 10
def RI (X : RAM) (t j i : Nat) : Prop :=
  X 124 (12 * (8 * t + j) + i) = X (bC t j + 1) i ∧ X 125 (12 * (8 * t + j) + i) = X (bC t j + 2) i ∧ X 126 (12 * (8 * t + j) + i) = X (bC t j + 3) i ∧ X 127 (12 * (8 * t + j) + i) = X (bC t j + 4) i ∧ RowOK (X (bC t j + 1) i) (X (bC t j + 2) i) (X (bC t j + 3) i) ∧ (X (bC t j + 4) i = 0 ∨ X (bC t j + 4) i = 1)
def BI (X : RAM) (t j n : Nat) : Prop :=
  n ≤ 12 ∧ X (bC t j) 5 = nI n ∧ X 123 (8 * t + j) = nI n ∧ (∀ i, i < n → RI X t j i) ∧ X (bC t j) 6 = nI (cntB (knP X (bC t j)) n) ∧ (∀ g, g < 4 → X (bC t j + 5) g = nI (cntB (grP X (bC t j) g) n)) ∧ (X 134 t = 0 → ∀ i, i < n → X (bC t j + 4) i = 0) ∧ (¬ X 134 t = 0 → SB X t j n)
def TI (X : RAM) (t c : Nat) : Prop :=
  c ≤ 4 ∧ X (4 + 55 * t) 2 = nI c ∧ X 135 t = nI c ∧ X (4 + 55 * t) 3 = X 134 t ∧ ∀ k, k < c → X 136 (4 * t + k) = X (4 + 55 * t + 51 + k) 0 ∧ X 137 (4 * t + k) = X (4 + 55 * t + 51 + k) 1 ∧ X 138 (4 * t + k) = X (4 + 55 * t + 51 + k) 2 ∧ KeepOK (X (4 + 55 * t + 51 + k) 0) (X (4 + 55 * t + 51 + k) 1) (X (4 + 55 * t + 51 + k) 2)
def SI (X : RAM) (k m : Nat) : Prop :=
  m ≤ 40 ∧ X (114 + 2 * k) 2 = nI m ∧ X 141 k = nI m ∧ X 140 k = X (114 + 2 * k) 1 ∧ ((X (114 + 2 * k) 3 = 0 ∧ X 139 k = 1) ∨ (X (114 + 2 * k) 3 = 1 ∧ X 139 k = 0)) ∧ ∀ i, i < 40 → X 142 (40 * k + i) = X (114 + 2 * k + 1) i
def GI (X : RAM) : Prop := ∀ r, r < 192 → X 125 r = nI (gpN X r) ∧ gpN X r < 4
def Inv (X : RAM) : Prop := (∀ t, t < 2 → ∃ c, TI X t c) ∧ (∀ t, t < 2 → ∀ j, j < 8 → ∃ n, BI X t j n) ∧ (∀ k, k < 4 → ∃ m, SI X k m) ∧ X 122 16 = X 0 3 ∧ X 122 22 = X 0 4 ∧ GI X
theorem TI_c {X : RAM} {t c : Nat} (h : TI X t c) : cN X t = c := by
  unfold cN
  rw [h.2.2.1, nI_clamp (by have := h.1; omega)]
theorem BI_sz {X : RAM} {t j n : Nat} (h : BI X t j n) : szN X (bC t j) = n := by
  unfold szN
  rw [h.2.1, nI_clamp (by have := h.1; omega)]
theorem BI_mn {X : RAM} {t j n : Nat} (h : BI X t j n) : mnN X (8 * t + j) = n := by
  unfold mnN
  rw [h.2.2.1, nI_clamp (by have := h.1; omega)]
theorem Inv_okZ {X : RAM} (h : Inv X) {t : Nat} (ht : t < 2) : okZ X (4 + 55 * t) := by
  intro j hj
  obtain ⟨n, hn⟩ := h.2.1 t ht j hj
  have e := BI_sz hn
  unfold bC at e
  rw [e]
  exact ⟨hn.2.1, hn.1⟩
theorem Inv_okM {X : RAM} (h : Inv X) : okM X := by
  intro B hB
  obtain ⟨n, hn⟩ := h.2.1 (B / 8) (by omega) (B % 8) (by omega)
  have e := BI_mn hn
  have h1 := hn.2.2.1
  rw [show 8 * (B / 8) + B % 8 = B by omega] at e h1
  rw [e]
  exact ⟨h1, hn.1⟩
theorem Inv_okK {X : RAM} (h : Inv X) {t : Nat} (ht : t < 2) : okZK X (4 + 55 * t) := by
  refine ⟨Inv_okZ h ht, fun j hj i hi => ?_⟩
  obtain ⟨n, hn⟩ := h.2.1 t ht j hj
  have e := BI_sz hn
  unfold bC at e
  rw [e] at hi
  have h1 := (hn.2.2.2.1 i hi).2.2.2.2.1.1
  obtain ⟨k, hk, hk2⟩ := nI_of h1.1
  have h3 : kyN X (4 + 55 * t + 3 + 6 * j) i = k := by
    show (X (bC t j + 1) i).toNatClampNeg = k
    rw [hk2, nI_clamp hk]
  rw [h3]
  refine ⟨?_, hk2⟩
  have h2 := h1.2
  rw [hk2] at h2
  rcases Nat.lt_or_ge k 100 with q | q
  · exact q
  · exact absurd h2 (nI_nlt (a := k) (b := 100) q hk)
/-- a block whose cells and whose model's places stay -/
theorem hvS_congr {X Y : RAM} {t c : Nat} (h : ∀ a, 136 ≤ a → a ≤ 138 → ∀ k, k < c → Y a (4 * t + k) = X a (4 * t + k)) : hvS Y t c = hvS X t c := by
  induction c with
  | zero => rfl
  | succ c ih =>
    have h1 := ih (fun a h1 h2 k hk => h a h1 h2 k (by omega))
    unfold hvS
    rw [h1, h 136 (by decide) (by decide) c (by omega), h 137 (by decide) (by decide) c (by omega)]
theorem RI_of {X Y : RAM} {t j i : Nat} (hC : ∀ a, bC t j ≤ a → a ≤ bC t j + 5 → Y a = X a) (hr : ∀ a, 124 ≤ a → a ≤ 127 → Y a (12 * (8 * t + j) + i) = X a (12 * (8 * t + j) + i)) (h : RI X t j i) : RI Y t j i := by
  unfold RI at *
  rw [hr 124 (by decide) (by decide), hr 125 (by decide) (by decide), hr 126 (by decide) (by decide), hr 127 (by decide) (by decide), hC (bC t j + 1) (by omega) (by omega), hC (bC t j + 2) (by omega) (by omega), hC (bC t j + 3) (by omega) (by omega), hC (bC t j + 4) (by omega) (by omega)]
  exact h
theorem BI_of {X Y : RAM} {t j n : Nat} (hc4 : cN X t ≤ 4) (hC : ∀ a, bC t j ≤ a → a ≤ bC t j + 5 → Y a = X a) (h1 : Y 123 (8 * t + j) = X 123 (8 * t + j)) (hr : ∀ a, 124 ≤ a → a ≤ 129 → ∀ i, i < 12 → Y a (12 * (8 * t + j) + i) = X a (12 * (8 * t + j) + i))
    (h2 : ∀ a, a = 130 ∨ a = 131 ∨ a = 133 → Y a (8 * t + j) = X a (8 * t + j)) (h5 : ∀ g, g < 4 → Y 132 (4 * (8 * t + j) + g) = X 132 (4 * (8 * t + j) + g)) (h7 : Y 134 t = X 134 t) (h8 : Y 135 t = X 135 t) (h9 : ∀ a, 136 ≤ a → a ≤ 138 → ∀ k, k < 4 → Y a (4 * t + k) = X a (4 * t + k)) (h : BI X t j n) : BI Y t j n := by
  obtain ⟨a1, a2, a3, a4, a5, a6, a7, a8⟩ := h
  have c0 := hC (bC t j) (Nat.le_refl _) (by omega)
  have c2 := hC (bC t j + 2) (by omega) (by omega)
  have c3 := hC (bC t j + 3) (by omega) (by omega)
  have c4 := hC (bC t j + 4) (by omega) (by omega)
  have c5 := hC (bC t j + 5) (by omega) (by omega)
  have ek : knP Y (bC t j) = knP X (bC t j) := by unfold knP; rw [c4]
  have eg : ∀ g, grP Y (bC t j) g = grP X (bC t j) g := fun g => by unfold grP; rw [c2]
  have ec : cN Y t = cN X t := by unfold cN; rw [h8]
  have eh : hvS Y t (cN Y t) = hvS X t (cN X t) := by rw [ec]; exact hvS_congr (fun a q1 q2 k hk => h9 a q1 q2 k (by omega))
  refine ⟨a1, by rw [c0]; exact a2, by rw [h1]; exact a3, fun i hi => RI_of hC (fun a q1 q2 => hr a q1 (by omega) i (by omega)) (a4 i hi), by rw [c0, ek]; exact a5, fun g hg => by rw [c5, eg]; exact a6 g hg, fun hs i hi => by rw [c4]; exact a7 (by rw [← h7]; exact hs) i hi, fun hs => ?_⟩
  obtain ⟨b1, b2, b3, b4, b5, b6, b7, b8, b9, b10, b11, b12⟩ := a8 (by rw [← h7]; exact hs)
  have ew : ∀ v, anyB (wkP Y (8 * t + j) v) n = anyB (wkP X (8 * t + j) v) n := fun v => anyB_congr (fun i hi => by unfold wkP; rw [hr 128 (by decide) (by decide) i (by omega), hr 129 (by decide) (by decide) i (by omega)])
  have el : mlo Y t (8 * t + j) (cN Y t) = mlo X t (8 * t + j) (cN X t) := by unfold mlo; rw [eh, h2 130 (Or.inl rfl)]
  have ei : mhi Y t (8 * t + j) (cN Y t) = mhi X t (8 * t + j) (cN X t) := by unfold mhi; rw [eh, h2 131 (Or.inr (Or.inl rfl))]
  unfold SB
  rw [c0, c3, c4, c5, h2 130 (Or.inl rfl), h2 131 (Or.inr (Or.inl rfl)), h2 133 (Or.inr (Or.inr rfl)), el, ei, ew, ew]
  exact ⟨b1, b2, b3, b4, fun g hg => by rw [h5 g hg]; exact b5 g hg, b6, b7, b8, b9, b10, b11, b12⟩
theorem TI_of {X Y : RAM} {t c : Nat} (h1 : Y (4 + 55 * t) = X (4 + 55 * t)) (h2 : ∀ k, k < 4 → Y (4 + 55 * t + 51 + k) = X (4 + 55 * t + 51 + k)) (h3 : Y 134 t = X 134 t) (h4 : Y 135 t = X 135 t) (h5 : ∀ a, 136 ≤ a → a ≤ 138 → ∀ k, k < 4 → Y a (4 * t + k) = X a (4 * t + k)) (h : TI X t c) : TI Y t c := by
  obtain ⟨a1, a2, a3, a4, a5⟩ := h
  refine ⟨a1, by rw [h1]; exact a2, by rw [h4]; exact a3, by rw [h1, h3]; exact a4, fun k hk => ?_⟩
  rw [h2 k (by omega), h5 136 (by decide) (by decide) k (by omega), h5 137 (by decide) (by decide) k (by omega), h5 138 (by decide) (by decide) k (by omega)]
  exact a5 k hk
theorem SI_of {X Y : RAM} {k m : Nat} (h1 : Y (114 + 2 * k) = X (114 + 2 * k)) (h2 : Y (114 + 2 * k + 1) = X (114 + 2 * k + 1)) (h3 : ∀ a, 139 ≤ a → a ≤ 141 → Y a k = X a k) (h4 : ∀ i, i < 40 → Y 142 (40 * k + i) = X 142 (40 * k + i)) (h : SI X k m) : SI Y k m := by
  obtain ⟨a1, a2, a3, a4, a5, a6⟩ := h
  refine ⟨a1, by rw [h1]; exact a2, by rw [h3 141 (by decide) (by decide)]; exact a3, by rw [h1, h3 140 (by decide) (by decide)]; exact a4, by rw [h1, h3 139 (by decide) (by decide)]; exact a5, fun i hi => by rw [h2, h4 i hi]; exact a6 i hi⟩
/-- what stays if all but a few scalars stay -/
theorem Inv_find {X : RAM} (z : Int32) (h : Inv X) : Inv (up2 (up2 X 0 4 z) 122 22 z) := by
  have hs : ∀ a, a ≠ 0 → a ≠ 122 → up2 (up2 X 0 4 z) 122 22 z a = X a := fun a h0 h1 => by rw [up2_ne h1, up2_ne h0]
  obtain ⟨i1, i2, i3, i4, i5, i6⟩ := h
  refine ⟨fun t ht => ?_, fun t ht j hj => ?_, fun k hk => ?_, ?_, ?_, fun r hr => ?_⟩
  · obtain ⟨c, hc⟩ := i1 t ht
    exact ⟨c, TI_of (hs _ (by omega) (by omega)) (fun k hk => hs _ (by omega) (by omega)) (by rw [hs 134 (by decide) (by decide)]) (by rw [hs 135 (by decide) (by decide)]) (fun a h1 h2 k hk => by rw [hs a (by omega) (by omega)]) hc⟩
  · obtain ⟨n, hn⟩ := i2 t ht j hj
    obtain ⟨c, hc⟩ := i1 t ht
    have hb : bC t j = 4 + 55 * t + 3 + 6 * j := rfl
    exact ⟨n, BI_of (by rw [TI_c hc]; exact hc.1) (fun a h1 h2 => hs a (by omega) (by omega)) (by rw [hs _ (by omega) (by omega)]) (fun a h1 h2 i hi => by rw [hs a (by omega) (by omega)]) (fun a ha => by rw [hs a (by omega) (by omega)]) (fun g hg => by rw [hs _ (by omega) (by omega)]) (by rw [hs _ (by omega) (by omega)]) (by rw [hs _ (by omega) (by omega)]) (fun a h1 h2 k hk => by rw [hs a (by omega) (by omega)]) hn⟩
  · obtain ⟨m, hm⟩ := i3 k hk
    exact ⟨m, SI_of (hs _ (by omega) (by omega)) (hs _ (by omega) (by omega)) (fun a h1 h2 => by rw [hs a (by omega) (by omega)]) (fun i hi => by rw [hs _ (by omega) (by omega)]) hm⟩
  · rw [up2_same (by decide), up2_ne (by decide), up2_ne (by decide), up2_same (by decide)]
    exact i4
  · rw [um_u, up2_ne (by decide), um_u]
  · have e : gpN (up2 (up2 X 0 4 z) 122 22 z) r = gpN X r := by unfold gpN; rw [hs 125 (by decide) (by decide)]
    rw [e, hs 125 (by decide) (by decide)]
    exact i6 r hr
/-- R1: what isn't known -/
theorem un_kn {X : RAM} {t j n : Nat} (h : BI X t j n) : ∀ i, i < n → unP X (8 * t + j) i = !knP X (bC t j) i := fun i hi => by
  have h1 := (h.2.2.2.1 i hi).2.2.2.1
  unfold unP knP
  rw [h1]
  by_cases q : X (bC t j + 4) i = 0 <;> simp [q]
theorem un_cnt {X : RAM} {t j n : Nat} (h : BI X t j n) : cntB (unP X (8 * t + j)) n + cntB (knP X (bC t j)) n = n := by
  have h1 : cntB (fun _ => true) n = cntB (unP X (8 * t + j)) n + cntB (knP X (bC t j)) n := cnt_add (fun i hi => by rw [un_kn h i hi]; cases knP X (bC t j) i <;> rfl)
  rw [← h1]
  exact cnt_all (fun _ _ => rfl)
theorem un_sub {X : RAM} {t j n : Nat} (h : BI X t j n) : X (bC t j) 5 - X (bC t j) 6 = nI (cntB (unP X (8 * t + j)) n) := by
  have h1 := un_cnt h
  rw [h.2.1, h.2.2.2.2.1, pk_sub (by omega)]
  congr 1
  omega
theorem half_iff {X : RAM} {t j n : Nat} (h : BI X t j n) : X (bC t j) 6 < X (bC t j) 5 ↔ ¬ cntB (unP X (8 * t + j)) n = 0 := by
  have h1 := un_cnt h
  have h2 := h.1
  rw [h.2.1, h.2.2.2.2.1, nI_ltI (by omega) (by omega)]
  omega
/-- R2: what is owed -/
theorem ol_eq {X : RAM} {t j n : Nat} (h : BI X t j n) (hs : ¬ X 134 t = 0) : olP X (bC t j) = (decide (¬ cntB (unP X (8 * t + j)) n = 0) && molP X t (8 * t + j) (cN X t) n) := by
  obtain ⟨b1, b2, b3, b4, b5, b6, b7, b8, b9, b10, b11, b12⟩ := h.2.2.2.2.2.2.2 hs
  unfold olP molP usV
  rw [b1, b8, ← b3, b6]
  have e1 := half_iff h
  by_cases q : cntB (unP X (8 * t + j)) n = 0
  · rw [show decide (¬ cntB (unP X (8 * t + j)) n = 0) = false by simp [q]]
    simp only [Bool.false_and]
    exact decide_eq_false (fun z => (e1.mp z.1) q)
  · rw [show decide (¬ cntB (unP X (8 * t + j)) n = 0) = true by simp [q]]
    simp only [Bool.true_and]
    have e2 := e1.mpr q
    cases hq : anyB (wkP X (8 * t + j) (X (bC t j) 7)) n <;> by_cases h13 : X (bC t j) 13 = 0 <;> by_cases h9 : X (bC t j) 9 = X (bC t j) 7 <;> simp [e2, h13, h9, bI]
theorem og_eq {X : RAM} {t j n : Nat} (h : BI X t j n) (hs : ¬ X 134 t = 0) : ogP X (bC t j) = (decide (¬ cntB (unP X (8 * t + j)) n = 0) && mogP X t (8 * t + j) (cN X t) n) := by
  obtain ⟨b1, b2, b3, b4, b5, b6, b7, b8, b9, b10, b11, b12⟩ := h.2.2.2.2.2.2.2 hs
  unfold ogP mogP usV
  rw [b2, b8, ← b4, b7]
  have e1 := half_iff h
  by_cases q : cntB (unP X (8 * t + j)) n = 0
  · rw [show decide (¬ cntB (unP X (8 * t + j)) n = 0) = false by simp [q]]
    simp only [Bool.false_and]
    exact decide_eq_false (fun z => (e1.mp z.1) q)
  · rw [show decide (¬ cntB (unP X (8 * t + j)) n = 0) = true by simp [q]]
    simp only [Bool.true_and]
    have e2 := e1.mpr q
    cases hq : anyB (wkP X (8 * t + j) (X (bC t j) 8)) n <;> by_cases h13 : X (bC t j) 13 = 0 <;> by_cases h9 : X (bC t j) 10 = X (bC t j) 8 <;> simp [e2, h13, h9, bI]
