section P24
variable {l : Launch} {D : va_G} {ac : Nat → ClassId} {b : Nat}
def plB (t j a p : Nat) : Prop := (a = 123 ∧ p = 8 * t + j) ∨ (124 ≤ a ∧ a ≤ 129 ∧ p / 12 = 8 * t + j) ∨ ((a = 130 ∨ a = 131 ∨ a = 133) ∧ p = 8 * t + j) ∨ (a = 132 ∧ p / 4 = 8 * t + j)
def plT (t a p : Nat) : Prop := ((a = 123 ∨ a = 130 ∨ a = 131 ∨ a = 133) ∧ p / 8 = t) ∨ (124 ≤ a ∧ a ≤ 129 ∧ p / 96 = t) ∨ (a = 132 ∧ p / 32 = t) ∨ ((a = 134 ∨ a = 135) ∧ p = t) ∨ (136 ≤ a ∧ a ≤ 138 ∧ p / 4 = t)
theorem gpN_of {X Y : RAM} {p : Nat} (h : Y 125 p = X 125 p) : gpN Y p = gpN X p := by unfold gpN; rw [h]
theorem Inv_tab {X Y : RAM} {t : Nat} (ht : t < 2) (hI : Inv X) (hc : ∀ a, a < 122 → a ≠ 0 → a ≠ 3 → (a < 4 + 55 * t ∨ 4 + 55 * t + 54 < a) → Y a = X a) (hm : ∀ a p, 122 < a → a < 143 → ¬ plT t a p → Y a p = X a p) (h3 : Y 122 16 = Y 0 3) (h4 : Y 122 22 = Y 0 4) (hg : ∀ p, p / 96 = t → Y 125 p = nI (gpN Y p) ∧ gpN Y p < 4) (hT : ∃ c, TI Y t c) (hB : ∀ j, j < 8 → ∃ n, BI Y t j n) : Inv Y := by
  obtain ⟨i1, i2, i3, i4, i5, i6⟩ := hI
  unfold plT at hm
  refine ⟨fun u hu => ?_, fun u hu j hj => ?_, fun k hk => ?_, h3, h4, fun r hr => ?_⟩
  · by_cases q : u = t
    · subst q; exact hT
    · obtain ⟨c, h1⟩ := i1 u hu
      exact ⟨c, TI_of (hc _ (by omega) (by omega) (by omega) (by omega)) (fun k hk => hc _ (by omega) (by omega) (by omega) (by omega)) (hm 134 u (by decide) (by decide) (by omega)) (hm 135 u (by decide) (by decide) (by omega)) (fun a h1 h2 k hk => hm a _ (by omega) (by omega) (by omega)) h1⟩
  · by_cases q : u = t
    · subst q; exact hB j hj
    · obtain ⟨n, hn⟩ := i2 u hu j hj
      obtain ⟨c, h1⟩ := i1 u hu
      have hb : bC u j = 4 + 55 * u + 3 + 6 * j := rfl
      exact ⟨n, BI_of (by rw [TI_c h1]; exact h1.1) (fun a h1 h2 => hc a (by omega) (by omega) (by omega) (by omega)) (hm _ _ (by omega) (by omega) (by omega)) (fun a h1 h2 i hi => hm a _ (by omega) (by omega) (by omega)) (fun a ha => hm a _ (by omega) (by omega) (by omega)) (fun g hg => hm _ _ (by omega) (by omega) (by omega)) (hm _ _ (by omega) (by omega) (by omega)) (hm _ _ (by omega) (by omega) (by omega)) (fun a h1 h2 k hk => hm a _ (by omega) (by omega) (by omega)) hn⟩
  · obtain ⟨m, h1⟩ := i3 k hk
    exact ⟨m, SI_of (hc _ (by omega) (by omega) (by omega) (by omega)) (hc _ (by omega) (by omega) (by omega) (by omega)) (fun a h1 h2 => hm a _ (by omega) (by omega) (by omega)) (fun i hi => hm _ _ (by omega) (by omega) (by omega)) h1⟩
  · by_cases q : r / 96 = t
    · exact hg r q
    · have e := hm 125 r (by decide) (by decide) (by omega)
      rw [gpN_of e, e]
      exact i6 r hr
theorem Inv_blk {X Y : RAM} {t j : Nat} (ht : t < 2) (hj : j < 8) (hI : Inv X) (hc : ∀ a, a < 122 → a ≠ 0 → a ≠ 3 → (a < bC t j ∨ bC t j + 5 < a) → Y a = X a) (hm : ∀ a p, 122 < a → a < 143 → ¬ plB t j a p → Y a p = X a p) (h3 : Y 122 16 = Y 0 3) (h4 : Y 122 22 = Y 0 4) (hg : ∀ p, p / 12 = 8 * t + j → Y 125 p = nI (gpN Y p) ∧ gpN Y p < 4) (hB : ∃ n, BI Y t j n) : Inv Y := by
  have hb : bC t j = 4 + 55 * t + 3 + 6 * j := rfl
  unfold plB at hm
  refine Inv_tab ht hI (fun a h1 h2 h3 h4 => hc a h1 h2 h3 (by omega)) (fun a p h1 h2 h3 => hm a p h1 h2 (by unfold plT at h3; omega)) h3 h4 (fun p hp => ?_) ?_ (fun i hi => ?_)
  · by_cases q : p / 12 = 8 * t + j
    · exact hg p q
    · have e := hm 125 p (by decide) (by decide) (by omega)
      rw [gpN_of e, e]
      exact hI.2.2.2.2.2 p (by omega)
  · obtain ⟨c, h1⟩ := hI.1 t ht
    exact ⟨c, TI_of (hc _ (by omega) (by omega) (by omega) (by omega)) (fun k hk => hc _ (by omega) (by omega) (by omega) (by omega)) (hm 134 t (by decide) (by decide) (by omega)) (hm 135 t (by decide) (by decide) (by omega)) (fun a h1 h2 k hk => hm a _ (by omega) (by omega) (by omega)) h1⟩
  · by_cases q : i = j
    · subst q; exact hB
    · obtain ⟨n, hn⟩ := hI.2.1 t ht i hi
      obtain ⟨c, h1⟩ := hI.1 t ht
      have hb2 : bC t i = 4 + 55 * t + 3 + 6 * i := rfl
      exact ⟨n, BI_of (by rw [TI_c h1]; exact h1.1) (fun a h1 h2 => hc a (by omega) (by omega) (by omega) (by omega)) (hm _ _ (by omega) (by omega) (by omega)) (fun a h1 h2 i hi => hm a _ (by omega) (by omega) (by omega)) (fun a ha => hm a _ (by omega) (by omega) (by omega)) (fun g hg => hm _ _ (by omega) (by omega) (by omega)) (hm _ _ (by omega) (by omega) (by omega)) (hm _ _ (by omega) (by omega) (by omega)) (fun a h1 h2 k hk => hm a _ (by omega) (by omega) (by omega)) hn⟩
theorem mlX_n {X : RAM} {B n a p : Nat} {k g v : Int32} (h1 : ¬ (a = 123 ∧ p = B)) (h2 : ¬ (124 ≤ a ∧ a ≤ 127 ∧ p = 12 * B + n)) : mlX X B n k g v a p = X a p := by
  unfold mlX
  rw [up2_n (by omega), up2_n (by omega), up2_n (by omega), up2_n (by omega), up2_n (by omega)]
theorem cntB_s (p : Nat → Bool) (n : Nat) : cntB p (n + 1) = cntB p n + (if p n then 1 else 0) := rfl
theorem gS_add {X Y : RAM} {o g n : Nat} (h : ∀ i, i < n → Y (o + 2) i = X (o + 2) i) (h2 : Y (o + 2) n = nI g) (hg : g < 4) (u : Nat) (hu : u < 4) : nI (cntB (grP Y o u) (n + 1)) = if u = g then nI (cntB (grP X o u) n) + 1 else nI (cntB (grP X o u) n) := by
  have e : cntB (grP Y o u) n = cntB (grP X o u) n := cntB_congr (fun i hi => by unfold grP; rw [h i hi])
  have e2 : grP Y o u n = decide (g = u) := by
    unfold grP
    rw [h2]
    exact decide_eq_decide.mpr (nI_eq (by omega) (by omega))
  by_cases q : u = g
  · rw [if_pos q]
    subst q
    rw [cntB_s, e, e2, nI_s]
    simp
  · rw [if_neg q, cntB_s, e, e2]
    simp [show ¬ g = u from fun z => q z.symm]
theorem Inv_row {X : RAM} {t j n g : Nat} {k v : Int32} (ht : t < 2) (hj : j < 8) (hI : Inv X) (hb : BI X t j n) (hn : n < 12) (hs : X 134 t = 0) (hg : g < 4) (hr : RowOK k (nI g) v) : BI (mlX (addX X (bC t j) n g k v) (8 * t + j) n k (nI g) v) t j (n + 1) ∧ Inv (mlX (addX X (bC t j) n g k v) (8 * t + j) n k (nI g) v) := by
  have hbC : bC t j = 4 + 55 * t + 3 + 6 * j := rfl
  have hB : BI (mlX (addX X (bC t j) n g k v) (8 * t + j) n k (nI g) v) t j (n + 1) := by
    have e1 : ∀ p, mlX (addX X (bC t j) n g k v) (8 * t + j) n k (nI g) v (bC t j + 1) p = if p = n then k else X (bC t j + 1) p := fun p => by
      rw [mlX_ne (by omega)]; unfold addX
      rw [up2_ne (by omega), up2_ne (by omega), up2_ne (by omega), up2_ne (by omega), up2_ne (by omega)]
      by_cases q : p = n
      · subst q; rw [um_u, if_pos rfl]
      · rw [up2_same q, if_neg q]
    have e2 : ∀ p, mlX (addX X (bC t j) n g k v) (8 * t + j) n k (nI g) v (bC t j + 2) p = if p = n then nI g else X (bC t j + 2) p := fun p => by
      rw [mlX_ne (by omega)]; unfold addX
      rw [up2_ne (by omega), up2_ne (by omega), up2_ne (by omega), up2_ne (by omega)]
      by_cases q : p = n
      · subst q; rw [um_u, if_pos rfl]
      · rw [up2_same q, if_neg q, up2_ne (by omega)]
    have e3 : ∀ p, mlX (addX X (bC t j) n g k v) (8 * t + j) n k (nI g) v (bC t j + 3) p = if p = n then v else X (bC t j + 3) p := fun p => by
      rw [mlX_ne (by omega)]; unfold addX
      rw [up2_ne (by omega), up2_ne (by omega), up2_ne (by omega)]
      by_cases q : p = n
      · subst q; rw [um_u, if_pos rfl]
      · rw [up2_same q, if_neg q, up2_ne (by omega), up2_ne (by omega)]
    have e4 : ∀ p, mlX (addX X (bC t j) n g k v) (8 * t + j) n k (nI g) v (bC t j + 4) p = if p = n then 0 else X (bC t j + 4) p := fun p => by
      rw [mlX_ne (by omega)]; unfold addX
      rw [up2_ne (by omega), up2_ne (by omega)]
      by_cases q : p = n
      · subst q; rw [um_u, if_pos rfl]
      · rw [up2_same q, if_neg q, up2_ne (by omega), up2_ne (by omega), up2_ne (by omega)]
    have e5 : ∀ p, mlX (addX X (bC t j) n g k v) (8 * t + j) n k (nI g) v (bC t j + 5) p = if p = g then X (bC t j + 5) g + 1 else X (bC t j + 5) p := fun p => by
      rw [mlX_ne (by omega)]; unfold addX
      rw [up2_ne (by omega)]
      by_cases q : p = g
      · subst q; rw [um_u, if_pos rfl]
      · rw [up2_same q, if_neg q, up2_ne (by omega), up2_ne (by omega), up2_ne (by omega), up2_ne (by omega)]
    have e0 : mlX (addX X (bC t j) n g k v) (8 * t + j) n k (nI g) v (bC t j) 5 = nI (n + 1) := by
      rw [mlX_ne (by omega)]; unfold addX; rw [um_u]
    have e6 : mlX (addX X (bC t j) n g k v) (8 * t + j) n k (nI g) v (bC t j) 6 = X (bC t j) 6 := by
      rw [mlX_ne (by omega)]; unfold addX; rw [up2_same (by decide), up2_ne (by omega), up2_ne (by omega), up2_ne (by omega), up2_ne (by omega), up2_ne (by omega)]
    have hs2 : mlX (addX X (bC t j) n g k v) (8 * t + j) n k (nI g) v 134 t = 0 := by rw [mlX_ne (by omega), addX_ne (by omega)]; exact hs
    have m0 : mlX (addX X (bC t j) n g k v) (8 * t + j) n k (nI g) v 123 (8 * t + j) = nI (n + 1) := by unfold mlX; rw [um_u]
    have m1 : mlX (addX X (bC t j) n g k v) (8 * t + j) n k (nI g) v 124 (12 * (8 * t + j) + n) = k := by unfold mlX; rw [up2_ne (by decide), up2_ne (by decide), up2_ne (by decide), up2_ne (by decide), um_u]
    have m2 : mlX (addX X (bC t j) n g k v) (8 * t + j) n k (nI g) v 125 (12 * (8 * t + j) + n) = nI g := by unfold mlX; rw [up2_ne (by decide), up2_ne (by decide), up2_ne (by decide), um_u]
    have m3 : mlX (addX X (bC t j) n g k v) (8 * t + j) n k (nI g) v 126 (12 * (8 * t + j) + n) = v := by unfold mlX; rw [up2_ne (by decide), up2_ne (by decide), um_u]
    have m4 : mlX (addX X (bC t j) n g k v) (8 * t + j) n k (nI g) v 127 (12 * (8 * t + j) + n) = 0 := by unfold mlX; rw [up2_ne (by decide), um_u]
    have mo : ∀ a i, 123 < a → i < n → mlX (addX X (bC t j) n g k v) (8 * t + j) n k (nI g) v a (12 * (8 * t + j) + i) = X a (12 * (8 * t + j) + i) := fun a i ha hi => by rw [mlX_n (by omega) (by omega), addX_ne (by omega)]
    generalize mlX (addX X (bC t j) n g k v) (8 * t + j) n k (nI g) v = Y at *
    obtain ⟨a1, a2, a3, a4, a5, a6, a7, a8⟩ := hb
    have k4 : ∀ i, i < n + 1 → Y (bC t j + 4) i = 0 := fun i hi => by
      rw [e4]
      by_cases q : i = n
      · rw [if_pos q]
      · rw [if_neg q]; exact a7 hs i (by omega)
    refine ⟨by omega, e0, m0, fun i hi => ?_, ?_, fun u hu => ?_, fun _ => k4, fun z => absurd hs2 z⟩
    · by_cases q : i = n
      · subst q
        unfold RI
        rw [m1, m2, m3, m4, e1, e2, e3, e4, if_pos rfl, if_pos rfl, if_pos rfl, if_pos rfl]
        exact ⟨rfl, rfl, rfl, rfl, hr, Or.inl rfl⟩
      · have := a4 i (by omega)
        unfold RI at *
        rw [mo 124 i (by decide) (by omega), mo 125 i (by decide) (by omega), mo 126 i (by decide) (by omega), mo 127 i (by decide) (by omega), e1, e2, e3, e4, if_neg q, if_neg q, if_neg q, if_neg q]
        exact this
    · rw [e6, a5, cnt_none (fun i hi => by simp [knP, a7 hs i hi]), cnt_none (fun i hi => by simp [knP, k4 i hi])]
    · rw [e5, gS_add (X := X) (g := g) (fun i hi => by rw [e2, if_neg (by omega)]) (by rw [e2, if_pos rfl]) hg u hu, a6 g hg]
      by_cases q : u = g
      · subst q; rw [if_pos rfl, if_pos rfl]
      · rw [if_neg q, if_neg q, a6 u hu]
  refine ⟨hB, Inv_blk ht hj hI (fun a h1 h2 h3 h4 => by rw [mlX_ne (by omega), addX_ne (by omega)]) (fun a p h1 h2 h3 => ?_) ?_ ?_ (fun p hp => ?_) ⟨n + 1, hB⟩⟩
  · unfold plB at h3
    rw [mlX_n (by omega) (by omega), addX_ne (by omega)]
  · rw [mlX_ne (by omega), mlX_ne (by omega), addX_ne (by omega), addX_ne (by omega)]; exact hI.2.2.2.1
  · rw [mlX_ne (by omega), mlX_ne (by omega), addX_ne (by omega), addX_ne (by omega)]; exact hI.2.2.2.2.1
  · by_cases q : p = 12 * (8 * t + j) + n
    · subst q
      have m2 : mlX (addX X (bC t j) n g k v) (8 * t + j) n k (nI g) v 125 (12 * (8 * t + j) + n) = nI g := by unfold mlX; rw [up2_ne (by decide), up2_ne (by decide), up2_ne (by decide), um_u]
      unfold gpN
      rw [m2, nI_clamp (by omega)]
      exact ⟨rfl, hg⟩
    · have e : mlX (addX X (bC t j) n g k v) (8 * t + j) n k (nI g) v 125 p = X 125 p := by rw [mlX_n (by omega) (by omega), addX_ne (by omega)]
      rw [gpN_of e, e]
      exact hI.2.2.2.2.2 p (by omega)
theorem st_row {X : RAM} (hI : Inv X) (x y k g v : Int32) : ∃ (rv : Int32) (X1 X2 : RAM), CG l D ac b y_C_row c_C_row 8 (some .int) 2 42 [.ref 0, .int x, .int y, .int k, .int g, .int v] X (some (.int rv)) X1 ∧ CG l D ac b y_M_row c_M_row 7 (some .int) 3 63 [.ref 122, .int x, .int y, .int k, .int g, .int v] X1 (some (.int rv)) X2 ∧ Inv X2 := by
  rcases ix2 (x := x) with hx | ⟨t, ht, rfl⟩
  · exact ⟨_, X, X, t_C_row_T hx, t_M_row_T hx, hI⟩
  · rcases ix8 (x := y) with hy | ⟨j, hj, rfl⟩
    · exact ⟨_, X, X, t_C_row_B ht hy, t_M_row_B ht hy, hI⟩
    · by_cases hr : RowOK k g v
      · have hbC : bC t j = 4 + 55 * t + 3 + 6 * j := rfl
        have hb := Inv_b hI ht hj
        by_cases hs : X 134 t = 0
        · by_cases hn : mnN X (8 * t + j) = 12
          · exact ⟨_, X, X, t_C_row_F ht hj hr ((Inv_seal hI ht).trans hs) (by rw [show X (4 + 55 * t + 3 + 6 * j) 5 = _ from hb.2.1, hn]), t_M_row_F ht hj hr hs (by rw [hb.2.2.1, hn]), hI⟩
          · have hn2 : mnN X (8 * t + j) < 12 := by have := hb.1; omega
            obtain ⟨g, hg, rfl⟩ := nn_of (n := 4) hr.2.1.1 (i_nle.mpr hr.2.1.2) (by decide)
            exact ⟨_, _, _, t_C_row_D ht hj hr hg ((Inv_seal hI ht).trans hs) hb.2.1 hn2, t_M_row_D ht hj hr (by rw [addX_ne (by omega)]; exact hs) (by rw [addX_ne (by omega)]; exact hb.2.2.1) hn2, (Inv_row ht hj hI hb hn2 hs hg hr).2⟩
        · exact ⟨_, X, X, t_C_row_S ht hj hr (fun z => hs ((Inv_seal hI ht).symm.trans z)), t_M_row_S ht hj hr hs, hI⟩
      · exact ⟨_, X, X, t_C_row_R ht hj hr, t_M_row_R ht hj hr, hI⟩
end P24
