theorem kb_m10 : (Int8.ofInt (-10)).toInt32 = (-10) := by decide
theorem kb_m5 : (Int8.ofInt (-5)).toInt32 = (-5) := by decide
theorem kb_m4 : (Int8.ofInt (-4)).toInt32 = (-4) := by decide
theorem kb_m3 : (Int8.ofInt (-3)).toInt32 = (-3) := by decide
theorem kb_m2 : (Int8.ofInt (-2)).toInt32 = (-2) := by decide
theorem kb_6 : (Int8.ofInt 6).toInt32 = 6 := by decide
theorem kb_7 : (Int8.ofInt 7).toInt32 = 7 := by decide
theorem kb_8 : (Int8.ofInt 8).toInt32 = 8 := by decide
theorem kb_9 : (Int8.ofInt 9).toInt32 = 9 := by decide
theorem kb_10 : (Int8.ofInt 10).toInt32 = 10 := by decide
theorem kb_12 : (Int8.ofInt 12).toInt32 = 12 := by decide
theorem kb_13 : (Int8.ofInt 13).toInt32 = 13 := by decide
theorem kb_14 : (Int8.ofInt 14).toInt32 = 14 := by decide
theorem kb_16 : (Int8.ofInt 16).toInt32 = 16 := by decide
theorem kb_31 : (Int8.ofInt 31).toInt32 = 31 := by decide
theorem kb_40 : (Int8.ofInt 40).toInt32 = 40 := by decide
theorem kb_64 : (Int8.ofInt 64).toInt32 = 64 := by decide
theorem kb_96 : (Int8.ofInt 96).toInt32 = 96 := by decide
theorem kb_99 : (Int8.ofInt 99).toInt32 = 99 := by decide
theorem kb_100 : (Int8.ofInt 100).toInt32 = 100 := by decide
theorem kh_m1000 : (Int16.ofInt (-1000)).toInt32 = (-1000) := by decide
theorem kh_160 : (Int16.ofInt 160).toInt32 = 160 := by decide
theorem kh_192 : (Int16.ofInt 192).toInt32 = 192 := by decide
theorem kh_1000 : (Int16.ofInt 1000).toInt32 = 1000 := by decide
theorem kh_1001 : (Int16.ofInt 1001).toInt32 = 1001 := by decide
theorem ki_m1 : Int32.ofInt (-1) = (-1) := by decide
theorem ki_0 : Int32.ofInt 0 = 0 := by decide
theorem ki_1 : Int32.ofInt 1 = 1 := by decide
theorem ki_2 : Int32.ofInt 2 = 2 := by decide
theorem ki_3 : Int32.ofInt 3 = 3 := by decide
theorem ki_4 : Int32.ofInt 4 = 4 := by decide
theorem ki_5 : Int32.ofInt 5 = 5 := by decide
theorem kl_0 : Int64.ofNat (0 : Fin 2).val = 0 := by decide
section GV
variable {l : Launch} {D : va_G} {ac : Nat → ClassId} {b : Nat} {own : String} {cc : ByteArray} {nL : Nat} {rt : Option FieldType} {i0 : Bool} {fr lo mc ms : Nat} {r : RS} {cs sl pc q : Nat} {lv : List (Nat × Value)} {st : List Value} {X : RAM}
theorem g_getv {o ci kf i : Nat} {ss : List (Option Nat)} {v : Int32} (hd : decode cc pc = .ok (.getfield i, 3)) (hq : pc + 3 = q) (hF : FL own i ci kf) (hS : sk o = .inr (ci, ss)) (hk : ss[kf]? = some none) (hv : X o kf = v) (k : V l D ac b own cc nL rt i0 fr lo mc ms r cs sl q lv (.int v :: st) 144 (mk X)) : V l D ac b own cc nL rt i0 fr lo mc ms r cs sl pc lv (.ref o :: st) 144 (mk X) :=
  g_geti hd hq hF hS hk (by rw [hv]; exact k)
theorem g_ialv {a n j : Nat} {i v : Int32} (hd : decode cc pc = .ok (.iaload, 1)) (hq : pc + 1 = q) (hS : sk a = .inl (0, n, none)) (hn : n < 2147483648) (hi : i = nI j) (hj : j < n) (hv : X a j = v) (k : V l D ac b own cc nL rt i0 fr lo mc ms r cs sl q lv (.int v :: st) 144 (mk X)) : V l D ac b own cc nL rt i0 fr lo mc ms r cs sl pc lv (.int i :: .ref a :: st) 144 (mk X) :=
  g_iald hd hq hS hn hi hj (by rw [hv]; exact k)
theorem g_zalv {a n j : Nat} {i v : Int32} (hd : decode cc pc = .ok (.baload, 1)) (hq : pc + 1 = q) (hS : sk a = .inl (1, n, none)) (hn : n < 2147483648) (hi : i = nI j) (hj : j < n) (hv : X a j = v) (k : V l D ac b own cc nL rt i0 fr lo mc ms r cs sl q lv (.int v :: st) 144 (mk X)) : V l D ac b own cc nL rt i0 fr lo mc ms r cs sl pc lv (.int i :: .ref a :: st) 144 (mk X) :=
  g_zald hd hq hS hn hi hj (by rw [hv]; exact k)
end GV
def bI (p : Bool) : Int32 := if p then 1 else 0
theorem bI_t {p : Bool} (h : p = true) : bI p = 1 := by rw [h]; rfl
theorem bI_f {p : Bool} (h : p = false) : bI p = 0 := by rw [h]; rfl
theorem bI_0 {p : Bool} : bI p = 0 ↔ p = false := by cases p <;> decide
theorem bI_n0 {p : Bool} : ¬ bI p = 0 ↔ p = true := by cases p <;> decide
theorem bI_1 {p : Bool} : bI p = 1 ↔ p = true := by cases p <;> decide
theorem bI_d {p : Prop} [Decidable p] : bI (decide p) = 0 ↔ ¬ p := by rw [bI_0, decide_eq_false_iff_not]
theorem bI_dn {p : Prop} [Decidable p] : ¬ bI (decide p) = 0 ↔ p := by rw [bI_n0, decide_eq_true_iff]
theorem bI_cases (p : Bool) : bI p = 0 ∨ bI p = 1 := by cases p <;> decide
theorem bI_is1 {p : Prop} [Decidable p] (h : p) : (1 : Int32) = bI (decide p) := by rw [bI, if_pos (decide_eq_true h)]
theorem bI_is0 {p : Prop} [Decidable p] (h : ¬ p) : (0 : Int32) = bI (decide p) := by rw [bI, if_neg (fun q => h (of_decide_eq_true q))]
theorem okB {v : Int32} (h : v = 0 ∨ v = 1) : okV .boolean (.int v) := by
  rcases h with rfl | rfl
  · exact okV_0
  · exact okV_1
theorem nb {v : Int32} (h : v = 0 ∨ v = 1) : narrow .boolean (.int v) = .int v := by rcases h with rfl | rfl <;> rfl
theorem nbI (p : Bool) : narrow .boolean (.int (bI p)) = .int (bI p) := nb (bI_cases p)
theorem vb {v : Int32} (h : v = 0 ∨ v = 1) : vp_nar .boolean v = v := by rcases h with rfl | rfl <;> rfl
theorem vbI (p : Bool) : vp_nar .boolean (bI p) = bI p := vb (bI_cases p)
theorem okBI (p : Bool) : okV .boolean (.int (bI p)) := okB (bI_cases p)
theorem inc1 (i : Nat) : nI i + Int32.ofInt 1 = nI (i + 1) := by rw [ki_1]; exact nI_1 i
theorem lit (n : Nat) : (OfNat.ofNat n : Int32) = nI n := rfl
theorem nat_down {P : Nat → Prop} {n : Nat} (he : P n) (hs : ∀ i, i < n → P (i + 1) → P i) : ∀ i, i ≤ n → P i := by
  intro i hi
  induction h : n - i generalizing i with
  | zero =>
    have : i = n := by omega
    rw [this]
    exact he
  | succ k ih => exact hs i (by omega) (ih (i + 1) (by omega) (by omega))
theorem i_lt (a b : Int32) : a < b ↔ a.toInt < b.toInt := Int32.lt_iff_toInt_lt
theorem i_le (a b : Int32) : a ≤ b ↔ a.toInt ≤ b.toInt := Int32.le_iff_toInt_le
theorem i_eq (a b : Int32) : a = b ↔ a.toInt = b.toInt := ⟨fun h => by rw [h], fun h => Int32.toInt_inj.mp h⟩
theorem i_nle {a b : Int32} : ¬ a ≤ b ↔ b < a := by rw [i_le, i_lt]; omega
theorem i_nlt {a b : Int32} : ¬ a < b ↔ b ≤ a := by rw [i_le, i_lt]; omega
theorem tI_0 : (0 : Int32).toInt = 0 := by decide
theorem tI_1 : (1 : Int32).toInt = 1 := by decide
theorem tI_2 : (2 : Int32).toInt = 2 := by decide
theorem tI_3 : (3 : Int32).toInt = 3 := by decide
theorem tI_4 : (4 : Int32).toInt = 4 := by decide
theorem tI_7 : (7 : Int32).toInt = 7 := by decide
theorem tI_8 : (8 : Int32).toInt = 8 := by decide
theorem tI_10 : (10 : Int32).toInt = 10 := by decide
theorem tI_12 : (12 : Int32).toInt = 12 := by decide
theorem tI_13 : (13 : Int32).toInt = 13 := by decide
theorem tI_14 : (14 : Int32).toInt = 14 := by decide
theorem tI_40 : (40 : Int32).toInt = 40 := by decide
theorem tI_99 : (99 : Int32).toInt = 99 := by decide
theorem tI_100 : (100 : Int32).toInt = 100 := by decide
theorem tI_1000 : (1000 : Int32).toInt = 1000 := by decide
theorem tI_m1000 : (-1000 : Int32).toInt = -1000 := by decide
theorem tI_m1 : (-1 : Int32).toInt = -1 := by decide
theorem tI_mil : (1000000 : Int32).toInt = 1000000 := by decide
theorem nn_of {x : Int32} {n : Nat} (h0 : ¬ x < 0) (h1 : ¬ nI n ≤ x) (hn : n < 2147483648) : ∃ j, j < n ∧ x = nI j := by
  obtain ⟨j, hj, rfl⟩ := nI_of h0
  refine ⟨j, ?_, rfl⟩
  rcases Nat.lt_or_ge j n with h | h
  · exact h
  · exact absurd (nI_le h hj) h1
theorem um_u {X : RAM} {o k : Nat} {v : Int32} : up2 X o k v o k = v := by simp [up2, upd]
theorem up2_same {X : RAM} {o k j : Nat} {v : Int32} (h : j ≠ k) : up2 X o k v o j = X o j := by simp [up2, upd, h]
theorem up2_ne {X : RAM} {o o' k : Nat} {v : Int32} (h : o' ≠ o) : up2 X o k v o' = X o' := by simp [up2, h]
theorem up2_nej {X : RAM} {o o' k j : Nat} {v : Int32} (h : o' ≠ o) : up2 X o k v o' j = X o' j := by simp [up2, h]
theorem upA_ne {X : RAM} {a a' : Nat} {f : Nat → Int32} (h : a' ≠ a) : upA X a f a' = X a' := by simp [upA, h]
theorem upA_same {X : RAM} {a : Nat} {f : Nat → Int32} : upA X a f a = f := by simp [upA]
theorem up2_upA {X : RAM} {a k : Nat} {f : Nat → Int32} {v : Int32} : up2 (upA X a f) a k v = upA X a (upd f k v) := by
  funext i
  by_cases h : i = a
  · subst h; simp [up2, upA]
  · simp [up2, upA, h]
theorem up2_id {X : RAM} {a k : Nat} {v : Int32} : up2 X a k v = upA X a (upd (X a) k v) := by
  funext i
  by_cases h : i = a
  · subst h; simp [up2, upA]
  · simp [up2, upA, h]
theorem upA_self {X : RAM} {a : Nat} : upA X a (X a) = X := by
  funext i
  by_cases h : i = a
  · subst h; simp [upA]
  · simp [upA, h]
theorem upA_upA {X : RAM} {a : Nat} {f g : Nat → Int32} : upA (upA X a f) a g = upA X a g := by
  funext i
  by_cases h : i = a
  · subst h; simp [upA]
  · simp [upA, h]
