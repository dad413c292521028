/-! THE STORE AS NUMBERS: behind the constructors the cells' shape is fixed (sk), all that changes are the ints X cell slot -/
abbrev RAM : Type := Nat → Nat → Int32
abbrev SKE : Type := (Nat × Nat × Option (Nat → Option Nat)) ⊕ (Nat × List (Option Nat))
def skT (o : Nat) (d : Nat) : SKE :=
  if d = 0 then .inr (3, [some (o + 1), some (o + 2), none, none])
  else if d = 1 then .inl (4, 8, some (fun i => if i < 8 then some (o + 3 + 6 * i) else none))
  else if d = 2 then .inl (5, 4, some (fun i => if i < 4 then some (o + 51 + i) else none))
  else if d < 51 then
    (if (d - 3) % 6 = 0 then .inr (0, [some (o + d + 1), some (o + d + 2), some (o + d + 3), some (o + d + 4), some (o + d + 5), none, none, none, none, none, none, none, none, none])
     else if (d - 3) % 6 = 4 then .inl (1, 12, none)
     else if (d - 3) % 6 = 5 then .inl (0, 4, none)
     else .inl (0, 12, none))
  else .inr (1, [none, none, none])
def mLen : Nat → Nat := fun i => match i with
  | 0 => 16 | 1 => 192 | 2 => 192 | 3 => 192 | 4 => 192 | 5 => 192 | 6 => 192 | 7 => 16 | 8 => 16 | 9 => 64 | 10 => 16 | 11 => 2 | 12 => 2 | 13 => 8 | 14 => 8 | 15 => 8
  | 16 => 4 | 17 => 4 | 18 => 4 | 19 => 160 | _ => 40
def mTy : Nat → Nat := fun i => match i with
  | 4 => 1 | 5 => 1 | 10 => 1 | 11 => 1 | 16 => 1 | _ => 0
def sk (i : Nat) : SKE :=
  if i = 0 then .inr (4, [some 1, some 2, some 3, none, none])
  else if i = 1 then .inl (2, 2, some (fun i => if i < 2 then some (4 + 55 * i) else none))
  else if i = 2 then .inl (3, 4, some (fun i => if i < 4 then some (114 + 2 * i) else none))
  else if i = 3 then .inl (0, 100, none)
  else if i < 59 then skT 4 (i - 4)
  else if i < 114 then skT 59 (i - 59)
  else if i < 122 then (if i % 2 = 0 then .inr (2, [some (i + 1), none, none, none]) else .inl (0, 40, none))
  else if i = 122 then .inr (5, [some 123, some 124, some 125, some 126, some 127, some 128, some 129, some 130, some 131, some 132, some 133, some 134, some 135, some 136, some 137, some 138, none, some 139, some 140, some 141, some 142, some 143, none])
  else if i < 144 then .inl (mTy (i - 123), mLen (i - 123), none)
  else .inl (9, 0, none)
def mkf (g : Nat → Int32) : Nat → List (Option Nat) → List Value
  | _, [] => []
  | i, none :: t => .int (g i) :: mkf g (i + 1) t
  | i, some a :: t => .ref a :: mkf g (i + 1) t
def mkE (X : RAM) (i : Nat) (s : SKE) : PE := match s with
  | .inl (t, n, none) => .inl (t, n, .inl (X i))
  | .inl (t, n, some f) => .inl (t, n, .inr f)
  | .inr (ci, ss) => .inr (ci, mkf (X i) 0 ss)
def mk (X : RAM) : Mem := fun i => mkE X i (sk i)
def up2 (X : RAM) (o k : Nat) (v : Int32) : RAM := fun i => if i = o then upd (X o) k v else X i
theorem mkf_int (g : Nat → Int32) (ss : List (Option Nat)) (j k : Nat) (h : ss[k]? = some none) : (mkf g j ss)[k]? = some (.int (g (j + k))) := by
  induction ss generalizing j k with
  | nil => simp at h
  | cons a t ih =>
    cases k with
    | zero =>
      rw [List.getElem?_cons_zero] at h
      cases h
      rfl
    | succ k =>
      rw [List.getElem?_cons_succ] at h
      have := ih (j + 1) k h
      rw [show j + 1 + k = j + (k + 1) by omega] at this
      cases a <;> exact this
theorem mkf_ref (g : Nat → Int32) (ss : List (Option Nat)) (j k a : Nat) (h : ss[k]? = some (some a)) : (mkf g j ss)[k]? = some (.ref a) := by
  induction ss generalizing j k with
  | nil => simp at h
  | cons x t ih =>
    cases k with
    | zero =>
      rw [List.getElem?_cons_zero] at h
      cases h
      rfl
    | succ k =>
      rw [List.getElem?_cons_succ] at h
      have := ih (j + 1) k h
      cases x <;> exact this
theorem mkf_len (g : Nat → Int32) (ss : List (Option Nat)) (j : Nat) : (mkf g j ss).length = ss.length := by
  induction ss generalizing j with
  | nil => rfl
  | cons x t ih => cases x <;> simp [mkf, ih]
theorem mkf_same {g g' : Nat → Int32} (ss : List (Option Nat)) (j : Nat) (h : ∀ i, j ≤ i → g i = g' i) : mkf g j ss = mkf g' j ss := by
  induction ss generalizing j with
  | nil => rfl
  | cons x t ih =>
    have := ih (j + 1) (fun i hi => h i (by omega))
    cases x <;> simp [mkf, this, h j (Nat.le_refl j)]
theorem mkf_set (g : Nat → Int32) (ss : List (Option Nat)) (j k : Nat) (v : Int32) (h : ss[k]? = some none) : (mkf g j ss).set k (.int v) = mkf (upd g (j + k) v) j ss := by
  induction ss generalizing j k with
  | nil => simp at h
  | cons a t ih =>
    cases k with
    | zero =>
      rw [List.getElem?_cons_zero] at h
      cases h
      have : mkf g (j + 1) t = mkf (upd g (j + 0) v) (j + 1) t := mkf_same t (j + 1) (fun i hi => by simp [upd]; omega)
      simp [mkf, upd] at this ⊢
      exact this
    | succ k =>
      rw [List.getElem?_cons_succ] at h
      have h2 := ih (j + 1) k h
      rw [show j + 1 + k = j + (k + 1) by omega] at h2
      cases a with
      | none =>
        simp only [mkf, List.set_cons_succ, h2]
        congr 1
        simp [upd]
      | some a => simp only [mkf, List.set_cons_succ, h2]
theorem sk_lt {i : Nat} {t n : Nat} {f : Option (Nat → Option Nat)} (h : sk i = .inl (t, n, f)) (ht : t < 6) : i < 144 := by
  by_cases hi : i < 144
  · exact hi
  · unfold sk at h
    simp only [show ¬ i = 0 by omega, show ¬ i = 1 by omega, show ¬ i = 2 by omega, show ¬ i = 3 by omega, show ¬ i < 59 by omega, show ¬ i < 114 by omega, show ¬ i < 122 by omega, show ¬ i = 122 by omega, hi, if_false] at h
    cases h
    omega
theorem sk_ltr {i ci : Nat} {ss : List (Option Nat)} (h : sk i = .inr (ci, ss)) : i < 144 := by
  by_cases hi : i < 144
  · exact hi
  · unfold sk at h
    simp only [show ¬ i = 0 by omega, show ¬ i = 1 by omega, show ¬ i = 2 by omega, show ¬ i = 3 by omega, show ¬ i < 59 by omega, show ¬ i < 114 by omega, show ¬ i < 122 by omega, show ¬ i = 122 by omega, hi, if_false] at h
    cases h
theorem mk_obj {X : RAM} {o ci : Nat} {ss : List (Option Nat)} (h : sk o = .inr (ci, ss)) : At 144 (mk X) o (.inr (ci, mkf (X o) 0 ss)) := ⟨sk_ltr h, by unfold mk; rw [h]; rfl⟩
theorem mk_arr {X : RAM} {a t n : Nat} (h : sk a = .inl (t, n, none)) (ht : t < 6) : At 144 (mk X) a (.inl (t, n, .inl (X a))) := ⟨sk_lt h ht, by unfold mk; rw [h]; rfl⟩
theorem mk_ref {X : RAM} {a t n : Nat} {f : Nat → Option Nat} (h : sk a = .inl (t, n, some f)) (ht : t < 6) : At 144 (mk X) a (.inl (t, n, .inr f)) := ⟨sk_lt h ht, by unfold mk; rw [h]; rfl⟩
theorem mk_puti {X : RAM} {o ci k : Nat} {ss : List (Option Nat)} {v : Int32} (h : sk o = .inr (ci, ss)) (hk : ss[k]? = some none) : um (mk X) o (.inr (ci, (mkf (X o) 0 ss).set k (.int v))) = mk (up2 X o k v) := by
  funext i
  by_cases hi : i = o
  · subst hi
    simp only [um, if_true, mk, h, mkE, up2]
    rw [mkf_set _ _ _ _ _ hk, Nat.zero_add]
  · have : up2 X o k v i = X i := by simp [up2, hi]
    simp only [um, hi, if_false, mk, mkE, this]
theorem mk_puta {X : RAM} {a t n k : Nat} {v : Int32} (h : sk a = .inl (t, n, none)) : um (mk X) a (.inl (t, n, .inl (upd (X a) k v))) = mk (up2 X a k v) := by
  funext i
  by_cases hi : i = a
  · subst hi
    simp only [um, if_true, mk, h, mkE, up2]
  · have : up2 X a k v i = X i := by simp [up2, hi]
    simp only [um, hi, if_false, mk, mkE, this]
def upA (X : RAM) (a : Nat) (f : Nat → Int32) : RAM := fun i => if i = a then f else X i
theorem mk_putA {X : RAM} {a t n : Nat} {f : Nat → Int32} (h : sk a = .inl (t, n, none)) : um (mk X) a (.inl (t, n, .inl f)) = mk (upA X a f) := by
  funext i
  by_cases hi : i = a
  · subst hi
    simp only [um, if_true, mk, h, mkE, upA]
  · have : upA X a f i = X i := by simp [upA, hi]
    simp only [um, hi, if_false, mk, mkE, this]
section GM
variable {l : Launch} {D : va_G} {ac : Nat → ClassId} {b : Nat} {own : String} {cc : ByteArray} {nL : Nat} {rt : Option FieldType} {i0 : Bool} {fr lo mc ms : Nat} {r : RS} {cs sl pc q : Nat} {lv : List (Nat × Value)} {st : List Value} {X : RAM}
theorem g_geti {o ci kf i : Nat} {ss : List (Option Nat)} (hd : decode cc pc = .ok (.getfield i, 3)) (hq : pc + 3 = q) (hF : FL own i ci kf) (hS : sk o = .inr (ci, ss)) (hk : ss[kf]? = some none) (k : V l D ac b own cc nL rt i0 fr lo mc ms r cs sl q lv (.int (X o kf) :: st) 144 (mk X)) : V l D ac b own cc nL rt i0 fr lo mc ms r cs sl pc lv (.ref o :: st) 144 (mk X) :=
  s_get hd hq hF (mk_obj hS) (by rw [mkf_int _ _ _ _ hk, Nat.zero_add]) k
theorem g_getr {o ci kf i a : Nat} {ss : List (Option Nat)} (hd : decode cc pc = .ok (.getfield i, 3)) (hq : pc + 3 = q) (hF : FL own i ci kf) (hS : sk o = .inr (ci, ss)) (hk : ss[kf]? = some (some a)) (k : V l D ac b own cc nL rt i0 fr lo mc ms r cs sl q lv (.ref a :: st) 144 (mk X)) : V l D ac b own cc nL rt i0 fr lo mc ms r cs sl pc lv (.ref o :: st) 144 (mk X) :=
  s_get hd hq hF (mk_obj hS) (mkf_ref _ _ _ _ _ hk) k
theorem okV_int (v : Int32) : okV .int (.int v) := fun _ => ⟨rfl, rfl⟩
theorem okV_0 : okV .boolean (.int 0) := fun _ => ⟨rfl, rfl⟩
theorem okV_1 : okV .boolean (.int 1) := fun _ => ⟨rfl, rfl⟩
theorem g_puti {o ci kf i : Nat} {ss : List (Option Nat)} {v : Int32} (hd : decode cc pc = .ok (.putfield i, 3)) (hq : pc + 3 = q) (hF : FL own i ci kf) (hfin : (fT ci kf).2.2.2 = false) (hok : okV (fY ci kf) (.int v)) (hS : sk o = .inr (ci, ss)) (hk : ss[kf]? = some none) (k : V l D ac b own cc nL rt i0 fr lo mc ms r cs sl q lv st 144 (mk (up2 X o kf v))) : V l D ac b own cc nL rt i0 fr lo mc ms r cs sl pc lv (.int v :: .ref o :: st) 144 (mk X) :=
  s_put hd hq hF (mk_obj hS) hfin hok (by rw [mkf_len]; exact (List.getElem?_eq_some_iff.mp hk).1) (by rw [mk_puti hS hk]; exact k)
theorem g_iald {a n j : Nat} {i : Int32} (hd : decode cc pc = .ok (.iaload, 1)) (hq : pc + 1 = q) (hS : sk a = .inl (0, n, none)) (hn : n < 2147483648) (hi : i = nI j) (hj : j < n) (k : V l D ac b own cc nL rt i0 fr lo mc ms r cs sl q lv (.int (X a j) :: st) 144 (mk X)) : V l D ac b own cc nL rt i0 fr lo mc ms r cs sl pc lv (.int i :: .ref a :: st) 144 (mk X) :=
  s_iald hd hq (mk_arr hS (by decide)) hi hj hn k
theorem g_zald {a n j : Nat} {i : Int32} (hd : decode cc pc = .ok (.baload, 1)) (hq : pc + 1 = q) (hS : sk a = .inl (1, n, none)) (hn : n < 2147483648) (hi : i = nI j) (hj : j < n) (k : V l D ac b own cc nL rt i0 fr lo mc ms r cs sl q lv (.int (X a j) :: st) 144 (mk X)) : V l D ac b own cc nL rt i0 fr lo mc ms r cs sl pc lv (.int i :: .ref a :: st) 144 (mk X) :=
  s_zald hd hq (mk_arr hS (by decide)) hi hj hn k
theorem g_aald {a t n j k0 : Nat} {f : Nat → Option Nat} {i : Int32} {C : String} (hd : decode cc pc = .ok (.aaload, 1)) (hq : pc + 1 = q) (hS : sk a = .inl (t, n, some f)) (ht : t < 6) (hty : aty t = .object C) (hn : n < 2147483648) (hi : i = nI j) (hj : j < n) (hf : f j = some k0) (k : V l D ac b own cc nL rt i0 fr lo mc ms r cs sl q lv (.ref k0 :: st) 144 (mk X)) : V l D ac b own cc nL rt i0 fr lo mc ms r cs sl pc lv (.int i :: .ref a :: st) 144 (mk X) :=
  s_aald hd hq (mk_ref hS ht) ht hty hi hj hn hf k
theorem g_iast {a n j : Nat} {i x : Int32} (hd : decode cc pc = .ok (.iastore, 1)) (hq : pc + 1 = q) (hS : sk a = .inl (0, n, none)) (hn : n < 2147483648) (hi : i = nI j) (hj : j < n) (k : V l D ac b own cc nL rt i0 fr lo mc ms r cs sl q lv st 144 (mk (up2 X a j x))) : V l D ac b own cc nL rt i0 fr lo mc ms r cs sl pc lv (.int x :: .int i :: .ref a :: st) 144 (mk X) :=
  s_iast hd hq (mk_arr hS (by decide)) hi hj hn (by rw [mk_puta hS]; exact k)
theorem g_zast {a n j : Nat} {i x : Int32} (hd : decode cc pc = .ok (.bastore, 1)) (hq : pc + 1 = q) (hS : sk a = .inl (1, n, none)) (hn : n < 2147483648) (hi : i = nI j) (hj : j < n) (hx : vp_nar .boolean x = x) (k : V l D ac b own cc nL rt i0 fr lo mc ms r cs sl q lv st 144 (mk (up2 X a j x))) : V l D ac b own cc nL rt i0 fr lo mc ms r cs sl pc lv (.int x :: .int i :: .ref a :: st) 144 (mk X) :=
  s_zast hd hq (mk_arr hS (by decide)) hi hj hn hx (by rw [mk_puta hS]; exact k)
theorem g_alen {a t n : Nat} (hd : decode cc pc = .ok (.arraylength, 1)) (hq : pc + 1 = q) (hS : sk a = .inl (t, n, none)) (ht : t < 6) (k : V l D ac b own cc nL rt i0 fr lo mc ms r cs sl q lv (.int (nI n) :: st) 144 (mk X)) : V l D ac b own cc nL rt i0 fr lo mc ms r cs sl pc lv (.ref a :: st) 144 (mk X) :=
  s_alen hd hq (mk_arr hS ht) ht k
theorem g_copy {idx a a0 n n0 sp dp z : Nat} (hd : decode cc pc = .ok (.invokestatic idx, 3)) (hq : pc + 3 = q) (hl : Cond.methodLink own idx arraycopyName ∈ tbG) (hS0 : sk a0 = .inl (0, n0, none)) (hS : sk a = .inl (0, n, none)) (hn0 : n0 < 2147483648) (hn : n < 2147483648) (h4 : sp + z ≤ n0) (h5 : dp + z ≤ n) (hW : (st.map fun v => v.category).sum ≤ 8) (hf : 1 ≤ fr) (hlo : 8 + (nativeFrameWords "java/lang/System" "arraycopy" 5 + 11) ≤ lo) (k : V l D ac b own cc nL rt i0 fr lo mc ms r cs sl q lv st 144 (mk (upA X a (va_cpy (X a0) (X a) sp dp z)))) : V l D ac b own cc nL rt i0 fr lo mc ms r cs sl pc lv (.int (nI z) :: .int (nI dp) :: .ref a :: .int (nI sp) :: .ref a0 :: st) 144 (mk X) :=
  s_copy hd hq hl (mk_arr hS0 (by decide)) (mk_arr hS (by decide)) hn0 hn h4 h5 hW hf hlo (by rw [mk_putA hS]; exact k)
end GM
/-- a contract on the store: with these arguments, from X, the answer and the new X -/
def CG (l : Launch) (D : va_G) (ac : Nat → ClassId) (b : Nat) (y : MethodName) (cc : ByteArray) (nL : Nat) (rt : Option FieldType) (fr lo : Nat) (av : List Value) (X : RAM) (r : Option Value) (X' : RAM) : Prop := Ct l D ac b y cc nL rt fr lo 0 0 av 144 (mk X) (r, 144, mk X')
section GC
variable {l : Launch} {D : va_G} {ac : Nat → ClassId} {b : Nat} {own : String} {cc : ByteArray} {nL : Nat} {rt : Option FieldType} {i0 : Bool} {fr lo : Nat} {r : RS} {pc q : Nat} {lv : List (Nat × Value)} {st : List Value} {X : RAM}
theorem g_callV {idx a ci : Nat} {y : MethodName} {cy : ByteArray} {nLy : Nat} {rty : Option FieldType} {n fr1 lo1 : Nat} {As st0 : List Value} {ss : List (Option Nat)} {r1 : Option Value} {X1 : RAM} (hd : decode cc pc = .ok (.invokevirtual idx, 3)) (hq : pc + 3 = q) (hl : Cond.methodLink own idx y ∈ tbG) (hm : MX y cy nLy rty n) (hv : MV y ci) (hC : CG l D ac b y cy nLy rty fr1 lo1 (.ref a :: As) X r1 X1)
    (hS : sk a = .inr (ci, ss)) (hst : st = As.reverse ++ .ref a :: st0) (hn : As.length = n) (hW : (st0.map fun v => v.category).sum ≤ 8) (hroom : fr1 + 1 ≤ fr ∧ 8 + (nLy + 11) + lo1 ≤ lo)
    (k : V l D ac b own cc nL rt i0 fr lo 0 0 r 0 0 q lv (r1.toList ++ st0) 144 (mk X1)) : V l D ac b own cc nL rt i0 fr lo 0 0 r 0 0 pc lv st 144 (mk X) :=
  s_callV hd hq hl hm hv hC (mk_obj hS) hst hn hW hroom ⟨Nat.le_refl _, Nat.le_refl _⟩ rfl k
theorem g_callS {idx : Nat} {y : MethodName} {cy : ByteArray} {nLy : Nat} {rty : Option FieldType} {n fr1 lo1 : Nat} {As st0 : List Value} {r1 : Option Value} {X1 : RAM} (hd : decode cc pc = .ok (.invokestatic idx, 3)) (hq : pc + 3 = q) (hl : Cond.methodLink own idx y ∈ tbG) (hm : MX y cy nLy rty n) (hv : MS y) (hC : CG l D ac b y cy nLy rty fr1 lo1 As X r1 X1)
    (hst : st = As.reverse ++ st0) (hn : As.length = n) (hW : (st0.map fun v => v.category).sum ≤ 8) (hroom : fr1 + 1 ≤ fr ∧ 8 + (nLy + 11) + lo1 ≤ lo)
    (k : V l D ac b own cc nL rt i0 fr lo 0 0 r 0 0 q lv (r1.toList ++ st0) 144 (mk X1)) : V l D ac b own cc nL rt i0 fr lo 0 0 r 0 0 pc lv st 144 (mk X) :=
  s_callS hd hq hl hm hv hC hst hn hW hroom ⟨Nat.le_refl _, Nat.le_refl _⟩ rfl k
theorem g_callN {idx : Nat} {y : MethodName} {cy : ByteArray} {nLy : Nat} {rty : Option FieldType} {n fr1 lo1 : Nat} {As st0 : List Value} {r1 : Option Value} {X1 : RAM} (hd : decode cc pc = .ok (.invokestatic idx, 3)) (hq : pc + 3 = q) (hl : (own, idx, y) ∈ nests) (hm : MX y cy nLy rty n) (hv : MS y) (hC : CG l D ac b y cy nLy rty fr1 lo1 As X r1 X1)
    (hst : st = As.reverse ++ st0) (hn : As.length = n) (hW : (st0.map fun v => v.category).sum ≤ 8) (hroom : fr1 + 1 ≤ fr ∧ 8 + (nLy + 11) + lo1 ≤ lo)
    (k : V l D ac b own cc nL rt i0 fr lo 0 0 r 0 0 q lv (r1.toList ++ st0) 144 (mk X1)) : V l D ac b own cc nL rt i0 fr lo 0 0 r 0 0 pc lv st 144 (mk X) :=
  s_callN hd hq hl hm hv hC hst hn hW hroom ⟨Nat.le_refl _, Nat.le_refl _⟩ rfl k
theorem g_iret {v : Int32} {ty : FieldType} {X1 : RAM} (hd : decode cc pc = .ok (.ireturn, 1)) (hrt : rt = some ty) (hn : narrow ty (.int v) = .int v) {v1 : Int32} (hv : v = v1) (hX : X = X1) : V l D ac b own cc nL rt i0 fr lo 0 0 (some (.int v1), 144, mk X1) 0 0 pc lv [.int v] 144 (mk X) := by
  subst hv; subst hX
  exact s_iret hd hrt hn (Nat.le_refl _) (Nat.le_refl _) rfl
theorem g_lret {v v1 : Int64} {X1 : RAM} (hd : decode cc pc = .ok (.lreturn, 1)) (hrt : rt = some .long) (hv : v = v1) (hX : X = X1) : V l D ac b own cc nL rt i0 fr lo 0 0 (some (.long v1), 144, mk X1) 0 0 pc lv [.long v] 144 (mk X) := by
  subst hv; subst hX
  exact s_lret hd hrt (Nat.le_refl _) (Nat.le_refl _) rfl
theorem g_aret {v v1 : Value} {C : String} {X1 : RAM} (hd : decode cc pc = .ok (.areturn, 1)) (hrt : rt = some (.object C)) (hr : v = .null ∨ ∃ a, v = .ref a) (hv : v = v1) (hX : X = X1) : V l D ac b own cc nL rt i0 fr lo 0 0 (some v1, 144, mk X1) 0 0 pc lv [v] 144 (mk X) := by
  subst hv; subst hX
  exact s_aret hd hrt hr (Nat.le_refl _) (Nat.le_refl _) rfl
theorem g_ret {X1 : RAM} (hd : decode cc pc = .ok (.return_, 1)) (hrt : rt = none) (hX : X = X1) : V l D ac b own cc nL rt i0 fr lo 0 0 (none, 144, mk X1) 0 0 pc lv [] 144 (mk X) := by
  subst hX
  exact s_ret hd hrt (Nat.le_refl _) (Nat.le_refl _) rfl
end GC
/-! the shapes -/
def isB (o : Nat) : Prop := sk o = .inr (0, [some (o + 1), some (o + 2), some (o + 3), some (o + 4), some (o + 5), none, none, none, none, none, none, none, none, none]) ∧ sk (o + 1) = .inl (0, 12, none) ∧ sk (o + 2) = .inl (0, 12, none) ∧ sk (o + 3) = .inl (0, 12, none) ∧ sk (o + 4) = .inl (1, 12, none) ∧ sk (o + 5) = .inl (0, 4, none)
def isK (o : Nat) : Prop := sk o = .inr (1, [none, none, none])
def isS (o : Nat) : Prop := sk o = .inr (2, [some (o + 1), none, none, none]) ∧ sk (o + 1) = .inl (0, 40, none)
def isT (o : Nat) : Prop := sk o = .inr (3, [some (o + 1), some (o + 2), none, none]) ∧ sk (o + 1) = .inl (4, 8, some (fun i => if i < 8 then some (o + 3 + 6 * i) else none)) ∧ sk (o + 2) = .inl (5, 4, some (fun i => if i < 4 then some (o + 51 + i) else none)) ∧ (∀ j, j < 8 → isB (o + 3 + 6 * j)) ∧ ∀ k, k < 4 → isK (o + 51 + k)
def isC : Prop := sk 0 = .inr (4, [some 1, some 2, some 3, none, none]) ∧ sk 1 = .inl (2, 2, some (fun i => if i < 2 then some (4 + 55 * i) else none)) ∧ sk 2 = .inl (3, 4, some (fun i => if i < 4 then some (114 + 2 * i) else none)) ∧ sk 3 = .inl (0, 100, none) ∧ (∀ t, t < 2 → isT (4 + 55 * t)) ∧ ∀ k, k < 4 → isS (114 + 2 * k)
set_option maxRecDepth 10000 in
theorem hC : isC := by
  refine ⟨rfl, rfl, rfl, rfl, fun t ht => ?_, fun k hk => ?_⟩
  · rcases (show t = 0 ∨ t = 1 by omega) with rfl | rfl
    · refine ⟨rfl, rfl, rfl, fun j hj => ?_, fun k hk => ?_⟩
      · rcases (show j = 0 ∨ j = 1 ∨ j = 2 ∨ j = 3 ∨ j = 4 ∨ j = 5 ∨ j = 6 ∨ j = 7 by omega) with rfl | rfl | rfl | rfl | rfl | rfl | rfl | rfl <;> exact ⟨rfl, rfl, rfl, rfl, rfl, rfl⟩
      · rcases (show k = 0 ∨ k = 1 ∨ k = 2 ∨ k = 3 by omega) with rfl | rfl | rfl | rfl <;> exact rfl
    · refine ⟨rfl, rfl, rfl, fun j hj => ?_, fun k hk => ?_⟩
      · rcases (show j = 0 ∨ j = 1 ∨ j = 2 ∨ j = 3 ∨ j = 4 ∨ j = 5 ∨ j = 6 ∨ j = 7 by omega) with rfl | rfl | rfl | rfl | rfl | rfl | rfl | rfl <;> exact ⟨rfl, rfl, rfl, rfl, rfl, rfl⟩
      · rcases (show k = 0 ∨ k = 1 ∨ k = 2 ∨ k = 3 by omega) with rfl | rfl | rfl | rfl <;> exact rfl
  · rcases (show k = 0 ∨ k = 1 ∨ k = 2 ∨ k = 3 by omega) with rfl | rfl | rfl | rfl <;> exact ⟨rfl, rfl⟩
theorem skM : sk 122 = .inr (5, [some 123, some 124, some 125, some 126, some 127, some 128, some 129, some 130, some 131, some 132, some 133, some 134, some 135, some 136, some 137, some 138, none, some 139, some 140, some 141, some 142, some 143, none]) := rfl
theorem skA (i : Nat) (h : i < 21) : sk (123 + i) = .inl (mTy i, mLen i, none) := by
  unfold sk
  simp only [show ¬ 123 + i = 0 by omega, show ¬ 123 + i = 1 by omega, show ¬ 123 + i = 2 by omega, show ¬ 123 + i = 3 by omega, show ¬ 123 + i < 59 by omega, show ¬ 123 + i < 114 by omega, show ¬ 123 + i < 122 by omega, show ¬ 123 + i = 122 by omega, show 123 + i < 144 by omega, if_false, if_true, Nat.add_sub_cancel_left]
