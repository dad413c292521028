/-! THE PURE MACHINE: cells by their number (address = base + number), values with numbers for addresses; each row turns a step of the bytecode into a step of it -/
abbrev PE : Type := (Nat × Nat × ((Nat → Int32) ⊕ (Nat → Option Nat))) ⊕ (Nat × List Value)
abbrev Mem : Type := Nat → PE
abbrev RS : Type := Option Value × Nat × Mem
def aty : Nat → FieldType := fun t => match t with
  | 0 => .int
  | 1 => .boolean
  | 2 => .object (fR 3)
  | 3 => .object (fR 2)
  | 4 => .object (fR 0)
  | _ => .object (fR 1)
def tyL (ac : Nat → ClassId) : List (ClassId × FieldType) := [(ac 0, aty 0), (ac 1, aty 1), (ac 2, aty 2), (ac 3, aty 3), (ac 4, aty 4), (ac 5, aty 5)]
def ev (b : Nat) (v : Value) : Value := match v with
  | .ref k => .ref (b + k)
  | v => v
def eE (b : Nat) (ac : Nat → ClassId) (e : PE) : va_E := match e with
  | .inl (t, n, .inl f) => .inl (ac t, n, .inl f)
  | .inl (t, n, .inr f) => .inl (ac t, n, .inr (.inr (.inr (.inr (fun i => (f i).map (fun k => b + k))))))
  | .inr (ci, fs) => .inr (ci, fs.map (ev b))
def wsM (b : Nat) (ac : Nat → ClassId) (N : Nat) (M : Mem) : va_W := (List.range N).map (fun k => (b + k, eE b ac (M k)))
def um (M : Mem) (k : Nat) (e : PE) : Mem := fun j => if j = k then e else M j
def Rp (D : va_G) (ac : Nat → ClassId) (b N : Nat) (M : Mem) (H : Heap) : Prop := H.size = b + N ∧ va_P D clsL (wsM b ac N M) H
def At (N : Nat) (M : Mem) (a : Nat) (e : PE) : Prop := a < N ∧ M a = e
theorem ev_cat (b : Nat) (v : Value) : (ev b v).category = v.category := by cases v <;> rfl
theorem ev_cats (b : Nat) (l : List Value) : ((l.map (ev b)).map fun v => v.category) = (l.map fun v => v.category) := by
  induction l with
  | nil => rfl
  | cons a l ih => simp only [List.map_cons, ev_cat, ih]
theorem wsM_at {b : Nat} {ac : Nat → ClassId} {N : Nat} {M : Mem} {k : Nat} {e : PE} (h : At N M k e) : (wsM b ac N M)[k]? = some (b + k, eE b ac e) := by
  unfold wsM
  rw [List.getElem?_map, List.getElem?_range h.1, ← h.2]
  rfl
theorem wsM_set {b : Nat} {ac : Nat → ClassId} {N : Nat} {M : Mem} {k : Nat} (e : PE) (h : k < N) : (wsM b ac N M).set k (b + k, eE b ac e) = wsM b ac N (um M k e) := by
  apply List.ext_getElem?
  intro i
  unfold wsM
  by_cases hi : i = k
  · subst hi
    rw [List.getElem?_set_self (by simpa using h), List.getElem?_map, List.getElem?_range h]
    simp [um]
  · rw [List.getElem?_set_ne (Ne.symm hi), List.getElem?_map, List.getElem?_map]
    simp [um]
    by_cases hn : i < N
    · rw [List.getElem?_range hn]
      simp [hi]
    · rw [List.getElem?_eq_none (by simpa using hn)]
      rfl
theorem wsM_push {b : Nat} {ac : Nat → ClassId} {N : Nat} {M : Mem} (e : PE) : wsM b ac N M ++ [(b + N, eE b ac e)] = wsM b ac (N + 1) (um M N e) := by
  unfold wsM
  rw [List.range_succ, List.map_append]
  congr 1
  · apply List.map_congr_left
    intro k hk
    have : k ≠ N := by have := List.mem_range.mp hk; omega
    simp [um, this]
  · simp [um]
theorem wsM_mem {b : Nat} {ac : Nat → ClassId} {N : Nat} {M : Mem} {i : Nat} {q : Nat × va_E} (h : (wsM b ac N M)[i]? = some q) : q.1 = b + i := by
  unfold wsM at h
  rw [List.getElem?_map] at h
  cases hr : (List.range N)[i]? with
  | none => rw [hr] at h; cases h
  | some j =>
    rw [hr] at h
    obtain ⟨h1, h2⟩ := List.getElem?_eq_some_iff.mp hr
    simp at h2
    subst h2
    cases h
    rfl
theorem wsM_D {b : Nat} {ac : Nat → ClassId} {N : Nat} {M : Mem} : va_D (fun q => b ≤ q) (wsM b ac N M) := by
  refine ⟨fun i j x y hx hy hxy => ?_, fun k q hk => ?_⟩
  · have h1 := wsM_mem hx
    have h2 := wsM_mem hy
    omega
  · have h1 := wsM_mem hk
    show b ≤ q.1
    omega
/-- what doesn't count among the good words: links of nest mates, arrays over classes -/
def nests : List (String × Nat × MethodName) := [("SpanStore$Keeper", 27, y_C_isCongruent), ("SpanStore$Block", 107, y_C_isCongruent), ("SpanStore$Block", 118, y_C_isFact), ("SpanStore$Block", 124, y_C_mixed), ("SpanStore$Table", 84, y_C_mixed)]
def Nx (U : State) : Prop := (∀ q ∈ nests, va_Nw (.methodLinkNest q.1 q.2.1 q.2.2 "SpanStore") U) ∧ va_AO (fR 3) U ∧ va_AO (fR 2) U ∧ va_AO (fR 0) U ∧ va_AO (fR 1) U
def Kx (D : va_G) (ac : Nat → ClassId) (U : State) : Prop := va_K D clsL (tyL ac) U ∧ Nx U
theorem Nx.warm {s U : State} (hW : s.WarmedH U.vm) (h : Nx s) : Nx U := ⟨fun q hq => va_Nw.warmM hW (h.1 q hq), h.2.1.moved hW.alike, h.2.2.1.moved hW.alike, h.2.2.2.1.moved hW.alike, h.2.2.2.2.moved hW.alike⟩
theorem Nx.same {s U : State} (hv : s.vm = U.vm) (h : Nx s) : Nx U := ⟨fun q hq => va_Nw.same rfl hv (h.1 q hq), h.2.1.moved (hv ▸ Vm.Alike.refl s.vm), h.2.2.1.moved (hv ▸ Vm.Alike.refl s.vm), h.2.2.2.1.moved (hv ▸ Vm.Alike.refl s.vm), h.2.2.2.2.moved (hv ▸ Vm.Alike.refl s.vm)⟩
theorem Kx.warm {D : va_G} {ac : Nat → ClassId} {s U : State} (hW : s.WarmedH U.vm) (h : Kx D ac s) : Kx D ac U := ⟨h.1.moved hW.alike, h.2.warm hW⟩
theorem Kx.same {D : va_G} {ac : Nat → ClassId} {s U : State} (hv : s.vm = U.vm) (h : Kx D ac s) : Kx D ac U := ⟨h.1.moved (hv ▸ Vm.Alike.refl s.vm), h.2.same hv⟩
theorem va_S.thn {A : Nat → Prop} {H0 H H1 : Heap} {locs locs1 : List Loc} (h : va_S A H0 H locs) (h1 : va_S A H H1 locs1) : va_S A H0 H1 locs1 := ⟨Nat.le_trans h.1 h1.1, fun q hq hA => (h1.2.1 q (Nat.lt_of_lt_of_le hq h.1) hA).trans (h.2.1 q hq hA), h1.2.2⟩
theorem va_S.here {A : Nat → Prop} {H0 H : Heap} {locs : List Loc} (h : va_S A H0 H locs) : va_S A H H locs := ⟨Nat.le_refl _, fun _ _ _ => rfl, h.2.2⟩
theorem W_sz {p : Program} {l : Launch} {e : Env} {R : Room} {s : State} {m : MethodId} {args : Array Value} {below : List Frame} {meth : Method} {c : Code} {H : Heap} {locs : List Loc} {cells slots : Nat} {Q : State → Prop} {g : JFrame} (k : H.size ≤ s.heap.size + cells → W p l e R s m args below meth c H locs cells slots Q g) : W p l e R s m args below meth c H locs cells slots Q g := fun T hT X => k (by have := X.heapSize; rw [hT] at this; exact this) T hT X
/-- a method's contract: from the memory M of N cells, with these arguments, it returns, with this answer and this memory -/
def Pre (D : va_G) (ac : Nat → ClassId) (b N : Nat) (M : Mem) (av : List Value) : Array Value → State → Prop := va_Pc (av.map (ev b)) (fun U => Rp D ac b N M U.heap ∧ Kx D ac U)
def Pst (D : va_G) (ac : Nat → ClassId) (b : Nat) (r : RS) : Array Value → State → Outcome → State → Prop := fun _ st oc t => oc = .returned (r.1.map (ev b)) ∧ Rp D ac b r.2.1 r.2.2 t.heap ∧ va_F (fun q => b ≤ q) st t
def Ct (l : Launch) (D : va_G) (ac : Nat → ClassId) (b : Nat) (y : MethodName) (cc : ByteArray) (nL : Nat) (rt : Option FieldType) (fr lo mc ms : Nat) (av : List Value) (N : Nat) (M : Mem) (r : RS) : Prop :=
  Met l y (Cond.code y cc nL rt :: tbG) ({ frames := fr, cells := mc, slots := ms, locals := lo }) (Pre D ac b N M av) (Pst D ac b r) mc ms (fun q => b ≤ q)
theorem Pre.blind (D : va_G) (ac : Nat → ClassId) (b N : Nat) (M : Mem) (av : List Value) : FrameBlind (Pre D ac b N M av) := by
  intro a U g mk h
  obtain ⟨h1, h2, h3⟩ := h
  exact ⟨h1, h2, h3.same rfl⟩
def Fx (D : va_G) (ac : Nat → ClassId) (b : Nat) (own : String) (cc : ByteArray) (nL : Nat) (rt : Option FieldType) (i0 : Bool) (p : Program) (s : State) (m : MethodId) (args : Array Value) (meth : Method) (c : Code) : Prop :=
  p.tables.exec = Jvm.exec ∧ c.code = cc ∧ c.maxLocals = nL ∧ meth.sig.returnType = rt ∧ s.vm.findClass own = some m.cls ∧ (∀ w ∈ tbG, w.before args s = true) ∧ meth.locks = false ∧ Kx D ac s ∧ b ≤ s.heap.size ∧ (i0 = true → meth.name = "<init>")
def el (b : Nat) (q : Nat × Value) : Nat × Value := (q.1, ev b q.2)
/-- the method stands at pc with these locals, this stack, this memory, and comes to its end with r -/
def V (l : Launch) (D : va_G) (ac : Nat → ClassId) (b : Nat) (own : String) (cc : ByteArray) (nL : Nat) (rt : Option FieldType) (i0 : Bool) (fr lo mc ms : Nat) (r : RS) (cs sl pc : Nat) (lv : List (Nat × Value)) (st : List Value) (N : Nat) (M : Mem) : Prop :=
  ∀ (p : Program) (e : Env) (s : State) (m : MethodId) (args : Array Value) (below : List Frame) (meth : Method) (c : Code) (H : Heap) (locs : List Loc) (ls : Array Slot) (Qc : Array Value → State → Outcome → State → Prop),
    Fx D ac b own cc nL rt i0 p s m args meth c → (Rp D ac b N M H ∧ b + N = s.heap.size + cs) → va_S (fun q => b ≤ q) s.heap H locs → lv_has ls nL (lv.map (el b)) →
    (∀ t : State, Rp D ac b r.2.1 r.2.2 t.heap → s.WarmedH t.vm → va_F (fun q => b ≤ q) s t → Qc args s (.returned (r.1.map (ev b))) t) →
    W p l e ({ frames := fr, cells := mc, slots := ms, locals := lo }) s m args below meth c H locs cs sl (MQ below Qc args s mc ms (fun q => b ≤ q)) (F0 m pc ls (st.map (ev b)))

section PM
variable {l : Launch} {D : va_G} {ac : Nat → ClassId} {b : Nat} {own : String} {cc : ByteArray} {nL : Nat} {rt : Option FieldType} {i0 : Bool} {fr lo mc ms : Nat} {r : RS} {cs sl pc q : Nat} {lv : List (Nat × Value)} {st : List Value} {N : Nat} {M : Mem}
theorem s_iconst {n : Int} {v : Int32} (hd : decode cc pc = .ok (.iconst n, 1)) (hq : pc + 1 = q) (hv : Int32.ofInt n = v) (k : V l D ac b own cc nL rt i0 fr lo mc ms r cs sl q lv (.int v :: st) N M) : V l D ac b own cc nL rt i0 fr lo mc ms r cs sl pc lv (st) N M := by
  subst hq
  intro p e s m args below meth c H locs ls Qc F hR hS hl hQ
  exact lv_iconst F.1 F.2.1 hd hv (k p e s m args below meth c H locs ls Qc F hR hS hl hQ)
theorem s_bipush {n : Int} {v : Int32} (hd : decode cc pc = .ok (.bipush n, 2)) (hq : pc + 2 = q) (hv : (Int8.ofInt n).toInt32 = v) (k : V l D ac b own cc nL rt i0 fr lo mc ms r cs sl q lv (.int v :: st) N M) : V l D ac b own cc nL rt i0 fr lo mc ms r cs sl pc lv (st) N M := by
  subst hq
  intro p e s m args below meth c H locs ls Qc F hR hS hl hQ
  exact lv_bipush F.1 F.2.1 hd hv (k p e s m args below meth c H locs ls Qc F hR hS hl hQ)
theorem s_sipush {n : Int} {v : Int32} (hd : decode cc pc = .ok (.sipush n, 3)) (hq : pc + 3 = q) (hv : (Int16.ofInt n).toInt32 = v) (k : V l D ac b own cc nL rt i0 fr lo mc ms r cs sl q lv (.int v :: st) N M) : V l D ac b own cc nL rt i0 fr lo mc ms r cs sl pc lv (st) N M := by
  subst hq
  intro p e s m args below meth c H locs ls Qc F hR hS hl hQ
  exact lv_sipush F.1 F.2.1 hd hv (k p e s m args below meth c H locs ls Qc F hR hS hl hQ)
theorem s_lconst {n : Fin 2} {v : Int64} (hd : decode cc pc = .ok (.lconst n, 1)) (hq : pc + 1 = q) (hv : Int64.ofNat n.val = v) (k : V l D ac b own cc nL rt i0 fr lo mc ms r cs sl q lv (.long v :: st) N M) : V l D ac b own cc nL rt i0 fr lo mc ms r cs sl pc lv (st) N M := by
  subst hq
  intro p e s m args below meth c H locs ls Qc F hR hS hl hQ
  exact lv_lconst F.1 F.2.1 hd hv (k p e s m args below meth c H locs ls Qc F hR hS hl hQ)
theorem s_aconst  (hd : decode cc pc = .ok (.aconst_null, 1)) (hq : pc + 1 = q)  (k : V l D ac b own cc nL rt i0 fr lo mc ms r cs sl q lv (.null :: st) N M) : V l D ac b own cc nL rt i0 fr lo mc ms r cs sl pc lv (st) N M := by
  subst hq
  intro p e s m args below meth c H locs ls Qc F hR hS hl hQ
  exact lv_null F.1 F.2.1 hd (k p e s m args below meth c H locs ls Qc F hR hS hl hQ)
theorem s_ldc {i : Nat} {v : Int32} (hd : decode cc pc = .ok (.ldc i, 2)) (hq : pc + 2 = q) (hw : Cond.constant own i v ∈ tbG) (k : V l D ac b own cc nL rt i0 fr lo mc ms r cs sl q lv (.int v :: st) N M) : V l D ac b own cc nL rt i0 fr lo mc ms r cs sl pc lv (st) N M := by
  subst hq
  intro p e s m args below meth c H locs ls Qc F hR hS hl hQ
  exact lv_ldc F.1 F.2.1 F.2.2.2.2.1 (F.2.2.2.2.2.1 _ hw) hd (k p e s m args below meth c H locs ls Qc F hR hS hl hQ)
theorem s_ldcw {i : Nat} {v : Int32} (hd : decode cc pc = .ok (.ldc_w i, 3)) (hq : pc + 3 = q) (hw : Cond.constant own i v ∈ tbG) (k : V l D ac b own cc nL rt i0 fr lo mc ms r cs sl q lv (.int v :: st) N M) : V l D ac b own cc nL rt i0 fr lo mc ms r cs sl pc lv (st) N M := by
  subst hq
  intro p e s m args below meth c H locs ls Qc F hR hS hl hQ
  exact lv_ldcw F.1 F.2.1 F.2.2.2.2.1 (F.2.2.2.2.2.1 _ hw) hd (k p e s m args below meth c H locs ls Qc F hR hS hl hQ)
theorem s_ldc2 {i : Nat} {v : Int64} (hd : decode cc pc = .ok (.ldc2_w i, 3)) (hq : pc + 3 = q) (hw : Cond.constantLong own i v ∈ tbG) (k : V l D ac b own cc nL rt i0 fr lo mc ms r cs sl q lv (.long v :: st) N M) : V l D ac b own cc nL rt i0 fr lo mc ms r cs sl pc lv (st) N M := by
  subst hq
  intro p e s m args below meth c H locs ls Qc F hR hS hl hQ
  exact lv_ldc2 F.1 F.2.1 F.2.2.2.2.1 (F.2.2.2.2.2.1 _ hw) hd (k p e s m args below meth c H locs ls Qc F hR hS hl hQ)
theorem s_iadd {x y : Int32} (hd : decode cc pc = .ok (.iadd, 1)) (hq : pc + 1 = q)  (k : V l D ac b own cc nL rt i0 fr lo mc ms r cs sl q lv (.int (x + y) :: st) N M) : V l D ac b own cc nL rt i0 fr lo mc ms r cs sl pc lv (.int y :: .int x :: st) N M := by
  subst hq
  intro p e s m args below meth c H locs ls Qc F hR hS hl hQ
  exact lv_iadd F.1 F.2.1 hd (k p e s m args below meth c H locs ls Qc F hR hS hl hQ)
theorem s_isub {x y : Int32} (hd : decode cc pc = .ok (.isub, 1)) (hq : pc + 1 = q)  (k : V l D ac b own cc nL rt i0 fr lo mc ms r cs sl q lv (.int (x - y) :: st) N M) : V l D ac b own cc nL rt i0 fr lo mc ms r cs sl pc lv (.int y :: .int x :: st) N M := by
  subst hq
  intro p e s m args below meth c H locs ls Qc F hR hS hl hQ
  exact lv_isub F.1 F.2.1 hd (k p e s m args below meth c H locs ls Qc F hR hS hl hQ)
theorem s_imul {x y : Int32} (hd : decode cc pc = .ok (.imul, 1)) (hq : pc + 1 = q)  (k : V l D ac b own cc nL rt i0 fr lo mc ms r cs sl q lv (.int (x * y) :: st) N M) : V l D ac b own cc nL rt i0 fr lo mc ms r cs sl pc lv (.int y :: .int x :: st) N M := by
  subst hq
  intro p e s m args below meth c H locs ls Qc F hR hS hl hQ
  exact lv_imul F.1 F.2.1 hd (k p e s m args below meth c H locs ls Qc F hR hS hl hQ)
theorem s_iand {x y : Int32} (hd : decode cc pc = .ok (.iand, 1)) (hq : pc + 1 = q)  (k : V l D ac b own cc nL rt i0 fr lo mc ms r cs sl q lv (.int (x &&& y) :: st) N M) : V l D ac b own cc nL rt i0 fr lo mc ms r cs sl pc lv (.int y :: .int x :: st) N M := by
  subst hq
  intro p e s m args below meth c H locs ls Qc F hR hS hl hQ
  exact lv_iand F.1 F.2.1 hd (k p e s m args below meth c H locs ls Qc F hR hS hl hQ)
theorem s_ior {x y : Int32} (hd : decode cc pc = .ok (.ior, 1)) (hq : pc + 1 = q)  (k : V l D ac b own cc nL rt i0 fr lo mc ms r cs sl q lv (.int (x ||| y) :: st) N M) : V l D ac b own cc nL rt i0 fr lo mc ms r cs sl pc lv (.int y :: .int x :: st) N M := by
  subst hq
  intro p e s m args below meth c H locs ls Qc F hR hS hl hQ
  exact lv_ior F.1 F.2.1 hd (k p e s m args below meth c H locs ls Qc F hR hS hl hQ)
theorem s_ladd {x y : Int64} (hd : decode cc pc = .ok (.ladd, 1)) (hq : pc + 1 = q)  (k : V l D ac b own cc nL rt i0 fr lo mc ms r cs sl q lv (.long (x + y) :: st) N M) : V l D ac b own cc nL rt i0 fr lo mc ms r cs sl pc lv (.long y :: .long x :: st) N M := by
  subst hq
  intro p e s m args below meth c H locs ls Qc F hR hS hl hQ
  exact lv_ladd F.1 F.2.1 hd (k p e s m args below meth c H locs ls Qc F hR hS hl hQ)
theorem s_lsub {x y : Int64} (hd : decode cc pc = .ok (.lsub, 1)) (hq : pc + 1 = q)  (k : V l D ac b own cc nL rt i0 fr lo mc ms r cs sl q lv (.long (x - y) :: st) N M) : V l D ac b own cc nL rt i0 fr lo mc ms r cs sl pc lv (.long y :: .long x :: st) N M := by
  subst hq
  intro p e s m args below meth c H locs ls Qc F hR hS hl hQ
  exact lv_lsub F.1 F.2.1 hd (k p e s m args below meth c H locs ls Qc F hR hS hl hQ)
theorem s_lmul {x y : Int64} (hd : decode cc pc = .ok (.lmul, 1)) (hq : pc + 1 = q)  (k : V l D ac b own cc nL rt i0 fr lo mc ms r cs sl q lv (.long (x * y) :: st) N M) : V l D ac b own cc nL rt i0 fr lo mc ms r cs sl pc lv (.long y :: .long x :: st) N M := by
  subst hq
  intro p e s m args below meth c H locs ls Qc F hR hS hl hQ
  exact lv_lmul F.1 F.2.1 hd (k p e s m args below meth c H locs ls Qc F hR hS hl hQ)
theorem s_idiv {x y : Int32} (hd : decode cc pc = .ok (.idiv, 1)) (hq : pc + 1 = q) (hne : ¬ y = 0) (k : V l D ac b own cc nL rt i0 fr lo mc ms r cs sl q lv (.int (x / y) :: st) N M) : V l D ac b own cc nL rt i0 fr lo mc ms r cs sl pc lv (.int y :: .int x :: st) N M := by
  subst hq
  intro p e s m args below meth c H locs ls Qc F hR hS hl hQ
  exact lv_idiv F.1 F.2.1 hd hne (k p e s m args below meth c H locs ls Qc F hR hS hl hQ)
theorem s_irem {x y : Int32} (hd : decode cc pc = .ok (.irem, 1)) (hq : pc + 1 = q) (hne : ¬ y = 0) (k : V l D ac b own cc nL rt i0 fr lo mc ms r cs sl q lv (.int (x - x / y * y) :: st) N M) : V l D ac b own cc nL rt i0 fr lo mc ms r cs sl pc lv (.int y :: .int x :: st) N M := by
  subst hq
  intro p e s m args below meth c H locs ls Qc F hR hS hl hQ
  exact lv_irem F.1 F.2.1 hd hne (k p e s m args below meth c H locs ls Qc F hR hS hl hQ)
theorem s_ineg {x : Int32} (hd : decode cc pc = .ok (.ineg, 1)) (hq : pc + 1 = q)  (k : V l D ac b own cc nL rt i0 fr lo mc ms r cs sl q lv (.int (-x) :: st) N M) : V l D ac b own cc nL rt i0 fr lo mc ms r cs sl pc lv (.int x :: st) N M := by
  subst hq
  intro p e s m args below meth c H locs ls Qc F hR hS hl hQ
  exact lv_ineg F.1 F.2.1 hd (k p e s m args below meth c H locs ls Qc F hR hS hl hQ)
theorem s_i2l {x : Int32} (hd : decode cc pc = .ok (.i2l, 1)) (hq : pc + 1 = q)  (k : V l D ac b own cc nL rt i0 fr lo mc ms r cs sl q lv (.long x.toInt64 :: st) N M) : V l D ac b own cc nL rt i0 fr lo mc ms r cs sl pc lv (.int x :: st) N M := by
  subst hq
  intro p e s m args below meth c H locs ls Qc F hR hS hl hQ
  exact lv_i2l F.1 F.2.1 hd rfl (k p e s m args below meth c H locs ls Qc F hR hS hl hQ)
theorem s_i2b {x : Int32} (hd : decode cc pc = .ok (.i2b, 1)) (hq : pc + 1 = q)  (k : V l D ac b own cc nL rt i0 fr lo mc ms r cs sl q lv (.int x.toInt8.toInt32 :: st) N M) : V l D ac b own cc nL rt i0 fr lo mc ms r cs sl pc lv (.int x :: st) N M := by
  subst hq
  intro p e s m args below meth c H locs ls Qc F hR hS hl hQ
  exact lv_i2b F.1 F.2.1 hd rfl (k p e s m args below meth c H locs ls Qc F hR hS hl hQ)
theorem s_i2s {x : Int32} (hd : decode cc pc = .ok (.i2s, 1)) (hq : pc + 1 = q)  (k : V l D ac b own cc nL rt i0 fr lo mc ms r cs sl q lv (.int x.toInt16.toInt32 :: st) N M) : V l D ac b own cc nL rt i0 fr lo mc ms r cs sl pc lv (.int x :: st) N M := by
  subst hq
  intro p e s m args below meth c H locs ls Qc F hR hS hl hQ
  exact lv_i2s F.1 F.2.1 hd rfl (k p e s m args below meth c H locs ls Qc F hR hS hl hQ)
theorem s_lcmp {x y : Int64} (hd : decode cc pc = .ok (.lcmp, 1)) (hq : pc + 1 = q)  (k : V l D ac b own cc nL rt i0 fr lo mc ms r cs sl q lv (.int (lg_cmp x y) :: st) N M) : V l D ac b own cc nL rt i0 fr lo mc ms r cs sl pc lv (.long y :: .long x :: st) N M := by
  subst hq
  intro p e s m args below meth c H locs ls Qc F hR hS hl hQ
  exact W.lcmp F.1 F.2.1 hd (k p e s m args below meth c H locs ls Qc F hR hS hl hQ)
theorem s_dup {v : Value} (hd : decode cc pc = .ok (.dup, 1)) (hq : pc + 1 = q) (hc : v.category = 1) (k : V l D ac b own cc nL rt i0 fr lo mc ms r cs sl q lv (v :: v :: st) N M) : V l D ac b own cc nL rt i0 fr lo mc ms r cs sl pc lv (v :: st) N M := by
  subst hq
  intro p e s m args below meth c H locs ls Qc F hR hS hl hQ
  exact lv_dup F.1 F.2.1 hd ((ev_cat b v).trans hc) (k p e s m args below meth c H locs ls Qc F hR hS hl hQ)
theorem s_pop {v : Value} (hd : decode cc pc = .ok (.pop, 1)) (hq : pc + 1 = q) (hc : v.category = 1) (k : V l D ac b own cc nL rt i0 fr lo mc ms r cs sl q lv (st) N M) : V l D ac b own cc nL rt i0 fr lo mc ms r cs sl pc lv (v :: st) N M := by
  subst hq
  intro p e s m args below meth c H locs ls Qc F hR hS hl hQ
  exact lv_pop F.1 F.2.1 hd ((ev_cat b v).trans hc) (k p e s m args below meth c H locs ls Qc F hR hS hl hQ)
theorem s_dup2 {v w : Value} (hd : decode cc pc = .ok (.dup2, 1)) (hq : pc + 1 = q) (hc : v.category = 1) (hc2 : w.category = 1) (k : V l D ac b own cc nL rt i0 fr lo mc ms r cs sl q lv (v :: w :: v :: w :: st) N M) : V l D ac b own cc nL rt i0 fr lo mc ms r cs sl pc lv (v :: w :: st) N M := by
  subst hq
  intro p e s m args below meth c H locs ls Qc F hR hS hl hQ
  exact lv_dup2_11 F.1 F.2.1 hd ((ev_cat b v).trans hc) ((ev_cat b w).trans hc2) (k p e s m args below meth c H locs ls Qc F hR hS hl hQ)
theorem lg_at {ls : Array Slot} {i : Nat} {v : Value} (h : lv_has ls nL (lv.map (el b))) (hg : lv.lookup i = some v) : ls[i]? = some (.val (ev b v)) := by
  have hm : (i, v) ∈ lv := by
    clear h
    induction lv with
    | nil => simp at hg
    | cons a t ih =>
      rw [List.lookup_cons] at hg
      by_cases he : (i == a.1) = true
      · rw [he] at hg
        obtain rfl := Option.some.inj hg
        have : i = a.1 := by simpa using he
        rw [this]
        exact List.mem_cons_self
      · rw [Bool.not_eq_true] at he
        rw [he] at hg
        exact List.mem_cons_of_mem _ (ih hg)
  exact h.2.2 (i, ev b v) (List.mem_map.mpr ⟨(i, v), hm, rfl⟩)
def stl (i : Nat) (v : Value) (lv : List (Nat × Value)) : List (Nat × Value) := (i, v) :: lv.filter (fun q => !(q.1 == i) && !(q.1 + 1 == i && q.2.category == 2))
def stl2 (i : Nat) (v : Value) (lv : List (Nat × Value)) : List (Nat × Value) := (i, v) :: lv.filter (fun q => !(q.1 == i) && (!(q.1 == i + 1) && !(q.1 + 1 == i && q.2.category == 2)))
theorem stl_map (i : Nat) (v : Value) (lv : List (Nat × Value)) : (i, ev b v) :: (lv.map (el b)).filter (fun q => !(q.1 == i) && !(q.1 + 1 == i && q.2.category == 2)) = (stl i v lv).map (el b) := by
  unfold stl
  rw [List.map_cons, List.filter_map]
  congr 2
  apply List.filter_congr
  intro x _
  simp [el, ev_cat]
theorem stl2_map (i : Nat) (v : Value) (lv : List (Nat × Value)) : (i, ev b v) :: (lv.map (el b)).filter (fun q => !(q.1 == i) && (!(q.1 == i + 1) && !(q.1 + 1 == i && q.2.category == 2))) = (stl2 i v lv).map (el b) := by
  unfold stl2
  rw [List.map_cons, List.filter_map]
  congr 2
  apply List.filter_congr
  intro x _
  simp [el, ev_cat]
def subL : List (Nat × Value) → List (Nat × Value) → Prop
  | [], _ => True
  | p :: t, lv => lv.lookup p.1 = some p.2 ∧ subL t lv
theorem s_lv {lv' : List (Nat × Value)} (h : subL lv' lv) (k : V l D ac b own cc nL rt i0 fr lo mc ms r cs sl pc lv' st N M) : V l D ac b own cc nL rt i0 fr lo mc ms r cs sl pc lv st N M := by
  intro p e s m args below meth c H locs ls Qc F hR hS hl hQ
  refine k p e s m args below meth c H locs ls Qc F hR hS ⟨hl.1, hl.2.1, ?_⟩ hQ
  intro x hx
  obtain ⟨y, hy, rfl⟩ := List.mem_map.mp hx
  clear k hx
  induction lv' with
  | nil => simp at hy
  | cons a t ih =>
    rcases List.mem_cons.mp hy with rfl | h2
    · exact lg_at hl h.1
    · exact ih h.2 h2
theorem s_iload_n {k4 : Fin 4} {x : Int32} (hd : decode cc pc = .ok (.iload_n k4, 1)) (hq : pc + 1 = q) (hg : lv.lookup k4.val = some (Value.int x)) (k : V l D ac b own cc nL rt i0 fr lo mc ms r cs sl q lv (Value.int x :: st) N M) : V l D ac b own cc nL rt i0 fr lo mc ms r cs sl pc lv st N M := by
  subst hq
  intro p e s m args below meth c H locs ls Qc F hR hS hl hQ
  exact lv_iload_n F.1 F.2.1 hd rfl (lg_at hl hg) (k p e s m args below meth c H locs ls Qc F hR hS hl hQ)
theorem s_iload {i : Nat} {x : Int32} (hd : decode cc pc = .ok (.iload i, 2)) (hq : pc + 2 = q) (hg : lv.lookup i = some (Value.int x)) (k : V l D ac b own cc nL rt i0 fr lo mc ms r cs sl q lv (Value.int x :: st) N M) : V l D ac b own cc nL rt i0 fr lo mc ms r cs sl pc lv st N M := by
  subst hq
  intro p e s m args below meth c H locs ls Qc F hR hS hl hQ
  exact lv_iload F.1 F.2.1 hd (lg_at hl hg) (k p e s m args below meth c H locs ls Qc F hR hS hl hQ)
theorem s_lload_n {k4 : Fin 4} {x : Int64} (hd : decode cc pc = .ok (.lload_n k4, 1)) (hq : pc + 1 = q) (hg : lv.lookup k4.val = some (Value.long x)) (k : V l D ac b own cc nL rt i0 fr lo mc ms r cs sl q lv (Value.long x :: st) N M) : V l D ac b own cc nL rt i0 fr lo mc ms r cs sl pc lv st N M := by
  subst hq
  intro p e s m args below meth c H locs ls Qc F hR hS hl hQ
  exact lv_lload_n F.1 F.2.1 hd rfl (lg_at hl hg) (k p e s m args below meth c H locs ls Qc F hR hS hl hQ)
theorem s_lload {i : Nat} {x : Int64} (hd : decode cc pc = .ok (.lload i, 2)) (hq : pc + 2 = q) (hg : lv.lookup i = some (Value.long x)) (k : V l D ac b own cc nL rt i0 fr lo mc ms r cs sl q lv (Value.long x :: st) N M) : V l D ac b own cc nL rt i0 fr lo mc ms r cs sl pc lv st N M := by
  subst hq
  intro p e s m args below meth c H locs ls Qc F hR hS hl hQ
  exact lv_lload F.1 F.2.1 hd (lg_at hl hg) (k p e s m args below meth c H locs ls Qc F hR hS hl hQ)
theorem s_aload_n {k4 : Fin 4} {v : Value} (hd : decode cc pc = .ok (.aload_n k4, 1)) (hq : pc + 1 = q) (hg : lv.lookup k4.val = some v) (hv : v = .null ∨ ∃ a, v = .ref a) (k : V l D ac b own cc nL rt i0 fr lo mc ms r cs sl q lv (v :: st) N M) : V l D ac b own cc nL rt i0 fr lo mc ms r cs sl pc lv st N M := by
  subst hq
  intro p e s m args below meth c H locs ls Qc F hR hS hl hQ
  rcases hv with rfl | ⟨a, rfl⟩
  · exact lv_aload_nN F.1 F.2.1 hd rfl (lg_at hl hg) (k p e s m args below meth c H locs ls Qc F hR hS hl hQ)
  · exact lv_aload_n F.1 F.2.1 hd rfl (lg_at hl hg) (k p e s m args below meth c H locs ls Qc F hR hS hl hQ)
theorem s_istore_n {k4 : Fin 4} {x : Int32} (hd : decode cc pc = .ok (.istore_n k4, 1)) (hq : pc + 1 = q) (hn : k4.val < nL) (k : V l D ac b own cc nL rt i0 fr lo mc ms r cs sl q (stl k4.val (Value.int x) lv) st N M) : V l D ac b own cc nL rt i0 fr lo mc ms r cs sl pc lv (Value.int x :: st) N M := by
  subst hq
  intro p e s m args below meth c H locs ls Qc F hR hS hl hQ
  exact lv_istore_n F.1 F.2.1 hd rfl hl hn (stl_map k4.val (Value.int x) lv) (fun ls hl => k p e s m args below meth c H locs ls Qc F hR hS hl hQ)
theorem s_lstore_n {k4 : Fin 4} {x : Int64} (hd : decode cc pc = .ok (.lstore_n k4, 1)) (hq : pc + 1 = q) (hn : k4.val + 1 < nL) (k : V l D ac b own cc nL rt i0 fr lo mc ms r cs sl q (stl2 k4.val (Value.long x) lv) st N M) : V l D ac b own cc nL rt i0 fr lo mc ms r cs sl pc lv (Value.long x :: st) N M := by
  subst hq
  intro p e s m args below meth c H locs ls Qc F hR hS hl hQ
  exact lv_lstore_n F.1 F.2.1 hd rfl hl hn (stl2_map k4.val (Value.long x) lv) (fun ls hl => k p e s m args below meth c H locs ls Qc F hR hS hl hQ)
theorem s_astore_n {k4 : Fin 4} {v : Value} (hd : decode cc pc = .ok (.astore_n k4, 1)) (hq : pc + 1 = q) (hn : k4.val < nL) (hv : v = .null ∨ ∃ a, v = .ref a) (k : V l D ac b own cc nL rt i0 fr lo mc ms r cs sl q (stl k4.val v lv) st N M) : V l D ac b own cc nL rt i0 fr lo mc ms r cs sl pc lv (v :: st) N M := by
  subst hq
  intro p e s m args below meth c H locs ls Qc F hR hS hl hQ
  rcases hv with rfl | ⟨a, rfl⟩
  · exact lv_astore_nN F.1 F.2.1 hd rfl hl hn (stl_map k4.val .null lv) (fun ls hl => k p e s m args below meth c H locs ls Qc F hR hS hl hQ)
  · exact lv_astore_n F.1 F.2.1 hd rfl hl hn (stl_map k4.val (.ref a) lv) (fun ls hl => k p e s m args below meth c H locs ls Qc F hR hS hl hQ)
theorem s_aload {i : Nat} {v : Value} (hd : decode cc pc = .ok (.aload i, 2)) (hq : pc + 2 = q) (hg : lv.lookup i = some v) (hv : v = .null ∨ ∃ a, v = .ref a) (k : V l D ac b own cc nL rt i0 fr lo mc ms r cs sl q lv (v :: st) N M) : V l D ac b own cc nL rt i0 fr lo mc ms r cs sl pc lv st N M := by
  subst hq
  intro p e s m args below meth c H locs ls Qc F hR hS hl hQ
  rcases hv with rfl | ⟨a, rfl⟩
  · exact lv_aloadN F.1 F.2.1 hd (lg_at hl hg) (k p e s m args below meth c H locs ls Qc F hR hS hl hQ)
  · exact lv_aload F.1 F.2.1 hd (lg_at hl hg) (k p e s m args below meth c H locs ls Qc F hR hS hl hQ)
theorem s_istore {i : Nat} {x : Int32} (hd : decode cc pc = .ok (.istore i, 2)) (hq : pc + 2 = q) (hn : i < nL) (k : V l D ac b own cc nL rt i0 fr lo mc ms r cs sl q (stl i (Value.int x) lv) st N M) : V l D ac b own cc nL rt i0 fr lo mc ms r cs sl pc lv (Value.int x :: st) N M := by
  subst hq
  intro p e s m args below meth c H locs ls Qc F hR hS hl hQ
  exact lv_istore F.1 F.2.1 hd hl hn (stl_map i (Value.int x) lv) (fun ls hl => k p e s m args below meth c H locs ls Qc F hR hS hl hQ)
theorem s_lstore {i : Nat} {x : Int64} (hd : decode cc pc = .ok (.lstore i, 2)) (hq : pc + 2 = q) (hn : i + 1 < nL) (k : V l D ac b own cc nL rt i0 fr lo mc ms r cs sl q (stl2 i (Value.long x) lv) st N M) : V l D ac b own cc nL rt i0 fr lo mc ms r cs sl pc lv (Value.long x :: st) N M := by
  subst hq
  intro p e s m args below meth c H locs ls Qc F hR hS hl hQ
  exact lv_lstore F.1 F.2.1 hd hl hn (stl2_map i (Value.long x) lv) (fun ls hl => k p e s m args below meth c H locs ls Qc F hR hS hl hQ)
theorem s_astore {i : Nat} {v : Value} (hd : decode cc pc = .ok (.astore i, 2)) (hq : pc + 2 = q) (hn : i < nL) (hv : v = .null ∨ ∃ a, v = .ref a) (k : V l D ac b own cc nL rt i0 fr lo mc ms r cs sl q (stl i v lv) st N M) : V l D ac b own cc nL rt i0 fr lo mc ms r cs sl pc lv (v :: st) N M := by
  subst hq
  intro p e s m args below meth c H locs ls Qc F hR hS hl hQ
  rcases hv with rfl | ⟨a, rfl⟩
  · exact lv_astoreN F.1 F.2.1 hd hl hn (stl_map i .null lv) (fun ls hl => k p e s m args below meth c H locs ls Qc F hR hS hl hQ)
  · exact lv_astore F.1 F.2.1 hd hl hn (stl_map i (.ref a) lv) (fun ls hl => k p e s m args below meth c H locs ls Qc F hR hS hl hQ)
theorem s_iinc {i : Nat} {n : Int} {x v : Int32} (hd : decode cc pc = .ok (.iinc i n, 3)) (hq : pc + 3 = q) (hg : lv.lookup i = some (.int x)) (hv : x + Int32.ofInt n = v) (hn : i < nL) (k : V l D ac b own cc nL rt i0 fr lo mc ms r cs sl q (stl i (.int v) lv) st N M) : V l D ac b own cc nL rt i0 fr lo mc ms r cs sl pc lv st N M := by
  subst hq
  intro p e s m args below meth c H locs ls Qc F hR hS hl hQ
  have h1 := lg_at hl hg
  have hl2 : lv_has ls nL ((i, .int x) :: lv.map (el b)) := ⟨hl.1, hl.2.1, fun y hy => (List.mem_cons.mp hy).elim (fun e => e ▸ h1) (hl.2.2 y)⟩
  refine lv_iinc (k := 0) F.1 F.2.1 hd hl2 rfl hv hn rfl (fun ls hl => ?_)
  refine k p e s m args below meth c H locs ls Qc F hR hS ?_ hQ
  rw [← stl_map]
  refine ⟨hl.1, hl.2.1, fun y hy => hl.2.2 y ?_⟩
  rw [List.filter_cons]
  split
  · exact (List.mem_cons.mp hy).elim (fun e => List.mem_cons.mpr (Or.inl e)) (fun h => List.mem_cons_of_mem _ (List.mem_cons_of_mem _ h))
  · exact hy
theorem s_if_eq {x : Int32} {off : Int} {tgt : Nat} (hd : decode cc pc = .ok (.ifCond .eq off, 3)) (ht : (pc : Int) + off = (tgt : Int)) (hq : pc + 3 = q) (kt : x = 0 → V l D ac b own cc nL rt i0 fr lo mc ms r cs sl tgt lv st N M) (kf : ¬ x = 0 → V l D ac b own cc nL rt i0 fr lo mc ms r cs sl q lv st N M) : V l D ac b own cc nL rt i0 fr lo mc ms r cs sl pc lv (.int x :: st) N M := by
  subst hq
  intro p e s m args below meth c H locs ls Qc F hR hS hl hQ
  exact lv_if_eq F.1 F.2.1 hd ht (fun z => kt z p e s m args below meth c H locs ls Qc F hR hS hl hQ) (fun z => kf z p e s m args below meth c H locs ls Qc F hR hS hl hQ)
theorem s_icmp_eq {x y : Int32} {off : Int} {tgt : Nat} (hd : decode cc pc = .ok (.if_icmp .eq off, 3)) (ht : (pc : Int) + off = (tgt : Int)) (hq : pc + 3 = q) (kt : x = y → V l D ac b own cc nL rt i0 fr lo mc ms r cs sl tgt lv st N M) (kf : ¬ x = y → V l D ac b own cc nL rt i0 fr lo mc ms r cs sl q lv st N M) : V l D ac b own cc nL rt i0 fr lo mc ms r cs sl pc lv (.int y :: .int x :: st) N M := by
  subst hq
  intro p e s m args below meth c H locs ls Qc F hR hS hl hQ
  exact lv_icmp_eq F.1 F.2.1 hd ht (fun z => kt z p e s m args below meth c H locs ls Qc F hR hS hl hQ) (fun z => kf z p e s m args below meth c H locs ls Qc F hR hS hl hQ)
theorem s_if_ne {x : Int32} {off : Int} {tgt : Nat} (hd : decode cc pc = .ok (.ifCond .ne off, 3)) (ht : (pc : Int) + off = (tgt : Int)) (hq : pc + 3 = q) (kt : ¬ x = 0 → V l D ac b own cc nL rt i0 fr lo mc ms r cs sl tgt lv st N M) (kf : x = 0 → V l D ac b own cc nL rt i0 fr lo mc ms r cs sl q lv st N M) : V l D ac b own cc nL rt i0 fr lo mc ms r cs sl pc lv (.int x :: st) N M := by
  subst hq
  intro p e s m args below meth c H locs ls Qc F hR hS hl hQ
  exact lv_if_ne F.1 F.2.1 hd ht (fun z => kt z p e s m args below meth c H locs ls Qc F hR hS hl hQ) (fun z => kf z p e s m args below meth c H locs ls Qc F hR hS hl hQ)
theorem s_icmp_ne {x y : Int32} {off : Int} {tgt : Nat} (hd : decode cc pc = .ok (.if_icmp .ne off, 3)) (ht : (pc : Int) + off = (tgt : Int)) (hq : pc + 3 = q) (kt : ¬ x = y → V l D ac b own cc nL rt i0 fr lo mc ms r cs sl tgt lv st N M) (kf : x = y → V l D ac b own cc nL rt i0 fr lo mc ms r cs sl q lv st N M) : V l D ac b own cc nL rt i0 fr lo mc ms r cs sl pc lv (.int y :: .int x :: st) N M := by
  subst hq
  intro p e s m args below meth c H locs ls Qc F hR hS hl hQ
  exact lv_icmp_ne F.1 F.2.1 hd ht (fun z => kt z p e s m args below meth c H locs ls Qc F hR hS hl hQ) (fun z => kf z p e s m args below meth c H locs ls Qc F hR hS hl hQ)
theorem s_if_lt {x : Int32} {off : Int} {tgt : Nat} (hd : decode cc pc = .ok (.ifCond .lt off, 3)) (ht : (pc : Int) + off = (tgt : Int)) (hq : pc + 3 = q) (kt : x < 0 → V l D ac b own cc nL rt i0 fr lo mc ms r cs sl tgt lv st N M) (kf : ¬ x < 0 → V l D ac b own cc nL rt i0 fr lo mc ms r cs sl q lv st N M) : V l D ac b own cc nL rt i0 fr lo mc ms r cs sl pc lv (.int x :: st) N M := by
  subst hq
  intro p e s m args below meth c H locs ls Qc F hR hS hl hQ
  exact lv_if_lt F.1 F.2.1 hd ht (fun z => kt z p e s m args below meth c H locs ls Qc F hR hS hl hQ) (fun z => kf z p e s m args below meth c H locs ls Qc F hR hS hl hQ)
theorem s_icmp_lt {x y : Int32} {off : Int} {tgt : Nat} (hd : decode cc pc = .ok (.if_icmp .lt off, 3)) (ht : (pc : Int) + off = (tgt : Int)) (hq : pc + 3 = q) (kt : x < y → V l D ac b own cc nL rt i0 fr lo mc ms r cs sl tgt lv st N M) (kf : ¬ x < y → V l D ac b own cc nL rt i0 fr lo mc ms r cs sl q lv st N M) : V l D ac b own cc nL rt i0 fr lo mc ms r cs sl pc lv (.int y :: .int x :: st) N M := by
  subst hq
  intro p e s m args below meth c H locs ls Qc F hR hS hl hQ
  exact lv_icmp_lt F.1 F.2.1 hd ht (fun z => kt z p e s m args below meth c H locs ls Qc F hR hS hl hQ) (fun z => kf z p e s m args below meth c H locs ls Qc F hR hS hl hQ)
theorem s_if_ge {x : Int32} {off : Int} {tgt : Nat} (hd : decode cc pc = .ok (.ifCond .ge off, 3)) (ht : (pc : Int) + off = (tgt : Int)) (hq : pc + 3 = q) (kt : 0 ≤ x → V l D ac b own cc nL rt i0 fr lo mc ms r cs sl tgt lv st N M) (kf : ¬ 0 ≤ x → V l D ac b own cc nL rt i0 fr lo mc ms r cs sl q lv st N M) : V l D ac b own cc nL rt i0 fr lo mc ms r cs sl pc lv (.int x :: st) N M := by
  subst hq
  intro p e s m args below meth c H locs ls Qc F hR hS hl hQ
  exact lv_if_ge F.1 F.2.1 hd ht (fun z => kt z p e s m args below meth c H locs ls Qc F hR hS hl hQ) (fun z => kf z p e s m args below meth c H locs ls Qc F hR hS hl hQ)
theorem s_icmp_ge {x y : Int32} {off : Int} {tgt : Nat} (hd : decode cc pc = .ok (.if_icmp .ge off, 3)) (ht : (pc : Int) + off = (tgt : Int)) (hq : pc + 3 = q) (kt : y ≤ x → V l D ac b own cc nL rt i0 fr lo mc ms r cs sl tgt lv st N M) (kf : ¬ y ≤ x → V l D ac b own cc nL rt i0 fr lo mc ms r cs sl q lv st N M) : V l D ac b own cc nL rt i0 fr lo mc ms r cs sl pc lv (.int y :: .int x :: st) N M := by
  subst hq
  intro p e s m args below meth c H locs ls Qc F hR hS hl hQ
  exact lv_icmp_ge F.1 F.2.1 hd ht (fun z => kt z p e s m args below meth c H locs ls Qc F hR hS hl hQ) (fun z => kf z p e s m args below meth c H locs ls Qc F hR hS hl hQ)
theorem s_if_gt {x : Int32} {off : Int} {tgt : Nat} (hd : decode cc pc = .ok (.ifCond .gt off, 3)) (ht : (pc : Int) + off = (tgt : Int)) (hq : pc + 3 = q) (kt : 0 < x → V l D ac b own cc nL rt i0 fr lo mc ms r cs sl tgt lv st N M) (kf : ¬ 0 < x → V l D ac b own cc nL rt i0 fr lo mc ms r cs sl q lv st N M) : V l D ac b own cc nL rt i0 fr lo mc ms r cs sl pc lv (.int x :: st) N M := by
  subst hq
  intro p e s m args below meth c H locs ls Qc F hR hS hl hQ
  exact lv_if_gt F.1 F.2.1 hd ht (fun z => kt z p e s m args below meth c H locs ls Qc F hR hS hl hQ) (fun z => kf z p e s m args below meth c H locs ls Qc F hR hS hl hQ)
theorem s_icmp_gt {x y : Int32} {off : Int} {tgt : Nat} (hd : decode cc pc = .ok (.if_icmp .gt off, 3)) (ht : (pc : Int) + off = (tgt : Int)) (hq : pc + 3 = q) (kt : y < x → V l D ac b own cc nL rt i0 fr lo mc ms r cs sl tgt lv st N M) (kf : ¬ y < x → V l D ac b own cc nL rt i0 fr lo mc ms r cs sl q lv st N M) : V l D ac b own cc nL rt i0 fr lo mc ms r cs sl pc lv (.int y :: .int x :: st) N M := by
  subst hq
  intro p e s m args below meth c H locs ls Qc F hR hS hl hQ
  exact lv_icmp_gt F.1 F.2.1 hd ht (fun z => kt z p e s m args below meth c H locs ls Qc F hR hS hl hQ) (fun z => kf z p e s m args below meth c H locs ls Qc F hR hS hl hQ)
theorem s_if_le {x : Int32} {off : Int} {tgt : Nat} (hd : decode cc pc = .ok (.ifCond .le off, 3)) (ht : (pc : Int) + off = (tgt : Int)) (hq : pc + 3 = q) (kt : x ≤ 0 → V l D ac b own cc nL rt i0 fr lo mc ms r cs sl tgt lv st N M) (kf : ¬ x ≤ 0 → V l D ac b own cc nL rt i0 fr lo mc ms r cs sl q lv st N M) : V l D ac b own cc nL rt i0 fr lo mc ms r cs sl pc lv (.int x :: st) N M := by
  subst hq
  intro p e s m args below meth c H locs ls Qc F hR hS hl hQ
  exact lv_if_le F.1 F.2.1 hd ht (fun z => kt z p e s m args below meth c H locs ls Qc F hR hS hl hQ) (fun z => kf z p e s m args below meth c H locs ls Qc F hR hS hl hQ)
theorem s_icmp_le {x y : Int32} {off : Int} {tgt : Nat} (hd : decode cc pc = .ok (.if_icmp .le off, 3)) (ht : (pc : Int) + off = (tgt : Int)) (hq : pc + 3 = q) (kt : x ≤ y → V l D ac b own cc nL rt i0 fr lo mc ms r cs sl tgt lv st N M) (kf : ¬ x ≤ y → V l D ac b own cc nL rt i0 fr lo mc ms r cs sl q lv st N M) : V l D ac b own cc nL rt i0 fr lo mc ms r cs sl pc lv (.int y :: .int x :: st) N M := by
  subst hq
  intro p e s m args below meth c H locs ls Qc F hR hS hl hQ
  exact lv_icmp_le F.1 F.2.1 hd ht (fun z => kt z p e s m args below meth c H locs ls Qc F hR hS hl hQ) (fun z => kf z p e s m args below meth c H locs ls Qc F hR hS hl hQ)
theorem s_goto {off : Int} {tgt : Nat} (hd : decode cc pc = .ok (.goto off, 3)) (ht : (pc : Int) + off = (tgt : Int)) (k : V l D ac b own cc nL rt i0 fr lo mc ms r cs sl tgt lv st N M) : V l D ac b own cc nL rt i0 fr lo mc ms r cs sl pc lv st N M := by
  intro p e s m args below meth c H locs ls Qc F hR hS hl hQ
  exact lv_goto F.1 F.2.1 hd ht (k p e s m args below meth c H locs ls Qc F hR hS hl hQ)
theorem s_ifnull_r {a : Nat} {off : Int} (hd : decode cc pc = .ok (.ifnull off, 3)) (hq : pc + 3 = q) (k : V l D ac b own cc nL rt i0 fr lo mc ms r cs sl q lv st N M) : V l D ac b own cc nL rt i0 fr lo mc ms r cs sl pc lv (.ref a :: st) N M := by
  subst hq
  intro p e s m args below meth c H locs ls Qc F hR hS hl hQ
  exact lv_ifnull F.1 F.2.1 hd (k p e s m args below meth c H locs ls Qc F hR hS hl hQ)
theorem s_ifnull_n {off : Int} {tgt : Nat} (hd : decode cc pc = .ok (.ifnull off, 3)) (ht : (pc : Int) + off = (tgt : Int)) (k : V l D ac b own cc nL rt i0 fr lo mc ms r cs sl tgt lv st N M) : V l D ac b own cc nL rt i0 fr lo mc ms r cs sl pc lv (.null :: st) N M := by
  intro p e s m args below meth c H locs ls Qc F hR hS hl hQ
  exact lv_ifnullN F.1 F.2.1 hd ht (k p e s m args below meth c H locs ls Qc F hR hS hl hQ)
theorem s_ifnonnull_r {a : Nat} {off : Int} {tgt : Nat} (hd : decode cc pc = .ok (.ifnonnull off, 3)) (ht : (pc : Int) + off = (tgt : Int)) (k : V l D ac b own cc nL rt i0 fr lo mc ms r cs sl tgt lv st N M) : V l D ac b own cc nL rt i0 fr lo mc ms r cs sl pc lv (.ref a :: st) N M := by
  intro p e s m args below meth c H locs ls Qc F hR hS hl hQ
  exact lv_ifnonnull F.1 F.2.1 hd ht (k p e s m args below meth c H locs ls Qc F hR hS hl hQ)
theorem s_ifnonnull_n {off : Int} (hd : decode cc pc = .ok (.ifnonnull off, 3)) (hq : pc + 3 = q) (k : V l D ac b own cc nL rt i0 fr lo mc ms r cs sl q lv st N M) : V l D ac b own cc nL rt i0 fr lo mc ms r cs sl pc lv (.null :: st) N M := by
  subst hq
  intro p e s m args below meth c H locs ls Qc F hR hS hl hQ
  exact lv_ifnonnullN F.1 F.2.1 hd (k p e s m args below meth c H locs ls Qc F hR hS hl hQ)
theorem s_tsOut {dflt lo1 hi1 : Int} {offs : Array Int} {len : Nat} {x : Int32} {tgt : Nat} (hd : decode cc pc = .ok (.tableswitch dflt lo1 hi1 offs, len)) (h : x.toInt < lo1 ∨ hi1 < x.toInt) (ht : (pc : Int) + dflt = (tgt : Int)) (k : V l D ac b own cc nL rt i0 fr lo mc ms r cs sl tgt lv st N M) : V l D ac b own cc nL rt i0 fr lo mc ms r cs sl pc lv (.int x :: st) N M := by
  intro p e s m args below meth c H locs ls Qc F hR hS hl hQ
  exact lv_tableOut F.1 F.2.1 hd h ht (k p e s m args below meth c H locs ls Qc F hR hS hl hQ)
theorem s_tsIn {dflt lo1 hi1 : Int} {offs : Array Int} {len : Nat} {x : Int32} {off : Int} {tgt : Nat} (hd : decode cc pc = .ok (.tableswitch dflt lo1 hi1 offs, len)) (h1 : ¬ x.toInt < lo1) (h2 : ¬ hi1 < x.toInt) (ho : offs[(x.toInt - lo1).toNat]? = some off) (ht : (pc : Int) + off = (tgt : Int)) (k : V l D ac b own cc nL rt i0 fr lo mc ms r cs sl tgt lv st N M) : V l D ac b own cc nL rt i0 fr lo mc ms r cs sl pc lv (.int x :: st) N M := by
  intro p e s m args below meth c H locs ls Qc F hR hS hl hQ
  exact lv_tableIn F.1 F.2.1 hd h1 h2 ho ht (k p e s m args below meth c H locs ls Qc F hR hS hl hQ)
theorem s_ls {dflt : Int} {ps : Array (Int × Int)} {len : Nat} {x : Int32} {off : Int} {tgt : Nat} (hd : decode cc pc = .ok (.lookupswitch dflt ps, len)) (hp : (ps.toList.zip (ps.toList.drop 1)).all (fun (a, next) => a.1 < next.1) = true) (ho : Op.lookupswitch.offset ps.toList dflt x.toInt = off) (ht : (pc : Int) + off = (tgt : Int)) (k : V l D ac b own cc nL rt i0 fr lo mc ms r cs sl tgt lv st N M) : V l D ac b own cc nL rt i0 fr lo mc ms r cs sl pc lv (.int x :: st) N M := by
  intro p e s m args below meth c H locs ls Qc F hR hS hl hQ
  exact lv_lookup F.1 F.2.1 hd hp ho ht (k p e s m args below meth c H locs ls Qc F hR hS hl hQ)
theorem s_get {i a ci kf : Nat} {fs : List Value} {v : Value} (hd : decode cc pc = .ok (.getfield i, 3)) (hq : pc + 3 = q) (hF : FL own i ci kf) (hA : At N M a (.inr (ci, fs))) (hv : fs[kf]? = some v) (k : V l D ac b own cc nL rt i0 fr lo mc ms r cs sl q lv (v :: st) N M) : V l D ac b own cc nL rt i0 fr lo mc ms r cs sl pc lv (.ref a :: st) N M := by
  subst hq
  intro p e s m args below meth c H locs ls Qc F hR hS hl hQ
  obtain ⟨hlk, hk, hci⟩ := hF
  refine va_get (D := D) (ci := ci) (v := ev b v) (C := fR ci) (T := fT ci) (N := fN ci) F.1 F.2.1 F.2.2.2.2.2.1 (inG hci) F.2.2.2.2.1 F.2.2.2.2.2.2.2.1.1 hR.1.2 a (wsM_at hA) (clsL_at hci) kf hk (F.2.2.2.2.2.1 _ hlk) (fun _ h9 => h9) ?_ hd (k p e s m args below meth c H locs ls Qc F hR hS hl hQ)
  rw [List.getElem?_map, hv]
  rfl
def okV (ty : FieldType) (v : Value) : Prop := ∀ b, narrow ty (ev b v) = ev b v ∧ fits ty (ev b v) = true
theorem Rp.next {M' : Mem} {H H1 : Heap} {sz : Nat} (h : Rp D ac b N M H ∧ b + N = sz + cs) (h1 : H.size ≤ H1.size) (h2 : H1.size ≤ sz + cs) (hP : va_P D clsL (wsM b ac N M') H1) : Rp D ac b N M' H1 ∧ b + N = sz + cs := ⟨⟨by have := h.1.1; have := h.2; omega, hP⟩, h.2⟩
theorem s_put {i a ci kf : Nat} {fs : List Value} {v : Value} (hd : decode cc pc = .ok (.putfield i, 3)) (hq : pc + 3 = q) (hF : FL own i ci kf) (hA : At N M a (.inr (ci, fs))) (hfin : (fT ci kf).2.2.2 = false) (hok : okV (fY ci kf) v) (hl2 : kf < fs.length) (k : V l D ac b own cc nL rt i0 fr lo mc ms r cs sl q lv st N (um M a (.inr (ci, fs.set kf v)))) : V l D ac b own cc nL rt i0 fr lo mc ms r cs sl pc lv (v :: .ref a :: st) N M := by
  subst hq
  intro p e s m args below meth c H locs ls Qc F hR hS hl hQ
  obtain ⟨hlk, hk, hci⟩ := hF
  refine va_put (D := D) (ci := ci) (v := ev b v) (ty := fY ci kf) (C := fR ci) (T := fT ci) (N := fN ci) F.1 F.2.1 F.2.2.2.2.2.1 (inG hci) (fY ci) (fY_ok hci) (fm_ok hci) F.2.2.2.2.1 F.2.2.2.2.2.2.2.1.1 hR.1.2 wsM_D hS.here a (wsM_at hA) (clsL_at hci) kf hk (F.2.2.2.2.2.1 _ hlk) (fun _ h9 => h9) hfin (fY_ok hci kf hk) (hok b).1 (hok b).2 (by simpa using hl2) hd (fun H1 locs1 hP1 hD1 hS1 => W_sz (fun hz => ?_))
  have e1 : (wsM b ac N M).set a (b + a, .inr (ci, (fs.map (ev b)).set kf (ev b v))) = wsM b ac N (um M a (.inr (ci, fs.set kf v))) := by
    rw [← wsM_set _ hA.1, ← List.map_set]
    rfl
  rw [e1] at hP1
  exact k p e s m args below meth c H1 locs1 ls Qc F (Rp.next hR hS1.1 hz hP1) (hS.thn hS1) hl hQ
theorem s_putF {i a ci kf : Nat} {fs : List Value} {v : Value} (hi0 : i0 = true) (hd : decode cc pc = .ok (.putfield i, 3)) (hq : pc + 3 = q) (hF : FL own i ci kf) (hA : At N M a (.inr (ci, fs))) (hfin : (fT ci kf).2.2.2 = true) (hdecl : (fT ci kf).1 = own) (hok : okV (fY ci kf) v) (hl2 : kf < fs.length) (k : V l D ac b own cc nL rt i0 fr lo mc ms r cs sl q lv st N (um M a (.inr (ci, fs.set kf v)))) : V l D ac b own cc nL rt i0 fr lo mc ms r cs sl pc lv (v :: .ref a :: st) N M := by
  subst hq
  intro p e s m args below meth c H locs ls Qc F hR hS hl hQ
  obtain ⟨hlk, hk, hci⟩ := hF
  refine va_putF (D := D) (ci := ci) (v := ev b v) (ty := fY ci kf) (C := fR ci) (T := fT ci) (N := fN ci) F.1 F.2.1 F.2.2.2.2.2.1 (inG hci) (fY ci) (fY_ok hci) (fm_ok hci) F.2.2.2.2.1 F.2.2.2.2.2.2.2.1.1 hR.1.2 wsM_D hS.here a (wsM_at hA) (clsL_at hci) kf hk (F.2.2.2.2.2.1 _ hlk) (fun _ h9 => h9) hfin (F.2.2.2.2.2.2.2.2.2 hi0) hdecl (fY_ok hci kf hk) (hok b).1 (hok b).2 (by simpa using hl2) hd (fun H1 locs1 hP1 hD1 hS1 => W_sz (fun hz => ?_))
  have e1 : (wsM b ac N M).set a (b + a, .inr (ci, (fs.map (ev b)).set kf (ev b v))) = wsM b ac N (um M a (.inr (ci, fs.set kf v))) := by
    rw [← wsM_set _ hA.1, ← List.map_set]
    rfl
  rw [e1] at hP1
  exact k p e s m args below meth c H1 locs1 ls Qc F (Rp.next hR hS1.1 hz hP1) (hS.thn hS1) hl hQ
theorem tyL_at (ac : Nat → ClassId) {t : Nat} (h : t < 6) : (tyL ac)[t]? = some (ac t, aty t) := by
  rcases (show t = 0 ∨ t = 1 ∨ t = 2 ∨ t = 3 ∨ t = 4 ∨ t = 5 by omega) with rfl | rfl | rfl | rfl | rfl | rfl <;> rfl
theorem s_iald {a n j : Nat} {f : Nat → Int32} {i : Int32} (hd : decode cc pc = .ok (.iaload, 1)) (hq : pc + 1 = q) (hA : At N M a (.inl (0, n, .inl f))) (hi : i = nI j) (hj : j < n) (hn : n < 2147483648) (k : V l D ac b own cc nL rt i0 fr lo mc ms r cs sl q lv (.int (f j) :: st) N M) : V l D ac b own cc nL rt i0 fr lo mc ms r cs sl pc lv (.int i :: .ref a :: st) N M := by
  subst hq
  subst hi
  intro p e s m args below meth c H locs ls Qc F hR hS hl hQ
  refine va_iald F.1 F.2.1 F.2.2.2.2.2.2.2.1.1 hR.1.2 a 0 (n := n) (f := f) (wsM_at hA) (tyL_at ac (by decide)) (vp_in_nI hj hn) hd ?_
  rw [nI_clamp (by omega)]
  exact k p e s m args below meth c H locs ls Qc F hR hS hl hQ
theorem s_zald {a n j : Nat} {f : Nat → Int32} {i : Int32} (hd : decode cc pc = .ok (.baload, 1)) (hq : pc + 1 = q) (hA : At N M a (.inl (1, n, .inl f))) (hi : i = nI j) (hj : j < n) (hn : n < 2147483648) (k : V l D ac b own cc nL rt i0 fr lo mc ms r cs sl q lv (.int (f j) :: st) N M) : V l D ac b own cc nL rt i0 fr lo mc ms r cs sl pc lv (.int i :: .ref a :: st) N M := by
  subst hq
  subst hi
  intro p e s m args below meth c H locs ls Qc F hR hS hl hQ
  refine va_zald F.1 F.2.1 F.2.2.2.2.2.2.2.1.1 hR.1.2 a 1 (n := n) (f := f) (wsM_at hA) (tyL_at ac (by decide)) (vp_in_nI hj hn) hd ?_
  rw [nI_clamp (by omega)]
  exact k p e s m args below meth c H locs ls Qc F hR hS hl hQ
theorem s_aald {a t n j k0 : Nat} {f : Nat → Option Nat} {i : Int32} {C : String} (hd : decode cc pc = .ok (.aaload, 1)) (hq : pc + 1 = q) (hA : At N M a (.inl (t, n, .inr f))) (ht : t < 6) (hty : aty t = .object C) (hi : i = nI j) (hj : j < n) (hn : n < 2147483648) (hf : f j = some k0) (k : V l D ac b own cc nL rt i0 fr lo mc ms r cs sl q lv (.ref k0 :: st) N M) : V l D ac b own cc nL rt i0 fr lo mc ms r cs sl pc lv (.int i :: .ref a :: st) N M := by
  subst hq
  subst hi
  intro p e s m args below meth c H locs ls Qc F hR hS hl hQ
  refine va_aldq (C := C) F.1 F.2.1 F.2.2.2.2.2.2.2.1.1 hR.1.2 a t (n := n) (f := fun i => (f i).map (fun k => b + k)) (wsM_at hA) ((tyL_at ac ht).trans (by rw [hty])) (vp_in_nI hj hn) hd ?_
  rw [nI_clamp (by omega), hf]
  exact k p e s m args below meth c H locs ls Qc F hR hS hl hQ
theorem s_iast {a n j : Nat} {f : Nat → Int32} {i x : Int32} (hd : decode cc pc = .ok (.iastore, 1)) (hq : pc + 1 = q) (hA : At N M a (.inl (0, n, .inl f))) (hi : i = nI j) (hj : j < n) (hn : n < 2147483648) (k : V l D ac b own cc nL rt i0 fr lo mc ms r cs sl q lv st N (um M a (.inl (0, n, .inl (upd f j x))))) : V l D ac b own cc nL rt i0 fr lo mc ms r cs sl pc lv (.int x :: .int i :: .ref a :: st) N M := by
  subst hq
  subst hi
  intro p e s m args below meth c H locs ls Qc F hR hS hl hQ
  refine va_iast F.1 F.2.1 F.2.2.2.2.2.2.2.1.1 hR.1.2 wsM_D hS.here a 0 (n := n) (f := f) (wsM_at hA) (tyL_at ac (by decide)) (vp_in_nI hj hn) hd (fun H1 locs1 hP1 hD1 hS1 => W_sz (fun hz => ?_))
  rw [nI_clamp (by omega)] at hP1
  have e1 := wsM_set (b := b) (ac := ac) (M := M) (.inl (0, n, .inl (upd f j x))) hA.1
  exact k p e s m args below meth c H1 locs1 ls Qc F (Rp.next hR hS1.1 hz (e1 ▸ hP1)) (hS.thn hS1) hl hQ
theorem s_zast {a n j : Nat} {f : Nat → Int32} {i x : Int32} (hd : decode cc pc = .ok (.bastore, 1)) (hq : pc + 1 = q) (hA : At N M a (.inl (1, n, .inl f))) (hi : i = nI j) (hj : j < n) (hn : n < 2147483648) (hx : vp_nar .boolean x = x) (k : V l D ac b own cc nL rt i0 fr lo mc ms r cs sl q lv st N (um M a (.inl (1, n, .inl (upd f j x))))) : V l D ac b own cc nL rt i0 fr lo mc ms r cs sl pc lv (.int x :: .int i :: .ref a :: st) N M := by
  subst hq
  subst hi
  intro p e s m args below meth c H locs ls Qc F hR hS hl hQ
  refine va_zast F.1 F.2.1 F.2.2.2.2.2.2.2.1.1 hR.1.2 wsM_D hS.here a 1 (n := n) (f := f) (wsM_at hA) (tyL_at ac (by decide)) (vp_in_nI hj hn) hd (fun H1 locs1 hP1 hD1 hS1 => W_sz (fun hz => ?_))
  rw [nI_clamp (by omega), hx] at hP1
  have e1 := wsM_set (b := b) (ac := ac) (M := M) (.inl (1, n, .inl (upd f j x))) hA.1
  exact k p e s m args below meth c H1 locs1 ls Qc F (Rp.next hR hS1.1 hz (e1 ▸ hP1)) (hS.thn hS1) hl hQ
theorem s_alen {a t n : Nat} {g : (Nat → Int32) ⊕ (Nat → Option Nat)} (hd : decode cc pc = .ok (.arraylength, 1)) (hq : pc + 1 = q) (hA : At N M a (.inl (t, n, g))) (ht : t < 6) (k : V l D ac b own cc nL rt i0 fr lo mc ms r cs sl q lv (.int (nI n) :: st) N M) : V l D ac b own cc nL rt i0 fr lo mc ms r cs sl pc lv (.ref a :: st) N M := by
  subst hq
  intro p e s m args below meth c H locs ls Qc F hR hS hl hQ
  cases g with
  | inl f => exact va_alen F.1 F.2.1 F.2.2.2.2.2.2.2.1.1 hR.1.2 a t (wsM_at hA) (tyL_at ac ht) rfl hd (k p e s m args below meth c H locs ls Qc F hR hS hl hQ)
  | inr f => exact va_alen F.1 F.2.1 F.2.2.2.2.2.2.2.1.1 hR.1.2 a t (wsM_at hA) (tyL_at ac ht) rfl hd (k p e s m args below meth c H locs ls Qc F hR hS hl hQ)
-- returns
theorem s_iret {v : Int32} {ty : FieldType} (hd : decode cc pc = .ok (.ireturn, 1)) (hrt : rt = some ty) (hn : narrow ty (.int v) = .int v) (h1 : cs ≤ mc) (h2 : sl ≤ ms) (hr : r = (some (.int v), N, M)) : V l D ac b own cc nL rt i0 fr lo mc ms r cs sl pc lv [.int v] N M := by
  subst hr
  intro p e s m args below meth c H locs ls Qc F hR hS hl hQ
  exact W.widen h1 h2 (W.zret F.1 F.2.1 (F.2.2.2.1.trans hrt) hn (fun t ht hW => hQ t (by rw [ht]; exact hR.1) hW (hS.F ht)) hS.2.2 hd F.2.2.2.2.2.2.1)
theorem s_lret {v : Int64} (hd : decode cc pc = .ok (.lreturn, 1)) (hrt : rt = some .long) (h1 : cs ≤ mc) (h2 : sl ≤ ms) (hr : r = (some (.long v), N, M)) : V l D ac b own cc nL rt i0 fr lo mc ms r cs sl pc lv [.long v] N M := by
  subst hr
  intro p e s m args below meth c H locs ls Qc F hR hS hl hQ
  exact W.widen h1 h2 (W.lret F.1 F.2.1 (F.2.2.2.1.trans hrt) (fun t ht hW => hQ t (by rw [ht]; exact hR.1) hW (hS.F ht)) hS.2.2 hd F.2.2.2.2.2.2.1)
theorem s_ret (hd : decode cc pc = .ok (.return_, 1)) (hrt : rt = none) (h1 : cs ≤ mc) (h2 : sl ≤ ms) (hr : r = (none, N, M)) : V l D ac b own cc nL rt i0 fr lo mc ms r cs sl pc lv [] N M := by
  subst hr
  intro p e s m args below meth c H locs ls Qc F hR hS hl hQ
  exact W.widen h1 h2 (W.vret F.1 F.2.1 (F.2.2.2.1.trans hrt) (fun t ht hW => hQ t (by rw [ht]; exact hR.1) hW (hS.F ht)) hS.2.2 hd F.2.2.2.2.2.2.1)
theorem s_aret {v : Value} {C : String} (hd : decode cc pc = .ok (.areturn, 1)) (hrt : rt = some (.object C)) (hv : v = .null ∨ ∃ a, v = .ref a) (h1 : cs ≤ mc) (h2 : sl ≤ ms) (hr : r = (some v, N, M)) : V l D ac b own cc nL rt i0 fr lo mc ms r cs sl pc lv [v] N M := by
  subst hr
  intro p e s m args below meth c H locs ls Qc F hR hS hl hQ
  refine W.widen h1 h2 (W.aret F.1 F.2.1 (F.2.2.2.1.trans hrt) (Or.inl ⟨C, rfl⟩) ?_ (fun t ht hW => hQ t (by rw [ht]; exact hR.1) hW (hS.F ht)) hS.2.2 hd F.2.2.2.2.2.2.1)
  rcases hv with rfl | ⟨a, rfl⟩
  · exact Or.inl rfl
  · exact Or.inr ⟨b + a, rfl⟩
theorem ev_back {v : Option Value} {st0 : List Value} : (v.map (ev b)).toList ++ st0.map (ev b) = (v.toList ++ st0).map (ev b) := by cases v <;> rfl
/-- behind a call -/
theorem s_run {av0 : List Value} {st0 : List Value} {r1 : RS} {mc1 ms1 : Nat} (hN : r1.2.1 = N + mc1)
    (hrun : ∀ (p : Program) (e : Env) (s : State) (m : MethodId) (args : Array Value) (below : List Frame) (meth : Method) (c : Code) (H : Heap) (locs : List Loc) (ls : Array Slot), Fx D ac b own cc nL rt i0 p s m args meth c → Rp D ac b N M H → lv_has ls nL (lv.map (el b)) → va_Run p l e ({ frames := fr, cells := mc, slots := ms, locals := lo }) s m args below meth c H locs cs sl mc1 ms1 (F0 m pc ls (st.map (ev b))) (st0.map (ev b)) (Pst D ac b r1 (av0.map (ev b)).toArray) (fun q => b ≤ q))
    (k : V l D ac b own cc nL rt i0 fr lo mc ms r (cs + mc1) (sl + ms1) (pc + 3) lv (r1.1.toList ++ st0) r1.2.1 r1.2.2) : V l D ac b own cc nL rt i0 fr lo mc ms r cs sl pc lv st N M := by
  intro p e s m args below meth c H locs ls Qc F hR hS hl hQ T hT X
  obtain ⟨v, st₀, t, T', L, h0, X', hL, e1, e2, hq, hst⟩ := hrun p e s m args below meth c H locs ls F hR.1 hl T hT X
  obtain ⟨hv, hR', hF'⟩ := hq
  have hv2 : v = r1.1.map (ev b) := by simpa using hv
  subst hv2
  have hS' : va_S (fun q => b ≤ q) s.heap T'.heap (locs ++ L) := by
    refine ⟨by rw [e1]; exact Nat.le_trans hS.1 (by rw [← h0]; exact hF'.1), fun q h1 h2 => ?_, fun q hq => ?_⟩
    · rw [e1, hF'.2 q (by rw [h0]; exact Nat.lt_of_lt_of_le h1 hS.1) h2, h0]
      exact hS.2.1 q h1 h2
    · rcases List.mem_append.mp hq with h | h
      · exact hS.2.2 q h
      · exact hL q h
  obtain ⟨t2, a1, b1⟩ := k p e s m args below meth c T'.heap (locs ++ L) ls Qc F ⟨by rw [e1]; exact hR', by have := hR.2; omega⟩ hS' hl hQ T' rfl X'
  refine ⟨t2, hst t2 ?_, b1⟩
  rw [ev_back]
  exact a1
theorem callB_y {R : Room} {s : State} {args : Array Value} {idx : Nat} {y : MethodName} {cy : ByteArray} {nLy : Nat} {rty : Option FieldType} {n fr1 lo1 mc1 ms1 : Nat} (hts : ∀ w ∈ tbG, w.before args s = true) (hm : MX y cy nLy rty n) (hl : Cond.methodLink own idx y ∈ tbG) (hroom : fr1 + 1 ≤ R.frames ∧ 8 + (nLy + 11) + lo1 ≤ R.locals) : CallB R s args own idx y cy nLy rty (Cond.code y cy nLy rty :: tbG) ({ frames := fr1, cells := mc1, slots := ms1, locals := lo1 }) mc1 ms1 n :=
  callB_of n hts (tbG_good hm.1) rfl rfl rfl (hts _ hm.2.1) (hts _ hl) hm.2.2 hroom
theorem Pre.at {s U : State} {H : Heap} {av : List Value} {y : MethodName} (hR : Rp D ac b N M H) (hK : Kx D ac s) (hU : U.heap = H) (hW : s.WarmedH U.vm) : Pre D ac b N M av (av.map (ev b)).toArray U := ⟨rfl, by rw [hU]; exact hR, hK.warm hW⟩
theorem s_callV {idx a ci : Nat} {y : MethodName} {cy : ByteArray} {nLy : Nat} {rty : Option FieldType} {n fr1 lo1 mc1 ms1 : Nat} {As st0 fs : List Value} {r1 : RS} (hd : decode cc pc = .ok (.invokevirtual idx, 3)) (hq : pc + 3 = q) (hl : Cond.methodLink own idx y ∈ tbG) (hm : MX y cy nLy rty n) (hv : MV y ci) (hC : Ct l D ac b y cy nLy rty fr1 lo1 mc1 ms1 (.ref a :: As) N M r1)
    (hA : At N M a (.inr (ci, fs))) (hst : st = As.reverse ++ .ref a :: st0) (hn : As.length = n) (hW : (st0.map fun v => v.category).sum ≤ 8) (hroom : fr1 + 1 ≤ fr ∧ 8 + (nLy + 11) + lo1 ≤ lo) (hcs : cs + mc1 ≤ mc ∧ sl + ms1 ≤ ms) (hN : r1.2.1 = N + mc1)
    (k : V l D ac b own cc nL rt i0 fr lo mc ms r (cs + mc1) (sl + ms1) q lv (r1.1.toList ++ st0) r1.2.1 r1.2.2) : V l D ac b own cc nL rt i0 fr lo mc ms r cs sl pc lv st N M := by
  subst hq
  refine s_run (av0 := .ref a :: As) hN (fun p e s m args below meth c H locs ls F hR hl2 => ?_) k
  obtain ⟨hx, hb, hml, hr, hown, hts, hlk, hK, hbs, hin⟩ := F
  refine va_runV (As := As.map (ev b)) (C := fR ci) ⟨hx, hb, hml, hown, hts⟩ hC ⟨callB_y hts hm hl hroom, hts _ hv.1, hts _ hv.2.1⟩ ⟨Pre.blind D ac b N M _, ?_, fun U hU hW => Pre.at (av := .ref a :: As) (y := y) hR hK hU hW⟩ rfl (by rw [List.length_map]; exact hn) hl2.1 ?_ (lv_room (by rw [ev_cats]; exact hW)) hd hcs
  · exact va_recv hK.1 hR.2 (clsL_at hv.2.2.2) (wsM_at hA)
  · subst hst
    simp [ev, List.map_append, List.map_reverse]
theorem s_callS {idx : Nat} {y : MethodName} {cy : ByteArray} {nLy : Nat} {rty : Option FieldType} {n fr1 lo1 mc1 ms1 : Nat} {As st0 : List Value} {r1 : RS} (hd : decode cc pc = .ok (.invokestatic idx, 3)) (hq : pc + 3 = q) (hl : Cond.methodLink own idx y ∈ tbG) (hm : MX y cy nLy rty n) (hv : MS y) (hC : Ct l D ac b y cy nLy rty fr1 lo1 mc1 ms1 As N M r1)
    (hst : st = As.reverse ++ st0) (hn : As.length = n) (hW : (st0.map fun v => v.category).sum ≤ 8) (hroom : fr1 + 1 ≤ fr ∧ 8 + (nLy + 11) + lo1 ≤ lo) (hcs : cs + mc1 ≤ mc ∧ sl + ms1 ≤ ms) (hN : r1.2.1 = N + mc1)
    (k : V l D ac b own cc nL rt i0 fr lo mc ms r (cs + mc1) (sl + ms1) q lv (r1.1.toList ++ st0) r1.2.1 r1.2.2) : V l D ac b own cc nL rt i0 fr lo mc ms r cs sl pc lv st N M := by
  subst hq
  refine s_run (av0 := As) hN (fun p e s m args below meth c H locs ls F hR hl2 => ?_) k
  obtain ⟨hx, hb, hml, hr, hown, hts, hlk, hK, hbs, hin⟩ := F
  refine va_runS (As := As.map (ev b)) ⟨hx, hb, hml, hown, hts⟩ hC ⟨callB_y hts hm hl hroom, hts _ hv⟩ ⟨Pre.blind D ac b N M _, fun U hU hW => Pre.at (y := y) hR hK hU hW⟩ rfl (by rw [List.length_map]; exact hn) hl2.1 ?_ (lv_room (by rw [ev_cats]; exact hW)) hd hcs
  subst hst
  simp [List.map_append, List.map_reverse]
theorem s_callN {idx : Nat} {y : MethodName} {cy : ByteArray} {nLy : Nat} {rty : Option FieldType} {n fr1 lo1 mc1 ms1 : Nat} {As st0 : List Value} {r1 : RS} (hd : decode cc pc = .ok (.invokestatic idx, 3)) (hq : pc + 3 = q) (hl : (own, idx, y) ∈ nests) (hm : MX y cy nLy rty n) (hv : MS y) (hC : Ct l D ac b y cy nLy rty fr1 lo1 mc1 ms1 As N M r1)
    (hst : st = As.reverse ++ st0) (hn : As.length = n) (hW : (st0.map fun v => v.category).sum ≤ 8) (hroom : fr1 + 1 ≤ fr ∧ 8 + (nLy + 11) + lo1 ≤ lo) (hcs : cs + mc1 ≤ mc ∧ sl + ms1 ≤ ms) (hN : r1.2.1 = N + mc1)
    (k : V l D ac b own cc nL rt i0 fr lo mc ms r (cs + mc1) (sl + ms1) q lv (r1.1.toList ++ st0) r1.2.1 r1.2.2) : V l D ac b own cc nL rt i0 fr lo mc ms r cs sl pc lv st N M := by
  subst hq
  refine s_run (av0 := As) hN (fun p e s m args below meth c H locs ls F hR hl2 => ?_) k
  obtain ⟨hx, hb, hml, hr, hown, hts, hlk, hK, hbs, hin⟩ := F
  refine va_runSN (As := As.map (ev b)) (host := "SpanStore") ⟨hx, hb, hml, hown, hts⟩ hC ⟨va_cnB n hts (tbG_good hm.1) rfl rfl rfl (hK.2.1 _ hl) (hts _ hm.2.1) hm.2.2 hroom, hts _ hv, trivial⟩ ⟨Pre.blind D ac b N M _, fun U hU hW => Pre.at (y := y) hR hK hU hW⟩ rfl (by rw [List.length_map]; exact hn) hl2.1 ?_ (lv_room (by rw [ev_cats]; exact hW)) hd hcs
  subst hst
  simp [List.map_append, List.map_reverse]
theorem s_callI {idx a : Nat} {y : MethodName} {cy : ByteArray} {nLy : Nat} {n fr1 lo1 mc1 ms1 : Nat} {As st0 : List Value} {r1 : RS} (hd : decode cc pc = .ok (.invokespecial idx, 3)) (hq : pc + 3 = q) (hl : Cond.methodLink own idx y ∈ tbG) (hm : MX y cy nLy none n) (hv : MI y) (hC : Ct l D ac b y cy nLy none fr1 lo1 mc1 ms1 (.ref a :: As) N M r1)
    (hst : st = As.reverse ++ .ref a :: st0) (hn : As.length = n) (hW : (st0.map fun v => v.category).sum ≤ 8) (hroom : fr1 + 1 ≤ fr ∧ 8 + (nLy + 11) + lo1 ≤ lo) (hcs : cs + mc1 ≤ mc ∧ sl + ms1 ≤ ms) (hN : r1.2.1 = N + mc1)
    (k : V l D ac b own cc nL rt i0 fr lo mc ms r (cs + mc1) (sl + ms1) q lv (r1.1.toList ++ st0) r1.2.1 r1.2.2) : V l D ac b own cc nL rt i0 fr lo mc ms r cs sl pc lv st N M := by
  subst hq
  refine s_run (av0 := .ref a :: As) hN (fun p e s m args below meth c H locs ls F hR hl2 => ?_) k
  obtain ⟨hx, hb, hml, hr, hown, hts, hlk, hK, hbs, hin⟩ := F
  refine va_runI (b := b + a) (As := As.map (ev b)) ⟨hx, hb, hml, hown, hts⟩ hC ⟨callB_y hts hm hl hroom, hv.2, hts _ hv.1⟩ ⟨Pre.blind D ac b N M _, fun U hU hW => Pre.at (av := .ref a :: As) (y := y) hR hK hU hW⟩ rfl (by rw [List.length_map]; exact hn) hl2.1 ?_ (lv_room (by rw [ev_cats]; exact hW)) hd hcs
  subst hst
  simp [ev, List.map_append, List.map_reverse]
theorem s_objInit {idx a : Nat} (hd : decode cc pc = .ok (.invokespecial idx, 3)) (hq : pc + 3 = q) (hl : Cond.methodLink own idx objectInit ∈ tbG) (hW : (st.map fun v => v.category).sum ≤ 8) (hf : 1 ≤ fr) (hlo : 20 ≤ lo) (k : V l D ac b own cc nL rt i0 fr lo mc ms r cs sl q lv st N M) : V l D ac b own cc nL rt i0 fr lo mc ms r cs sl pc lv (.ref a :: st) N M := by
  subst hq
  intro p e s m args below meth c H locs ls Qc F hR hS hl2 hQ
  refine W.objInit F.1 F.2.1 F.2.2.2.2.1 (F.2.2.2.2.2.1 _ hl) (F.2.2.2.2.2.1 _ oi_inst) (F.2.2.2.2.2.1 _ oi_code) rfl (by rw [F.2.2.1]; exact hl2.1) rfl hd hf ?_ (k p e s m args below meth c H locs ls Qc F hR hS hl2 hQ)
  have h1 : ((st.map (ev b)).map fun v => v.category).sum ≤ 8 := by rw [ev_cats]; exact hW
  have h2 := lv_room (m := m) (pc := pc) (ls := ls) (rest := ([] : List Value)) h1
  show _ + 12 ≤ lo
  exact Nat.le_trans (Nat.add_le_add_right h2 12) hlo
theorem lg_ev (av : List Value) : (lg_sl (av.map (ev b))).length = (lg_sl av).length := by
  induction av with
  | nil => rfl
  | cons a t ih =>
    unfold lg_sl at ih ⊢
    rw [List.map_cons, List.flatMap_cons, List.flatMap_cons, List.length_append, List.length_append, ih, ev_cat]
    split <;> rfl
theorem la_ev (av : List Value) (i : Nat) : lv_args i (av.map (ev b)) = (lv_args i av).map (el b) := by
  induction av generalizing i with
  | nil => rfl
  | cons a t ih =>
    rw [List.map_cons]
    unfold lv_args
    rw [ev_cat, ih]
    rfl
/-- a contract out of a walk -/
theorem Ct_of {y : MethodName} {cy : ByteArray} {nLy : Nat} {rty : Option FieldType} {av : List Value} {r1 : RS} (j0 : Bool) (hp : plainName y.cls = true) (hj : j0 = true → y.name = "<init>") (hle : (lg_sl av).length ≤ nLy)
    (k : V l D ac b y.cls cy nLy rty j0 fr lo mc ms r1 0 0 0 (lv_args 0 av) [] N M) : Ct l D ac b y cy nLy rty fr lo mc ms av N M r1 := by
  refine Met.ofW (cc := cy) (maxL := nLy) (ret := rty) hp rfl ?_
  intro p e s m args below meth c s₁ B hml hv
  obtain ⟨rfl, hR, hK⟩ := hv
  have hts := atoms_spec (ws := Cond.code y cy nLy rty :: tbG) B.pre
  have hown : s.vm.findClass y.cls = some m.cls := findClass_of_methodNamed B.named
  have hnm : meth.name = y.name := (name_of_methodNamed B.named B.method).1
  have hl := lv_entry (av.map (ev b)) (n := nLy) (by rw [lg_ev]; exact hle)
  rw [lg_entry_eq]
  rw [la_ev] at hl
  refine k p e s m _ below meth c s.heap [] _ _ ⟨B.exec, B.bytes, hml, B.returns, hown, fun w hw => hts w (List.mem_cons_of_mem _ hw), B.notSynchronized, hK, by rw [hR.1]; omega, fun h => hnm.trans (hj h)⟩ ⟨hR, by rw [hR.1]; rfl⟩ va_S.rf hl (fun t h1 h2 h3 => ⟨rfl, h1, h3⟩)


theorem mm_max : Cond.code Lib.Math.max.name Lib.Math.max.code 2 (some .int) ∈ tbG := wm 306 (by decide +kernel) (by decide +kernel)
theorem mm_min : Cond.code Lib.Math.min.name Lib.Math.min.code 2 (some .int) ∈ tbG := wm 267 (by decide +kernel) (by decide +kernel)
theorem mm_abs : Cond.code Lib.Math.abs.name Lib.Math.abs.code 1 (some .int) ∈ tbG := wm 293 (by decide +kernel) (by decide +kernel)
theorem mm_ini : Cond.initialized "java/lang/Math" ∈ tbG := wm 47 (by decide +kernel) (by decide +kernel)
theorem s_max {idx : Nat} {x y : Int32} (hd : decode cc pc = .ok (.invokestatic idx, 3)) (hq : pc + 3 = q) (hl : Cond.methodLink own idx y_A_max ∈ tbG) (hW : (st.map fun v => v.category).sum ≤ 8) (hf : 1 ≤ fr) (hlo : 21 ≤ lo) (hc : cs ≤ mc ∧ sl ≤ ms) (k : V l D ac b own cc nL rt i0 fr lo mc ms r cs sl q lv (.int (if x < y then y else x) :: st) N M) : V l D ac b own cc nL rt i0 fr lo mc ms r cs sl pc lv (.int y :: .int x :: st) N M := by
  subst hq
  intro p e s m args below meth c H locs ls Qc F hR hS hl2 hQ
  have h1 : ((st.map (ev b)).map fun v => v.category).sum ≤ 8 := by rw [ev_cats]; exact hW
  exact va_mmax F.1 F.2.1 (by rw [F.2.2.1]; exact hl2.1.symm) F.2.2.2.2.1 (F.2.2.2.2.2.1 _ hl) (F.2.2.2.2.2.1 _ ms_A_max) (F.2.2.2.2.2.1 _ mm_ini) (F.2.2.2.2.2.1 _ mm_max) hf (Nat.le_trans (Nat.add_le_add_right h1 13) hlo) hc.1 hc.2 hd (k p e s m args below meth c H locs ls Qc F hR hS hl2 hQ)
theorem s_min {idx : Nat} {x y : Int32} (hd : decode cc pc = .ok (.invokestatic idx, 3)) (hq : pc + 3 = q) (hl : Cond.methodLink own idx y_A_min ∈ tbG) (hW : (st.map fun v => v.category).sum ≤ 8) (hf : 1 ≤ fr) (hlo : 21 ≤ lo) (hc : cs ≤ mc ∧ sl ≤ ms) (k : V l D ac b own cc nL rt i0 fr lo mc ms r cs sl q lv (.int (if y < x then y else x) :: st) N M) : V l D ac b own cc nL rt i0 fr lo mc ms r cs sl pc lv (.int y :: .int x :: st) N M := by
  subst hq
  intro p e s m args below meth c H locs ls Qc F hR hS hl2 hQ
  have h1 : ((st.map (ev b)).map fun v => v.category).sum ≤ 8 := by rw [ev_cats]; exact hW
  exact va_mmin F.1 F.2.1 (by rw [F.2.2.1]; exact hl2.1.symm) F.2.2.2.2.1 (F.2.2.2.2.2.1 _ hl) (F.2.2.2.2.2.1 _ ms_A_min) (F.2.2.2.2.2.1 _ mm_ini) (F.2.2.2.2.2.1 _ mm_min) hf (Nat.le_trans (Nat.add_le_add_right h1 13) hlo) hc.1 hc.2 hd (k p e s m args below meth c H locs ls Qc F hR hS hl2 hQ)
theorem s_abs {idx : Nat} {x : Int32} (hd : decode cc pc = .ok (.invokestatic idx, 3)) (hq : pc + 3 = q) (hl : Cond.methodLink own idx y_A_abs ∈ tbG) (hW : (st.map fun v => v.category).sum ≤ 8) (hf : 1 ≤ fr) (hlo : 21 ≤ lo) (hc : cs ≤ mc ∧ sl ≤ ms) (k : V l D ac b own cc nL rt i0 fr lo mc ms r cs sl q lv (.int (if 0 ≤ x then x else 0 - x) :: st) N M) : V l D ac b own cc nL rt i0 fr lo mc ms r cs sl pc lv (.int x :: st) N M := by
  subst hq
  intro p e s m args below meth c H locs ls Qc F hR hS hl2 hQ
  have h1 : ((st.map (ev b)).map fun v => v.category).sum ≤ 8 := by rw [ev_cats]; exact hW
  exact va_mabs F.1 F.2.1 (by rw [F.2.2.1]; exact hl2.1.symm) F.2.2.2.2.1 (F.2.2.2.2.2.1 _ hl) (F.2.2.2.2.2.1 _ ms_A_abs) (F.2.2.2.2.2.1 _ mm_ini) (F.2.2.2.2.2.1 _ mm_abs) hf (Nat.le_trans (Nat.add_le_add_right h1 13) hlo) hc.1 hc.2 hd (k p e s m args below meth c H locs ls Qc F hR hS hl2 hQ)
theorem s_copy {idx a a0 n n0 sp dp z : Nat} {f g : Nat → Int32} (hd : decode cc pc = .ok (.invokestatic idx, 3)) (hq : pc + 3 = q) (hl : Cond.methodLink own idx arraycopyName ∈ tbG) (hA0 : At N M a0 (.inl (0, n0, .inl f))) (hA : At N M a (.inl (0, n, .inl g))) (hn0 : n0 < 2147483648) (hn : n < 2147483648) (h4 : sp + z ≤ n0) (h5 : dp + z ≤ n) (hW : (st.map fun v => v.category).sum ≤ 8) (hf : 1 ≤ fr) (hlo : 8 + (nativeFrameWords "java/lang/System" "arraycopy" 5 + 11) ≤ lo)
    (k : V l D ac b own cc nL rt i0 fr lo mc ms r cs sl q lv st N (um M a (.inl (0, n, .inl (va_cpy f g sp dp z))))) : V l D ac b own cc nL rt i0 fr lo mc ms r cs sl pc lv (.int (nI z) :: .int (nI dp) :: .ref a :: .int (nI sp) :: .ref a0 :: st) N M := by
  subst hq
  intro p e s m args below meth c H locs ls Qc F hR hS hl2 hQ
  have h1 : ((st.map (ev b)).map fun v => v.category).sum ≤ 8 := by rw [ev_cats]; exact hW
  have ez : (nI z).toNatClampNeg = z := nI_clamp (by omega)
  have es : (nI sp).toNatClampNeg = sp := nI_clamp (by omega)
  have ed : (nI dp).toNatClampNeg = dp := nI_clamp (by omega)
  refine va_copyi F.1 F.2.1 (by rw [F.2.2.1]; exact hl2.1.symm) F.2.2.2.2.1 (F.2.2.2.2.2.1 _ hl) (F.2.2.2.2.2.1 _ ac_nat) (F.2.2.2.2.2.1 _ ac_stat) (F.2.2.2.2.2.1 _ ac_ini) F.2.2.2.2.2.2.2.1.1 hR.1.2 wsM_D hS.here a0 a 0 0 (n0 := n0) (n1 := n) (f := f) (g := g) (ty := .int) (wsM_at hA0) (wsM_at hA) (tyL_at ac (by decide)) (tyL_at ac (by decide)) rfl (nI_pos (by omega)) (nI_pos (by omega)) (nI_pos (by omega)) (by rw [ez, es]; exact h4) (by rw [ez, ed]; exact h5) (fun _ _ => rfl) hf (Nat.le_trans (Nat.add_le_add_right h1 _) hlo) hd (fun H1 locs1 hP1 hD1 hS1 => W_sz (fun hz => ?_))
  rw [ez, es, ed] at hP1
  have e1 := wsM_set (b := b) (ac := ac) (M := M) (.inl (0, n, .inl (va_cpy f g sp dp z))) hA.1
  exact k p e s m args below meth c H1 locs1 ls Qc F (Rp.next hR hS1.1 hz (e1 ▸ hP1)) (hS.thn hS1) hl2 hQ
theorem wsM_len : (wsM b ac N M).length = N := by simp [wsM]
/-- where a new cell lies -/
theorem new_at {H1 : Heap} {q0 sz : Nat} {x : va_E} {s : State} {D : va_G} (hP : va_P D clsL (wsM b ac N M ++ [(q0, x)]) H1) (hD : va_D (fun q => b ≤ q) (wsM b ac N M ++ [(q0, x)])) (hz : H1.size ≤ b + N + 1) : q0 = b + N := by
  have hN : (wsM b ac N M ++ [(q0, x)])[N]? = some (q0, x) := by
    rw [List.getElem?_append_right (by rw [wsM_len]; exact Nat.le_refl _), wsM_len, Nat.sub_self]
    rfl
  have h1 : q0 < H1.size := (hP N _ hN).lt
  have h2 : b ≤ q0 := hD.2 N _ hN
  by_cases h3 : q0 < b + N
  · exfalso
    have hk : (wsM b ac N M ++ [(q0, x)])[q0 - b]? = some (b + (q0 - b), eE b ac (M (q0 - b))) := by
      rw [List.getElem?_append_left (by rw [wsM_len]; omega)]
      exact wsM_at ⟨by omega, rfl⟩
    have := hD.1 (q0 - b) N _ _ hk hN (by show b + (q0 - b) = q0; omega)
    omega
  · omega
theorem s_new {idx ci : Nat} {fs : List Value} (hd : decode cc pc = .ok (.new idx, 3)) (hq : pc + 3 = q) (hci : ci < 6) (hcl : Cond.classLink own idx (fR ci) ∈ tbG) (hit : Cond.instantiable (fR ci) (fN ci) ∈ tbG ∧ Cond.initialized (fR ci) ∈ tbG) (hfs : ∀ j, j < fN ci → defaultValue (fY ci j) = vp_V fs j) (hev : ∀ b, fs.map (ev b) = fs) (h1 : cs + 1 ≤ mc) (h2 : sl + fN ci ≤ ms)
    (k : V l D ac b own cc nL rt i0 fr lo mc ms r (cs + 1) (sl + fN ci) q lv (.ref N :: st) (N + 1) (um M N (.inr (ci, fs)))) : V l D ac b own cc nL rt i0 fr lo mc ms r cs sl pc lv st N M := by
  subst hq
  intro p e s m args below meth c H locs ls Qc F hR hS hl hQ
  refine va_new (ci := ci) (fs := fs) (C := fR ci) (T := fT ci) (N := fN ci) F.1 F.2.1 F.2.2.2.2.2.1 (inG hci) (fY ci) (fY_ok hci) F.2.2.2.2.1 (F.2.2.2.2.2.1 _ hcl) (F.2.2.2.2.2.1 _ hit.1) (F.2.2.2.2.2.1 _ hit.2) F.2.2.2.2.2.2.2.1.1 hR.1.2 wsM_D hS.here (fun q0 h => by have := hR.1.1; omega) (clsL_at hci) hfs h1 h2 hd (fun q0 H1 hP1 hD1 hS1 => W_sz (fun hz => ?_))
  have hq0 := new_at (sz := 0) (s := s) hP1 hD1 (by have := hR.2; omega)
  subst hq0
  have e1 := wsM_push (b := b) (ac := ac) (N := N) (M := M) (.inr (ci, fs))
  have e2 : eE b ac (.inr (ci, fs)) = .inr (ci, fs) := by show (Sum.inr (ci, fs.map (ev b)) : va_E) = _; rw [hev]
  rw [e2] at e1
  have hP2 := e1 ▸ hP1
  have hlast := (hP2 N _ (wsM_at (M := um M N (.inr (ci, fs))) (e := .inr (ci, fs)) ⟨Nat.lt_succ_self N, by simp [um]⟩)).lt
  exact k p e s m args below meth c H1 locs ls Qc F ⟨⟨by have := hR.2; simp only at hlast; omega, hP2⟩, by have := hR.2; omega⟩ (hS.thn hS1) hl hQ
theorem s_newa {atype : ArrayType} {t n : Nat} {x : Int32} (hd : decode cc pc = .ok (.newarray atype, 2)) (hq : pc + 2 = q) (ht : t < 2) (hty : newarray.typeOf atype = aty t) (hw : Cond.arrayClass (newarray.typeOf atype) ∈ tbG) (hx : x = nI n) (hn : n < 1000) (h1 : cs + 1 ≤ mc) (h2 : sl + n ≤ ms)
    (k : V l D ac b own cc nL rt i0 fr lo mc ms r (cs + 1) (sl + n) q lv (.ref N :: st) (N + 1) (um M N (.inl (t, n, .inl (fun _ => 0))))) : V l D ac b own cc nL rt i0 fr lo mc ms r cs sl pc lv (.int x :: st) N M := by
  subst hq
  subst hx
  intro p e s m args below meth c H locs ls Qc F hR hS hl hQ
  have ez : (nI n).toNatClampNeg = n := nI_clamp (by omega)
  refine va_newa (a0 := (n, .inl (fun _ => 0))) F.1 F.2.1 (F.2.2.2.2.2.1 _ hw) hty F.2.2.2.2.2.2.2.1.1 hR.1.2 wsM_D hS.here (fun q0 h => by have := hR.1.1; omega) (fun cA => ?_) (nI_pos (by omega)) ez ?_ h1 h2 hd (fun q0 cA H1 hK1 hP1 hD1 hS1 => W_sz (fun hz => ?_))
  · rcases (show t = 0 ∨ t = 1 by omega) with rfl | rfl <;> rfl
  · rcases (show t = 0 ∨ t = 1 by omega) with rfl | rfl
    · show n * 4 ≤ _; omega
    · show n * 1 ≤ _; omega
  have hq0 := new_at (sz := 0) (s := s) hP1 hD1 (by have := hR.2; omega)
  subst hq0
  have hcA : cA = ac t := by
    have g1 := (hK1.2 6 (cA, aty t) rfl).2
    have g2 := (hK1.2 t (ac t, aty t) (by rw [List.getElem?_append_left (by show t < 6; omega)]; exact tyL_at ac (by omega))).2
    rcases (show t = 0 ∨ t = 1 by omega) with rfl | rfl <;> exact Option.some.inj (g1.symm.trans g2)
  subst hcA
  have e1 := wsM_push (b := b) (ac := ac) (N := N) (M := M) (.inl (t, n, .inl (fun _ => 0)))
  have hP2 : va_P D clsL (wsM b ac (N + 1) (um M N (.inl (t, n, .inl (fun _ => 0))))) H1 := e1 ▸ hP1
  have hlast := (hP2 N _ (wsM_at (M := um M N (.inl (t, n, .inl (fun _ => 0)))) (e := .inl (t, n, .inl (fun _ => 0))) ⟨Nat.lt_succ_self N, by simp [um]⟩)).lt
  exact k p e s m args below meth c H1 locs ls Qc F ⟨⟨by have := hR.2; simp only at hlast; omega, hP2⟩, by have := hR.2; omega⟩ (hS.thn hS1) hl hQ
theorem s_anew {idx t ci n : Nat} {x : Int32} (hd : decode cc pc = .ok (.anewarray idx, 3)) (hq : pc + 3 = q) (ht : t < 6) (hty : aty t = .object (fR ci)) (hcl : Cond.classLink own idx (fR ci) ∈ tbG) (hao : ci < 4) (hx : x = nI n) (hn : n < 1000) (h1 : cs + 1 ≤ mc) (h2 : sl + n ≤ ms)
    (k : V l D ac b own cc nL rt i0 fr lo mc ms r (cs + 1) (sl + n) q lv (.ref N :: st) (N + 1) (um M N (.inl (t, n, .inr (fun _ => none))))) : V l D ac b own cc nL rt i0 fr lo mc ms r cs sl pc lv (.int x :: st) N M := by
  subst hq
  subst hx
  intro p e s m args below meth c H locs ls Qc F hR hS hl hQ
  have ez : (nI n).toNatClampNeg = n := nI_clamp (by omega)
  have hov : va_AO (fR ci) s := by
    have := F.2.2.2.2.2.2.2.1.2
    rcases (show ci = 0 ∨ ci = 1 ∨ ci = 2 ∨ ci = 3 by omega) with rfl | rfl | rfl | rfl
    · exact this.2.2.2.1
    · exact this.2.2.2.2
    · exact this.2.2.1
    · exact this.2.1
  refine va_newq (C := fR ci) F.1 F.2.1 F.2.2.2.2.1 (F.2.2.2.2.2.1 _ hcl) hov F.2.2.2.2.2.2.2.1.1 hR.1.2 wsM_D hS.here (fun q0 h => by have := hR.1.1; omega) (nI_pos (by omega)) ez (by omega) h1 h2 hd (fun q0 cA H1 hK1 hP1 hD1 hS1 => W_sz (fun hz => ?_))
  have hq0 := new_at (sz := 0) (s := s) hP1 hD1 (by have := hR.2; omega)
  subst hq0
  have hcA : cA = ac t := by
    have g1 := (hK1.2 6 (cA, .object (fR ci)) rfl).2
    have g2 := (hK1.2 t (ac t, aty t) (by rw [List.getElem?_append_left (by show t < 6; omega)]; exact tyL_at ac (by omega))).2
    rw [hty] at g2
    obtain ⟨_, _, _, _, _, g3⟩ := g1
    obtain ⟨_, _, _, _, _, g4⟩ := g2
    exact Option.some.inj (g3.symm.trans g4)
  subst hcA
  have e1 := wsM_push (b := b) (ac := ac) (N := N) (M := M) (.inl (t, n, .inr (fun _ => none)))
  have hP2 : va_P D clsL (wsM b ac (N + 1) (um M N (.inl (t, n, .inr (fun _ => none))))) H1 := e1 ▸ hP1
  have hlast := (hP2 N _ (wsM_at (M := um M N (.inl (t, n, .inr (fun _ => none)))) (e := .inl (t, n, .inr (fun _ => none))) ⟨Nat.lt_succ_self N, by simp [um]⟩)).lt
  exact k p e s m args below meth c H1 locs ls Qc F ⟨⟨by have := hR.2; simp only at hlast; omega, hP2⟩, by have := hR.2; omega⟩ (hS.thn hS1) hl hQ
theorem s_aast {a t n j k0 ci : Nat} {f : Nat → Option Nat} {i : Int32} {vs : List Value} (hd : decode cc pc = .ok (.aastore, 1)) (hq : pc + 1 = q) (hA : At N M a (.inl (t, n, .inr f))) (ht : t < 6) (hty : aty t = .object (fR ci)) (hV : At N M k0 (.inr (ci, vs))) (hci : ci < 6) (hi : i = nI j) (hj : j < n) (hn : n < 2147483648) (k : V l D ac b own cc nL rt i0 fr lo mc ms r cs sl q lv st N (um M a (.inl (t, n, .inr (va_up f j (some k0)))))) : V l D ac b own cc nL rt i0 fr lo mc ms r cs sl pc lv (.ref k0 :: .int i :: .ref a :: st) N M := by
  subst hq
  subst hi
  intro p e s m args below meth c H locs ls Qc F hR hS hl hQ
  refine va_astq (r := (fR ci, fT ci, fN ci)) F.1 F.2.1 F.2.2.2.2.2.2.2.1.1 hR.1.2 wsM_D hS.here a t k0 ci (n := n) (f := fun i => (f i).map (fun k => b + k)) (wsM_at hA) ((tyL_at ac ht).trans (by rw [hty])) (wsM_at hV) (clsL_at hci) (vp_in_nI hj hn) hd (fun H1 locs1 hP1 hD1 hS1 => W_sz (fun hz => ?_))
  rw [nI_clamp (by omega)] at hP1
  have e1 := wsM_set (b := b) (ac := ac) (M := M) (.inl (t, n, .inr (va_up f j (some k0)))) hA.1
  have e2 : eE b ac (.inl (t, n, .inr (va_up f j (some k0)))) = .inl (ac t, n, .inr (.inr (.inr (.inr (va_up (fun i => (f i).map (fun k => b + k)) j (some (b + k0))))))) := by
    show (Sum.inl (ac t, n, .inr (.inr (.inr (.inr (fun i => (va_up f j (some k0) i).map (fun k => b + k)))))) : va_E) = _
    have : (fun i => (va_up f j (some k0) i).map (fun k => b + k)) = va_up (fun i => (f i).map (fun k => b + k)) j (some (b + k0)) := by
      funext i
      by_cases h : i = j
      · subst h; simp [va_up]
      · simp [va_up, h]
    rw [this]
  rw [e2] at e1
  exact k p e s m args below meth c H1 locs1 ls Qc F (Rp.next hR hS1.1 hz (e1 ▸ hP1)) (hS.thn hS1) hl hQ
end PM

