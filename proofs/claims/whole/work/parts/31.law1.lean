/-! THE LAW: its own judgement, its rows -/
/-! THE CLAIM OUT OF ONE WALK OF THE LAW'S BODY. Your part is whole_start (and what it stands on); all else here is the same for every law, but numbers. -/
def R_law : String := "SpanStoreLaw"
def lw_P (b : Addr) (xs : List Int32) (args : Array Value) (s : State) : Prop := args = #[.ref b] ∧ s.IntsAt b xs ∧ xs.length ≤ 3584 ∧ (Jvm.Cond.and given_1 narrow_1).before args s = true
def lw_Q (_ : Array Value) (s : State) (o : Outcome) (t : State) : Prop := o = .returned (some (.int 1)) ∧ Framed s o t [] 600000 7302250
def lw_Z (below : List Frame) (a : Array Value) (s : State) : State → Prop := fun t => ∃ o, t.status = .running ∧ Ended t below o ∧ lw_Q a s o t
/-- the law's own end, with 1 on the stack, nothing written that was there before, its room as the claim has it -/
theorem lw_ret {p : Program} {l : Launch} {e : Env} {s : State} {m : MethodId} {below : List Frame} {meth : Method} {c : Code} {b : Nat} (hx : p.tables.exec = Jvm.exec) (hb : c.code = code) (hr : meth.sig.returnType = ret) (hlocks : meth.locks = false) {pc : Nat} {H : Heap} {ls : Array Slot} (hdg : decode code pc = .ok (.ireturn, 1)) : W p l e room_1 s m #[Value.ref b] below meth c H [] 600000 7302250 (lw_Z below #[Value.ref b] s) (F0 m pc ls [.int 1]) := by
  intro T hT X
  obtain ⟨fs, hret, hrun, hended, hW, hframe⟩ := X.leave (v := some (.int 1)) (hlocks := hlocks) (fun h => by rw [hr] at h; cases h)
  have hmeth' : T.vm.method? m = some meth := X.method'
  refine ⟨T.setFrames fs, ?_, .returned (some (.int 1)), hrun, hended, rfl, ⟨_, rfl⟩, hW, hframe⟩
  jvm_step X.here [X.here.top, hx, hb, hdg, hmeth', hr, ret, narrow_b1]
  (try refine ⟨rfl, ?_⟩); (try refine ⟨rfl, ?_⟩)
  first | (intro acts; rw [hret _ acts rfl rfl rfl]) | rw [hret _ _ rfl rfl rfl]
  exact Steps.refl _
/-- what holds at the law's entry: the machine, the code, the tables' words (any of lw_tbl by 'hts w (by decide +kernel)'), the script of L ints xs at the cell b, what the Statement gives of the start (any of its parts by flat_of_before) -/
def lw_At (p : Program) (s : State) (m : MethodId) (meth : Method) (c : Code) (b L : Nat) (xs : Nat → Int32) : Prop :=
  p.tables.exec = Jvm.exec ∧ c.code = code ∧ meth.sig.returnType = ret ∧ c.maxLocals = 4 ∧ s.vm.findClass R_law = some m.cls ∧ (∀ w ∈ lw_tbl, w.before #[Value.ref b] s = true) ∧ va_X b L xs s s.heap ∧ b < s.heap.size ∧ meth.locks = false ∧ (Jvm.Cond.and given_1 narrow_1).before #[Value.ref b] s = true

/-- the start -/
theorem Inv_X0 : Inv X0 := by
  have z : ∀ a p, a < 114 ∨ 122 ≤ a → X0 a p = 0 := fun a p h => X0_z h p
  refine ⟨fun t ht => ⟨0, ?_⟩, fun t ht j hj => ⟨0, ?_⟩, fun k hk => ⟨0, ?_⟩, ?_, ?_, fun r hr => ?_⟩
  · exact ⟨by omega, z _ _ (by omega), z _ _ (by omega), by rw [z _ _ (by omega), z _ _ (by omega)], fun k hk => absurd hk (Nat.not_lt_zero k)⟩
  · have hbC : bC t j = 4 + 55 * t + 3 + 6 * j := rfl
    exact ⟨by omega, z _ _ (by omega), z _ _ (by omega), fun i hi => absurd hi (Nat.not_lt_zero i), z _ _ (by omega), fun g hg => z _ _ (by omega), fun _ i hi => absurd hi (Nat.not_lt_zero i), fun h => absurd (z _ _ (by omega)) h⟩
  · refine ⟨by omega, ?_, z _ _ (by omega), ?_, Or.inr ⟨?_, z _ _ (by omega)⟩, fun i hi => ?_⟩
    · exact if_neg (by omega)
    · rw [z _ _ (by omega)]; exact (if_neg (by omega)).symm
    · exact if_pos (by omega)
    · rw [z _ _ (by omega), X0_o (by omega)]
  · rw [z _ _ (by omega), z _ _ (by omega)]
  · rw [z _ _ (by omega), z _ _ (by omega)]
  · have e : X0 125 r = 0 := z _ _ (by omega)
    unfold gpN
    rw [e]
    exact ⟨rfl, by decide⟩
theorem arr_of {u : State} {cA : ClassId} {kA : Class} {comp : ClassId} {ty : FieldType} (h2 : u.vm.classes[cA]? = some kA) (h3 : kA.kind = .array comp ty) : ArrOfT u cA ty := fun n z => ⟨fun k h => (by cases h), kA, h2, comp, h3⟩
theorem ao_K {u : State} {C : String} (h : va_AO C u) : ∃ cA, ArrOfT u cA (.object C) ∧ va_RA u cA (.object C) := by
  obtain ⟨comp, cA, kA, h1, h2, h3, h4, h5⟩ := Cond.arrayOver_spec h
  exact ⟨cA, arr_of h3 h4, kA, comp, h3, h4, h1, h5⟩
theorem ac_K {u : State} {a : Array Value} {ty : FieldType} (h : (Cond.arrayClass ty).before a u = true) (hr : ∀ cA, u.vm.findClass ("[" ++ ty.toString) = some cA → va_RA u cA ty) : ∃ cA, ArrOfT u cA ty ∧ va_RA u cA ty := by
  obtain ⟨cA, kA, comp, h1, h2, h3⟩ := Cond.arrayClass_spec h
  exact ⟨cA, arr_of h2 h3, hr cA h1⟩
theorem law_K {u : State} {a : Array Value} (hts : ∀ w ∈ lw_tbl, w.before a u = true) : ∃ (D : va_G) (ac : Nat → ClassId), Kx D ac u := by
  have hg := tbG_sub hts
  have k0 := u_known (C := fR 0) (T := fT 0) (N := fN 0) hg inG0 (hg _ it_0.1)
  have k1 := u_known (C := fR 1) (T := fT 1) (N := fN 1) hg inG1 (hg _ it_1.1)
  have k2 := u_known (C := fR 2) (T := fT 2) (N := fN 2) hg inG2 (hg _ it_2.1)
  have k3 := u_known (C := fR 3) (T := fT 3) (N := fN 3) hg inG3 (hg _ it_3.1)
  have k4 := u_known (C := fR 4) (T := fT 4) (N := fN 4) hg inG4 (hg _ it_4.1)
  have k5 := u_known (C := fR 5) (T := fT 5) (N := fN 5) hg inG5 (hg _ it_5.1)
  obtain ⟨c0, s0, k0⟩ := k0
  obtain ⟨c1, s1, k1⟩ := k1
  obtain ⟨c2, s2, k2⟩ := k2
  obtain ⟨c3, s3, k3⟩ := k3
  obtain ⟨c4, s4, k4⟩ := k4
  obtain ⟨c5, s5, k5⟩ := k5
  have o3 : va_AO (fR 3) u := va_AO.of (hts _ ao_3)
  have o2 : va_AO (fR 2) u := va_AO.of (hts _ ao_2)
  have o0 : va_AO (fR 0) u := va_AO.of (hts _ ao_0)
  have o1 : va_AO (fR 1) u := va_AO.of (hts _ ao_1)
  obtain ⟨a0, A0⟩ := ac_K (hg _ ak_int) (fun cA h => h)
  obtain ⟨a1, A1⟩ := ac_K (hg _ ak_boolean) (fun cA h => h)
  obtain ⟨a2, A2⟩ := ao_K o3
  obtain ⟨a3, A3⟩ := ao_K o2
  obtain ⟨a4, A4⟩ := ao_K o0
  obtain ⟨a5, A5⟩ := ao_K o1
  refine ⟨(fun k => match k with | 0 => c0 | 1 => c1 | 2 => c2 | 3 => c3 | 4 => c4 | _ => c5, fun k => match k with | 0 => s0 | 1 => s1 | 2 => s2 | 3 => s3 | 4 => s4 | _ => s5), (fun k => match k with | 0 => a0 | 1 => a1 | 2 => a2 | 3 => a3 | 4 => a4 | _ => a5), ⟨fun k q hq => ?_, fun k q hq => ?_⟩, fun q hq => ?_, o3, o2, o0, o1⟩
  · match k, hq with
    | 0, hq => cases hq; exact k0
    | 1, hq => cases hq; exact k1
    | 2, hq => cases hq; exact k2
    | 3, hq => cases hq; exact k3
    | 4, hq => cases hq; exact k4
    | 5, hq => cases hq; exact k5
    | k + 6, hq => simp [clsL] at hq
  · match k, hq with
    | 0, hq => cases hq; exact A0
    | 1, hq => cases hq; exact A1
    | 2, hq => cases hq; exact A2
    | 3, hq => cases hq; exact A3
    | 4, hq => cases hq; exact A4
    | 5, hq => cases hq; exact A5
    | k + 6, hq => simp [tyL] at hq
  · have hn : q = ("SpanStore$Keeper", 27, y_C_isCongruent) ∨ q = ("SpanStore$Block", 107, y_C_isCongruent) ∨ q = ("SpanStore$Block", 118, y_C_isFact) ∨ q = ("SpanStore$Block", 124, y_C_mixed) ∨ q = ("SpanStore$Table", 84, y_C_mixed) := by
      simpa [nests] using hq
    rcases hn with rfl | rfl | rfl | rfl | rfl
    · exact va_Nw.of rfl (hts _ mn_K_27)
    · exact va_Nw.of rfl (hts _ mn_B_107)
    · exact va_Nw.of rfl (hts _ mn_B_118)
    · exact va_Nw.of rfl (hts _ mn_B_124)
    · exact va_Nw.of rfl (hts _ mn_T_84)
def J (p : Program) (l : Launch) (e : Env) (s : State) (m : MethodId) (below : List Frame) (meth : Method) (c : Code) (D : va_G) (ac : Nat → ClassId) (bs : Nat) (cs sl pc : Nat) (lv : List (Nat × Value)) (st : List Value) (N : Nat) (M : Mem) : Prop :=
  ∀ (H : Heap) (locs : List Loc) (ls : Array Slot), Rp D ac s.heap.size N M H → N = cs → va_S (fun q => s.heap.size ≤ q) s.heap H locs → lv_has ls 4 lv → W p l e room_1 s m #[Value.ref bs] below meth c H locs cs sl (lw_Z below #[Value.ref bs] s) (F0 m pc ls st)
section LAWR
variable {p : Program} {l : Launch} {e : Env} {s : State} {m : MethodId} {below : List Frame} {meth : Method} {c : Code} {D : va_G} {ac : Nat → ClassId} {bs L : Nat} {xs : Nat → Int32} {cs sl pc q N : Nat} {lv : List (Nat × Value)} {st : List Value} {M : Mem} {X : RAM}
theorem j_run {av0 st0 : List Value} {r1 : RS} {mc1 ms1 : Nat} (hN : r1.2.1 = N + mc1)
    (hrun : ∀ (H : Heap) (locs : List Loc) (ls : Array Slot), Rp D ac s.heap.size N M H → lv_has ls 4 lv → va_Run p l e room_1 s m #[Value.ref bs] below meth c H locs cs sl mc1 ms1 (F0 m pc ls st) st0 (Pst D ac s.heap.size r1 (av0.map (ev s.heap.size)).toArray) (fun q => s.heap.size ≤ q))
    (k : J p l e s m below meth c D ac bs (cs + mc1) (sl + ms1) (pc + 3) lv ((r1.1.map (ev s.heap.size)).toList ++ st0) r1.2.1 r1.2.2) : J p l e s m below meth c D ac bs cs sl pc lv st N M := by
  intro H locs ls hR hC hS hl T hT X
  obtain ⟨v, st₀, t, T', L1, h0, X', hL, e1, e2, hq, hst⟩ := hrun H locs ls hR hl T hT X
  obtain ⟨hv, hR', hF'⟩ := hq
  have hv2 : v = r1.1.map (ev s.heap.size) := by simpa using hv
  subst hv2
  have hS' : va_S (fun q => s.heap.size ≤ q) s.heap T'.heap (locs ++ L1) := by
    refine ⟨by rw [e1]; exact Nat.le_trans hS.1 (by rw [← h0]; exact hF'.1), fun q h1 h2 => ?_, fun q hq => ?_⟩
    · rw [e1, hF'.2 q (by rw [h0]; exact Nat.lt_of_lt_of_le h1 hS.1) h2, h0]
      exact hS.2.1 q h1 h2
    · rcases List.mem_append.mp hq with h | h
      · exact hS.2.2 q h
      · exact hL q h
  obtain ⟨t2, a1, b1⟩ := k T'.heap (locs ++ L1) ls (by rw [e1]; exact hR') (by omega) hS' hl T' rfl X'
  exact ⟨t2, hst t2 a1, b1⟩
theorem j_callV (C0 : lw_At p s m meth c bs L xs) (hK : Kx D ac s) {idx a ci : Nat} {y : MethodName} {cy : ByteArray} {nLy : Nat} {rty : Option FieldType} {n fr1 lo1 : Nat} {As st0 : List Value} {ss : List (Option Nat)} {r1 : Option Value} {X1 : RAM} (hd : decode code pc = .ok (.invokevirtual idx, 3)) (hq : pc + 3 = q) (hl : Cond.methodLink "SpanStoreLaw" idx y ∈ tbG) (hm : MX y cy nLy rty n) (hv : MV y ci) (hC : CG l D ac s.heap.size y cy nLy rty fr1 lo1 (.ref a :: As) X r1 X1)
    (hS : sk a = .inr (ci, ss)) (hst : st = (As.map (ev s.heap.size)).reverse ++ .ref (s.heap.size + a) :: st0) (hn : As.length = n) (hW : (st0.map fun v => v.category).sum ≤ 8) (hroom : fr1 + 1 ≤ 9 ∧ 8 + (nLy + 11) + lo1 ≤ 328) (hcs : cs ≤ 600000 ∧ sl ≤ 7302250)
    (k : J p l e s m below meth c D ac bs cs sl q lv ((r1.map (ev s.heap.size)).toList ++ st0) 144 (mk X1)) : J p l e s m below meth c D ac bs cs sl pc lv st 144 (mk X) := by
  subst hq
  obtain ⟨hx, hb, hr, hml, hown, hts0, hX, hbl, hlocks, hgv⟩ := C0
  have hts := tbG_sub hts0
  refine j_run (av0 := .ref a :: As) (r1 := (r1, 144, mk X1)) (mc1 := 0) (ms1 := 0) (st0 := st0) rfl (fun H locs ls hR hl2 => ?_) k
  refine va_runV (As := As.map (ev s.heap.size)) (C := fR ci) (own := "SpanStoreLaw") ⟨hx, hb, hml, hown, hts⟩ hC ⟨callB_y (R := room_1) hts hm hl hroom, hts _ hv.1, hts _ hv.2.1⟩ ⟨Pre.blind D ac s.heap.size 144 (mk X) _, ?_, fun U hU hW => Pre.at (av := .ref a :: As) (y := y) hR hK hU hW⟩ rfl (by rw [List.length_map]; exact hn) hl2.1 ?_ (lv_room hW) hd hcs
  · exact va_recv hK.1 hR.2 (clsL_at hv.2.2.2) (wsM_at (mk_obj hS))
  · rw [hst]
theorem j_callI (C0 : lw_At p s m meth c bs L xs) (hK : Kx D ac s) {idx a : Nat} {y : MethodName} {cy : ByteArray} {nLy : Nat} {fr1 lo1 mc1 ms1 : Nat} {st0 : List Value} {r1 : RS} (hd : decode code pc = .ok (.invokespecial idx, 3)) (hq : pc + 3 = q) (hl : Cond.methodLink "SpanStoreLaw" idx y ∈ tbG) (hm : MX y cy nLy none 0) (hv : MI y) (hC : Ct l D ac s.heap.size y cy nLy none fr1 lo1 mc1 ms1 [.ref a] N M r1)
    (hst : st = .ref (s.heap.size + a) :: st0) (hW : (st0.map fun v => v.category).sum ≤ 8) (hroom : fr1 + 1 ≤ 9 ∧ 8 + (nLy + 11) + lo1 ≤ 328) (hcs : cs + mc1 ≤ 600000 ∧ sl + ms1 ≤ 7302250) (hN : r1.2.1 = N + mc1)
    (k : J p l e s m below meth c D ac bs (cs + mc1) (sl + ms1) q lv ((r1.1.map (ev s.heap.size)).toList ++ st0) r1.2.1 r1.2.2) : J p l e s m below meth c D ac bs cs sl pc lv st N M := by
  subst hq
  obtain ⟨hx, hb, hr, hml, hown, hts0, hX, hbl, hlocks, hgv⟩ := C0
  have hts := tbG_sub hts0
  refine j_run (av0 := [.ref a]) (st0 := st0) hN (fun H locs ls hR hl2 => ?_) k
  refine va_runI (b := s.heap.size + a) (As := []) (own := "SpanStoreLaw") ⟨hx, hb, hml, hown, hts⟩ hC ⟨callB_y (R := room_1) hts hm hl hroom, hv.2, hts _ hv.1⟩ ⟨Pre.blind D ac s.heap.size N M _, fun U hU hW => Pre.at (av := [.ref a]) (y := y) hR hK hU hW⟩ rfl rfl hl2.1 ?_ (lv_room hW) hd hcs
  rw [hst]
  rfl
theorem j_new (C0 : lw_At p s m meth c bs L xs) (hK : Kx D ac s) {idx ci : Nat} {fs : List Value} (hd : decode code pc = .ok (.new idx, 3)) (hq : pc + 3 = q) (hci : ci < 6) (hcl : Cond.classLink "SpanStoreLaw" idx (fR ci) ∈ tbG) (hit : Cond.instantiable (fR ci) (fN ci) ∈ tbG ∧ Cond.initialized (fR ci) ∈ tbG) (hfs : ∀ j, j < fN ci → defaultValue (fY ci j) = vp_V fs j) (hev : ∀ b, fs.map (ev b) = fs) (h1 : cs + 1 ≤ 600000) (h2 : sl + fN ci ≤ 7302250)
    (k : J p l e s m below meth c D ac bs (cs + 1) (sl + fN ci) q lv (.ref (s.heap.size + N) :: st) (N + 1) (um M N (.inr (ci, fs)))) : J p l e s m below meth c D ac bs cs sl pc lv st N M := by
  subst hq
  obtain ⟨hx, hb, hr, hml, hown, hts0, hX, hbl, hlocks, hgv⟩ := C0
  have hts := tbG_sub hts0
  intro H locs ls hR hC hS hl
  refine va_new (ci := ci) (fs := fs) (C := fR ci) (T := fT ci) (N := fN ci) (own := "SpanStoreLaw") hx hb hts (inG hci) (fY ci) (fY_ok hci) hown (hts _ hcl) (hts _ hit.1) (hts _ hit.2) hK.1 hR.2 wsM_D hS.here (fun q0 h => by have := hR.1; omega) (clsL_at hci) hfs h1 h2 hd (fun q0 H1 hP1 hD1 hS1 => W_sz (fun hz => ?_))
  have hq0 := new_at (sz := 0) (s := s) hP1 hD1 (by omega)
  subst hq0
  have e1 := wsM_push (b := s.heap.size) (ac := ac) (N := N) (M := M) (.inr (ci, fs))
  have e2 : eE s.heap.size ac (.inr (ci, fs)) = .inr (ci, fs) := by show (Sum.inr (ci, fs.map (ev s.heap.size)) : va_E) = _; rw [hev]
  rw [e2] at e1
  have hP2 := e1 ▸ hP1
  have hlast := (hP2 N _ (wsM_at (M := um M N (.inr (ci, fs))) (e := .inr (ci, fs)) ⟨Nat.lt_succ_self N, by simp [um]⟩)).lt
  exact k H1 locs ls ⟨by simp only at hlast; omega, hP2⟩ (by omega) (hS.thn hS1) hl
theorem j_mem {M' : Mem} (h : ∀ k, k < N → M k = M' k) (k : J p l e s m below meth c D ac bs cs sl pc lv st N M') : J p l e s m below meth c D ac bs cs sl pc lv st N M := by
  intro H locs ls hR
  have e : wsM s.heap.size ac N M = wsM s.heap.size ac N M' := by
    unfold wsM
    exact List.map_congr_left (fun i hi => by rw [h i (List.mem_range.mp hi)])
  exact k H locs ls ⟨hR.1, by rw [← e]; exact hR.2⟩
def LV (s : State) (bs i : Nat) : List (Nat × Value) := [(3, .int (nI i)), (2, .ref (s.heap.size + 122)), (1, .ref (s.heap.size + 0)), (0, .ref bs)]
theorem j_ald (C0 : lw_At p s m meth c bs L xs) {k : Fin 4} {i x : Nat} (hd : decode code pc = .ok (.aload_n k, 1)) (hq : pc + 1 = q) (hi : (k : Nat) = i) (n : Nat) (hl : lv[n]? = some (i, .ref x)) (kk : J p l e s m below meth c D ac bs cs sl q lv (.ref x :: st) N M) : J p l e s m below meth c D ac bs cs sl pc lv st N M := by
  subst hq
  intro H locs ls hR hC hS hl2
  exact lv_aload_n C0.1 C0.2.1 hd hi (lv_at hl2 n hl) (kk H locs ls hR hC hS hl2)
theorem j_ild (C0 : lw_At p s m meth c bs L xs) {k : Fin 4} {i : Nat} {x : Int32} (hd : decode code pc = .ok (.iload_n k, 1)) (hq : pc + 1 = q) (hi : (k : Nat) = i) (n : Nat) (hl : lv[n]? = some (i, .int x)) (kk : J p l e s m below meth c D ac bs cs sl q lv (.int x :: st) N M) : J p l e s m below meth c D ac bs cs sl pc lv st N M := by
  subst hq
  intro H locs ls hR hC hS hl2
  exact lv_iload_n C0.1 C0.2.1 hd hi (lv_at hl2 n hl) (kk H locs ls hR hC hS hl2)
theorem j_ico (C0 : lw_At p s m meth c bs L xs) {n : Int} {v : Int32} (hd : decode code pc = .ok (.iconst n, 1)) (hq : pc + 1 = q) (hv : Int32.ofInt n = v) (kk : J p l e s m below meth c D ac bs cs sl q lv (.int v :: st) N M) : J p l e s m below meth c D ac bs cs sl pc lv st N M := by
  subst hq
  intro H locs ls hR hC hS hl2
  exact lv_iconst C0.1 C0.2.1 hd hv (kk H locs ls hR hC hS hl2)
theorem j_bip (C0 : lw_At p s m meth c bs L xs) {n : Int} {v : Int32} (hd : decode code pc = .ok (.bipush n, 2)) (hq : pc + 2 = q) (hv : (Int8.ofInt n).toInt32 = v) (kk : J p l e s m below meth c D ac bs cs sl q lv (.int v :: st) N M) : J p l e s m below meth c D ac bs cs sl pc lv st N M := by
  subst hq
  intro H locs ls hR hC hS hl2
  exact lv_bipush C0.1 C0.2.1 hd hv (kk H locs ls hR hC hS hl2)
theorem j_add (C0 : lw_At p s m meth c bs L xs) {x y : Int32} (hd : decode code pc = .ok (.iadd, 1)) (hq : pc + 1 = q) (kk : J p l e s m below meth c D ac bs cs sl q lv (.int (x + y) :: st) N M) : J p l e s m below meth c D ac bs cs sl pc lv (.int y :: .int x :: st) N M := by
  subst hq
  intro H locs ls hR hC hS hl2
  exact lv_iadd C0.1 C0.2.1 hd (kk H locs ls hR hC hS hl2)
theorem j_sub (C0 : lw_At p s m meth c bs L xs) {x y : Int32} (hd : decode code pc = .ok (.isub, 1)) (hq : pc + 1 = q) (kk : J p l e s m below meth c D ac bs cs sl q lv (.int (x - y) :: st) N M) : J p l e s m below meth c D ac bs cs sl pc lv (.int y :: .int x :: st) N M := by
  subst hq
  intro H locs ls hR hC hS hl2
  exact lv_isub C0.1 C0.2.1 hd (kk H locs ls hR hC hS hl2)
theorem j_and (C0 : lw_At p s m meth c bs L xs) {x y : Int32} (hd : decode code pc = .ok (.iand, 1)) (hq : pc + 1 = q) (kk : J p l e s m below meth c D ac bs cs sl q lv (.int (x &&& y) :: st) N M) : J p l e s m below meth c D ac bs cs sl pc lv (.int y :: .int x :: st) N M := by
  subst hq
  intro H locs ls hR hC hS hl2
  exact lv_iand C0.1 C0.2.1 hd (kk H locs ls hR hC hS hl2)
theorem j_sld (C0 : lw_At p s m meth c bs L xs) {i : Nat} {x : Int32} (hL : L ≤ 3584) (hd : decode code pc = .ok (.iaload, 1)) (hq : pc + 1 = q) (hx : x = nI i) (hi : i < L) (kk : J p l e s m below meth c D ac bs cs sl q lv (.int (xs i) :: st) N M) : J p l e s m below meth c D ac bs cs sl pc lv (.int x :: .ref bs :: st) N M := by
  subst hq
  subst hx
  obtain ⟨hx, hb, hr, hml, hown, hts0, hX, hbl, hlocks, hgv⟩ := C0
  intro H locs ls hR hC hS hl2
  refine va_sld hx hb hX hbl (Nat.not_le.mpr hbl) hS (vp_in_nI hi (by omega)) hd ?_
  rw [nI_clamp (by omega)]
  exact kk H locs ls hR hC hS hl2
theorem j_sle (C0 : lw_At p s m meth c bs L xs) (hd : decode code pc = .ok (.arraylength, 1)) (hq : pc + 1 = q) (kk : J p l e s m below meth c D ac bs cs sl q lv (.int (nI L) :: st) N M) : J p l e s m below meth c D ac bs cs sl pc lv (.ref bs :: st) N M := by
  subst hq
  obtain ⟨hx, hb, hr, hml, hown, hts0, hX, hbl, hlocks, hgv⟩ := C0
  intro H locs ls hR hC hS hl2
  exact va_slen hx hb hX hbl (Nat.not_le.mpr hbl) hS hd (kk H locs ls hR hC hS hl2)
theorem j_gt (C0 : lw_At p s m meth c bs L xs) {x y : Int32} {off : Int} {tgt : Nat} (hd : decode code pc = .ok (.if_icmp .gt off, 3)) (ht : (pc : Int) + off = (tgt : Int)) (hq : pc + 3 = q) (kt : y < x → J p l e s m below meth c D ac bs cs sl tgt lv st N M) (kf : ¬ y < x → J p l e s m below meth c D ac bs cs sl q lv st N M) : J p l e s m below meth c D ac bs cs sl pc lv (.int y :: .int x :: st) N M := by
  subst hq
  intro H locs ls hR hC hS hl2
  exact lv_icmp_gt C0.1 C0.2.1 hd ht (fun z => kt z H locs ls hR hC hS hl2) (fun z => kf z H locs ls hR hC hS hl2)
theorem j_eq (C0 : lw_At p s m meth c bs L xs) {x : Int32} {off : Int} {tgt : Nat} (hd : decode code pc = .ok (.if_icmp .eq off, 3)) (ht : (pc : Int) + off = (tgt : Int)) (kt : J p l e s m below meth c D ac bs cs sl tgt lv st N M) : J p l e s m below meth c D ac bs cs sl pc lv (.int x :: .int x :: st) N M := by
  intro H locs ls hR hC hS hl2
  exact lv_icmp_eq C0.1 C0.2.1 hd ht (fun _ => kt H locs ls hR hC hS hl2) (fun z => absurd rfl z)
theorem j_leq (C0 : lw_At p s m meth c bs L xs) {x : Int64} {off : Int} {tgt : Nat} (hd1 : decode code pc = .ok (.lcmp, 1)) (hd : decode code (pc + 1) = .ok (.ifCond .eq off, 3)) (ht : ((pc + 1 : Nat) : Int) + off = (tgt : Int)) (kt : J p l e s m below meth c D ac bs cs sl tgt lv st N M) : J p l e s m below meth c D ac bs cs sl pc lv (.long x :: .long x :: st) N M := by
  intro H locs ls hR hC hS hl2
  refine W.lcmp C0.1 C0.2.1 hd1 ?_
  exact lv_if_eq C0.1 C0.2.1 hd ht (fun _ => kt H locs ls hR hC hS hl2) (fun z => absurd ((lg_cmp_eq x x).mpr rfl) z)
theorem j_arg (C0 : lw_At p s m meth c bs L xs) (hL : L ≤ 3584) {i k : Nat} {n : Int} (d0 : decode code pc = .ok (.aload_n 0, 1)) (d1 : decode code (pc + 1) = .ok (.iload_n 3, 1)) (d2 : decode code (pc + 2) = .ok (.iconst n, 1)) (hn : Int32.ofInt n = nI k) (d3 : decode code (pc + 3) = .ok (.iadd, 1)) (d4 : decode code (pc + 4) = .ok (.iaload, 1)) (hq : pc + 5 = q) (hi : i + k < L) (kk : J p l e s m below meth c D ac bs cs sl q (LV s bs i) (.int (xs (i + k)) :: st) N M) : J p l e s m below meth c D ac bs cs sl pc (LV s bs i) st N M := by
  subst hq
  refine j_ald C0 d0 rfl rfl 3 rfl ?_
  refine j_ild C0 d1 rfl rfl 0 rfl ?_
  refine j_ico C0 d2 rfl hn ?_
  refine j_add C0 d3 rfl ?_
  exact j_sld C0 hL d4 rfl (by rw [nI_add]) hi kk
theorem j_arg6 (C0 : lw_At p s m meth c bs L xs) (hL : L ≤ 3584) {i k : Nat} {n : Int} (d0 : decode code pc = .ok (.aload_n 0, 1)) (d1 : decode code (pc + 1) = .ok (.iload_n 3, 1)) (d2 : decode code (pc + 2) = .ok (.bipush n, 2)) (hn : (Int8.ofInt n).toInt32 = nI k) (d3 : decode code (pc + 4) = .ok (.iadd, 1)) (d4 : decode code (pc + 5) = .ok (.iaload, 1)) (hq : pc + 6 = q) (hi : i + k < L) (kk : J p l e s m below meth c D ac bs cs sl q (LV s bs i) (.int (xs (i + k)) :: st) N M) : J p l e s m below meth c D ac bs cs sl pc (LV s bs i) st N M := by
  subst hq
  refine j_ald C0 d0 rfl rfl 3 rfl ?_
  refine j_ild C0 d1 rfl rfl 0 rfl ?_
  refine j_bip C0 d2 rfl hn ?_
  refine j_add C0 d3 rfl ?_
  exact j_sld C0 hL d4 rfl (by rw [nI_add]) hi kk
end LAWR
