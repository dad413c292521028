/-! THE LAW: its loop, its start, the claim -/
section LAWL
variable {p : Program} {l : Launch} {e : Env} {s : State} {m : MethodId} {below : List Frame} {meth : Method} {c : Code} {D : va_G} {ac : Nat → ClassId} {bs L : Nat} {xs : Nat → Int32} {cs sl pc q N : Nat} {lv : List (Nat × Value)} {st : List Value} {M : Mem} {X : RAM}
theorem law_end (C0 : lw_At p s m meth c bs L xs) (hcs : cs ≤ 600000 ∧ sl ≤ 7302250) : J p l e s m below meth c D ac bs cs sl 1089 lv [] N M := by
  obtain ⟨hx, hb, hr, hml, hown, hts0, hX, hbl, hlocks, hgv⟩ := C0
  intro H locs ls hR hC hS hl
  refine lv_iconst (v := 1) hx hb d_L_law_1089 (by decide) ?_
  refine va_forget (fun q hq => hS.2.2 q hq) ?_
  refine W.widen (k := 600000) (n := 7302250) hcs.1 hcs.2 ?_
  exact lw_ret hx hb hr hlocks d_L_law_1090
theorem law_loop (C0 : lw_At p s m meth c bs L xs) (hK : Kx D ac s) (hL : L ≤ 3584) (hcs : cs ≤ 600000 ∧ sl ≤ 7302250) : ∀ (n i : Nat) (X : RAM), i ≤ L → L + 1 ≤ i + n → Inv X → J p l e s m below meth c D ac bs cs sl 18 (LV s bs i) [] 144 (mk X) := by
  intro n
  induction n with
  | zero => intro i X h1 h2; omega
  | succ n ih =>
    intro i X h1 h2 hI
    refine j_ild C0 d_L_law_18 rfl rfl 0 rfl ?_
    refine j_ald C0 d_L_law_19 rfl rfl 3 rfl ?_
    refine j_sle C0 d_L_law_20 rfl ?_
    refine j_bip (v := 7) C0 d_L_law_21 rfl (by decide) ?_
    refine j_sub C0 d_L_law_23 rfl ?_
    refine j_gt (tgt := 1089) C0 d_L_law_24 (by decide) rfl (fun _ => law_end C0 hcs) (fun z => ?_)
    have hi : i + 7 ≤ L := by
      have e1 := nI_toInt (show L < 2 ^ 31 by omega)
      have e2 := nI_toInt (show i < 2 ^ 31 by omega)
      have e3 : (nI L - 7).toInt = (L : Int) - 7 := by rw [is32 (by rw [e1, tI_7]; omega) (by rw [e1, tI_7]; omega), e1, tI_7]
      rw [i_lt, e2, e3] at z
      omega
    refine j_ald C0 d_L_law_27 rfl rfl 3 rfl ?_
    refine j_ild C0 d_L_law_28 rfl rfl 0 rfl ?_
    refine j_sld C0 hL d_L_law_29 rfl rfl (by omega) ?_
    refine j_bip (v := 31) C0 d_L_law_30 rfl (by decide) ?_
    refine j_and C0 d_L_law_32 rfl ?_
    obtain ⟨w, hw, ew⟩ := pk_andE (xs i) (m := 31) 5 (by decide)
    rw [ew]
    have K : ∀ X2, Inv X2 → J p l e s m below meth c D ac bs cs sl 1083 (LV s bs i) [] 144 (mk X2) := by
      intro X2 h3 H locs ls hR hC hS hl
      refine lv_iinc (v := nI (i + 7)) (lv' := LV s bs (i + 7)) C0.1 C0.2.1 d_L_law_1083 hl (k := 0) rfl (by rw [show Int32.ofInt 7 = nI 7 by decide, nI_add]) (by decide) rfl (fun ls hl => ?_)
      refine lv_goto (tgt := 18) C0.1 C0.2.1 d_L_law_1086 (by decide) ?_
      exact ih (i + 7) X2 hi (by omega) h3 H locs ls hR hC hS hl
    exact law_cases C0 hK hL hi hI hcs hw K
theorem start_mem {M : Mem} : ∀ k, k < 144 → pm (um (pm M 0 122) 122 (.inr (5, blk5))) 122 22 k = mk X0 k := by
  intro k hk
  by_cases h : 122 ≤ k
  · exact pm_in ⟨h, by omega⟩
  · rw [pm_out (by omega), um_ne (by omega), pm_in (by omega)]
theorem law_start (C0 : lw_At p s m meth c bs L xs) (hK : Kx D ac s) (hL : L ≤ 3584) {M : Mem} : J p l e s m below meth c D ac bs 0 0 0 [(0, .ref bs)] [] 0 M := by
  refine j_new (ci := 4) (fs := blk4) (q := 3) C0 hK d_L_law_0 rfl (by decide) cl_L_7 it_4 bl4 (fun _ => rfl) (by decide) (by decide) ?_
  intro H locs ls hR hC hS hl
  refine lv_dup C0.1 C0.2.1 d_L_law_3 rfl ?_
  refine (j_callI (a := 0) (q := 7) C0 hK d_L_law_4 rfl ml_L_9 mx_C_init mi_C_init (t_C_init um_eq) rfl (Nat.le_of_ble_eq_true rfl) ⟨Nat.le_of_ble_eq_true rfl, Nat.le_of_ble_eq_true rfl⟩ ⟨Nat.le_of_ble_eq_true rfl, Nat.le_of_ble_eq_true rfl⟩ rfl ?_ : J p l e s m below meth c D ac bs (0 + 1) (0 + fN 4) 4 [(0, .ref bs)] [.ref (s.heap.size + 0), .ref (s.heap.size + 0)] (0 + 1) (um M 0 (.inr (4, blk4)))) H locs ls hR hC hS hl
  clear hR hC hS hl
  intro H locs ls hR hC hS hl
  refine lv_astore_n (lv' := [(1, .ref (s.heap.size + 0)), (0, .ref bs)]) C0.1 C0.2.1 d_L_law_7 rfl hl (by decide) rfl (fun ls hl => ?_)
  refine (j_new (ci := 5) (fs := blk5) (q := 11) C0 hK d_L_law_8 rfl (by decide) cl_L_10 it_5 bl5 (fun _ => rfl) (Nat.le_of_ble_eq_true rfl) (Nat.le_of_ble_eq_true rfl) ?_ : J p l e s m below meth c D ac bs (0 + 1 + 121) (0 + fN 4 + 1394) 8 [(1, .ref (s.heap.size + 0)), (0, .ref bs)] [] (1 + 121) (pm (um M 0 (.inr (4, blk4))) 0 122)) H locs ls hR hC hS hl
  clear hR hC hS hl
  intro H locs ls hR hC hS hl
  refine lv_dup C0.1 C0.2.1 d_L_law_11 rfl ?_
  refine (j_callI (a := 122) (q := 15) C0 hK d_L_law_12 rfl ml_L_12 mx_M_init mi_M_init (t_M_init um_eq) rfl (Nat.le_of_ble_eq_true rfl) ⟨Nat.le_of_ble_eq_true rfl, Nat.le_of_ble_eq_true rfl⟩ ⟨Nat.le_of_ble_eq_true rfl, Nat.le_of_ble_eq_true rfl⟩ rfl ?_ : J p l e s m below meth c D ac bs (0 + 1 + 121 + 1) (0 + fN 4 + 1394 + fN 5) 12 [(1, .ref (s.heap.size + 0)), (0, .ref bs)] [.ref (s.heap.size + 122), .ref (s.heap.size + 122)] 123 (um (pm (um M 0 (.inr (4, blk4))) 0 122) 122 (.inr (5, blk5)))) H locs ls hR hC hS hl
  clear hR hC hS hl
  refine j_mem (N := 144) (M' := mk X0) start_mem ?_
  intro H locs ls hR hC hS hl
  refine lv_astore_n (lv' := [(2, .ref (s.heap.size + 122)), (1, .ref (s.heap.size + 0)), (0, .ref bs)]) C0.1 C0.2.1 d_L_law_15 rfl hl (by decide) rfl (fun ls hl => ?_)
  refine lv_iconst (v := 0) C0.1 C0.2.1 d_L_law_16 (by decide) ?_
  refine lv_istore_n (lv' := LV s bs 0) C0.1 C0.2.1 d_L_law_17 rfl hl (by decide) rfl (fun ls hl => ?_)
  exact law_loop C0 hK hL ⟨Nat.le_of_ble_eq_true rfl, Nat.le_of_ble_eq_true rfl⟩ (L + 1) 0 X0 (Nat.zero_le L) (by omega) Inv_X0 H locs ls hR hC hS hl
end LAWL
/-- from the entry, for every script of at most 3584 ints, the law comes to its end with true -/
theorem whole_start {p : Program} {e : Env} {s : State} {m : MethodId} {below : List Frame} {meth : Method} {c : Code} (l : Launch) {b L : Nat} {xs : Nat → Int32} (hL : L ≤ 3584) (C0 : lw_At p s m meth c b L xs) : W p l e room_1 s m #[Value.ref b] below meth c s.heap [] 0 0 (lw_Z below #[Value.ref b] s) (entryFrame m ([Value.ref b] : List Value).toArray 4) := by
  obtain ⟨D, ac, hK⟩ := law_K C0.2.2.2.2.2.1
  have hl := lv_entry ([.ref b]) (n := 4) (Nat.le_of_ble_eq_true rfl)
  rw [lg_entry_eq]
  generalize (lg_sl ([.ref b]) ++ List.replicate (4 - (lg_sl ([.ref b])).length) Slot.unset).toArray = ls at hl ⊢
  exact law_start C0 hK hL (M := fun _ => .inr (0, [])) s.heap [] ls ⟨rfl, fun k q h => by simp [wsM] at h⟩ rfl va_S.rf hl
set_option maxHeartbeats 4000000 in
theorem lw_walk (l : Launch) (b : Addr) (xs : List Int32) : MetFree l x (headSpec (Jvm.Cond.code x code maxLocals ret :: tables_1) room_1) (lw_P b xs) (fun _ _ _ _ _ => True) lw_Q := by
  refine MetFree.of_bodyS (code := code) (maxLocals := maxLocals) (ret := ret) (by decide) ?_ ?_
  · intro args s m h hn
    obtain ⟨meth, c, h1, h2, h3, h4, h5, h6, -, -⟩ := Cond.code_spec hn (atoms_spec (ws := Jvm.Cond.code x code maxLocals ret :: tables_1) h _ List.mem_cons_self)
    exact ⟨meth, c, h1, h2, h3, h4, h5, h6⟩
  · intro p e s m args below meth c s₁ B hml0 hP _
    obtain ⟨rfl, hx, hbd, hgv⟩ := hP
    obtain ⟨scr, harrAt, hlist, hof, hsmall⟩ := hx
    obtain ⟨hcb, hkn, -, -⟩ := State.arrayAt?_spec harrAt
    have hown : s.vm.findClass R_law = some m.cls := findClass_of_methodNamed B.named
    have hts0 : ∀ c ∈ (Jvm.Cond.code x code maxLocals ret :: tables_1), c.before #[Value.ref b] s = true := atoms_spec (ws := Jvm.Cond.code x code maxLocals ret :: tables_1) B.pre
    have hts : ∀ w ∈ lw_tbl, w.before #[Value.ref b] s = true := k2_hts_sels lw_privs (fun w hw => hts0 w (List.mem_cons_of_mem _ hw)) lw_privs_ok
    have hml : c.maxLocals = 4 := B.maxLocals_eq (hts0 _ List.mem_cons_self)
    have X₀ : Stand p l e room_1 s m #[Value.ref b] below meth c s₁ [] 0 0 := Stand.of_body B
    have hh0 : s₁.heap = s.heap := by rw [B.state]; rfl
    have hsz : scr.slots.size = xs.length := by rw [← Array.length_toList, hlist, List.length_map]
    have hval : ∀ j : Nat, j < xs.length → scr.slots[j]? = some (.int (xs.getD j 0)) := fun j hj => by
      rw [← Array.getElem?_toList, hlist]
      simp [hj]
    have hbl : b < s.heap.size := (Array.getElem?_eq_some_iff.mp hcb).1
    have hX : va_X b xs.length (fun j => xs.getD j 0) s s.heap := ⟨scr, hcb, hof, hkn, hsz, hval⟩
    have K : W p l e room_1 s m #[Value.ref b] below meth c s₁.heap [] 0 0 (lw_Z below #[Value.ref b] s) (entryFrame m ([Value.ref b] : List Value).toArray 4) := by
      rw [hh0]
      exact whole_start l hbd ⟨B.exec, B.bytes, B.returns, hml, hown, hts, hX, hbl, B.notSynchronized, hgv⟩
    obtain ⟨t, a1, o, b1, b2, b3⟩ := K s₁ rfl X₀
    exact ⟨t, o, a1, b1, b2, b3⟩
theorem lw_pre_spec {args : Array Value} {s : State} (h : (Jvm.Cond.and given_1 narrow_1).before args s = true) (hr : rest_1_c.before args s = true) : ∃ (b : Addr) (xs : List Int32), lw_P b xs args s := by
  have hs := flat_of_before _ h
  have hq := flat_of_before _ hr
  have hc : (Cond.count 1).before args s = true := hs _ (by decide +kernel)
  have harr : (Cond.arrayOf (.arg 0) .int).before args s = true := hs _ (by decide +kernel)
  have hle : (Cond.le (.length (.arg 0)) (.int 3584)).before args s = true := hs _ (by decide +kernel)
  have hlen : (Cond.isInt (.length (.arg 0))).before args s = true := hq _ (by decide +kernel)
  have hall : (Cond.all (.arg 0) (.isInt (.elem (.arg 0) (.index 0)))).before args s = true := hq _ (by decide +kernel)
  obtain ⟨b, xs, hb, hx⟩ := State.ints_of_pre rfl harr hlen hall
  have hsm : xs.length < 2 ^ 31 := hx.choose_spec.2.2.2
  have hev : (Term.length (.arg 0)).eval args s none [] s = some (.int xs.length.toInt32) := hx.length_eval hb
  have hv := Cond.le_ints hev (show (Term.int 3584).eval args s none [] s = some (.int 3584) from rfl)
  have hd : xs.length.toInt32 ≤ 3584 := by
    simpa [Cond.before, Cond.holds, hv] using hle
  have hN : xs.length ≤ 3584 := (Int32.ofNat_le_ofNat hsm (by decide)).mp (show Int32.ofNat xs.length ≤ Int32.ofNat 3584 from hd)
  exact ⟨b, xs, Cond.one_arg hc (show args[0]? = some (.ref b) from hb), hx, hN, h⟩
theorem lw_comes (l : Launch) : Comes l x (Jvm.Cond.code x code maxLocals ret :: tables_1) room_1 (fun tb e args s => Calls_1 tb e args s ∧ rest_1 tb e args s ∧ Pre_1 tb e args s)
    (fun _ _ args s o t => lw_Q args s o t) := by
  intro p e ha hc hk s m args below hf hfit hheap happ hpre
  obtain ⟨b, xs, hP⟩ := lw_pre_spec hpre.2.2 hpre.2.1
  obtain ⟨k, o, h1, h2, h3, hQ⟩ := lw_walk l b xs p e ha hc hk s m args below hf ((Spec.applies_iff_loose hf).mp happ).1 hP trivial
  exact ⟨k, o, h1, h2, h3, hQ⟩
theorem lw_frame {s t : State} {o : Outcome} {args : Array Value} (h : Framed s o t [] 600000 7302250) :
    Framed s o t (fieldLocs frame_1_writes args s ++ arrayLocs frame_1_arrays args s ++ staticLocs frame_1_statics s) 600000 7302250 := h
theorem lw_limb (L : Cond) (hL : ∀ (args : Array Value) (s t : State), L.after args s (.returned (some (.int 1))) t = true) :
    ArmFor flags0 classFile x code maxLocals ret World_1 tables_1 room_1 Calls_1 rest_1 Pre_1
      (fun tb e a s o t => postC L tb e a s o t ∧ Framed s o t (fieldLocs frame_1_writes a s ++ arrayLocs frame_1_arrays a s ++ staticLocs frame_1_statics s) 600000 7302250) := by
  intro l _ _ _ p e ha hc hk s m args below hf hfit hheap happ hpre
  obtain ⟨k, o, h1, h2, h3, rfl, hF⟩ := lw_comes l p e ha hc hk s m args below hf hfit hheap happ hpre
  exact ⟨k, _, h1, h2, h3, hL args s _, lw_frame hF⟩
theorem i_vc : Claimed_1_1 ∧ Claimed_1_2 := ⟨lw_limb limb_1_1 (fun args s t => by simp [limb_1_1, Cond.after, Cond.holds, Cond.value]), lw_limb limb_1_2 (fun args s t => Cond.after_iff.mpr (by
  first | (rw [show limb_1_2 = Cond.eq .result (.int 1) from rfl, Cond.eq_ints (x := 1) (y := 1) rfl rfl]; simp; done) | (simp [limb_1_2, Cond.value, Term.eval]; done)))⟩
