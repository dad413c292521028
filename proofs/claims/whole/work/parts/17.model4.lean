section P17
variable {l : Launch} {D : va_G} {ac : Nat → ClassId} {b : Nat}
def gpI (g : Int32) : Nat := g.toNatClampNeg
def m0V (X : RAM) (B : Nat) (g : Int32) : Int32 := if g < 0 then X 123 B else X 132 (4 * B + gpI g)
def smP (X : RAM) (B : Nat) (g : Int32) (i : Nat) : Bool := decide (¬ X 127 (12 * B + i) = 0 ∧ (g < 0 ∨ X 125 (12 * B + i) = g))
def smL (X : RAM) (B : Nat) (g : Int32) : Nat → Int64
  | 0 => 0
  | i + 1 => if smP X B g i = true then smL X B g i + (X 126 (12 * B + i)).toInt64 else smL X B g i
def smN (X : RAM) (B : Nat) (g : Int32) : Nat → Int32
  | 0 => m0V X B g
  | i + 1 => if smP X B g i = true then smN X B g i + Int32.ofInt (-1) else smN X B g i
def smV (X : RAM) (t B c n : Nat) (g e : Int32) : Int64 := if smN X B g n = 0 then smL X B g n else if e = 0 then smL X B g n + (smN X B g n).toInt64 * (mlo X t B c).toInt64 + (if smN X B g n = nI (cntB (unP X B) n) ∧ mogP X t B c n = true then (mhi X t B c).toInt64 - (mlo X t B c).toInt64 else 0) else smL X B g n + (smN X B g n).toInt64 * (mhi X t B c).toInt64 - (if smN X B g n = nI (cntB (unP X B) n) ∧ molP X t B c n = true then (mhi X t B c).toInt64 - (mlo X t B c).toInt64 else 0)
theorem smV_a {X : RAM} {t B c n : Nat} {g e : Int32} (h : ¬ smN X B g n = 0) (he : e = 0) (ho : smN X B g n = nI (cntB (unP X B) n) ∧ mogP X t B c n = true) : smV X t B c n g e = smL X B g n + (smN X B g n).toInt64 * (mlo X t B c).toInt64 + ((mhi X t B c).toInt64 - (mlo X t B c).toInt64) := by
  unfold smV
  rw [if_neg h, if_pos he, if_pos ho]
theorem smV_b {X : RAM} {t B c n : Nat} {g e : Int32} (h : ¬ smN X B g n = 0) (he : e = 0) (ho : ¬ (smN X B g n = nI (cntB (unP X B) n) ∧ mogP X t B c n = true)) : smV X t B c n g e = smL X B g n + (smN X B g n).toInt64 * (mlo X t B c).toInt64 + 0 := by
  unfold smV
  rw [if_neg h, if_pos he, if_neg ho]
theorem smV_c {X : RAM} {t B c n : Nat} {g e : Int32} (h : ¬ smN X B g n = 0) (he : ¬ e = 0) (ho : smN X B g n = nI (cntB (unP X B) n) ∧ molP X t B c n = true) : smV X t B c n g e = smL X B g n + (smN X B g n).toInt64 * (mhi X t B c).toInt64 - ((mhi X t B c).toInt64 - (mlo X t B c).toInt64) := by
  unfold smV
  rw [if_neg h, if_neg he, if_pos ho]
theorem smV_d {X : RAM} {t B c n : Nat} {g e : Int32} (h : ¬ smN X B g n = 0) (he : ¬ e = 0) (ho : ¬ (smN X B g n = nI (cntB (unP X B) n) ∧ molP X t B c n = true)) : smV X t B c n g e = smL X B g n + (smN X B g n).toInt64 * (mhi X t B c).toInt64 - 0 := by
  unfold smV
  rw [if_neg h, if_neg he, if_neg ho]
theorem lp_sumOf {X : RAM} {t c B n : Nat} {g e : Int32} (ht : t < 2) (hc : X 135 t = nI c) (hc4 : c ≤ 4) (hB : B < 16) (hz : X 123 B = nI n) (hn : n ≤ 12) (hg : GrpOK g) : ∀ i, i ≤ n → V l D ac b "SpanStoreModel" c_M_sumOf 13 (some .long) false 3 68 0 0 ((some (.long (smV X t B c n g e))), 144, mk X) 0 0 31 [(0, .ref 122), (1, .int (nI t)), (2, .int (nI B)), (3, .int g), (4, .int e), (5, .long (smL X B g i)), (7, .int (smN X B g i)), (8, .int (nI i))] [] 144 (mk X) := by
  refine nat_down ?_ (fun i hi ih => ?_)
  · skip
    refine s_iload (q := 33) d_M_sumOf_31 rfl rfl ?_
    refine s_aload_n (q := 34) d_M_sumOf_33 rfl rfl (Or.inr ⟨_, rfl⟩) ?_
    refine g_getr (q := 37) d_M_sumOf_34 rfl fl_M_7 skM rfl ?_
    refine s_iload_n (q := 38) d_M_sumOf_37 rfl rfl ?_
    refine g_ialv (v := nI n) (q := 39) d_M_sumOf_38 rfl sm_0 (by omega) rfl hB hz ?_
    refine s_icmp_ge (tgt := 98) (q := 42) d_M_sumOf_39 (by decide) rfl (fun _ => ?_) (fun z9 => absurd (nI_le (Nat.le_refl n) (by omega)) z9)
    refine s_iload (q := 100) d_M_sumOf_98 rfl rfl ?_
    refine s_if_ne (tgt := 106) (q := 103) d_M_sumOf_100 (by decide) rfl (fun h_100 => ?_) (fun h_100 => ?_)
    · -- T 100
      refine s_aload_n (q := 107) d_M_sumOf_106 rfl rfl (Or.inr ⟨_, rfl⟩) ?_
      refine s_iload_n (q := 108) d_M_sumOf_107 rfl rfl ?_
      refine g_callV (q := 111) d_M_sumOf_108 rfl ml_M_116 mx_M_unknownOf mv_M_unknownOf (t_M_unknownOf hB hz hn) skM rfl rfl (Nat.le_of_ble_eq_true rfl) (by decide) ?_
      refine s_istore (q := 113) d_M_sumOf_111 rfl (by decide) ?_
      refine s_aload_n (q := 114) d_M_sumOf_113 rfl rfl (Or.inr ⟨_, rfl⟩) ?_
      refine s_iload_n (q := 115) d_M_sumOf_114 rfl rfl ?_
      refine s_iload_n (q := 116) d_M_sumOf_115 rfl rfl ?_
      refine g_callV (q := 119) d_M_sumOf_116 rfl ml_M_133 mx_M_lowOf mv_M_lowOf (t_M_lowOf ht hc hc4 hB) skM rfl rfl (Nat.le_of_ble_eq_true rfl) (by decide) ?_
      refine s_i2l (q := 120) d_M_sumOf_119 rfl ?_
      refine s_lstore (q := 122) d_M_sumOf_120 rfl (by decide) ?_
      refine s_aload_n (q := 123) d_M_sumOf_122 rfl rfl (Or.inr ⟨_, rfl⟩) ?_
      refine s_iload_n (q := 124) d_M_sumOf_123 rfl rfl ?_
      refine s_iload_n (q := 125) d_M_sumOf_124 rfl rfl ?_
      refine g_callV (q := 128) d_M_sumOf_125 rfl ml_M_140 mx_M_highOf mv_M_highOf (t_M_highOf ht hc hc4 hB) skM rfl rfl (Nat.le_of_ble_eq_true rfl) (by decide) ?_
      refine s_i2l (q := 129) d_M_sumOf_128 rfl ?_
      refine s_lstore (q := 131) d_M_sumOf_129 rfl (by decide) ?_
      refine s_iload (q := 133) d_M_sumOf_131 rfl rfl ?_
      refine s_if_ne (tgt := 172) (q := 136) d_M_sumOf_133 (by decide) rfl (fun h_133 => ?_) (fun h_133 => ?_)
      · -- T 133
        refine s_lload (q := 174) d_M_sumOf_172 rfl rfl ?_
        refine s_iload (q := 176) d_M_sumOf_174 rfl rfl ?_
        refine s_i2l (q := 177) d_M_sumOf_176 rfl ?_
        refine s_lload (q := 179) d_M_sumOf_177 rfl rfl ?_
        refine s_lmul (q := 180) d_M_sumOf_179 rfl ?_
        refine s_ladd (q := 181) d_M_sumOf_180 rfl ?_
        refine s_iload (q := 183) d_M_sumOf_181 rfl rfl ?_
        refine s_iload (q := 185) d_M_sumOf_183 rfl rfl ?_
        refine s_icmp_ne (tgt := 205) (q := 188) d_M_sumOf_185 (by decide) rfl (fun h_185 => ?_) (fun h_185 => ?_)
        · -- T 185
          have hres := smV_d (t := t) (c := c) (e := e) h_100 h_133 (fun z => h_185 z.1)
          refine s_lconst (v := 0) (q := 206) d_M_sumOf_205 rfl kl_0 ?_
          refine s_lsub (q := 207) d_M_sumOf_206 rfl ?_
          exact g_lret d_M_sumOf_207 rfl hres.symm rfl
        · -- F 185
          refine s_aload_n (q := 189) d_M_sumOf_188 rfl rfl (Or.inr ⟨_, rfl⟩) ?_
          refine s_iload_n (q := 190) d_M_sumOf_189 rfl rfl ?_
          refine s_iload_n (q := 191) d_M_sumOf_190 rfl rfl ?_
          refine g_callV (q := 194) d_M_sumOf_191 rfl ml_M_143 mx_M_owesLeast mv_M_owesLeast (t_M_owesLeast ht hc hc4 hB hz hn) skM rfl rfl (Nat.le_of_ble_eq_true rfl) (by decide) ?_
          refine s_if_eq (tgt := 205) (q := 197) d_M_sumOf_194 (by decide) rfl (fun h_194 => ?_) (fun h_194 => ?_)
          · -- T 194
            rw [bI_0] at h_194
            have hres := smV_d (t := t) (c := c) (e := e) h_100 h_133 (fun z => Bool.noConfusion (h_194.symm.trans z.2))
            refine s_lconst (v := 0) (q := 206) d_M_sumOf_205 rfl kl_0 ?_
            refine s_lsub (q := 207) d_M_sumOf_206 rfl ?_
            exact g_lret d_M_sumOf_207 rfl hres.symm rfl
          · -- F 194
            rw [bI_n0] at h_194
            have hres := smV_c (t := t) (c := c) (e := e) h_100 h_133 ⟨h_185, h_194⟩
            refine s_lload (q := 199) d_M_sumOf_197 rfl rfl ?_
            refine s_lload (q := 201) d_M_sumOf_199 rfl rfl ?_
            refine s_lsub (q := 202) d_M_sumOf_201 rfl ?_
            refine s_goto (tgt := 206) d_M_sumOf_202 (by decide) ?_
            refine s_lsub (q := 207) d_M_sumOf_206 rfl ?_
            exact g_lret d_M_sumOf_207 rfl hres.symm rfl
      · -- F 133
        refine s_lload (q := 138) d_M_sumOf_136 rfl rfl ?_
        refine s_iload (q := 140) d_M_sumOf_138 rfl rfl ?_
        refine s_i2l (q := 141) d_M_sumOf_140 rfl ?_
        refine s_lload (q := 143) d_M_sumOf_141 rfl rfl ?_
        refine s_lmul (q := 144) d_M_sumOf_143 rfl ?_
        refine s_ladd (q := 145) d_M_sumOf_144 rfl ?_
        refine s_iload (q := 147) d_M_sumOf_145 rfl rfl ?_
        refine s_iload (q := 149) d_M_sumOf_147 rfl rfl ?_
        refine s_icmp_ne (tgt := 169) (q := 152) d_M_sumOf_149 (by decide) rfl (fun h_149 => ?_) (fun h_149 => ?_)
        · -- T 149
          have hres := smV_b (t := t) (c := c) (e := e) h_100 h_133 (fun z => h_149 z.1)
          refine s_lconst (v := 0) (q := 170) d_M_sumOf_169 rfl kl_0 ?_
          refine s_ladd (q := 171) d_M_sumOf_170 rfl ?_
          exact g_lret d_M_sumOf_171 rfl hres.symm rfl
        · -- F 149
          refine s_aload_n (q := 153) d_M_sumOf_152 rfl rfl (Or.inr ⟨_, rfl⟩) ?_
          refine s_iload_n (q := 154) d_M_sumOf_153 rfl rfl ?_
          refine s_iload_n (q := 155) d_M_sumOf_154 rfl rfl ?_
          refine g_callV (q := 158) d_M_sumOf_155 rfl ml_M_146 mx_M_owesGreatest mv_M_owesGreatest (t_M_owesGreatest ht hc hc4 hB hz hn) skM rfl rfl (Nat.le_of_ble_eq_true rfl) (by decide) ?_
          refine s_if_eq (tgt := 169) (q := 161) d_M_sumOf_158 (by decide) rfl (fun h_158 => ?_) (fun h_158 => ?_)
          · -- T 158
            rw [bI_0] at h_158
            have hres := smV_b (t := t) (c := c) (e := e) h_100 h_133 (fun z => Bool.noConfusion (h_158.symm.trans z.2))
            refine s_lconst (v := 0) (q := 170) d_M_sumOf_169 rfl kl_0 ?_
            refine s_ladd (q := 171) d_M_sumOf_170 rfl ?_
            exact g_lret d_M_sumOf_171 rfl hres.symm rfl
          · -- F 158
            rw [bI_n0] at h_158
            have hres := smV_a (t := t) (c := c) (e := e) h_100 h_133 ⟨h_149, h_158⟩
            refine s_lload (q := 163) d_M_sumOf_161 rfl rfl ?_
            refine s_lload (q := 165) d_M_sumOf_163 rfl rfl ?_
            refine s_lsub (q := 166) d_M_sumOf_165 rfl ?_
            refine s_goto (tgt := 170) d_M_sumOf_166 (by decide) ?_
            refine s_ladd (q := 171) d_M_sumOf_170 rfl ?_
            exact g_lret d_M_sumOf_171 rfl hres.symm rfl
    · -- F 100
      refine s_lload (q := 105) d_M_sumOf_103 rfl rfl ?_
      exact g_lret d_M_sumOf_105 rfl (by simp [smV, *]) rfl
  · skip
    refine s_iload (q := 33) d_M_sumOf_31 rfl rfl ?_
    refine s_aload_n (q := 34) d_M_sumOf_33 rfl rfl (Or.inr ⟨_, rfl⟩) ?_
    refine g_getr (q := 37) d_M_sumOf_34 rfl fl_M_7 skM rfl ?_
    refine s_iload_n (q := 38) d_M_sumOf_37 rfl rfl ?_
    refine g_ialv (v := nI n) (q := 39) d_M_sumOf_38 rfl sm_0 (by omega) rfl hB hz ?_
    refine s_icmp_ge (tgt := 98) (q := 42) d_M_sumOf_39 (by decide) rfl (fun z9 => absurd z9 (nI_ge hi (by omega))) (fun _ => ?_)
    refine s_bipush (v := 12) (q := 44) d_M_sumOf_42 rfl kb_12 ?_
    refine s_iload_n (q := 45) d_M_sumOf_44 rfl rfl ?_
    refine s_imul (q := 46) d_M_sumOf_45 rfl ?_
    refine s_iload (q := 48) d_M_sumOf_46 rfl rfl ?_
    refine s_iadd (q := 49) d_M_sumOf_48 rfl ?_
    rw [ix12]
    refine s_istore (q := 51) d_M_sumOf_49 rfl (by decide) ?_
    refine s_aload_n (q := 52) d_M_sumOf_51 rfl rfl (Or.inr ⟨_, rfl⟩) ?_
    refine g_getr (q := 55) d_M_sumOf_52 rfl fl_M_22 skM rfl ?_
    refine s_iload (q := 57) d_M_sumOf_55 rfl rfl ?_
    refine g_zald (q := 58) d_M_sumOf_57 rfl sm_4 (by omega) rfl (by omega) ?_
    refine s_if_eq (tgt := 92) (q := 61) d_M_sumOf_58 (by decide) rfl (fun h_58 => ?_) (fun h_58 => ?_)
    · -- T 58
      rw [show smL X B g (i + 1) = smL X B g i from by simp [smL, smP, *], show smN X B g (i + 1) = smN X B g i from by simp [smN, smP, *]] at ih
      refine s_iinc (q := 95) d_M_sumOf_92 rfl rfl (by first | exact inc1 _ | rfl) (by decide) ?_
      refine s_goto (tgt := 31) d_M_sumOf_95 (by decide) ?_
      exact s_lv (lv' := [(0, .ref 122), (1, .int (nI t)), (2, .int (nI B)), (3, .int g), (4, .int e), (5, .long _), (7, .int _), (8, .int (nI (i + 1)))]) ⟨rfl, rfl, rfl, rfl, rfl, rfl, rfl, rfl, trivial⟩ ih
    · -- F 58
      refine s_iload_n (q := 62) d_M_sumOf_61 rfl rfl ?_
      refine s_if_lt (tgt := 76) (q := 65) d_M_sumOf_62 (by decide) rfl (fun h_62 => ?_) (fun h_62 => ?_)
      · -- T 62
        rw [show smL X B g (i + 1) = smL X B g i + (X 126 (12 * B + i)).toInt64 from by simp [smL, smP, *], show smN X B g (i + 1) = smN X B g i + Int32.ofInt (-1) from by simp [smN, smP, *]] at ih
        refine s_lload (q := 78) d_M_sumOf_76 rfl rfl ?_
        refine s_aload_n (q := 79) d_M_sumOf_78 rfl rfl (Or.inr ⟨_, rfl⟩) ?_
        refine g_getr (q := 82) d_M_sumOf_79 rfl fl_M_19 skM rfl ?_
        refine s_iload (q := 84) d_M_sumOf_82 rfl rfl ?_
        refine g_iald (q := 85) d_M_sumOf_84 rfl sm_3 (by omega) rfl (by omega) ?_
        refine s_i2l (q := 86) d_M_sumOf_85 rfl ?_
        refine s_ladd (q := 87) d_M_sumOf_86 rfl ?_
        refine s_lstore (q := 89) d_M_sumOf_87 rfl (by decide) ?_
        refine s_iinc (q := 92) d_M_sumOf_89 rfl rfl rfl (by decide) ?_
        refine s_iinc (q := 95) d_M_sumOf_92 rfl rfl (by first | exact inc1 _ | rfl) (by decide) ?_
        refine s_goto (tgt := 31) d_M_sumOf_95 (by decide) ?_
        exact s_lv (lv' := [(0, .ref 122), (1, .int (nI t)), (2, .int (nI B)), (3, .int g), (4, .int e), (5, .long _), (7, .int _), (8, .int (nI (i + 1)))]) ⟨rfl, rfl, rfl, rfl, rfl, rfl, rfl, rfl, trivial⟩ ih
      · -- F 62
        refine s_aload_n (q := 66) d_M_sumOf_65 rfl rfl (Or.inr ⟨_, rfl⟩) ?_
        refine g_getr (q := 69) d_M_sumOf_66 rfl fl_M_16 skM rfl ?_
        refine s_iload (q := 71) d_M_sumOf_69 rfl rfl ?_
        refine g_iald (q := 72) d_M_sumOf_71 rfl sm_2 (by omega) rfl (by omega) ?_
        refine s_iload_n (q := 73) d_M_sumOf_72 rfl rfl ?_
        refine s_icmp_ne (tgt := 92) (q := 76) d_M_sumOf_73 (by decide) rfl (fun h_73 => ?_) (fun h_73 => ?_)
        · -- T 73
          have h62 : ¬ g < 0 := h_62
          rw [show smL X B g (i + 1) = smL X B g i from by simp [smL, smP, *], show smN X B g (i + 1) = smN X B g i from by simp [smN, smP, *]] at ih
          refine s_iinc (q := 95) d_M_sumOf_92 rfl rfl (by first | exact inc1 _ | rfl) (by decide) ?_
          refine s_goto (tgt := 31) d_M_sumOf_95 (by decide) ?_
          exact s_lv (lv' := [(0, .ref 122), (1, .int (nI t)), (2, .int (nI B)), (3, .int g), (4, .int e), (5, .long _), (7, .int _), (8, .int (nI (i + 1)))]) ⟨rfl, rfl, rfl, rfl, rfl, rfl, rfl, rfl, trivial⟩ ih
        · -- F 73
          rw [show smL X B g (i + 1) = smL X B g i + (X 126 (12 * B + i)).toInt64 from by simp [smL, smP, *], show smN X B g (i + 1) = smN X B g i + Int32.ofInt (-1) from by simp [smN, smP, *]] at ih
          refine s_lload (q := 78) d_M_sumOf_76 rfl rfl ?_
          refine s_aload_n (q := 79) d_M_sumOf_78 rfl rfl (Or.inr ⟨_, rfl⟩) ?_
          refine g_getr (q := 82) d_M_sumOf_79 rfl fl_M_19 skM rfl ?_
          refine s_iload (q := 84) d_M_sumOf_82 rfl rfl ?_
          refine g_iald (q := 85) d_M_sumOf_84 rfl sm_3 (by omega) rfl (by omega) ?_
          refine s_i2l (q := 86) d_M_sumOf_85 rfl ?_
          refine s_ladd (q := 87) d_M_sumOf_86 rfl ?_
          refine s_lstore (q := 89) d_M_sumOf_87 rfl (by decide) ?_
          refine s_iinc (q := 92) d_M_sumOf_89 rfl rfl rfl (by decide) ?_
          refine s_iinc (q := 95) d_M_sumOf_92 rfl rfl (by first | exact inc1 _ | rfl) (by decide) ?_
          refine s_goto (tgt := 31) d_M_sumOf_95 (by decide) ?_
          exact s_lv (lv' := [(0, .ref 122), (1, .int (nI t)), (2, .int (nI B)), (3, .int g), (4, .int e), (5, .long _), (7, .int _), (8, .int (nI (i + 1)))]) ⟨rfl, rfl, rfl, rfl, rfl, rfl, rfl, rfl, trivial⟩ ih
theorem gp_of {g : Int32} (hg : GrpOK g) (h : ¬ g < 0) : g = nI (gpI g) ∧ gpI g < 4 := grp_of ⟨h, hg.2⟩
theorem t_M_sumOf {X : RAM} {t c B n : Nat} {g e : Int32} (ht : t < 2) (hc : X 135 t = nI c) (hc4 : c ≤ 4) (hB : B < 16) (hz : X 123 B = nI n) (hn : n ≤ 12) (hg : GrpOK g) : CG l D ac b y_M_sumOf c_M_sumOf 13 (some .long) 3 68 [.ref 122, .int (nI t), .int (nI B), .int g, .int e] X (some (.long (smV X t B c n g e))) X := by
  refine Ct_of false (by decide) (fun h => by cases h) (Nat.le_of_ble_eq_true rfl) ?_
  show V l D ac b "SpanStoreModel" c_M_sumOf 13 (some .long) false 3 68 0 0 ((some (.long (smV X t B c n g e))), 144, mk X) 0 0 0 [(0, .ref 122), (1, .int (nI t)), (2, .int (nI B)), (3, .int g), (4, .int e)] [] 144 (mk X)
  by_cases hneg : g < 0
  · skip
    refine s_lconst (v := 0) (q := 1) d_M_sumOf_0 rfl kl_0 ?_
    refine s_lstore (q := 3) d_M_sumOf_1 rfl (by decide) ?_
    refine s_iload_n (q := 4) d_M_sumOf_3 rfl rfl ?_
    refine s_if_ge (tgt := 16) (q := 7) d_M_sumOf_4 (by decide) rfl (fun z9 => absurd z9 (i_nle.mpr hneg)) (fun _ => ?_)
    refine s_aload_n (q := 8) d_M_sumOf_7 rfl rfl (Or.inr ⟨_, rfl⟩) ?_
    refine g_getr (q := 11) d_M_sumOf_8 rfl fl_M_7 skM rfl ?_
    refine s_iload_n (q := 12) d_M_sumOf_11 rfl rfl ?_
    refine g_iald (q := 13) d_M_sumOf_12 rfl sm_0 (by omega) rfl hB ?_
    refine s_goto (tgt := 26) d_M_sumOf_13 (by decide) ?_
    refine s_istore (q := 28) d_M_sumOf_26 rfl (by decide) ?_
    refine s_iconst (v := 0) (q := 29) d_M_sumOf_28 rfl ki_0 ?_
    refine s_istore (q := 31) d_M_sumOf_29 rfl (by decide) ?_
    have h0 := lp_sumOf (l := l) (D := D) (ac := ac) (b := b) (g := g) (e := e) ht hc hc4 hB hz hn hg 0 (Nat.zero_le n)
    rw [show smN X B g 0 = X 123 B from by simp [smN, m0V, hneg]] at h0
    exact s_lv (lv' := [(0, .ref 122), (1, .int (nI t)), (2, .int (nI B)), (3, .int g), (4, .int e), (5, .long (smL X B g 0)), (7, .int _), (8, .int (nI 0))]) ⟨rfl, rfl, rfl, rfl, rfl, rfl, rfl, rfl, trivial⟩ h0
  · skip
    refine s_lconst (v := 0) (q := 1) d_M_sumOf_0 rfl kl_0 ?_
    refine s_lstore (q := 3) d_M_sumOf_1 rfl (by decide) ?_
    refine s_iload_n (q := 4) d_M_sumOf_3 rfl rfl ?_
    refine s_if_ge (tgt := 16) (q := 7) d_M_sumOf_4 (by decide) rfl (fun _ => ?_) (fun z9 => absurd (i_nlt.mp hneg) z9)
    refine s_aload_n (q := 17) d_M_sumOf_16 rfl rfl (Or.inr ⟨_, rfl⟩) ?_
    refine g_getr (q := 20) d_M_sumOf_17 rfl fl_M_38 skM rfl ?_
    refine s_iconst (v := 4) (q := 21) d_M_sumOf_20 rfl ki_4 ?_
    refine s_iload_n (q := 22) d_M_sumOf_21 rfl rfl ?_
    refine s_imul (q := 23) d_M_sumOf_22 rfl ?_
    refine s_iload_n (q := 24) d_M_sumOf_23 rfl rfl ?_
    refine s_iadd (q := 25) d_M_sumOf_24 rfl ?_
    refine g_iald (q := 26) d_M_sumOf_25 rfl sm_9 (by omega) (show 4 * nI B + g = nI (4 * B + gpI g) by rw [(gp_of hg hneg).1, ix4m, show gpI (nI (gpI g)) = gpI g from by rw [← (gp_of hg hneg).1]]) (by have := (gp_of hg hneg).2; omega) ?_
    refine s_istore (q := 28) d_M_sumOf_26 rfl (by decide) ?_
    refine s_iconst (v := 0) (q := 29) d_M_sumOf_28 rfl ki_0 ?_
    refine s_istore (q := 31) d_M_sumOf_29 rfl (by decide) ?_
    have h0 := lp_sumOf (l := l) (D := D) (ac := ac) (b := b) (g := g) (e := e) ht hc hc4 hB hz hn hg 0 (Nat.zero_le n)
    rw [show smN X B g 0 = X 132 (4 * B + gpI g) from by simp [smN, m0V, hneg]] at h0
    exact s_lv (lv' := [(0, .ref 122), (1, .int (nI t)), (2, .int (nI B)), (3, .int g), (4, .int e), (5, .long (smL X B g 0)), (7, .int _), (8, .int (nI 0))]) ⟨rfl, rfl, rfl, rfl, rfl, rfl, rfl, rfl, trivial⟩ h0
def smT (X : RAM) (t c : Nat) (g e : Int32) : Int64 := sumL (fun j => smV X t (8 * t + j) c (mnN X (8 * t + j)) g e) 8
theorem lp_sumNow {X : RAM} {t c : Nat} {g e : Int32} (ht : t < 2) (hc : X 135 t = nI c) (hc4 : c ≤ 4) (hM : okM X) (hg : GrpOK g) : ∀ i, i ≤ 8 → V l D ac b "SpanStoreModel" c_M_sumNow 7 (some .long) false 4 100 0 0 ((some (.long (smT X t c g e))), 144, mk X) 0 0 6 [(0, .ref 122), (1, .int (nI t)), (2, .int g), (3, .int e), (4, .long (sumL (fun j => smV X t (8 * t + j) c (mnN X (8 * t + j)) g e) i)), (6, .int (nI i))] [] 144 (mk X) := by
  refine nat_down ?_ (fun i hi ih => ?_)
  · skip
    refine s_iload (q := 8) d_M_sumNow_6 rfl rfl ?_
    refine s_bipush (v := 8) (q := 10) d_M_sumNow_8 rfl kb_8 ?_
    refine s_icmp_ge (tgt := 38) (q := 13) d_M_sumNow_10 (by decide) rfl (fun _ => ?_) (fun z9 => absurd le8 z9)
    refine s_lload (q := 40) d_M_sumNow_38 rfl rfl ?_
    exact g_lret d_M_sumNow_40 rfl rfl rfl
  · skip
    refine s_iload (q := 8) d_M_sumNow_6 rfl rfl ?_
    refine s_bipush (v := 8) (q := 10) d_M_sumNow_8 rfl kb_8 ?_
    refine s_icmp_ge (tgt := 38) (q := 13) d_M_sumNow_10 (by decide) rfl (fun z9 => absurd z9 (nle8 hi)) (fun _ => ?_)
    refine s_lload (q := 15) d_M_sumNow_13 rfl rfl ?_
    refine s_aload_n (q := 16) d_M_sumNow_15 rfl rfl (Or.inr ⟨_, rfl⟩) ?_
    refine s_iload_n (q := 17) d_M_sumNow_16 rfl rfl ?_
    refine s_bipush (v := 8) (q := 19) d_M_sumNow_17 rfl kb_8 ?_
    refine s_iload_n (q := 20) d_M_sumNow_19 rfl rfl ?_
    refine s_imul (q := 21) d_M_sumNow_20 rfl ?_
    refine s_iload (q := 23) d_M_sumNow_21 rfl rfl ?_
    refine s_iadd (q := 24) d_M_sumNow_23 rfl ?_
    rw [ix8m]
    refine s_iload_n (q := 25) d_M_sumNow_24 rfl rfl ?_
    refine s_iload_n (q := 26) d_M_sumNow_25 rfl rfl ?_
    refine g_callV (q := 29) d_M_sumNow_26 rfl ml_M_149 mx_M_sumOf mv_M_sumOf (t_M_sumOf ht hc hc4 (by omega) (hM (8 * t + i) (by omega)).1 (hM _ (by omega)).2 hg) skM rfl rfl (Nat.le_of_ble_eq_true rfl) (by decide) ?_
    refine s_ladd (q := 30) d_M_sumNow_29 rfl ?_
    refine s_lstore (q := 32) d_M_sumNow_30 rfl (by decide) ?_
    refine s_iinc (q := 35) d_M_sumNow_32 rfl rfl (by first | exact inc1 _ | rfl) (by decide) ?_
    refine s_goto (tgt := 6) d_M_sumNow_35 (by decide) ?_
    exact s_lv (lv' := [(0, .ref 122), (1, .int (nI t)), (2, .int g), (3, .int e), (4, .long (sumL (fun j => smV X t (8 * t + j) c (mnN X (8 * t + j)) g e) (i + 1))), (6, .int (nI (i + 1)))]) ⟨rfl, rfl, rfl, rfl, rfl, rfl, trivial⟩ ih
theorem t_M_sumNow {X : RAM} {t c : Nat} {g e : Int32} (ht : t < 2) (hc : X 135 t = nI c) (hc4 : c ≤ 4) (hM : okM X) (hg : GrpOK g) : CG l D ac b y_M_sumNow c_M_sumNow 7 (some .long) 4 100 [.ref 122, .int (nI t), .int g, .int e] X (some (.long (smT X t c g e))) (X) := by
  refine Ct_of false (by decide) (fun h => by cases h) (Nat.le_of_ble_eq_true rfl) ?_
  show V l D ac b "SpanStoreModel" c_M_sumNow 7 (some .long) false 4 100 0 0 ((some (.long (smT X t c g e))), 144, mk (X)) 0 0 0 [(0, .ref 122), (1, .int (nI t)), (2, .int g), (3, .int e)] [] 144 (mk X)
  refine s_lconst (v := 0) (q := 1) d_M_sumNow_0 rfl kl_0 ?_
  refine s_lstore (q := 3) d_M_sumNow_1 rfl (by decide) ?_
  refine s_iconst (v := 0) (q := 4) d_M_sumNow_3 rfl ki_0 ?_
  refine s_istore (q := 6) d_M_sumNow_4 rfl (by decide) ?_
  exact s_lv (lv' := [(0, .ref 122), (1, .int (nI t)), (2, .int g), (3, .int e), (4, .long (sumL (fun j => smV X t (8 * t + j) c (mnN X (8 * t + j)) g e) 0)), (6, .int (nI 0))]) ⟨rfl, rfl, rfl, rfl, rfl, rfl, trivial⟩ (lp_sumNow ht hc hc4 hM hg 0 (Nat.zero_le 8))
theorem grp3 {g : Int32} : (-1 ≤ g ∧ g ≤ 3) ↔ GrpOK g := by
  unfold GrpOK
  simp only [i_le, i_lt, tI_m1, tI_3, tI_4]
  omega
theorem end2 {e : Int32} : (0 ≤ e ∧ e ≤ 1) ↔ EndOK e := by
  unfold EndOK
  simp only [i_le, i_eq, tI_0, tI_1]
  omega
theorem t_M_sum_T {X : RAM} {x g e : Int32} (hx : x < 0 ∨ 2 ≤ x) : CG l D ac b y_M_sum c_M_sum 4 (some .long) 5 126 [.ref 122, .int x, .int g, .int e] X (some (.long (-9223372036854775808))) (X) := by
  refine Ct_of false (by decide) (fun h => by cases h) (Nat.le_of_ble_eq_true rfl) ?_
  show V l D ac b "SpanStoreModel" c_M_sum 4 (some .long) false 5 126 0 0 ((some (.long (-9223372036854775808))), 144, mk (X)) 0 0 0 [(0, .ref 122), (1, .int x), (2, .int g), (3, .int e)] [] 144 (mk X)
  refine s_iload_n (q := 1) d_M_sum_0 rfl rfl ?_
  refine g_callS (q := 4) d_M_sum_1 rfl ml_M_78 mx_M_isTable ms_M_isTable t_M_isTable rfl rfl (Nat.le_of_ble_eq_true rfl) (by decide) ?_
  refine s_if_eq (tgt := 32) (q := 7) d_M_sum_4 (by decide) rfl (fun _ => ?_) (fun z9 => absurd (bI_d.mpr (niT hx)) z9)
  refine s_ldc2 (q := 35) d_M_sum_32 rfl kc_M_156 ?_
  exact g_lret d_M_sum_35 rfl rfl rfl
theorem t_M_sum_G {X : RAM} {t : Nat} {g e : Int32} (ht : t < 2) (hg : ¬ GrpOK g) : CG l D ac b y_M_sum c_M_sum 4 (some .long) 5 126 [.ref 122, .int (nI t), .int g, .int e] X (some (.long (-9223372036854775808))) (X) := by
  refine Ct_of false (by decide) (fun h => by cases h) (Nat.le_of_ble_eq_true rfl) ?_
  show V l D ac b "SpanStoreModel" c_M_sum 4 (some .long) false 5 126 0 0 ((some (.long (-9223372036854775808))), 144, mk (X)) 0 0 0 [(0, .ref 122), (1, .int (nI t)), (2, .int g), (3, .int e)] [] 144 (mk X)
  refine s_iload_n (q := 1) d_M_sum_0 rfl rfl ?_
  refine g_callS (q := 4) d_M_sum_1 rfl ml_M_78 mx_M_isTable ms_M_isTable t_M_isTable rfl rfl (Nat.le_of_ble_eq_true rfl) (by decide) ?_
  refine s_if_eq (tgt := 32) (q := 7) d_M_sum_4 (by decide) rfl (fun z9 => absurd z9 (bI_dn.mpr (inT ht))) (fun _ => ?_)
  refine s_iload_n (q := 8) d_M_sum_7 rfl rfl ?_
  refine g_callS (q := 11) d_M_sum_8 rfl ml_M_153 mx_M_isGroup ms_M_isGroup t_M_isGroup rfl rfl (Nat.le_of_ble_eq_true rfl) (by decide) ?_
  refine s_if_eq (tgt := 32) (q := 14) d_M_sum_11 (by decide) rfl (fun _ => ?_) (fun z9 => absurd (bI_d.mpr (fun z => hg (grp3.mp z))) z9)
  refine s_ldc2 (q := 35) d_M_sum_32 rfl kc_M_156 ?_
  exact g_lret d_M_sum_35 rfl rfl rfl
theorem t_M_sum_E {X : RAM} {t : Nat} {g e : Int32} (ht : t < 2) (hg : GrpOK g) (he : ¬ EndOK e) : CG l D ac b y_M_sum c_M_sum 4 (some .long) 5 126 [.ref 122, .int (nI t), .int g, .int e] X (some (.long (-9223372036854775808))) (X) := by
  refine Ct_of false (by decide) (fun h => by cases h) (Nat.le_of_ble_eq_true rfl) ?_
  show V l D ac b "SpanStoreModel" c_M_sum 4 (some .long) false 5 126 0 0 ((some (.long (-9223372036854775808))), 144, mk (X)) 0 0 0 [(0, .ref 122), (1, .int (nI t)), (2, .int g), (3, .int e)] [] 144 (mk X)
  refine s_iload_n (q := 1) d_M_sum_0 rfl rfl ?_
  refine g_callS (q := 4) d_M_sum_1 rfl ml_M_78 mx_M_isTable ms_M_isTable t_M_isTable rfl rfl (Nat.le_of_ble_eq_true rfl) (by decide) ?_
  refine s_if_eq (tgt := 32) (q := 7) d_M_sum_4 (by decide) rfl (fun z9 => absurd z9 (bI_dn.mpr (inT ht))) (fun _ => ?_)
  refine s_iload_n (q := 8) d_M_sum_7 rfl rfl ?_
  refine g_callS (q := 11) d_M_sum_8 rfl ml_M_153 mx_M_isGroup ms_M_isGroup t_M_isGroup rfl rfl (Nat.le_of_ble_eq_true rfl) (by decide) ?_
  refine s_if_eq (tgt := 32) (q := 14) d_M_sum_11 (by decide) rfl (fun z9 => absurd z9 (bI_dn.mpr (grp3.mpr hg))) (fun _ => ?_)
  refine s_iload_n (q := 15) d_M_sum_14 rfl rfl ?_
  refine s_iconst (v := 0) (q := 16) d_M_sum_15 rfl ki_0 ?_
  refine s_iconst (v := 1) (q := 17) d_M_sum_16 rfl ki_1 ?_
  refine g_callS (q := 20) d_M_sum_17 rfl ml_M_74 mx_M_in ms_M_in t_M_in rfl rfl (Nat.le_of_ble_eq_true rfl) (by decide) ?_
  refine s_if_eq (tgt := 32) (q := 23) d_M_sum_20 (by decide) rfl (fun _ => ?_) (fun z9 => absurd (bI_d.mpr (fun z => he (end2.mp z))) z9)
  refine s_ldc2 (q := 35) d_M_sum_32 rfl kc_M_156 ?_
  exact g_lret d_M_sum_35 rfl rfl rfl
theorem t_M_sum_S {X : RAM} {t : Nat} {g e : Int32} (ht : t < 2) (hg : GrpOK g) (he : EndOK e) (hs : X 134 t = 0) : CG l D ac b y_M_sum c_M_sum 4 (some .long) 5 126 [.ref 122, .int (nI t), .int g, .int e] X (some (.long (-9223372036854775808))) (X) := by
  refine Ct_of false (by decide) (fun h => by cases h) (Nat.le_of_ble_eq_true rfl) ?_
  show V l D ac b "SpanStoreModel" c_M_sum 4 (some .long) false 5 126 0 0 ((some (.long (-9223372036854775808))), 144, mk (X)) 0 0 0 [(0, .ref 122), (1, .int (nI t)), (2, .int g), (3, .int e)] [] 144 (mk X)
  refine s_iload_n (q := 1) d_M_sum_0 rfl rfl ?_
  refine g_callS (q := 4) d_M_sum_1 rfl ml_M_78 mx_M_isTable ms_M_isTable t_M_isTable rfl rfl (Nat.le_of_ble_eq_true rfl) (by decide) ?_
  refine s_if_eq (tgt := 32) (q := 7) d_M_sum_4 (by decide) rfl (fun z9 => absurd z9 (bI_dn.mpr (inT ht))) (fun _ => ?_)
  refine s_iload_n (q := 8) d_M_sum_7 rfl rfl ?_
  refine g_callS (q := 11) d_M_sum_8 rfl ml_M_153 mx_M_isGroup ms_M_isGroup t_M_isGroup rfl rfl (Nat.le_of_ble_eq_true rfl) (by decide) ?_
  refine s_if_eq (tgt := 32) (q := 14) d_M_sum_11 (by decide) rfl (fun z9 => absurd z9 (bI_dn.mpr (grp3.mpr hg))) (fun _ => ?_)
  refine s_iload_n (q := 15) d_M_sum_14 rfl rfl ?_
  refine s_iconst (v := 0) (q := 16) d_M_sum_15 rfl ki_0 ?_
  refine s_iconst (v := 1) (q := 17) d_M_sum_16 rfl ki_1 ?_
  refine g_callS (q := 20) d_M_sum_17 rfl ml_M_74 mx_M_in ms_M_in t_M_in rfl rfl (Nat.le_of_ble_eq_true rfl) (by decide) ?_
  refine s_if_eq (tgt := 32) (q := 23) d_M_sum_20 (by decide) rfl (fun z9 => absurd z9 (bI_dn.mpr (end2.mpr he))) (fun _ => ?_)
  refine s_aload_n (q := 24) d_M_sum_23 rfl rfl (Or.inr ⟨_, rfl⟩) ?_
  refine g_getr (q := 27) d_M_sum_24 rfl fl_M_44 skM rfl ?_
  refine s_iload_n (q := 28) d_M_sum_27 rfl rfl ?_
  refine g_zald (q := 29) d_M_sum_28 rfl sm_11 (by omega) rfl ht ?_
  refine s_if_ne (tgt := 36) (q := 32) d_M_sum_29 (by decide) rfl (fun z9 => absurd hs z9) (fun _ => ?_)
  refine s_ldc2 (q := 35) d_M_sum_32 rfl kc_M_156 ?_
  exact g_lret d_M_sum_35 rfl rfl rfl
theorem t_M_sum_D {X : RAM} {t c : Nat} {g e : Int32} (ht : t < 2) (hg : GrpOK g) (he : EndOK e) (hs : ¬ X 134 t = 0) (hc : X 135 t = nI c) (hc4 : c ≤ 4) (hM : okM X) : CG l D ac b y_M_sum c_M_sum 4 (some .long) 5 126 [.ref 122, .int (nI t), .int g, .int e] X (some (.long (smT X t c g e))) (X) := by
  refine Ct_of false (by decide) (fun h => by cases h) (Nat.le_of_ble_eq_true rfl) ?_
  show V l D ac b "SpanStoreModel" c_M_sum 4 (some .long) false 5 126 0 0 ((some (.long (smT X t c g e))), 144, mk (X)) 0 0 0 [(0, .ref 122), (1, .int (nI t)), (2, .int g), (3, .int e)] [] 144 (mk X)
  refine s_iload_n (q := 1) d_M_sum_0 rfl rfl ?_
  refine g_callS (q := 4) d_M_sum_1 rfl ml_M_78 mx_M_isTable ms_M_isTable t_M_isTable rfl rfl (Nat.le_of_ble_eq_true rfl) (by decide) ?_
  refine s_if_eq (tgt := 32) (q := 7) d_M_sum_4 (by decide) rfl (fun z9 => absurd z9 (bI_dn.mpr (inT ht))) (fun _ => ?_)
  refine s_iload_n (q := 8) d_M_sum_7 rfl rfl ?_
  refine g_callS (q := 11) d_M_sum_8 rfl ml_M_153 mx_M_isGroup ms_M_isGroup t_M_isGroup rfl rfl (Nat.le_of_ble_eq_true rfl) (by decide) ?_
  refine s_if_eq (tgt := 32) (q := 14) d_M_sum_11 (by decide) rfl (fun z9 => absurd z9 (bI_dn.mpr (grp3.mpr hg))) (fun _ => ?_)
  refine s_iload_n (q := 15) d_M_sum_14 rfl rfl ?_
  refine s_iconst (v := 0) (q := 16) d_M_sum_15 rfl ki_0 ?_
  refine s_iconst (v := 1) (q := 17) d_M_sum_16 rfl ki_1 ?_
  refine g_callS (q := 20) d_M_sum_17 rfl ml_M_74 mx_M_in ms_M_in t_M_in rfl rfl (Nat.le_of_ble_eq_true rfl) (by decide) ?_
  refine s_if_eq (tgt := 32) (q := 23) d_M_sum_20 (by decide) rfl (fun z9 => absurd z9 (bI_dn.mpr (end2.mpr he))) (fun _ => ?_)
  refine s_aload_n (q := 24) d_M_sum_23 rfl rfl (Or.inr ⟨_, rfl⟩) ?_
  refine g_getr (q := 27) d_M_sum_24 rfl fl_M_44 skM rfl ?_
  refine s_iload_n (q := 28) d_M_sum_27 rfl rfl ?_
  refine g_zald (q := 29) d_M_sum_28 rfl sm_11 (by omega) rfl ht ?_
  refine s_if_ne (tgt := 36) (q := 32) d_M_sum_29 (by decide) rfl (fun _ => ?_) (fun z9 => absurd z9 hs)
  refine s_aload_n (q := 37) d_M_sum_36 rfl rfl (Or.inr ⟨_, rfl⟩) ?_
  refine s_iload_n (q := 38) d_M_sum_37 rfl rfl ?_
  refine s_iload_n (q := 39) d_M_sum_38 rfl rfl ?_
  refine s_iload_n (q := 40) d_M_sum_39 rfl rfl ?_
  refine g_callV (q := 43) d_M_sum_40 rfl ml_M_158 mx_M_sumNow mv_M_sumNow (t_M_sumNow ht hc hc4 hM hg) skM rfl rfl (Nat.le_of_ble_eq_true rfl) (by decide) ?_
  exact g_lret d_M_sum_43 rfl rfl rfl
def mgP (X : RAM) (B : Nat) (x : Int32) (i : Nat) : Bool := decide (¬ X 127 (12 * B + i) = 0 ∧ ¬ X 126 (12 * B + i) < x)
def mcV (X : RAM) (t B c n : Nat) (x e : Int32) : Int32 := if cntB (unP X B) n = 0 ∨ mhi X t B c < x then nI (cntB (mgP X B x) n) else if mlo X t B c < x then (if e = 0 then nI (cntB (mgP X B x) n) + bI (mogP X t B c n) else nI (cntB (mgP X B x) n) + nI (cntB (unP X B) n) - bI (molP X t B c n)) else nI (cntB (mgP X B x) n) + nI (cntB (unP X B) n)
theorem cnz {p : Nat → Bool} {n : Nat} (hn : n ≤ 12) : nI (cntB p n) = 0 ↔ cntB p n = 0 := by
  have := cntB_le p n
  exact nI_eq (a := cntB p n) (b := 0) (by omega) (by decide)
theorem lp_countOf {X : RAM} {t c B n : Nat} {x e : Int32} (ht : t < 2) (hc : X 135 t = nI c) (hc4 : c ≤ 4) (hB : B < 16) (hz : X 123 B = nI n) (hn : n ≤ 12) : ∀ i, i ≤ n → V l D ac b "SpanStoreModel" c_M_countOf 7 (some .int) false 3 68 0 0 ((some (.int (mcV X t B c n x e))), 144, mk X) 0 0 6 [(0, .ref 122), (1, .int (nI t)), (2, .int (nI B)), (3, .int x), (4, .int e), (5, .int (nI (cntB (mgP X B x) i))), (6, .int (nI i))] [] 144 (mk X) := by
  refine nat_down ?_ (fun i hi ih => ?_)
  · skip
    refine s_iload (q := 8) d_M_countOf_6 rfl rfl ?_
    refine s_aload_n (q := 9) d_M_countOf_8 rfl rfl (Or.inr ⟨_, rfl⟩) ?_
    refine g_getr (q := 12) d_M_countOf_9 rfl fl_M_7 skM rfl ?_
    refine s_iload_n (q := 13) d_M_countOf_12 rfl rfl ?_
    refine g_ialv (v := nI n) (q := 14) d_M_countOf_13 rfl sm_0 (by omega) rfl hB hz ?_
    refine s_icmp_ge (tgt := 64) (q := 17) d_M_countOf_14 (by decide) rfl (fun _ => ?_) (fun z9 => absurd (nI_le (Nat.le_refl n) (by omega)) z9)
    refine s_aload_n (q := 65) d_M_countOf_64 rfl rfl (Or.inr ⟨_, rfl⟩) ?_
    refine s_iload_n (q := 66) d_M_countOf_65 rfl rfl ?_
    refine g_callV (q := 69) d_M_countOf_66 rfl ml_M_116 mx_M_unknownOf mv_M_unknownOf (t_M_unknownOf hB hz hn) skM rfl rfl (Nat.le_of_ble_eq_true rfl) (by decide) ?_
    refine s_istore (q := 71) d_M_countOf_69 rfl (by decide) ?_
    refine s_iload (q := 73) d_M_countOf_71 rfl rfl ?_
    refine s_if_eq (tgt := 86) (q := 76) d_M_countOf_73 (by decide) rfl (fun h_73 => ?_) (fun h_73 => ?_)
    · -- T 73
      rw [cnz hn] at h_73
      refine s_iload (q := 88) d_M_countOf_86 rfl rfl ?_
      exact g_iret d_M_countOf_88 rfl rfl (by simp [mcV, *]) rfl
    · -- F 73
      rw [cnz hn] at h_73
      refine s_aload_n (q := 77) d_M_countOf_76 rfl rfl (Or.inr ⟨_, rfl⟩) ?_
      refine s_iload_n (q := 78) d_M_countOf_77 rfl rfl ?_
      refine s_iload_n (q := 79) d_M_countOf_78 rfl rfl ?_
      refine g_callV (q := 82) d_M_countOf_79 rfl ml_M_140 mx_M_highOf mv_M_highOf (t_M_highOf ht hc hc4 hB) skM rfl rfl (Nat.le_of_ble_eq_true rfl) (by decide) ?_
      refine s_iload_n (q := 83) d_M_countOf_82 rfl rfl ?_
      refine s_icmp_ge (tgt := 89) (q := 86) d_M_countOf_83 (by decide) rfl (fun h_83 => ?_) (fun h_83 => ?_)
      · -- T 83
        rw [← i_nlt] at h_83
        refine s_aload_n (q := 90) d_M_countOf_89 rfl rfl (Or.inr ⟨_, rfl⟩) ?_
        refine s_iload_n (q := 91) d_M_countOf_90 rfl rfl ?_
        refine s_iload_n (q := 92) d_M_countOf_91 rfl rfl ?_
        refine g_callV (q := 95) d_M_countOf_92 rfl ml_M_133 mx_M_lowOf mv_M_lowOf (t_M_lowOf ht hc hc4 hB) skM rfl rfl (Nat.le_of_ble_eq_true rfl) (by decide) ?_
        refine s_iload_n (q := 96) d_M_countOf_95 rfl rfl ?_
        refine s_icmp_lt (tgt := 105) (q := 99) d_M_countOf_96 (by decide) rfl (fun h_96 => ?_) (fun h_96 => ?_)
        · -- T 96
          refine s_iload (q := 107) d_M_countOf_105 rfl rfl ?_
          refine s_if_ne (tgt := 130) (q := 110) d_M_countOf_107 (by decide) rfl (fun h_107 => ?_) (fun h_107 => ?_)
          · -- T 107
            refine s_iload (q := 132) d_M_countOf_130 rfl rfl ?_
            refine s_iload (q := 134) d_M_countOf_132 rfl rfl ?_
            refine s_iadd (q := 135) d_M_countOf_134 rfl ?_
            refine s_aload_n (q := 136) d_M_countOf_135 rfl rfl (Or.inr ⟨_, rfl⟩) ?_
            refine s_iload_n (q := 137) d_M_countOf_136 rfl rfl ?_
            refine s_iload_n (q := 138) d_M_countOf_137 rfl rfl ?_
            refine g_callV (q := 141) d_M_countOf_138 rfl ml_M_143 mx_M_owesLeast mv_M_owesLeast (t_M_owesLeast ht hc hc4 hB hz hn) skM rfl rfl (Nat.le_of_ble_eq_true rfl) (by decide) ?_
            refine s_if_eq (tgt := 148) (q := 144) d_M_countOf_141 (by decide) rfl (fun h_141 => ?_) (fun h_141 => ?_)
            · -- T 141
              rw [bI_0] at h_141
              refine s_iconst (v := 0) (q := 149) d_M_countOf_148 rfl ki_0 ?_
              refine s_isub (q := 150) d_M_countOf_149 rfl ?_
              exact g_iret d_M_countOf_150 rfl rfl (by simp only [mcV, h_73, h_83, h_96, false_or, if_false, if_true]; first | (rw [if_pos h_107, h_118]; rfl) | (rw [if_neg h_107, h_141]; rfl)) rfl
            · -- F 141
              rw [bI_n0] at h_141
              refine s_iconst (v := 1) (q := 145) d_M_countOf_144 rfl ki_1 ?_
              refine s_goto (tgt := 149) d_M_countOf_145 (by decide) ?_
              refine s_isub (q := 150) d_M_countOf_149 rfl ?_
              exact g_iret d_M_countOf_150 rfl rfl (by simp only [mcV, h_73, h_83, h_96, false_or, if_false, if_true]; first | (rw [if_pos h_107, h_118]; rfl) | (rw [if_neg h_107, h_141]; rfl)) rfl
          · -- F 107
            refine s_iload (q := 112) d_M_countOf_110 rfl rfl ?_
            refine s_aload_n (q := 113) d_M_countOf_112 rfl rfl (Or.inr ⟨_, rfl⟩) ?_
            refine s_iload_n (q := 114) d_M_countOf_113 rfl rfl ?_
            refine s_iload_n (q := 115) d_M_countOf_114 rfl rfl ?_
            refine g_callV (q := 118) d_M_countOf_115 rfl ml_M_146 mx_M_owesGreatest mv_M_owesGreatest (t_M_owesGreatest ht hc hc4 hB hz hn) skM rfl rfl (Nat.le_of_ble_eq_true rfl) (by decide) ?_
            refine s_if_eq (tgt := 125) (q := 121) d_M_countOf_118 (by decide) rfl (fun h_118 => ?_) (fun h_118 => ?_)
            · -- T 118
              rw [bI_0] at h_118
              refine s_iconst (v := 0) (q := 126) d_M_countOf_125 rfl ki_0 ?_
              refine s_iadd (q := 127) d_M_countOf_126 rfl ?_
              refine s_goto (tgt := 150) d_M_countOf_127 (by decide) ?_
              exact g_iret d_M_countOf_150 rfl rfl (by simp only [mcV, h_73, h_83, h_96, false_or, if_false, if_true]; first | (rw [if_pos h_107, h_118]; rfl) | (rw [if_neg h_107, h_141]; rfl)) rfl
            · -- F 118
              rw [bI_n0] at h_118
              refine s_iconst (v := 1) (q := 122) d_M_countOf_121 rfl ki_1 ?_
              refine s_goto (tgt := 126) d_M_countOf_122 (by decide) ?_
              refine s_iadd (q := 127) d_M_countOf_126 rfl ?_
              refine s_goto (tgt := 150) d_M_countOf_127 (by decide) ?_
              exact g_iret d_M_countOf_150 rfl rfl (by simp only [mcV, h_73, h_83, h_96, false_or, if_false, if_true]; first | (rw [if_pos h_107, h_118]; rfl) | (rw [if_neg h_107, h_141]; rfl)) rfl
        · -- F 96
          refine s_iload (q := 101) d_M_countOf_99 rfl rfl ?_
          refine s_iload (q := 103) d_M_countOf_101 rfl rfl ?_
          refine s_iadd (q := 104) d_M_countOf_103 rfl ?_
          exact g_iret d_M_countOf_104 rfl rfl (by simp only [mcV, h_73, h_83, h_96, false_or, if_false]) rfl
      · -- F 83
        rw [i_nle] at h_83
        refine s_iload (q := 88) d_M_countOf_86 rfl rfl ?_
        exact g_iret d_M_countOf_88 rfl rfl (by simp [mcV, *]) rfl
  · skip
    refine s_iload (q := 8) d_M_countOf_6 rfl rfl ?_
    refine s_aload_n (q := 9) d_M_countOf_8 rfl rfl (Or.inr ⟨_, rfl⟩) ?_
    refine g_getr (q := 12) d_M_countOf_9 rfl fl_M_7 skM rfl ?_
    refine s_iload_n (q := 13) d_M_countOf_12 rfl rfl ?_
    refine g_ialv (v := nI n) (q := 14) d_M_countOf_13 rfl sm_0 (by omega) rfl hB hz ?_
    refine s_icmp_ge (tgt := 64) (q := 17) d_M_countOf_14 (by decide) rfl (fun z9 => absurd z9 (nI_ge hi (by omega))) (fun _ => ?_)
    refine s_iload (q := 19) d_M_countOf_17 rfl rfl ?_
    refine s_aload_n (q := 20) d_M_countOf_19 rfl rfl (Or.inr ⟨_, rfl⟩) ?_
    refine g_getr (q := 23) d_M_countOf_20 rfl fl_M_22 skM rfl ?_
    refine s_bipush (v := 12) (q := 25) d_M_countOf_23 rfl kb_12 ?_
    refine s_iload_n (q := 26) d_M_countOf_25 rfl rfl ?_
    refine s_imul (q := 27) d_M_countOf_26 rfl ?_
    refine s_iload (q := 29) d_M_countOf_27 rfl rfl ?_
    refine s_iadd (q := 30) d_M_countOf_29 rfl ?_
    refine g_zald (q := 31) d_M_countOf_30 rfl sm_4 (by omega) (ix12 _ _) (by omega) ?_
    refine s_if_eq (tgt := 54) (q := 34) d_M_countOf_31 (by decide) rfl (fun h_31 => ?_) (fun h_31 => ?_)
    · -- T 31
      rw [show cntB (mgP X B x) (i + 1) = cntB (mgP X B x) i from by simp [cntB, mgP, *]] at ih
      refine s_iconst (v := 0) (q := 55) d_M_countOf_54 rfl ki_0 ?_
      refine s_iadd (q := 56) d_M_countOf_55 rfl ?_
      first | rw [nI_s] | rw [Int32.add_zero]
      refine s_istore (q := 58) d_M_countOf_56 rfl (by decide) ?_
      refine s_iinc (q := 61) d_M_countOf_58 rfl rfl (by first | exact inc1 _ | rfl) (by decide) ?_
      refine s_goto (tgt := 6) d_M_countOf_61 (by decide) ?_
      exact s_lv (lv' := [(0, .ref 122), (1, .int (nI t)), (2, .int (nI B)), (3, .int x), (4, .int e), (5, .int (nI _)), (6, .int (nI (i + 1)))]) ⟨rfl, rfl, rfl, rfl, rfl, rfl, rfl, trivial⟩ ih
    · -- F 31
      refine s_aload_n (q := 35) d_M_countOf_34 rfl rfl (Or.inr ⟨_, rfl⟩) ?_
      refine g_getr (q := 38) d_M_countOf_35 rfl fl_M_19 skM rfl ?_
      refine s_bipush (v := 12) (q := 40) d_M_countOf_38 rfl kb_12 ?_
      refine s_iload_n (q := 41) d_M_countOf_40 rfl rfl ?_
      refine s_imul (q := 42) d_M_countOf_41 rfl ?_
      refine s_iload (q := 44) d_M_countOf_42 rfl rfl ?_
      refine s_iadd (q := 45) d_M_countOf_44 rfl ?_
      refine g_iald (q := 46) d_M_countOf_45 rfl sm_3 (by omega) (ix12 _ _) (by omega) ?_
      refine s_iload_n (q := 47) d_M_countOf_46 rfl rfl ?_
      refine s_icmp_lt (tgt := 54) (q := 50) d_M_countOf_47 (by decide) rfl (fun h_47 => ?_) (fun h_47 => ?_)
      · -- T 47
        rw [show cntB (mgP X B x) (i + 1) = cntB (mgP X B x) i from by simp [cntB, mgP, *]] at ih
        refine s_iconst (v := 0) (q := 55) d_M_countOf_54 rfl ki_0 ?_
        refine s_iadd (q := 56) d_M_countOf_55 rfl ?_
        first | rw [nI_s] | rw [Int32.add_zero]
        refine s_istore (q := 58) d_M_countOf_56 rfl (by decide) ?_
        refine s_iinc (q := 61) d_M_countOf_58 rfl rfl (by first | exact inc1 _ | rfl) (by decide) ?_
        refine s_goto (tgt := 6) d_M_countOf_61 (by decide) ?_
        exact s_lv (lv' := [(0, .ref 122), (1, .int (nI t)), (2, .int (nI B)), (3, .int x), (4, .int e), (5, .int (nI _)), (6, .int (nI (i + 1)))]) ⟨rfl, rfl, rfl, rfl, rfl, rfl, rfl, trivial⟩ ih
      · -- F 47
        rw [show cntB (mgP X B x) (i + 1) = cntB (mgP X B x) i + 1 from by simp [cntB, mgP, *]] at ih
        refine s_iconst (v := 1) (q := 51) d_M_countOf_50 rfl ki_1 ?_
        refine s_goto (tgt := 55) d_M_countOf_51 (by decide) ?_
        refine s_iadd (q := 56) d_M_countOf_55 rfl ?_
        first | rw [nI_s] | rw [Int32.add_zero]
        refine s_istore (q := 58) d_M_countOf_56 rfl (by decide) ?_
        refine s_iinc (q := 61) d_M_countOf_58 rfl rfl (by first | exact inc1 _ | rfl) (by decide) ?_
        refine s_goto (tgt := 6) d_M_countOf_61 (by decide) ?_
        exact s_lv (lv' := [(0, .ref 122), (1, .int (nI t)), (2, .int (nI B)), (3, .int x), (4, .int e), (5, .int (nI _)), (6, .int (nI (i + 1)))]) ⟨rfl, rfl, rfl, rfl, rfl, rfl, rfl, trivial⟩ ih
theorem t_M_countOf {X : RAM} {t c B n : Nat} {x e : Int32} (ht : t < 2) (hc : X 135 t = nI c) (hc4 : c ≤ 4) (hB : B < 16) (hz : X 123 B = nI n) (hn : n ≤ 12) : CG l D ac b y_M_countOf c_M_countOf 7 (some .int) 3 68 [.ref 122, .int (nI t), .int (nI B), .int x, .int e] X (some (.int (mcV X t B c n x e))) (X) := by
  refine Ct_of false (by decide) (fun h => by cases h) (Nat.le_of_ble_eq_true rfl) ?_
  show V l D ac b "SpanStoreModel" c_M_countOf 7 (some .int) false 3 68 0 0 ((some (.int (mcV X t B c n x e))), 144, mk (X)) 0 0 0 [(0, .ref 122), (1, .int (nI t)), (2, .int (nI B)), (3, .int x), (4, .int e)] [] 144 (mk X)
  refine s_iconst (v := 0) (q := 1) d_M_countOf_0 rfl ki_0 ?_
  refine s_istore (q := 3) d_M_countOf_1 rfl (by decide) ?_
  refine s_iconst (v := 0) (q := 4) d_M_countOf_3 rfl ki_0 ?_
  refine s_istore (q := 6) d_M_countOf_4 rfl (by decide) ?_
  exact s_lv (lv' := [(0, .ref 122), (1, .int (nI t)), (2, .int (nI B)), (3, .int x), (4, .int e), (5, .int (nI (cntB (mgP X B x) 0))), (6, .int (nI 0))]) ⟨rfl, rfl, rfl, rfl, rfl, rfl, rfl, trivial⟩ (lp_countOf ht hc hc4 hB hz hn 0 (Nat.zero_le n))
def mcT (X : RAM) (t c : Nat) (x e : Int32) : Int32 := sumI (fun j => mcV X t (8 * t + j) c (mnN X (8 * t + j)) x e) 8
theorem lp_countM {X : RAM} {t c : Nat} {x e : Int32} (ht : t < 2) (hc : X 135 t = nI c) (hc4 : c ≤ 4) (hM : okM X) : ∀ i, i ≤ 8 → V l D ac b "SpanStoreModel" c_M_count 6 (some .int) false 4 94 0 0 ((some (.int (mcT X t c x e))), 144, mk X) 0 0 37 [(0, .ref 122), (1, .int (nI t)), (2, .int x), (3, .int e), (4, .int (sumI (fun j => mcV X t (8 * t + j) c (mnN X (8 * t + j)) x e) i)), (5, .int (nI i))] [] 144 (mk X) := by
  refine nat_down ?_ (fun i hi ih => ?_)
  · skip
    refine s_iload (q := 39) d_M_count_37 rfl rfl ?_
    refine s_bipush (v := 8) (q := 41) d_M_count_39 rfl kb_8 ?_
    refine s_icmp_ge (tgt := 69) (q := 44) d_M_count_41 (by decide) rfl (fun _ => ?_) (fun z9 => absurd le8 z9)
    refine s_iload (q := 71) d_M_count_69 rfl rfl ?_
    exact g_iret d_M_count_71 rfl rfl rfl rfl
  · skip
    refine s_iload (q := 39) d_M_count_37 rfl rfl ?_
    refine s_bipush (v := 8) (q := 41) d_M_count_39 rfl kb_8 ?_
    refine s_icmp_ge (tgt := 69) (q := 44) d_M_count_41 (by decide) rfl (fun z9 => absurd z9 (nle8 hi)) (fun _ => ?_)
    refine s_iload (q := 46) d_M_count_44 rfl rfl ?_
    refine s_aload_n (q := 47) d_M_count_46 rfl rfl (Or.inr ⟨_, rfl⟩) ?_
    refine s_iload_n (q := 48) d_M_count_47 rfl rfl ?_
    refine s_bipush (v := 8) (q := 50) d_M_count_48 rfl kb_8 ?_
    refine s_iload_n (q := 51) d_M_count_50 rfl rfl ?_
    refine s_imul (q := 52) d_M_count_51 rfl ?_
    refine s_iload (q := 54) d_M_count_52 rfl rfl ?_
    refine s_iadd (q := 55) d_M_count_54 rfl ?_
    rw [ix8m]
    refine s_iload_n (q := 56) d_M_count_55 rfl rfl ?_
    refine s_iload_n (q := 57) d_M_count_56 rfl rfl ?_
    refine g_callV (q := 60) d_M_count_57 rfl ml_M_162 mx_M_countOf mv_M_countOf (t_M_countOf ht hc hc4 (by omega) (hM (8 * t + i) (by omega)).1 (hM _ (by omega)).2) skM rfl rfl (Nat.le_of_ble_eq_true rfl) (by decide) ?_
    refine s_iadd (q := 61) d_M_count_60 rfl ?_
    refine s_istore (q := 63) d_M_count_61 rfl (by decide) ?_
    refine s_iinc (q := 66) d_M_count_63 rfl rfl (by first | exact inc1 _ | rfl) (by decide) ?_
    refine s_goto (tgt := 37) d_M_count_66 (by decide) ?_
    exact s_lv (lv' := [(0, .ref 122), (1, .int (nI t)), (2, .int x), (3, .int e), (4, .int (sumI (fun j => mcV X t (8 * t + j) c (mnN X (8 * t + j)) x e) (i + 1))), (5, .int (nI (i + 1)))]) ⟨rfl, rfl, rfl, rfl, rfl, rfl, trivial⟩ ih
theorem t_M_count_T {X : RAM} {x y e : Int32} (hx : x < 0 ∨ 2 ≤ x) : CG l D ac b y_M_count c_M_count 6 (some .int) 4 94 [.ref 122, .int x, .int y, .int e] X (some (.int (-2))) (X) := by
  refine Ct_of false (by decide) (fun h => by cases h) (Nat.le_of_ble_eq_true rfl) ?_
  show V l D ac b "SpanStoreModel" c_M_count 6 (some .int) false 4 94 0 0 ((some (.int (-2))), 144, mk (X)) 0 0 0 [(0, .ref 122), (1, .int x), (2, .int y), (3, .int e)] [] 144 (mk X)
  refine s_iload_n (q := 1) d_M_count_0 rfl rfl ?_
  refine g_callS (q := 4) d_M_count_1 rfl ml_M_78 mx_M_isTable ms_M_isTable t_M_isTable rfl rfl (Nat.le_of_ble_eq_true rfl) (by decide) ?_
  refine s_if_eq (tgt := 16) (q := 7) d_M_count_4 (by decide) rfl (fun _ => ?_) (fun z9 => absurd (bI_d.mpr (niT hx)) z9)
  refine s_bipush (v := (-2)) (q := 18) d_M_count_16 rfl kb_m2 ?_
  exact g_iret d_M_count_18 rfl rfl rfl rfl
theorem t_M_count_E {X : RAM} {t : Nat} {x e : Int32} (ht : t < 2) (he : ¬ EndOK e) : CG l D ac b y_M_count c_M_count 6 (some .int) 4 94 [.ref 122, .int (nI t), .int x, .int e] X (some (.int (-2))) (X) := by
  refine Ct_of false (by decide) (fun h => by cases h) (Nat.le_of_ble_eq_true rfl) ?_
  show V l D ac b "SpanStoreModel" c_M_count 6 (some .int) false 4 94 0 0 ((some (.int (-2))), 144, mk (X)) 0 0 0 [(0, .ref 122), (1, .int (nI t)), (2, .int x), (3, .int e)] [] 144 (mk X)
  refine s_iload_n (q := 1) d_M_count_0 rfl rfl ?_
  refine g_callS (q := 4) d_M_count_1 rfl ml_M_78 mx_M_isTable ms_M_isTable t_M_isTable rfl rfl (Nat.le_of_ble_eq_true rfl) (by decide) ?_
  refine s_if_eq (tgt := 16) (q := 7) d_M_count_4 (by decide) rfl (fun z9 => absurd z9 (bI_dn.mpr (inT ht))) (fun _ => ?_)
  refine s_iload_n (q := 8) d_M_count_7 rfl rfl ?_
  refine s_iconst (v := 0) (q := 9) d_M_count_8 rfl ki_0 ?_
  refine s_iconst (v := 1) (q := 10) d_M_count_9 rfl ki_1 ?_
  refine g_callS (q := 13) d_M_count_10 rfl ml_M_74 mx_M_in ms_M_in t_M_in rfl rfl (Nat.le_of_ble_eq_true rfl) (by decide) ?_
  refine s_if_ne (tgt := 19) (q := 16) d_M_count_13 (by decide) rfl (fun z9 => absurd (bI_d.mpr (fun z => he (end2.mp z))) z9) (fun _ => ?_)
  refine s_bipush (v := (-2)) (q := 18) d_M_count_16 rfl kb_m2 ?_
  exact g_iret d_M_count_18 rfl rfl rfl rfl
theorem t_M_count_S {X : RAM} {t : Nat} {x e : Int32} (ht : t < 2) (he : EndOK e) (hs : X 134 t = 0) : CG l D ac b y_M_count c_M_count 6 (some .int) 4 94 [.ref 122, .int (nI t), .int x, .int e] X (some (.int (-3))) (X) := by
  refine Ct_of false (by decide) (fun h => by cases h) (Nat.le_of_ble_eq_true rfl) ?_
  show V l D ac b "SpanStoreModel" c_M_count 6 (some .int) false 4 94 0 0 ((some (.int (-3))), 144, mk (X)) 0 0 0 [(0, .ref 122), (1, .int (nI t)), (2, .int x), (3, .int e)] [] 144 (mk X)
  refine s_iload_n (q := 1) d_M_count_0 rfl rfl ?_
  refine g_callS (q := 4) d_M_count_1 rfl ml_M_78 mx_M_isTable ms_M_isTable t_M_isTable rfl rfl (Nat.le_of_ble_eq_true rfl) (by decide) ?_
  refine s_if_eq (tgt := 16) (q := 7) d_M_count_4 (by decide) rfl (fun z9 => absurd z9 (bI_dn.mpr (inT ht))) (fun _ => ?_)
  refine s_iload_n (q := 8) d_M_count_7 rfl rfl ?_
  refine s_iconst (v := 0) (q := 9) d_M_count_8 rfl ki_0 ?_
  refine s_iconst (v := 1) (q := 10) d_M_count_9 rfl ki_1 ?_
  refine g_callS (q := 13) d_M_count_10 rfl ml_M_74 mx_M_in ms_M_in t_M_in rfl rfl (Nat.le_of_ble_eq_true rfl) (by decide) ?_
  refine s_if_ne (tgt := 19) (q := 16) d_M_count_13 (by decide) rfl (fun _ => ?_) (fun z9 => absurd z9 (bI_dn.mpr (end2.mpr he)))
  refine s_aload_n (q := 20) d_M_count_19 rfl rfl (Or.inr ⟨_, rfl⟩) ?_
  refine g_getr (q := 23) d_M_count_20 rfl fl_M_44 skM rfl ?_
  refine s_iload_n (q := 24) d_M_count_23 rfl rfl ?_
  refine g_zald (q := 25) d_M_count_24 rfl sm_11 (by omega) rfl ht ?_
  refine s_if_ne (tgt := 31) (q := 28) d_M_count_25 (by decide) rfl (fun z9 => absurd hs z9) (fun _ => ?_)
  refine s_bipush (v := (-3)) (q := 30) d_M_count_28 rfl kb_m3 ?_
  exact g_iret d_M_count_30 rfl rfl rfl rfl
theorem t_M_count_D {X : RAM} {t c : Nat} {x e : Int32} (ht : t < 2) (he : EndOK e) (hs : ¬ X 134 t = 0) (hc : X 135 t = nI c) (hc4 : c ≤ 4) (hM : okM X) : CG l D ac b y_M_count c_M_count 6 (some .int) 4 94 [.ref 122, .int (nI t), .int x, .int e] X (some (.int (mcT X t c x e))) (X) := by
  refine Ct_of false (by decide) (fun h => by cases h) (Nat.le_of_ble_eq_true rfl) ?_
  show V l D ac b "SpanStoreModel" c_M_count 6 (some .int) false 4 94 0 0 ((some (.int (mcT X t c x e))), 144, mk (X)) 0 0 0 [(0, .ref 122), (1, .int (nI t)), (2, .int x), (3, .int e)] [] 144 (mk X)
  refine s_iload_n (q := 1) d_M_count_0 rfl rfl ?_
  refine g_callS (q := 4) d_M_count_1 rfl ml_M_78 mx_M_isTable ms_M_isTable t_M_isTable rfl rfl (Nat.le_of_ble_eq_true rfl) (by decide) ?_
  refine s_if_eq (tgt := 16) (q := 7) d_M_count_4 (by decide) rfl (fun z9 => absurd z9 (bI_dn.mpr (inT ht))) (fun _ => ?_)
  refine s_iload_n (q := 8) d_M_count_7 rfl rfl ?_
  refine s_iconst (v := 0) (q := 9) d_M_count_8 rfl ki_0 ?_
  refine s_iconst (v := 1) (q := 10) d_M_count_9 rfl ki_1 ?_
  refine g_callS (q := 13) d_M_count_10 rfl ml_M_74 mx_M_in ms_M_in t_M_in rfl rfl (Nat.le_of_ble_eq_true rfl) (by decide) ?_
  refine s_if_ne (tgt := 19) (q := 16) d_M_count_13 (by decide) rfl (fun _ => ?_) (fun z9 => absurd z9 (bI_dn.mpr (end2.mpr he)))
  refine s_aload_n (q := 20) d_M_count_19 rfl rfl (Or.inr ⟨_, rfl⟩) ?_
  refine g_getr (q := 23) d_M_count_20 rfl fl_M_44 skM rfl ?_
  refine s_iload_n (q := 24) d_M_count_23 rfl rfl ?_
  refine g_zald (q := 25) d_M_count_24 rfl sm_11 (by omega) rfl ht ?_
  refine s_if_ne (tgt := 31) (q := 28) d_M_count_25 (by decide) rfl (fun _ => ?_) (fun z9 => absurd z9 hs)
  refine s_iconst (v := 0) (q := 32) d_M_count_31 rfl ki_0 ?_
  refine s_istore (q := 34) d_M_count_32 rfl (by decide) ?_
  refine s_iconst (v := 0) (q := 35) d_M_count_34 rfl ki_0 ?_
  refine s_istore (q := 37) d_M_count_35 rfl (by decide) ?_
  exact s_lv (lv' := [(0, .ref 122), (1, .int (nI t)), (2, .int x), (3, .int e), (4, .int (sumI (fun j => mcV X t (8 * t + j) c (mnN X (8 * t + j)) x e) 0)), (5, .int (nI 0))]) ⟨rfl, rfl, rfl, rfl, rfl, rfl, trivial⟩ (lp_countM ht hc hc4 hM 0 (Nat.zero_le 8))
def kaV (X : RAM) (r : Nat) : Bool := decide (nI (r % 12) < X 123 (r / 12) ∧ ¬ X 127 r = 0)
theorem rem12 {r : Nat} (h : r < 192) : nI r - nI r / 12 * 12 = nI (r % 12) := pk_rem (a := r) (d := 12) (by omega) (by decide) (by decide)
theorem div12 {r : Nat} (h : r < 192) : nI r / 12 = nI (r / 12) := pk_div (a := r) (d := 12) (by omega) (by decide) (by decide)
theorem t_M_isKnownAt {X : RAM} {r : Nat} (hr : r < 192) : CG l D ac b y_M_isKnownAt c_M_isKnownAt 2 (some .boolean) 0 0 [.ref 122, .int (nI r)] X (some (.int (bI (kaV X r)))) (X) := by
  refine Ct_of false (by decide) (fun h => by cases h) (Nat.le_of_ble_eq_true rfl) ?_
  show V l D ac b "SpanStoreModel" c_M_isKnownAt 2 (some .boolean) false 0 0 0 0 ((some (.int (bI (kaV X r)))), 144, mk (X)) 0 0 0 [(0, .ref 122), (1, .int (nI r))] [] 144 (mk X)
  refine s_iload_n (q := 1) d_M_isKnownAt_0 rfl rfl ?_
  refine s_bipush (v := 12) (q := 3) d_M_isKnownAt_1 rfl kb_12 ?_
  refine s_irem (q := 4) d_M_isKnownAt_3 rfl (by decide) ?_
  rw [rem12 hr]
  refine s_aload_n (q := 5) d_M_isKnownAt_4 rfl rfl (Or.inr ⟨_, rfl⟩) ?_
  refine g_getr (q := 8) d_M_isKnownAt_5 rfl fl_M_7 skM rfl ?_
  refine s_iload_n (q := 9) d_M_isKnownAt_8 rfl rfl ?_
  refine s_bipush (v := 12) (q := 11) d_M_isKnownAt_9 rfl kb_12 ?_
  refine s_idiv (q := 12) d_M_isKnownAt_11 rfl (by decide) ?_
  refine g_iald (q := 13) d_M_isKnownAt_12 rfl sm_0 (by omega) (div12 hr) (by omega) ?_
  refine s_icmp_ge (tgt := 29) (q := 16) d_M_isKnownAt_13 (by decide) rfl (fun h_13 => ?_) (fun h_13 => ?_)
  · -- T 13
    refine s_iconst (v := 0) (q := 30) d_M_isKnownAt_29 rfl ki_0 ?_
    exact g_iret d_M_isKnownAt_30 rfl rfl (by first | exact bI_is1 ⟨i_nle.mp h_13, h_22⟩ | exact bI_is0 (fun z => absurd z.1 (i_nlt.mpr h_13)) | exact bI_is0 (fun z => z.2 h_22)) rfl
  · -- F 13
    refine s_aload_n (q := 17) d_M_isKnownAt_16 rfl rfl (Or.inr ⟨_, rfl⟩) ?_
    refine g_getr (q := 20) d_M_isKnownAt_17 rfl fl_M_22 skM rfl ?_
    refine s_iload_n (q := 21) d_M_isKnownAt_20 rfl rfl ?_
    refine g_zald (q := 22) d_M_isKnownAt_21 rfl sm_4 (by omega) rfl hr ?_
    refine s_if_eq (tgt := 29) (q := 25) d_M_isKnownAt_22 (by decide) rfl (fun h_22 => ?_) (fun h_22 => ?_)
    · -- T 22
      refine s_iconst (v := 0) (q := 30) d_M_isKnownAt_29 rfl ki_0 ?_
      exact g_iret d_M_isKnownAt_30 rfl rfl (by first | exact bI_is1 ⟨i_nle.mp h_13, h_22⟩ | exact bI_is0 (fun z => absurd z.1 (i_nlt.mpr h_13)) | exact bI_is0 (fun z => z.2 h_22)) rfl
    · -- F 22
      refine s_iconst (v := 1) (q := 26) d_M_isKnownAt_25 rfl ki_1 ?_
      refine s_goto (tgt := 30) d_M_isKnownAt_26 (by decide) ?_
      exact g_iret d_M_isKnownAt_30 rfl rfl (by first | exact bI_is1 ⟨i_nle.mp h_13, h_22⟩ | exact bI_is0 (fun z => absurd z.1 (i_nlt.mpr h_13)) | exact bI_is0 (fun z => z.2 h_22)) rfl
def prP (X : RAM) (r : Nat) : Nat → Bool := fun z => kaV X (96 + z) && decide (X 124 (96 + z) = X 124 r)
def prS (X : RAM) (a m : Int32) : Nat → Int32
  | 0 => 0
  | r + 1 => if kaV X r = true ∧ remI (X 124 r) a = m then prS X a m r + nI (cntB (prP X r) 96) else prS X a m r
theorem le96 : (96 : Int32) ≤ nI 96 := by decide
theorem nle96 {i : Nat} (h : i < 96) : ¬ (96 : Int32) ≤ nI i := nI_ge (a := i) (b := 96) h (by decide)
theorem lp_pairsI {X : RAM} {a m : Int32} (ha : ¬ a = 0) {s0 : Int32} {r : Nat} (hr : r < 96) (hex : V l D ac b "SpanStoreModel" c_M_pairs 6 (some .int) false 1 21 0 0 ((some (.int (prS X a m 96))), 144, mk X) 0 0 86 [(0, .ref 122), (1, .int a), (2, .int m), (3, .int (s0 + nI (cntB (prP X r) 96))), (4, .int (nI r))] [] 144 (mk X)) : ∀ z, z ≤ 96 → V l D ac b "SpanStoreModel" c_M_pairs 6 (some .int) false 1 21 0 0 ((some (.int (prS X a m 96))), 144, mk X) 0 0 38 [(0, .ref 122), (1, .int a), (2, .int m), (3, .int (s0 + nI (cntB (prP X r) z))), (4, .int (nI r)), (5, .int (nI (96 + z)))] [] 144 (mk X) := by
  refine nat_down ?_ (fun z hz ih => ?_)
  · skip
    refine s_iload (q := 40) d_M_pairs_38 rfl rfl ?_
    refine s_sipush (v := 192) (q := 43) d_M_pairs_40 rfl kh_192 ?_
    refine s_icmp_ge (tgt := 86) (q := 46) d_M_pairs_43 (by decide) rfl (fun _ => ?_) (fun z9 => absurd (by decide) z9)
    exact s_lv (lv' := [(0, .ref 122), (1, .int a), (2, .int m), (3, .int (s0 + nI (cntB (prP X r) 96))), (4, .int (nI r))]) ⟨rfl, rfl, rfl, rfl, rfl, trivial⟩ hex
  · skip
    refine s_iload (q := 40) d_M_pairs_38 rfl rfl ?_
    refine s_sipush (v := 192) (q := 43) d_M_pairs_40 rfl kh_192 ?_
    refine s_icmp_ge (tgt := 86) (q := 46) d_M_pairs_43 (by decide) rfl (fun z9 => absurd z9 (nI_ge (a := 96 + z) (b := 192) (by omega) (by decide))) (fun _ => ?_)
    refine s_iload_n (q := 47) d_M_pairs_46 rfl rfl ?_
    refine s_aload_n (q := 48) d_M_pairs_47 rfl rfl (Or.inr ⟨_, rfl⟩) ?_
    refine s_iload (q := 50) d_M_pairs_48 rfl rfl ?_
    refine g_callV (q := 53) d_M_pairs_50 rfl ml_M_166 mx_M_isKnownAt mv_M_isKnownAt (t_M_isKnownAt (by omega)) skM rfl rfl (Nat.le_of_ble_eq_true rfl) (by decide) ?_
    refine s_if_eq (tgt := 77) (q := 56) d_M_pairs_53 (by decide) rfl (fun h_53 => ?_) (fun h_53 => ?_)
    · -- T 53
      rw [bI_0] at h_53
      rw [show cntB (prP X r) (z + 1) = cntB (prP X r) z from by simp [cntB, prP, *]] at ih
      refine s_iconst (v := 0) (q := 78) d_M_pairs_77 rfl ki_0 ?_
      refine s_iadd (q := 79) d_M_pairs_78 rfl ?_
      try rw [Int32.add_zero]
      refine s_istore_n (q := 80) d_M_pairs_79 rfl (by decide) ?_
      refine s_iinc (q := 83) d_M_pairs_80 rfl rfl (by first | exact inc1 _ | rfl) (by decide) ?_
      refine s_goto (tgt := 38) d_M_pairs_83 (by decide) ?_
      exact s_lv (lv' := [(0, .ref 122), (1, .int a), (2, .int m), (3, .int _), (4, .int (nI r)), (5, .int (nI (96 + (z + 1))))]) ⟨rfl, rfl, rfl, rfl, rfl, rfl, trivial⟩ ih
    · -- F 53
      rw [bI_n0] at h_53
      refine s_aload_n (q := 57) d_M_pairs_56 rfl rfl (Or.inr ⟨_, rfl⟩) ?_
      refine g_getr (q := 60) d_M_pairs_57 rfl fl_M_13 skM rfl ?_
      refine s_iload (q := 62) d_M_pairs_60 rfl rfl ?_
      refine g_iald (q := 63) d_M_pairs_62 rfl sm_1 (by omega) rfl (by omega) ?_
      refine s_aload_n (q := 64) d_M_pairs_63 rfl rfl (Or.inr ⟨_, rfl⟩) ?_
      refine g_getr (q := 67) d_M_pairs_64 rfl fl_M_13 skM rfl ?_
      refine s_iload (q := 69) d_M_pairs_67 rfl rfl ?_
      refine g_iald (q := 70) d_M_pairs_69 rfl sm_1 (by omega) rfl (by omega) ?_
      refine s_icmp_ne (tgt := 77) (q := 73) d_M_pairs_70 (by decide) rfl (fun h_70 => ?_) (fun h_70 => ?_)
      · -- T 70
        rw [show cntB (prP X r) (z + 1) = cntB (prP X r) z from by simp [cntB, prP, *]] at ih
        refine s_iconst (v := 0) (q := 78) d_M_pairs_77 rfl ki_0 ?_
        refine s_iadd (q := 79) d_M_pairs_78 rfl ?_
        try rw [Int32.add_zero]
        refine s_istore_n (q := 80) d_M_pairs_79 rfl (by decide) ?_
        refine s_iinc (q := 83) d_M_pairs_80 rfl rfl (by first | exact inc1 _ | rfl) (by decide) ?_
        refine s_goto (tgt := 38) d_M_pairs_83 (by decide) ?_
        exact s_lv (lv' := [(0, .ref 122), (1, .int a), (2, .int m), (3, .int _), (4, .int (nI r)), (5, .int (nI (96 + (z + 1))))]) ⟨rfl, rfl, rfl, rfl, rfl, rfl, trivial⟩ ih
      · -- F 70
        rw [show cntB (prP X r) (z + 1) = cntB (prP X r) z + 1 from by simp [cntB, prP, *], ← nI_s, ← Int32.add_assoc] at ih
        refine s_iconst (v := 1) (q := 74) d_M_pairs_73 rfl ki_1 ?_
        refine s_goto (tgt := 78) d_M_pairs_74 (by decide) ?_
        refine s_iadd (q := 79) d_M_pairs_78 rfl ?_
        try rw [Int32.add_zero]
        refine s_istore_n (q := 80) d_M_pairs_79 rfl (by decide) ?_
        refine s_iinc (q := 83) d_M_pairs_80 rfl rfl (by first | exact inc1 _ | rfl) (by decide) ?_
        refine s_goto (tgt := 38) d_M_pairs_83 (by decide) ?_
        exact s_lv (lv' := [(0, .ref 122), (1, .int a), (2, .int m), (3, .int _), (4, .int (nI r)), (5, .int (nI (96 + (z + 1))))]) ⟨rfl, rfl, rfl, rfl, rfl, rfl, trivial⟩ ih
theorem lp_pairs {X : RAM} {a m : Int32} (ha : ¬ a = 0) : ∀ i, i ≤ 96 → V l D ac b "SpanStoreModel" c_M_pairs 6 (some .int) false 1 21 0 0 ((some (.int (prS X a m 96))), 144, mk X) 0 0 5 [(0, .ref 122), (1, .int a), (2, .int m), (3, .int (prS X a m i)), (4, .int (nI i))] [] 144 (mk X) := by
  refine nat_down ?_ (fun i hi ih => ?_)
  · skip
    refine s_iload (q := 7) d_M_pairs_5 rfl rfl ?_
    refine s_bipush (v := 96) (q := 9) d_M_pairs_7 rfl kb_96 ?_
    refine s_icmp_ge (tgt := 92) (q := 12) d_M_pairs_9 (by decide) rfl (fun _ => ?_) (fun z9 => absurd le96 z9)
    refine s_iload_n (q := 93) d_M_pairs_92 rfl rfl ?_
    exact g_iret d_M_pairs_93 rfl rfl rfl rfl
  · skip
    refine s_iload (q := 7) d_M_pairs_5 rfl rfl ?_
    refine s_bipush (v := 96) (q := 9) d_M_pairs_7 rfl kb_96 ?_
    refine s_icmp_ge (tgt := 92) (q := 12) d_M_pairs_9 (by decide) rfl (fun z9 => absurd z9 (nle96 hi)) (fun _ => ?_)
    refine s_aload_n (q := 13) d_M_pairs_12 rfl rfl (Or.inr ⟨_, rfl⟩) ?_
    refine s_iload (q := 15) d_M_pairs_13 rfl rfl ?_
    refine g_callV (q := 18) d_M_pairs_15 rfl ml_M_166 mx_M_isKnownAt mv_M_isKnownAt (t_M_isKnownAt (by omega)) skM rfl rfl (Nat.le_of_ble_eq_true rfl) (by decide) ?_
    refine s_if_eq (tgt := 86) (q := 21) d_M_pairs_18 (by decide) rfl (fun h_18 => ?_) (fun h_18 => ?_)
    · -- T 18
      rw [bI_0] at h_18
      rw [show prS X a m (i + 1) = prS X a m i from by simp [prS, *]] at ih
      refine s_iinc (q := 89) d_M_pairs_86 rfl rfl (by first | exact inc1 _ | rfl) (by decide) ?_
      refine s_goto (tgt := 5) d_M_pairs_89 (by decide) ?_
      exact s_lv (lv' := [(0, .ref 122), (1, .int a), (2, .int m), (3, .int _), (4, .int (nI (i + 1)))]) ⟨rfl, rfl, rfl, rfl, rfl, trivial⟩ ih
    · -- F 18
      rw [bI_n0] at h_18
      refine s_aload_n (q := 22) d_M_pairs_21 rfl rfl (Or.inr ⟨_, rfl⟩) ?_
      refine g_getr (q := 25) d_M_pairs_22 rfl fl_M_13 skM rfl ?_
      refine s_iload (q := 27) d_M_pairs_25 rfl rfl ?_
      refine g_iald (q := 28) d_M_pairs_27 rfl sm_1 (by omega) rfl (by omega) ?_
      refine s_iload_n (q := 29) d_M_pairs_28 rfl rfl ?_
      refine s_irem (q := 30) d_M_pairs_29 rfl ha ?_
      refine s_iload_n (q := 31) d_M_pairs_30 rfl rfl ?_
      refine s_icmp_ne (tgt := 86) (q := 34) d_M_pairs_31 (by decide) rfl (fun h_31 => ?_) (fun h_31 => ?_)
      · -- T 31
        have h31 : ¬ remI (X 124 i) a = m := h_31
        rw [show prS X a m (i + 1) = prS X a m i from by simp [prS, *]] at ih
        refine s_iinc (q := 89) d_M_pairs_86 rfl rfl (by first | exact inc1 _ | rfl) (by decide) ?_
        refine s_goto (tgt := 5) d_M_pairs_89 (by decide) ?_
        exact s_lv (lv' := [(0, .ref 122), (1, .int a), (2, .int m), (3, .int _), (4, .int (nI (i + 1)))]) ⟨rfl, rfl, rfl, rfl, rfl, trivial⟩ ih
      · -- F 31
        have h31 : remI (X 124 i) a = m := h_31
        rw [show prS X a m (i + 1) = prS X a m i + nI (cntB (prP X i) 96) from by simp [prS, *]] at ih
        refine s_bipush (v := 96) (q := 36) d_M_pairs_34 rfl kb_96 ?_
        refine s_istore (q := 38) d_M_pairs_36 rfl (by decide) ?_
        have hex : V l D ac b "SpanStoreModel" c_M_pairs 6 (some .int) false 1 21 0 0 ((some (.int (prS X a m 96))), 144, mk X) 0 0 86 [(0, .ref 122), (1, .int a), (2, .int m), (3, .int (prS X a m i + nI (cntB (prP X i) 96))), (4, .int (nI i))] [] 144 (mk X) := by
          refine s_iinc (q := 89) d_M_pairs_86 rfl rfl (inc1 _) (by decide) ?_
          refine s_goto (tgt := 5) d_M_pairs_89 (by decide) ?_
          exact s_lv (lv' := [(0, .ref 122), (1, .int a), (2, .int m), (3, .int _), (4, .int (nI (i + 1)))]) ⟨rfl, rfl, rfl, rfl, rfl, trivial⟩ ih
        exact s_lv (lv' := [(0, .ref 122), (1, .int a), (2, .int m), (3, .int (prS X a m i + nI (cntB (prP X i) 0))), (4, .int (nI i)), (5, .int (nI (96 + 0)))]) ⟨rfl, rfl, rfl, by show some (Value.int (prS X a m i)) = some (Value.int (prS X a m i + nI 0)); rw [show (nI 0) = 0 from rfl, Int32.add_zero], rfl, rfl, trivial⟩ (lp_pairsI ha hi hex 0 (Nat.zero_le 96))
theorem t_M_pairs {X : RAM} {a m : Int32} (ha : ¬ a = 0) : CG l D ac b y_M_pairs c_M_pairs 6 (some .int) 1 21 [.ref 122, .int a, .int m] X (some (.int (prS X a m 96))) (X) := by
  refine Ct_of false (by decide) (fun h => by cases h) (Nat.le_of_ble_eq_true rfl) ?_
  show V l D ac b "SpanStoreModel" c_M_pairs 6 (some .int) false 1 21 0 0 ((some (.int (prS X a m 96))), 144, mk (X)) 0 0 0 [(0, .ref 122), (1, .int a), (2, .int m)] [] 144 (mk X)
  refine s_iconst (v := 0) (q := 1) d_M_pairs_0 rfl ki_0 ?_
  refine s_istore_n (q := 2) d_M_pairs_1 rfl (by decide) ?_
  refine s_iconst (v := 0) (q := 3) d_M_pairs_2 rfl ki_0 ?_
  refine s_istore (q := 5) d_M_pairs_3 rfl (by decide) ?_
  exact s_lv (lv' := [(0, .ref 122), (1, .int a), (2, .int m), (3, .int (prS X a m 0)), (4, .int (nI 0))]) ⟨rfl, rfl, rfl, rfl, rfl, trivial⟩ (lp_pairs ha 0 (Nat.zero_le 96))
def mrT (X : RAM) (t : Nat) : Int32 := sumI (fun j => X 123 (8 * t + j)) 8
theorem t_M_join_E {X : RAM} {e : Int32} (he : ¬ EndOK e) : CG l D ac b y_M_join c_M_join 5 (some .int) 2 46 [.ref 122, .int e] X (some (.int (-2))) (X) := by
  refine Ct_of false (by decide) (fun h => by cases h) (Nat.le_of_ble_eq_true rfl) ?_
  show V l D ac b "SpanStoreModel" c_M_join 5 (some .int) false 2 46 0 0 ((some (.int (-2))), 144, mk (X)) 0 0 0 [(0, .ref 122), (1, .int e)] [] 144 (mk X)
  refine s_iload_n (q := 1) d_M_join_0 rfl rfl ?_
  refine s_iconst (v := 0) (q := 2) d_M_join_1 rfl ki_0 ?_
  refine s_iconst (v := 1) (q := 3) d_M_join_2 rfl ki_1 ?_
  refine g_callS (q := 6) d_M_join_3 rfl ml_M_74 mx_M_in ms_M_in t_M_in rfl rfl (Nat.le_of_ble_eq_true rfl) (by decide) ?_
  refine s_if_ne (tgt := 12) (q := 9) d_M_join_6 (by decide) rfl (fun z9 => absurd (bI_d.mpr (fun z => he (end2.mp z))) z9) (fun _ => ?_)
  refine s_bipush (v := (-2)) (q := 11) d_M_join_9 rfl kb_m2 ?_
  exact g_iret d_M_join_11 rfl rfl rfl rfl
theorem t_M_join_S {X : RAM} {e : Int32} (he : EndOK e) (hs : ¬ (¬ X 134 0 = 0 ∧ ¬ X 134 1 = 0)) : CG l D ac b y_M_join c_M_join 5 (some .int) 2 46 [.ref 122, .int e] X (some (.int (-3))) (X) := by
  refine Ct_of false (by decide) (fun h => by cases h) (Nat.le_of_ble_eq_true rfl) ?_
  show V l D ac b "SpanStoreModel" c_M_join 5 (some .int) false 2 46 0 0 ((some (.int (-3))), 144, mk (X)) 0 0 0 [(0, .ref 122), (1, .int e)] [] 144 (mk X)
  refine s_iload_n (q := 1) d_M_join_0 rfl rfl ?_
  refine s_iconst (v := 0) (q := 2) d_M_join_1 rfl ki_0 ?_
  refine s_iconst (v := 1) (q := 3) d_M_join_2 rfl ki_1 ?_
  refine g_callS (q := 6) d_M_join_3 rfl ml_M_74 mx_M_in ms_M_in t_M_in rfl rfl (Nat.le_of_ble_eq_true rfl) (by decide) ?_
  refine s_if_ne (tgt := 12) (q := 9) d_M_join_6 (by decide) rfl (fun _ => ?_) (fun z9 => absurd z9 (bI_dn.mpr (end2.mpr he)))
  refine s_aload_n (q := 13) d_M_join_12 rfl rfl (Or.inr ⟨_, rfl⟩) ?_
  refine g_getr (q := 16) d_M_join_13 rfl fl_M_44 skM rfl ?_
  refine s_iconst (v := 0) (q := 17) d_M_join_16 rfl ki_0 ?_
  refine g_zald (q := 18) d_M_join_17 rfl sm_11 (by omega) (rfl : (0 : Int32) = nI 0) (by decide) ?_
  refine s_if_eq (tgt := 30) (q := 21) d_M_join_18 (by decide) rfl (fun h_18 => ?_) (fun h_18 => ?_)
  · -- T 18
    refine s_bipush (v := (-3)) (q := 32) d_M_join_30 rfl kb_m3 ?_
    exact g_iret d_M_join_32 rfl rfl rfl rfl
  · -- F 18
    refine s_aload_n (q := 22) d_M_join_21 rfl rfl (Or.inr ⟨_, rfl⟩) ?_
    refine g_getr (q := 25) d_M_join_22 rfl fl_M_44 skM rfl ?_
    refine s_iconst (v := 1) (q := 26) d_M_join_25 rfl ki_1 ?_
    refine g_zald (q := 27) d_M_join_26 rfl sm_11 (by omega) (rfl : (1 : Int32) = nI 1) (by decide) ?_
    refine s_if_ne (tgt := 33) (q := 30) d_M_join_27 (by decide) rfl (fun h_27 => ?_) (fun h_27 => ?_)
    · -- T 27
      exact absurd ⟨h_18, h_27⟩ hs --done
    · -- F 27
      refine s_bipush (v := (-3)) (q := 32) d_M_join_30 rfl kb_m3 ?_
      exact g_iret d_M_join_32 rfl rfl rfl rfl
theorem t_M_join_0 {X : RAM} (s0 : ¬ X 134 0 = 0) (s1 : ¬ X 134 1 = 0) (hM : okM X) : CG l D ac b y_M_join c_M_join 5 (some .int) 2 46 [.ref 122, .int 0] X (some (.int (prS X 1 0 96))) (X) := by
  refine Ct_of false (by decide) (fun h => by cases h) (Nat.le_of_ble_eq_true rfl) ?_
  show V l D ac b "SpanStoreModel" c_M_join 5 (some .int) false 2 46 0 0 ((some (.int (prS X 1 0 96))), 144, mk (X)) 0 0 0 [(0, .ref 122), (1, .int 0)] [] 144 (mk X)
  refine s_iload_n (q := 1) d_M_join_0 rfl rfl ?_
  refine s_iconst (v := 0) (q := 2) d_M_join_1 rfl ki_0 ?_
  refine s_iconst (v := 1) (q := 3) d_M_join_2 rfl ki_1 ?_
  refine g_callS (q := 6) d_M_join_3 rfl ml_M_74 mx_M_in ms_M_in t_M_in rfl rfl (Nat.le_of_ble_eq_true rfl) (by decide) ?_
  refine s_if_ne (tgt := 12) (q := 9) d_M_join_6 (by decide) rfl (fun _ => ?_) (fun z9 => absurd z9 (by decide))
  refine s_aload_n (q := 13) d_M_join_12 rfl rfl (Or.inr ⟨_, rfl⟩) ?_
  refine g_getr (q := 16) d_M_join_13 rfl fl_M_44 skM rfl ?_
  refine s_iconst (v := 0) (q := 17) d_M_join_16 rfl ki_0 ?_
  refine g_zald (q := 18) d_M_join_17 rfl sm_11 (by omega) (rfl : (0 : Int32) = nI 0) (by decide) ?_
  refine s_if_eq (tgt := 30) (q := 21) d_M_join_18 (by decide) rfl (fun z9 => absurd z9 s0) (fun _ => ?_)
  refine s_aload_n (q := 22) d_M_join_21 rfl rfl (Or.inr ⟨_, rfl⟩) ?_
  refine g_getr (q := 25) d_M_join_22 rfl fl_M_44 skM rfl ?_
  refine s_iconst (v := 1) (q := 26) d_M_join_25 rfl ki_1 ?_
  refine g_zald (q := 27) d_M_join_26 rfl sm_11 (by omega) (rfl : (1 : Int32) = nI 1) (by decide) ?_
  refine s_if_ne (tgt := 33) (q := 30) d_M_join_27 (by decide) rfl (fun _ => ?_) (fun z9 => absurd z9 s1)
  refine s_aload_n (q := 34) d_M_join_33 rfl rfl (Or.inr ⟨_, rfl⟩) ?_
  refine s_iconst (v := 0) (q := 35) d_M_join_34 rfl ki_0 ?_
  refine g_callV (q := 38) d_M_join_35 rfl ml_M_110 mx_M_knownOf mv_M_knownOf (t_M_knownOf (t := 0) (by decide) hM) skM rfl rfl (Nat.le_of_ble_eq_true rfl) (by decide) ?_
  refine s_istore_n (q := 39) d_M_join_38 rfl (by decide) ?_
  refine s_aload_n (q := 40) d_M_join_39 rfl rfl (Or.inr ⟨_, rfl⟩) ?_
  refine s_iconst (v := 1) (q := 41) d_M_join_40 rfl ki_1 ?_
  refine g_callV (q := 44) d_M_join_41 rfl ml_M_110 mx_M_knownOf mv_M_knownOf (t_M_knownOf (t := 1) (by decide) hM) skM rfl rfl (Nat.le_of_ble_eq_true rfl) (by decide) ?_
  refine s_istore_n (q := 45) d_M_join_44 rfl (by decide) ?_
  refine s_aload_n (q := 46) d_M_join_45 rfl rfl (Or.inr ⟨_, rfl⟩) ?_
  refine s_iconst (v := 0) (q := 47) d_M_join_46 rfl ki_0 ?_
  refine g_callV (q := 50) d_M_join_47 rfl ml_M_113 mx_M_rowsOf mv_M_rowsOf (t_M_rowsOf (t := 0) (by decide)) skM rfl rfl (Nat.le_of_ble_eq_true rfl) (by decide) ?_
  refine s_iload_n (q := 51) d_M_join_50 rfl rfl ?_
  refine s_isub (q := 52) d_M_join_51 rfl ?_
  refine s_aload_n (q := 53) d_M_join_52 rfl rfl (Or.inr ⟨_, rfl⟩) ?_
  refine s_iconst (v := 1) (q := 54) d_M_join_53 rfl ki_1 ?_
  refine g_callV (q := 57) d_M_join_54 rfl ml_M_113 mx_M_rowsOf mv_M_rowsOf (t_M_rowsOf (t := 1) (by decide)) skM rfl rfl (Nat.le_of_ble_eq_true rfl) (by decide) ?_
  refine s_imul (q := 58) d_M_join_57 rfl ?_
  refine s_iload_n (q := 59) d_M_join_58 rfl rfl ?_
  refine s_aload_n (q := 60) d_M_join_59 rfl rfl (Or.inr ⟨_, rfl⟩) ?_
  refine s_iconst (v := 1) (q := 61) d_M_join_60 rfl ki_1 ?_
  refine g_callV (q := 64) d_M_join_61 rfl ml_M_113 mx_M_rowsOf mv_M_rowsOf (t_M_rowsOf (t := 1) (by decide)) skM rfl rfl (Nat.le_of_ble_eq_true rfl) (by decide) ?_
  refine s_iload_n (q := 65) d_M_join_64 rfl rfl ?_
  refine s_isub (q := 66) d_M_join_65 rfl ?_
  refine s_imul (q := 67) d_M_join_66 rfl ?_
  refine s_iadd (q := 68) d_M_join_67 rfl ?_
  refine s_istore (q := 70) d_M_join_68 rfl (by decide) ?_
  refine s_aload_n (q := 71) d_M_join_70 rfl rfl (Or.inr ⟨_, rfl⟩) ?_
  refine s_iconst (v := 1) (q := 72) d_M_join_71 rfl ki_1 ?_
  refine s_iconst (v := 0) (q := 73) d_M_join_72 rfl ki_0 ?_
  refine g_callV (q := 76) d_M_join_73 rfl ml_M_169 mx_M_pairs mv_M_pairs (t_M_pairs (by decide)) skM rfl rfl (Nat.le_of_ble_eq_true rfl) (by decide) ?_
  refine s_iload_n (q := 77) d_M_join_76 rfl rfl ?_
  refine s_if_ne (tgt := 84) (q := 80) d_M_join_77 (by decide) rfl (fun z9 => absurd rfl z9) (fun _ => ?_)
  refine s_iconst (v := 0) (q := 81) d_M_join_80 rfl ki_0 ?_
  refine s_goto (tgt := 86) d_M_join_81 (by decide) ?_
  refine s_iadd (q := 87) d_M_join_86 rfl ?_
  exact g_iret d_M_join_87 rfl rfl (Int32.add_zero _) rfl
theorem t_M_join_1 {X : RAM} (s0 : ¬ X 134 0 = 0) (s1 : ¬ X 134 1 = 0) (hM : okM X) : CG l D ac b y_M_join c_M_join 5 (some .int) 2 46 [.ref 122, .int 1] X (some (.int (prS X 1 0 96 + ((mrT X 0 - mkS X 0 8) * mrT X 1 + mkS X 0 8 * (mrT X 1 - mkS X 1 8))))) (X) := by
  refine Ct_of false (by decide) (fun h => by cases h) (Nat.le_of_ble_eq_true rfl) ?_
  show V l D ac b "SpanStoreModel" c_M_join 5 (some .int) false 2 46 0 0 ((some (.int (prS X 1 0 96 + ((mrT X 0 - mkS X 0 8) * mrT X 1 + mkS X 0 8 * (mrT X 1 - mkS X 1 8))))), 144, mk (X)) 0 0 0 [(0, .ref 122), (1, .int 1)] [] 144 (mk X)
  refine s_iload_n (q := 1) d_M_join_0 rfl rfl ?_
  refine s_iconst (v := 0) (q := 2) d_M_join_1 rfl ki_0 ?_
  refine s_iconst (v := 1) (q := 3) d_M_join_2 rfl ki_1 ?_
  refine g_callS (q := 6) d_M_join_3 rfl ml_M_74 mx_M_in ms_M_in t_M_in rfl rfl (Nat.le_of_ble_eq_true rfl) (by decide) ?_
  refine s_if_ne (tgt := 12) (q := 9) d_M_join_6 (by decide) rfl (fun _ => ?_) (fun z9 => absurd z9 (by decide))
  refine s_aload_n (q := 13) d_M_join_12 rfl rfl (Or.inr ⟨_, rfl⟩) ?_
  refine g_getr (q := 16) d_M_join_13 rfl fl_M_44 skM rfl ?_
  refine s_iconst (v := 0) (q := 17) d_M_join_16 rfl ki_0 ?_
  refine g_zald (q := 18) d_M_join_17 rfl sm_11 (by omega) (rfl : (0 : Int32) = nI 0) (by decide) ?_
  refine s_if_eq (tgt := 30) (q := 21) d_M_join_18 (by decide) rfl (fun z9 => absurd z9 s0) (fun _ => ?_)
  refine s_aload_n (q := 22) d_M_join_21 rfl rfl (Or.inr ⟨_, rfl⟩) ?_
  refine g_getr (q := 25) d_M_join_22 rfl fl_M_44 skM rfl ?_
  refine s_iconst (v := 1) (q := 26) d_M_join_25 rfl ki_1 ?_
  refine g_zald (q := 27) d_M_join_26 rfl sm_11 (by omega) (rfl : (1 : Int32) = nI 1) (by decide) ?_
  refine s_if_ne (tgt := 33) (q := 30) d_M_join_27 (by decide) rfl (fun _ => ?_) (fun z9 => absurd z9 s1)
  refine s_aload_n (q := 34) d_M_join_33 rfl rfl (Or.inr ⟨_, rfl⟩) ?_
  refine s_iconst (v := 0) (q := 35) d_M_join_34 rfl ki_0 ?_
  refine g_callV (q := 38) d_M_join_35 rfl ml_M_110 mx_M_knownOf mv_M_knownOf (t_M_knownOf (t := 0) (by decide) hM) skM rfl rfl (Nat.le_of_ble_eq_true rfl) (by decide) ?_
  refine s_istore_n (q := 39) d_M_join_38 rfl (by decide) ?_
  refine s_aload_n (q := 40) d_M_join_39 rfl rfl (Or.inr ⟨_, rfl⟩) ?_
  refine s_iconst (v := 1) (q := 41) d_M_join_40 rfl ki_1 ?_
  refine g_callV (q := 44) d_M_join_41 rfl ml_M_110 mx_M_knownOf mv_M_knownOf (t_M_knownOf (t := 1) (by decide) hM) skM rfl rfl (Nat.le_of_ble_eq_true rfl) (by decide) ?_
  refine s_istore_n (q := 45) d_M_join_44 rfl (by decide) ?_
  refine s_aload_n (q := 46) d_M_join_45 rfl rfl (Or.inr ⟨_, rfl⟩) ?_
  refine s_iconst (v := 0) (q := 47) d_M_join_46 rfl ki_0 ?_
  refine g_callV (q := 50) d_M_join_47 rfl ml_M_113 mx_M_rowsOf mv_M_rowsOf (t_M_rowsOf (t := 0) (by decide)) skM rfl rfl (Nat.le_of_ble_eq_true rfl) (by decide) ?_
  refine s_iload_n (q := 51) d_M_join_50 rfl rfl ?_
  refine s_isub (q := 52) d_M_join_51 rfl ?_
  refine s_aload_n (q := 53) d_M_join_52 rfl rfl (Or.inr ⟨_, rfl⟩) ?_
  refine s_iconst (v := 1) (q := 54) d_M_join_53 rfl ki_1 ?_
  refine g_callV (q := 57) d_M_join_54 rfl ml_M_113 mx_M_rowsOf mv_M_rowsOf (t_M_rowsOf (t := 1) (by decide)) skM rfl rfl (Nat.le_of_ble_eq_true rfl) (by decide) ?_
  refine s_imul (q := 58) d_M_join_57 rfl ?_
  refine s_iload_n (q := 59) d_M_join_58 rfl rfl ?_
  refine s_aload_n (q := 60) d_M_join_59 rfl rfl (Or.inr ⟨_, rfl⟩) ?_
  refine s_iconst (v := 1) (q := 61) d_M_join_60 rfl ki_1 ?_
  refine g_callV (q := 64) d_M_join_61 rfl ml_M_113 mx_M_rowsOf mv_M_rowsOf (t_M_rowsOf (t := 1) (by decide)) skM rfl rfl (Nat.le_of_ble_eq_true rfl) (by decide) ?_
  refine s_iload_n (q := 65) d_M_join_64 rfl rfl ?_
  refine s_isub (q := 66) d_M_join_65 rfl ?_
  refine s_imul (q := 67) d_M_join_66 rfl ?_
  refine s_iadd (q := 68) d_M_join_67 rfl ?_
  refine s_istore (q := 70) d_M_join_68 rfl (by decide) ?_
  refine s_aload_n (q := 71) d_M_join_70 rfl rfl (Or.inr ⟨_, rfl⟩) ?_
  refine s_iconst (v := 1) (q := 72) d_M_join_71 rfl ki_1 ?_
  refine s_iconst (v := 0) (q := 73) d_M_join_72 rfl ki_0 ?_
  refine g_callV (q := 76) d_M_join_73 rfl ml_M_169 mx_M_pairs mv_M_pairs (t_M_pairs (by decide)) skM rfl rfl (Nat.le_of_ble_eq_true rfl) (by decide) ?_
  refine s_iload_n (q := 77) d_M_join_76 rfl rfl ?_
  refine s_if_ne (tgt := 84) (q := 80) d_M_join_77 (by decide) rfl (fun _ => ?_) (fun z9 => absurd z9 (by decide))
  refine s_iload (q := 86) d_M_join_84 rfl rfl ?_
  refine s_iadd (q := 87) d_M_join_86 rfl ?_
  exact g_iret d_M_join_87 rfl rfl rfl rfl
def mhP (X : RAM) (t : Nat) (a m : Int32) (k : Nat) : Bool := decide (X 136 (4 * t + k) = 2 ∧ X 137 (4 * t + k) = a ∧ X 138 (4 * t + k) = m)
theorem lp_hasKM {X : RAM} {t c : Nat} {a m : Int32} (ht : t < 2) (hc : X 135 t = nI c) (hc4 : c ≤ 4) : ∀ i, i ≤ c → (∀ j, j < i → mhP X t a m j = false) → V l D ac b "SpanStoreModel" c_M_hasKeyed 5 (some .boolean) false 0 0 0 0 ((some (.int (bI (anyB (mhP X t a m) c)))), 144, mk X) 0 0 5 [(0, .ref 122), (1, .int (nI t)), (2, .int a), (3, .int m), (4, .int (nI (4 * t + i)))] [] 144 (mk X) := by
  refine nat_down ?_ (fun i hi ih => ?_)
  · skip
    intro hp
    refine s_iload (q := 7) d_M_hasKeyed_5 rfl rfl ?_
    refine s_iconst (v := 4) (q := 8) d_M_hasKeyed_7 rfl ki_4 ?_
    refine s_iload_n (q := 9) d_M_hasKeyed_8 rfl rfl ?_
    refine s_imul (q := 10) d_M_hasKeyed_9 rfl ?_
    refine s_aload_n (q := 11) d_M_hasKeyed_10 rfl rfl (Or.inr ⟨_, rfl⟩) ?_
    refine g_getr (q := 14) d_M_hasKeyed_11 rfl fl_M_47 skM rfl ?_
    refine s_iload_n (q := 15) d_M_hasKeyed_14 rfl rfl ?_
    refine g_ialv (v := nI c) (q := 16) d_M_hasKeyed_15 rfl sm_12 (by omega) rfl ht hc ?_
    refine s_iadd (q := 17) d_M_hasKeyed_16 rfl ?_
    rw [ix4m]
    refine s_icmp_ge (tgt := 61) (q := 20) d_M_hasKeyed_17 (by decide) rfl (fun _ => ?_) (fun z9 => absurd (nI_le (Nat.le_refl _) (by omega)) z9)
    refine s_iconst (v := 0) (q := 62) d_M_hasKeyed_61 rfl ki_0 ?_
    exact g_iret d_M_hasKeyed_62 rfl rfl (bI_f (anyB_f hp)).symm rfl
  · skip
    intro hp
    refine s_iload (q := 7) d_M_hasKeyed_5 rfl rfl ?_
    refine s_iconst (v := 4) (q := 8) d_M_hasKeyed_7 rfl ki_4 ?_
    refine s_iload_n (q := 9) d_M_hasKeyed_8 rfl rfl ?_
    refine s_imul (q := 10) d_M_hasKeyed_9 rfl ?_
    refine s_aload_n (q := 11) d_M_hasKeyed_10 rfl rfl (Or.inr ⟨_, rfl⟩) ?_
    refine g_getr (q := 14) d_M_hasKeyed_11 rfl fl_M_47 skM rfl ?_
    refine s_iload_n (q := 15) d_M_hasKeyed_14 rfl rfl ?_
    refine g_ialv (v := nI c) (q := 16) d_M_hasKeyed_15 rfl sm_12 (by omega) rfl ht hc ?_
    refine s_iadd (q := 17) d_M_hasKeyed_16 rfl ?_
    rw [ix4m]
    refine s_icmp_ge (tgt := 61) (q := 20) d_M_hasKeyed_17 (by decide) rfl (fun z9 => absurd z9 (nI_ge (by omega) (by omega))) (fun _ => ?_)
    refine s_aload_n (q := 21) d_M_hasKeyed_20 rfl rfl (Or.inr ⟨_, rfl⟩) ?_
    refine g_getr (q := 24) d_M_hasKeyed_21 rfl fl_M_50 skM rfl ?_
    refine s_iload (q := 26) d_M_hasKeyed_24 rfl rfl ?_
    refine g_iald (q := 27) d_M_hasKeyed_26 rfl sm_13 (by omega) rfl (by omega) ?_
    refine s_iconst (v := 2) (q := 28) d_M_hasKeyed_27 rfl ki_2 ?_
    refine s_icmp_ne (tgt := 55) (q := 31) d_M_hasKeyed_28 (by decide) rfl (fun h_28 => ?_) (fun h_28 => ?_)
    · -- T 28
      refine s_iinc (q := 58) d_M_hasKeyed_55 rfl rfl (by first | exact inc1 _ | rfl) (by decide) ?_
      refine s_goto (tgt := 5) d_M_hasKeyed_58 (by decide) ?_
      refine s_lv (lv' := [(0, .ref 122), (1, .int (nI t)), (2, .int a), (3, .int m), (4, .int (nI (4 * t + (i + 1))))]) ⟨rfl, rfl, rfl, rfl, rfl, trivial⟩ (ih (fun j hj => ?_))
      by_cases hji : j = i
      · subst hji; simp [mhP, *]
      · exact hp j (by omega)
    · -- F 28
      refine s_aload_n (q := 32) d_M_hasKeyed_31 rfl rfl (Or.inr ⟨_, rfl⟩) ?_
      refine g_getr (q := 35) d_M_hasKeyed_32 rfl fl_M_53 skM rfl ?_
      refine s_iload (q := 37) d_M_hasKeyed_35 rfl rfl ?_
      refine g_iald (q := 38) d_M_hasKeyed_37 rfl sm_14 (by omega) rfl (by omega) ?_
      refine s_iload_n (q := 39) d_M_hasKeyed_38 rfl rfl ?_
      refine s_icmp_ne (tgt := 55) (q := 42) d_M_hasKeyed_39 (by decide) rfl (fun h_39 => ?_) (fun h_39 => ?_)
      · -- T 39
        refine s_iinc (q := 58) d_M_hasKeyed_55 rfl rfl (by first | exact inc1 _ | rfl) (by decide) ?_
        refine s_goto (tgt := 5) d_M_hasKeyed_58 (by decide) ?_
        refine s_lv (lv' := [(0, .ref 122), (1, .int (nI t)), (2, .int a), (3, .int m), (4, .int (nI (4 * t + (i + 1))))]) ⟨rfl, rfl, rfl, rfl, rfl, trivial⟩ (ih (fun j hj => ?_))
        by_cases hji : j = i
        · subst hji; simp [mhP, *]
        · exact hp j (by omega)
      · -- F 39
        refine s_aload_n (q := 43) d_M_hasKeyed_42 rfl rfl (Or.inr ⟨_, rfl⟩) ?_
        refine g_getr (q := 46) d_M_hasKeyed_43 rfl fl_M_56 skM rfl ?_
        refine s_iload (q := 48) d_M_hasKeyed_46 rfl rfl ?_
        refine g_iald (q := 49) d_M_hasKeyed_48 rfl sm_15 (by omega) rfl (by omega) ?_
        refine s_iload_n (q := 50) d_M_hasKeyed_49 rfl rfl ?_
        refine s_icmp_ne (tgt := 55) (q := 53) d_M_hasKeyed_50 (by decide) rfl (fun h_50 => ?_) (fun h_50 => ?_)
        · -- T 50
          refine s_iinc (q := 58) d_M_hasKeyed_55 rfl rfl (by first | exact inc1 _ | rfl) (by decide) ?_
          refine s_goto (tgt := 5) d_M_hasKeyed_58 (by decide) ?_
          refine s_lv (lv' := [(0, .ref 122), (1, .int (nI t)), (2, .int a), (3, .int m), (4, .int (nI (4 * t + (i + 1))))]) ⟨rfl, rfl, rfl, rfl, rfl, trivial⟩ (ih (fun j hj => ?_))
          by_cases hji : j = i
          · subst hji; simp [mhP, *]
          · exact hp j (by omega)
        · -- F 50
          refine s_iconst (v := 1) (q := 54) d_M_hasKeyed_53 rfl ki_1 ?_
          exact g_iret d_M_hasKeyed_54 rfl rfl (bI_t (anyB_t hi (by simp [mhP, *]))).symm rfl
theorem t_M_hasKeyed {X : RAM} {t c : Nat} {a m : Int32} (ht : t < 2) (hc : X 135 t = nI c) (hc4 : c ≤ 4) : CG l D ac b y_M_hasKeyed c_M_hasKeyed 5 (some .boolean) 0 0 [.ref 122, .int (nI t), .int a, .int m] X (some (.int (bI (anyB (mhP X t a m) c)))) (X) := by
  refine Ct_of false (by decide) (fun h => by cases h) (Nat.le_of_ble_eq_true rfl) ?_
  show V l D ac b "SpanStoreModel" c_M_hasKeyed 5 (some .boolean) false 0 0 0 0 ((some (.int (bI (anyB (mhP X t a m) c)))), 144, mk (X)) 0 0 0 [(0, .ref 122), (1, .int (nI t)), (2, .int a), (3, .int m)] [] 144 (mk X)
  refine s_iconst (v := 4) (q := 1) d_M_hasKeyed_0 rfl ki_4 ?_
  refine s_iload_n (q := 2) d_M_hasKeyed_1 rfl rfl ?_
  refine s_imul (q := 3) d_M_hasKeyed_2 rfl ?_
  rw [m4]
  refine s_istore (q := 5) d_M_hasKeyed_3 rfl (by decide) ?_
  exact s_lv (lv' := [(0, .ref 122), (1, .int (nI t)), (2, .int a), (3, .int m), (4, .int (nI (4 * t + 0)))]) ⟨rfl, rfl, rfl, rfl, rfl, trivial⟩ (lp_hasKM ht hc hc4 0 (Nat.zero_le c) (fun j hj => by omega))
theorem t_M_part_M {X : RAM} {a c : Int32} (hm : ¬ ModOK a c) : CG l D ac b y_M_part c_M_part 3 (some .int) 2 46 [.ref 122, .int a, .int c] X (some (.int (-2))) (X) := by
  refine Ct_of false (by decide) (fun h => by cases h) (Nat.le_of_ble_eq_true rfl) ?_
  show V l D ac b "SpanStoreModel" c_M_part 3 (some .int) false 2 46 0 0 ((some (.int (-2))), 144, mk (X)) 0 0 0 [(0, .ref 122), (1, .int a), (2, .int c)] [] 144 (mk X)
  refine s_iload_n (q := 1) d_M_part_0 rfl rfl ?_
  refine s_iconst (v := 1) (q := 2) d_M_part_1 rfl ki_1 ?_
  refine s_bipush (v := 100) (q := 4) d_M_part_2 rfl kb_100 ?_
  refine g_callS (q := 7) d_M_part_4 rfl ml_M_74 mx_M_in ms_M_in t_M_in rfl rfl (Nat.le_of_ble_eq_true rfl) (by decide) ?_
  refine s_if_eq (tgt := 21) (q := 10) d_M_part_7 (by decide) rfl (fun h_7 => ?_) (fun h_7 => ?_)
  · -- T 7
    rw [bI_d] at h_7
    refine s_bipush (v := (-2)) (q := 23) d_M_part_21 rfl kb_m2 ?_
    exact g_iret d_M_part_23 rfl rfl rfl rfl
  · -- F 7
    rw [bI_dn] at h_7
    refine s_iload_n (q := 11) d_M_part_10 rfl rfl ?_
    refine s_iconst (v := 0) (q := 12) d_M_part_11 rfl ki_0 ?_
    refine s_iload_n (q := 13) d_M_part_12 rfl rfl ?_
    refine s_iconst (v := 1) (q := 14) d_M_part_13 rfl ki_1 ?_
    refine s_isub (q := 15) d_M_part_14 rfl ?_
    refine g_callS (q := 18) d_M_part_15 rfl ml_M_74 mx_M_in ms_M_in t_M_in rfl rfl (Nat.le_of_ble_eq_true rfl) (by decide) ?_
    refine s_if_ne (tgt := 24) (q := 21) d_M_part_18 (by decide) rfl (fun h_18 => ?_) (fun h_18 => ?_)
    · -- T 18
      rw [bI_dn] at h_18
      exact absurd ⟨h_7, i_nlt.mpr h_18.1, (sub1 h_7.1).mp h_18.2⟩ hm --done
    · -- F 18
      refine s_bipush (v := (-2)) (q := 23) d_M_part_21 rfl kb_m2 ?_
      exact g_iret d_M_part_23 rfl rfl rfl rfl
theorem t_M_part_S {X : RAM} {a c : Int32} (hm : ModOK a c) (hs : ¬ (¬ X 134 0 = 0 ∧ ¬ X 134 1 = 0)) : CG l D ac b y_M_part c_M_part 3 (some .int) 2 46 [.ref 122, .int a, .int c] X (some (.int (-3))) (X) := by
  refine Ct_of false (by decide) (fun h => by cases h) (Nat.le_of_ble_eq_true rfl) ?_
  show V l D ac b "SpanStoreModel" c_M_part 3 (some .int) false 2 46 0 0 ((some (.int (-3))), 144, mk (X)) 0 0 0 [(0, .ref 122), (1, .int a), (2, .int c)] [] 144 (mk X)
  refine s_iload_n (q := 1) d_M_part_0 rfl rfl ?_
  refine s_iconst (v := 1) (q := 2) d_M_part_1 rfl ki_1 ?_
  refine s_bipush (v := 100) (q := 4) d_M_part_2 rfl kb_100 ?_
  refine g_callS (q := 7) d_M_part_4 rfl ml_M_74 mx_M_in ms_M_in t_M_in rfl rfl (Nat.le_of_ble_eq_true rfl) (by decide) ?_
  refine s_if_eq (tgt := 21) (q := 10) d_M_part_7 (by decide) rfl (fun z9 => absurd z9 (bI_dn.mpr hm.1)) (fun _ => ?_)
  refine s_iload_n (q := 11) d_M_part_10 rfl rfl ?_
  refine s_iconst (v := 0) (q := 12) d_M_part_11 rfl ki_0 ?_
  refine s_iload_n (q := 13) d_M_part_12 rfl rfl ?_
  refine s_iconst (v := 1) (q := 14) d_M_part_13 rfl ki_1 ?_
  refine s_isub (q := 15) d_M_part_14 rfl ?_
  refine g_callS (q := 18) d_M_part_15 rfl ml_M_74 mx_M_in ms_M_in t_M_in rfl rfl (Nat.le_of_ble_eq_true rfl) (by decide) ?_
  refine s_if_ne (tgt := 24) (q := 21) d_M_part_18 (by decide) rfl (fun _ => ?_) (fun z9 => absurd z9 (bI_dn.mpr ⟨i_nlt.mp hm.2.1, (sub1 hm.1.1).mpr hm.2.2⟩))
  refine s_aload_n (q := 25) d_M_part_24 rfl rfl (Or.inr ⟨_, rfl⟩) ?_
  refine g_getr (q := 28) d_M_part_25 rfl fl_M_44 skM rfl ?_
  refine s_iconst (v := 0) (q := 29) d_M_part_28 rfl ki_0 ?_
  refine g_zald (q := 30) d_M_part_29 rfl sm_11 (by omega) (rfl : (0 : Int32) = nI 0) (by decide) ?_
  refine s_if_eq (tgt := 42) (q := 33) d_M_part_30 (by decide) rfl (fun h_30 => ?_) (fun h_30 => ?_)
  · -- T 30
    refine s_bipush (v := (-3)) (q := 44) d_M_part_42 rfl kb_m3 ?_
    exact g_iret d_M_part_44 rfl rfl rfl rfl
  · -- F 30
    refine s_aload_n (q := 34) d_M_part_33 rfl rfl (Or.inr ⟨_, rfl⟩) ?_
    refine g_getr (q := 37) d_M_part_34 rfl fl_M_44 skM rfl ?_
    refine s_iconst (v := 1) (q := 38) d_M_part_37 rfl ki_1 ?_
    refine g_zald (q := 39) d_M_part_38 rfl sm_11 (by omega) (rfl : (1 : Int32) = nI 1) (by decide) ?_
    refine s_if_ne (tgt := 45) (q := 42) d_M_part_39 (by decide) rfl (fun h_39 => ?_) (fun h_39 => ?_)
    · -- T 39
      exact absurd ⟨h_30, h_39⟩ hs --done
    · -- F 39
      refine s_bipush (v := (-3)) (q := 44) d_M_part_42 rfl kb_m3 ?_
      exact g_iret d_M_part_44 rfl rfl rfl rfl
theorem t_M_part_N {X : RAM} {a c : Int32} {q0 q1 : Nat} (hm : ModOK a c) (s0 : ¬ X 134 0 = 0) (s1 : ¬ X 134 1 = 0) (c0 : X 135 0 = nI q0) (d0 : q0 ≤ 4) (c1 : X 135 1 = nI q1) (d1 : q1 ≤ 4) (hk : ¬ (anyB (mhP X 0 a c) q0 = true ∧ anyB (mhP X 1 a c) q1 = true)) : CG l D ac b y_M_part c_M_part 3 (some .int) 2 46 [.ref 122, .int a, .int c] X (some (.int (-5))) (X) := by
  refine Ct_of false (by decide) (fun h => by cases h) (Nat.le_of_ble_eq_true rfl) ?_
  show V l D ac b "SpanStoreModel" c_M_part 3 (some .int) false 2 46 0 0 ((some (.int (-5))), 144, mk (X)) 0 0 0 [(0, .ref 122), (1, .int a), (2, .int c)] [] 144 (mk X)
  refine s_iload_n (q := 1) d_M_part_0 rfl rfl ?_
  refine s_iconst (v := 1) (q := 2) d_M_part_1 rfl ki_1 ?_
  refine s_bipush (v := 100) (q := 4) d_M_part_2 rfl kb_100 ?_
  refine g_callS (q := 7) d_M_part_4 rfl ml_M_74 mx_M_in ms_M_in t_M_in rfl rfl (Nat.le_of_ble_eq_true rfl) (by decide) ?_
  refine s_if_eq (tgt := 21) (q := 10) d_M_part_7 (by decide) rfl (fun z9 => absurd z9 (bI_dn.mpr hm.1)) (fun _ => ?_)
  refine s_iload_n (q := 11) d_M_part_10 rfl rfl ?_
  refine s_iconst (v := 0) (q := 12) d_M_part_11 rfl ki_0 ?_
  refine s_iload_n (q := 13) d_M_part_12 rfl rfl ?_
  refine s_iconst (v := 1) (q := 14) d_M_part_13 rfl ki_1 ?_
  refine s_isub (q := 15) d_M_part_14 rfl ?_
  refine g_callS (q := 18) d_M_part_15 rfl ml_M_74 mx_M_in ms_M_in t_M_in rfl rfl (Nat.le_of_ble_eq_true rfl) (by decide) ?_
  refine s_if_ne (tgt := 24) (q := 21) d_M_part_18 (by decide) rfl (fun _ => ?_) (fun z9 => absurd z9 (bI_dn.mpr ⟨i_nlt.mp hm.2.1, (sub1 hm.1.1).mpr hm.2.2⟩))
  refine s_aload_n (q := 25) d_M_part_24 rfl rfl (Or.inr ⟨_, rfl⟩) ?_
  refine g_getr (q := 28) d_M_part_25 rfl fl_M_44 skM rfl ?_
  refine s_iconst (v := 0) (q := 29) d_M_part_28 rfl ki_0 ?_
  refine g_zald (q := 30) d_M_part_29 rfl sm_11 (by omega) (rfl : (0 : Int32) = nI 0) (by decide) ?_
  refine s_if_eq (tgt := 42) (q := 33) d_M_part_30 (by decide) rfl (fun z9 => absurd z9 s0) (fun _ => ?_)
  refine s_aload_n (q := 34) d_M_part_33 rfl rfl (Or.inr ⟨_, rfl⟩) ?_
  refine g_getr (q := 37) d_M_part_34 rfl fl_M_44 skM rfl ?_
  refine s_iconst (v := 1) (q := 38) d_M_part_37 rfl ki_1 ?_
  refine g_zald (q := 39) d_M_part_38 rfl sm_11 (by omega) (rfl : (1 : Int32) = nI 1) (by decide) ?_
  refine s_if_ne (tgt := 45) (q := 42) d_M_part_39 (by decide) rfl (fun _ => ?_) (fun z9 => absurd z9 s1)
  refine s_aload_n (q := 46) d_M_part_45 rfl rfl (Or.inr ⟨_, rfl⟩) ?_
  refine s_iconst (v := 0) (q := 47) d_M_part_46 rfl ki_0 ?_
  refine s_iload_n (q := 48) d_M_part_47 rfl rfl ?_
  refine s_iload_n (q := 49) d_M_part_48 rfl rfl ?_
  refine g_callV (q := 52) d_M_part_49 rfl ml_M_172 mx_M_hasKeyed mv_M_hasKeyed (t_M_hasKeyed (t := 0) (by decide) c0 d0) skM rfl rfl (Nat.le_of_ble_eq_true rfl) (by decide) ?_
  refine s_if_eq (tgt := 74) (q := 55) d_M_part_52 (by decide) rfl (fun h_52 => ?_) (fun h_52 => ?_)
  · -- T 52
    refine s_bipush (v := (-5)) (q := 76) d_M_part_74 rfl kb_m5 ?_
    exact g_iret d_M_part_76 rfl rfl rfl rfl
  · -- F 52
    refine s_aload_n (q := 56) d_M_part_55 rfl rfl (Or.inr ⟨_, rfl⟩) ?_
    refine s_iconst (v := 1) (q := 57) d_M_part_56 rfl ki_1 ?_
    refine s_iload_n (q := 58) d_M_part_57 rfl rfl ?_
    refine s_iload_n (q := 59) d_M_part_58 rfl rfl ?_
    refine g_callV (q := 62) d_M_part_59 rfl ml_M_172 mx_M_hasKeyed mv_M_hasKeyed (t_M_hasKeyed (t := 1) (by decide) c1 d1) skM rfl rfl (Nat.le_of_ble_eq_true rfl) (by decide) ?_
    refine s_if_eq (tgt := 74) (q := 65) d_M_part_62 (by decide) rfl (fun h_62 => ?_) (fun h_62 => ?_)
    · -- T 62
      refine s_bipush (v := (-5)) (q := 76) d_M_part_74 rfl kb_m5 ?_
      exact g_iret d_M_part_76 rfl rfl rfl rfl
    · -- F 62
      exact absurd ⟨bI_n0.mp h_52, bI_n0.mp h_62⟩ hk --done
theorem t_M_part_D {X : RAM} {a c : Int32} {q0 q1 : Nat} (hm : ModOK a c) (s0 : ¬ X 134 0 = 0) (s1 : ¬ X 134 1 = 0) (c0 : X 135 0 = nI q0) (d0 : q0 ≤ 4) (c1 : X 135 1 = nI q1) (d1 : q1 ≤ 4) (e0 : anyB (mhP X 0 a c) q0 = true) (e1 : anyB (mhP X 1 a c) q1 = true) : CG l D ac b y_M_part c_M_part 3 (some .int) 2 46 [.ref 122, .int a, .int c] X (some (.int (prS X a c 96))) (X) := by
  refine Ct_of false (by decide) (fun h => by cases h) (Nat.le_of_ble_eq_true rfl) ?_
  show V l D ac b "SpanStoreModel" c_M_part 3 (some .int) false 2 46 0 0 ((some (.int (prS X a c 96))), 144, mk (X)) 0 0 0 [(0, .ref 122), (1, .int a), (2, .int c)] [] 144 (mk X)
  refine s_iload_n (q := 1) d_M_part_0 rfl rfl ?_
  refine s_iconst (v := 1) (q := 2) d_M_part_1 rfl ki_1 ?_
  refine s_bipush (v := 100) (q := 4) d_M_part_2 rfl kb_100 ?_
  refine g_callS (q := 7) d_M_part_4 rfl ml_M_74 mx_M_in ms_M_in t_M_in rfl rfl (Nat.le_of_ble_eq_true rfl) (by decide) ?_
  refine s_if_eq (tgt := 21) (q := 10) d_M_part_7 (by decide) rfl (fun z9 => absurd z9 (bI_dn.mpr hm.1)) (fun _ => ?_)
  refine s_iload_n (q := 11) d_M_part_10 rfl rfl ?_
  refine s_iconst (v := 0) (q := 12) d_M_part_11 rfl ki_0 ?_
  refine s_iload_n (q := 13) d_M_part_12 rfl rfl ?_
  refine s_iconst (v := 1) (q := 14) d_M_part_13 rfl ki_1 ?_
  refine s_isub (q := 15) d_M_part_14 rfl ?_
  refine g_callS (q := 18) d_M_part_15 rfl ml_M_74 mx_M_in ms_M_in t_M_in rfl rfl (Nat.le_of_ble_eq_true rfl) (by decide) ?_
  refine s_if_ne (tgt := 24) (q := 21) d_M_part_18 (by decide) rfl (fun _ => ?_) (fun z9 => absurd z9 (bI_dn.mpr ⟨i_nlt.mp hm.2.1, (sub1 hm.1.1).mpr hm.2.2⟩))
  refine s_aload_n (q := 25) d_M_part_24 rfl rfl (Or.inr ⟨_, rfl⟩) ?_
  refine g_getr (q := 28) d_M_part_25 rfl fl_M_44 skM rfl ?_
  refine s_iconst (v := 0) (q := 29) d_M_part_28 rfl ki_0 ?_
  refine g_zald (q := 30) d_M_part_29 rfl sm_11 (by omega) (rfl : (0 : Int32) = nI 0) (by decide) ?_
  refine s_if_eq (tgt := 42) (q := 33) d_M_part_30 (by decide) rfl (fun z9 => absurd z9 s0) (fun _ => ?_)
  refine s_aload_n (q := 34) d_M_part_33 rfl rfl (Or.inr ⟨_, rfl⟩) ?_
  refine g_getr (q := 37) d_M_part_34 rfl fl_M_44 skM rfl ?_
  refine s_iconst (v := 1) (q := 38) d_M_part_37 rfl ki_1 ?_
  refine g_zald (q := 39) d_M_part_38 rfl sm_11 (by omega) (rfl : (1 : Int32) = nI 1) (by decide) ?_
  refine s_if_ne (tgt := 45) (q := 42) d_M_part_39 (by decide) rfl (fun _ => ?_) (fun z9 => absurd z9 s1)
  refine s_aload_n (q := 46) d_M_part_45 rfl rfl (Or.inr ⟨_, rfl⟩) ?_
  refine s_iconst (v := 0) (q := 47) d_M_part_46 rfl ki_0 ?_
  refine s_iload_n (q := 48) d_M_part_47 rfl rfl ?_
  refine s_iload_n (q := 49) d_M_part_48 rfl rfl ?_
  refine g_callV (q := 52) d_M_part_49 rfl ml_M_172 mx_M_hasKeyed mv_M_hasKeyed (t_M_hasKeyed (t := 0) (by decide) c0 d0) skM rfl rfl (Nat.le_of_ble_eq_true rfl) (by decide) ?_
  refine s_if_eq (tgt := 74) (q := 55) d_M_part_52 (by decide) rfl (fun z9 => absurd z9 (bI_n0.mpr e0)) (fun _ => ?_)
  refine s_aload_n (q := 56) d_M_part_55 rfl rfl (Or.inr ⟨_, rfl⟩) ?_
  refine s_iconst (v := 1) (q := 57) d_M_part_56 rfl ki_1 ?_
  refine s_iload_n (q := 58) d_M_part_57 rfl rfl ?_
  refine s_iload_n (q := 59) d_M_part_58 rfl rfl ?_
  refine g_callV (q := 62) d_M_part_59 rfl ml_M_172 mx_M_hasKeyed mv_M_hasKeyed (t_M_hasKeyed (t := 1) (by decide) c1 d1) skM rfl rfl (Nat.le_of_ble_eq_true rfl) (by decide) ?_
  refine s_if_eq (tgt := 74) (q := 65) d_M_part_62 (by decide) rfl (fun z9 => absurd z9 (bI_n0.mpr e1)) (fun _ => ?_)
  refine s_aload_n (q := 66) d_M_part_65 rfl rfl (Or.inr ⟨_, rfl⟩) ?_
  refine s_iload_n (q := 67) d_M_part_66 rfl rfl ?_
  refine s_iload_n (q := 68) d_M_part_67 rfl rfl ?_
  refine g_callV (q := 71) d_M_part_68 rfl ml_M_169 mx_M_pairs mv_M_pairs (t_M_pairs (fun z => by rw [z] at hm; exact absurd hm.1.1 (by decide))) skM rfl rfl (Nat.le_of_ble_eq_true rfl) (by decide) ?_
  refine s_goto (tgt := 76) d_M_part_71 (by decide) ?_
  exact g_iret d_M_part_76 rfl rfl rfl rfl
def mapV (X : RAM) (t c : Nat) (g : Int32) (j : Nat) : Int64 := smV X t (8 * t + j) c (mnN X (8 * t + j)) g 1 - smV X t (8 * t + j) c (mnN X (8 * t + j)) g 0
def mwT (X : RAM) (t c : Nat) (g : Int32) : Int32 := (wdS (mapV X t c g) 8).1
theorem lp_nextOf {X : RAM} {t c : Nat} {g : Int32} (ht : t < 2) (hc : X 135 t = nI c) (hc4 : c ≤ 4) (hM : okM X) (hg : GrpOK g) : ∀ i, i ≤ 8 → V l D ac b "SpanStoreModel" c_M_nextOf 10 (some .int) false 4 100 0 0 ((some (.int (mwT X t c g))), 144, mk X) 0 0 8 [(0, .ref 122), (1, .int (nI t)), (2, .int g), (3, .int (wdS (mapV X t c g) i).1), (4, .long (wdS (mapV X t c g) i).2), (6, .int (nI i))] [] 144 (mk X) := by
  refine nat_down ?_ (fun i hi ih => ?_)
  · skip
    refine s_iload (q := 10) d_M_nextOf_8 rfl rfl ?_
    refine s_bipush (v := 8) (q := 12) d_M_nextOf_10 rfl kb_8 ?_
    refine s_icmp_ge (tgt := 66) (q := 15) d_M_nextOf_12 (by decide) rfl (fun _ => ?_) (fun z9 => absurd le8 z9)
    refine s_iload_n (q := 67) d_M_nextOf_66 rfl rfl ?_
    exact g_iret d_M_nextOf_67 rfl rfl rfl rfl
  · skip
    refine s_iload (q := 10) d_M_nextOf_8 rfl rfl ?_
    refine s_bipush (v := 8) (q := 12) d_M_nextOf_10 rfl kb_8 ?_
    refine s_icmp_ge (tgt := 66) (q := 15) d_M_nextOf_12 (by decide) rfl (fun z9 => absurd z9 (nle8 hi)) (fun _ => ?_)
    refine s_bipush (v := 8) (q := 17) d_M_nextOf_15 rfl kb_8 ?_
    refine s_iload_n (q := 18) d_M_nextOf_17 rfl rfl ?_
    refine s_imul (q := 19) d_M_nextOf_18 rfl ?_
    refine s_iload (q := 21) d_M_nextOf_19 rfl rfl ?_
    refine s_iadd (q := 22) d_M_nextOf_21 rfl ?_
    rw [ix8m]
    refine s_istore (q := 24) d_M_nextOf_22 rfl (by decide) ?_
    refine s_aload_n (q := 25) d_M_nextOf_24 rfl rfl (Or.inr ⟨_, rfl⟩) ?_
    refine s_iload_n (q := 26) d_M_nextOf_25 rfl rfl ?_
    refine s_iload (q := 28) d_M_nextOf_26 rfl rfl ?_
    refine s_iload_n (q := 29) d_M_nextOf_28 rfl rfl ?_
    refine s_iconst (v := 1) (q := 30) d_M_nextOf_29 rfl ki_1 ?_
    refine g_callV (q := 33) d_M_nextOf_30 rfl ml_M_149 mx_M_sumOf mv_M_sumOf (t_M_sumOf ht hc hc4 (by omega) (hM (8 * t + i) (by omega)).1 (hM _ (by omega)).2 hg) skM rfl rfl (Nat.le_of_ble_eq_true rfl) (by decide) ?_
    refine s_aload_n (q := 34) d_M_nextOf_33 rfl rfl (Or.inr ⟨_, rfl⟩) ?_
    refine s_iload_n (q := 35) d_M_nextOf_34 rfl rfl ?_
    refine s_iload (q := 37) d_M_nextOf_35 rfl rfl ?_
    refine s_iload_n (q := 38) d_M_nextOf_37 rfl rfl ?_
    refine s_iconst (v := 0) (q := 39) d_M_nextOf_38 rfl ki_0 ?_
    refine g_callV (q := 42) d_M_nextOf_39 rfl ml_M_149 mx_M_sumOf mv_M_sumOf (t_M_sumOf ht hc hc4 (by omega) (hM (8 * t + i) (by omega)).1 (hM _ (by omega)).2 hg) skM rfl rfl (Nat.le_of_ble_eq_true rfl) (by decide) ?_
    refine s_lsub (q := 43) d_M_nextOf_42 rfl ?_
    refine s_lstore (q := 45) d_M_nextOf_43 rfl (by decide) ?_
    refine s_lload (q := 47) d_M_nextOf_45 rfl rfl ?_
    refine s_lload (q := 49) d_M_nextOf_47 rfl rfl ?_
    refine s_lcmp (q := 50) d_M_nextOf_49 rfl ?_
    refine s_if_le (tgt := 60) (q := 53) d_M_nextOf_50 (by decide) rfl (fun h_50 => ?_) (fun h_50 => ?_)
    · -- T 50
      rw [lg_le] at h_50
      rw [show wdS (mapV X t c g) (i + 1) = (wdS (mapV X t c g) i) from by rw [wdS]; exact if_neg h_50] at ih
      refine s_iinc (q := 63) d_M_nextOf_60 rfl rfl (by first | exact inc1 _ | rfl) (by decide) ?_
      refine s_goto (tgt := 8) d_M_nextOf_63 (by decide) ?_
      exact s_lv (lv' := [(0, .ref 122), (1, .int (nI t)), (2, .int g), (3, .int _), (4, .long _), (6, .int (nI (i + 1)))]) ⟨rfl, rfl, rfl, rfl, rfl, rfl, trivial⟩ ih
    · -- F 50
      rw [lg_le, Classical.not_not] at h_50
      rw [show wdS (mapV X t c g) (i + 1) = (nI i, mapV X t c g i) from by rw [wdS]; exact if_pos h_50] at ih
      refine s_iload (q := 55) d_M_nextOf_53 rfl rfl ?_
      refine s_istore_n (q := 56) d_M_nextOf_55 rfl (by decide) ?_
      refine s_lload (q := 58) d_M_nextOf_56 rfl rfl ?_
      refine s_lstore (q := 60) d_M_nextOf_58 rfl (by decide) ?_
      refine s_iinc (q := 63) d_M_nextOf_60 rfl rfl (by first | exact inc1 _ | rfl) (by decide) ?_
      refine s_goto (tgt := 8) d_M_nextOf_63 (by decide) ?_
      exact s_lv (lv' := [(0, .ref 122), (1, .int (nI t)), (2, .int g), (3, .int _), (4, .long _), (6, .int (nI (i + 1)))]) ⟨rfl, rfl, rfl, rfl, rfl, rfl, trivial⟩ ih
theorem t_M_nextOf {X : RAM} {t c : Nat} {g : Int32} (ht : t < 2) (hc : X 135 t = nI c) (hc4 : c ≤ 4) (hM : okM X) (hg : GrpOK g) : CG l D ac b y_M_nextOf c_M_nextOf 10 (some .int) 4 100 [.ref 122, .int (nI t), .int g] X (some (.int (mwT X t c g))) (X) := by
  refine Ct_of false (by decide) (fun h => by cases h) (Nat.le_of_ble_eq_true rfl) ?_
  show V l D ac b "SpanStoreModel" c_M_nextOf 10 (some .int) false 4 100 0 0 ((some (.int (mwT X t c g))), 144, mk (X)) 0 0 0 [(0, .ref 122), (1, .int (nI t)), (2, .int g)] [] 144 (mk X)
  refine s_iconst (v := (-1)) (q := 1) d_M_nextOf_0 rfl ki_m1 ?_
  refine s_istore_n (q := 2) d_M_nextOf_1 rfl (by decide) ?_
  refine s_lconst (v := 0) (q := 3) d_M_nextOf_2 rfl kl_0 ?_
  refine s_lstore (q := 5) d_M_nextOf_3 rfl (by decide) ?_
  refine s_iconst (v := 0) (q := 6) d_M_nextOf_5 rfl ki_0 ?_
  refine s_istore (q := 8) d_M_nextOf_6 rfl (by decide) ?_
  exact s_lv (lv' := [(0, .ref 122), (1, .int (nI t)), (2, .int g), (3, .int (wdS (mapV X t c g) 0).1), (4, .long (wdS (mapV X t c g) 0).2), (6, .int (nI 0))]) ⟨rfl, rfl, rfl, rfl, rfl, rfl, trivial⟩ (lp_nextOf ht hc hc4 hM hg 0 (Nat.zero_le 8))
theorem t_M_next_T {X : RAM} {x g : Int32} (hx : x < 0 ∨ 2 ≤ x) : CG l D ac b y_M_next c_M_next 3 (some .int) 5 129 [.ref 122, .int x, .int g] X (some (.int (-2))) (X) := by
  refine Ct_of false (by decide) (fun h => by cases h) (Nat.le_of_ble_eq_true rfl) ?_
  show V l D ac b "SpanStoreModel" c_M_next 3 (some .int) false 5 129 0 0 ((some (.int (-2))), 144, mk (X)) 0 0 0 [(0, .ref 122), (1, .int x), (2, .int g)] [] 144 (mk X)
  refine s_iload_n (q := 1) d_M_next_0 rfl rfl ?_
  refine g_callS (q := 4) d_M_next_1 rfl ml_M_78 mx_M_isTable ms_M_isTable t_M_isTable rfl rfl (Nat.le_of_ble_eq_true rfl) (by decide) ?_
  refine s_if_eq (tgt := 14) (q := 7) d_M_next_4 (by decide) rfl (fun _ => ?_) (fun z9 => absurd (bI_d.mpr (niT hx)) z9)
  refine s_bipush (v := (-2)) (q := 16) d_M_next_14 rfl kb_m2 ?_
  exact g_iret d_M_next_16 rfl rfl rfl rfl
theorem t_M_next_G {X : RAM} {t : Nat} {g : Int32} (ht : t < 2) (hg : ¬ GrpOK g) : CG l D ac b y_M_next c_M_next 3 (some .int) 5 129 [.ref 122, .int (nI t), .int g] X (some (.int (-2))) (X) := by
  refine Ct_of false (by decide) (fun h => by cases h) (Nat.le_of_ble_eq_true rfl) ?_
  show V l D ac b "SpanStoreModel" c_M_next 3 (some .int) false 5 129 0 0 ((some (.int (-2))), 144, mk (X)) 0 0 0 [(0, .ref 122), (1, .int (nI t)), (2, .int g)] [] 144 (mk X)
  refine s_iload_n (q := 1) d_M_next_0 rfl rfl ?_
  refine g_callS (q := 4) d_M_next_1 rfl ml_M_78 mx_M_isTable ms_M_isTable t_M_isTable rfl rfl (Nat.le_of_ble_eq_true rfl) (by decide) ?_
  refine s_if_eq (tgt := 14) (q := 7) d_M_next_4 (by decide) rfl (fun z9 => absurd z9 (bI_dn.mpr (inT ht))) (fun _ => ?_)
  refine s_iload_n (q := 8) d_M_next_7 rfl rfl ?_
  refine g_callS (q := 11) d_M_next_8 rfl ml_M_153 mx_M_isGroup ms_M_isGroup t_M_isGroup rfl rfl (Nat.le_of_ble_eq_true rfl) (by decide) ?_
  refine s_if_ne (tgt := 17) (q := 14) d_M_next_11 (by decide) rfl (fun z9 => absurd (bI_d.mpr (fun z => hg (grp3.mp z))) z9) (fun _ => ?_)
  refine s_bipush (v := (-2)) (q := 16) d_M_next_14 rfl kb_m2 ?_
  exact g_iret d_M_next_16 rfl rfl rfl rfl
theorem t_M_next_S {X : RAM} {t : Nat} {g : Int32} (ht : t < 2) (hg : GrpOK g) (hs : X 134 t = 0) : CG l D ac b y_M_next c_M_next 3 (some .int) 5 129 [.ref 122, .int (nI t), .int g] X (some (.int (-3))) (X) := by
  refine Ct_of false (by decide) (fun h => by cases h) (Nat.le_of_ble_eq_true rfl) ?_
  show V l D ac b "SpanStoreModel" c_M_next 3 (some .int) false 5 129 0 0 ((some (.int (-3))), 144, mk (X)) 0 0 0 [(0, .ref 122), (1, .int (nI t)), (2, .int g)] [] 144 (mk X)
  refine s_iload_n (q := 1) d_M_next_0 rfl rfl ?_
  refine g_callS (q := 4) d_M_next_1 rfl ml_M_78 mx_M_isTable ms_M_isTable t_M_isTable rfl rfl (Nat.le_of_ble_eq_true rfl) (by decide) ?_
  refine s_if_eq (tgt := 14) (q := 7) d_M_next_4 (by decide) rfl (fun z9 => absurd z9 (bI_dn.mpr (inT ht))) (fun _ => ?_)
  refine s_iload_n (q := 8) d_M_next_7 rfl rfl ?_
  refine g_callS (q := 11) d_M_next_8 rfl ml_M_153 mx_M_isGroup ms_M_isGroup t_M_isGroup rfl rfl (Nat.le_of_ble_eq_true rfl) (by decide) ?_
  refine s_if_ne (tgt := 17) (q := 14) d_M_next_11 (by decide) rfl (fun _ => ?_) (fun z9 => absurd z9 (bI_dn.mpr (grp3.mpr hg)))
  refine s_aload_n (q := 18) d_M_next_17 rfl rfl (Or.inr ⟨_, rfl⟩) ?_
  refine g_getr (q := 21) d_M_next_18 rfl fl_M_44 skM rfl ?_
  refine s_iload_n (q := 22) d_M_next_21 rfl rfl ?_
  refine g_zald (q := 23) d_M_next_22 rfl sm_11 (by omega) rfl ht ?_
  refine s_if_eq (tgt := 35) (q := 26) d_M_next_23 (by decide) rfl (fun _ => ?_) (fun z9 => absurd hs z9)
  refine s_bipush (v := (-3)) (q := 37) d_M_next_35 rfl kb_m3 ?_
  exact g_iret d_M_next_37 rfl rfl rfl rfl
theorem t_M_next_D {X : RAM} {t c : Nat} {g : Int32} (ht : t < 2) (hg : GrpOK g) (hs : ¬ X 134 t = 0) (hc : X 135 t = nI c) (hc4 : c ≤ 4) (hM : okM X) : CG l D ac b y_M_next c_M_next 3 (some .int) 5 129 [.ref 122, .int (nI t), .int g] X (some (.int (mwT X t c g))) (X) := by
  refine Ct_of false (by decide) (fun h => by cases h) (Nat.le_of_ble_eq_true rfl) ?_
  show V l D ac b "SpanStoreModel" c_M_next 3 (some .int) false 5 129 0 0 ((some (.int (mwT X t c g))), 144, mk (X)) 0 0 0 [(0, .ref 122), (1, .int (nI t)), (2, .int g)] [] 144 (mk X)
  refine s_iload_n (q := 1) d_M_next_0 rfl rfl ?_
  refine g_callS (q := 4) d_M_next_1 rfl ml_M_78 mx_M_isTable ms_M_isTable t_M_isTable rfl rfl (Nat.le_of_ble_eq_true rfl) (by decide) ?_
  refine s_if_eq (tgt := 14) (q := 7) d_M_next_4 (by decide) rfl (fun z9 => absurd z9 (bI_dn.mpr (inT ht))) (fun _ => ?_)
  refine s_iload_n (q := 8) d_M_next_7 rfl rfl ?_
  refine g_callS (q := 11) d_M_next_8 rfl ml_M_153 mx_M_isGroup ms_M_isGroup t_M_isGroup rfl rfl (Nat.le_of_ble_eq_true rfl) (by decide) ?_
  refine s_if_ne (tgt := 17) (q := 14) d_M_next_11 (by decide) rfl (fun _ => ?_) (fun z9 => absurd z9 (bI_dn.mpr (grp3.mpr hg)))
  refine s_aload_n (q := 18) d_M_next_17 rfl rfl (Or.inr ⟨_, rfl⟩) ?_
  refine g_getr (q := 21) d_M_next_18 rfl fl_M_44 skM rfl ?_
  refine s_iload_n (q := 22) d_M_next_21 rfl rfl ?_
  refine g_zald (q := 23) d_M_next_22 rfl sm_11 (by omega) rfl ht ?_
  refine s_if_eq (tgt := 35) (q := 26) d_M_next_23 (by decide) rfl (fun z9 => absurd z9 hs) (fun _ => ?_)
  refine s_aload_n (q := 27) d_M_next_26 rfl rfl (Or.inr ⟨_, rfl⟩) ?_
  refine s_iload_n (q := 28) d_M_next_27 rfl rfl ?_
  refine s_iload_n (q := 29) d_M_next_28 rfl rfl ?_
  refine g_callV (q := 32) d_M_next_29 rfl ml_M_175 mx_M_nextOf mv_M_nextOf (t_M_nextOf ht hc hc4 hM hg) skM rfl rfl (Nat.le_of_ble_eq_true rfl) (by decide) ?_
  refine s_goto (tgt := 37) d_M_next_32 (by decide) ?_
  exact g_iret d_M_next_37 rfl rfl rfl rfl
def mwN (X : RAM) (t c : Nat) (g : Int32) : Nat := (mwT X t c g).toNatClampNeg
def mrX (X : RAM) (t c : Nat) (g : Int32) : RAM := raX X (8 * t + mwN X t c g) (mnN X (8 * t + mwN X t c g))
noncomputable def rfM (t c : Nat) (g ap : Int32) : Nat → Nat → RAM → Nat × RAM
  | 0, d, X => (d, X)
  | f + 1, d, X => if ap.toInt64 < smT X t c g 1 - smT X t c g 0 then rfM t c g ap f (d + 1) (mrX X t c g) else (d, X)
def Fin8 (t c : Nat) (g ap : Int32) : Nat → RAM → Prop
  | 0, X => (X 135 t = nI c ∧ okM X) ∧ ¬ ap.toInt64 < smT X t c g 1 - smT X t c g 0
  | f + 1, X => (X 135 t = nI c ∧ okM X) ∧ (ap.toInt64 < smT X t c g 1 - smT X t c g 0 → (mwN X t c g < 8 ∧ mwT X t c g = nI (mwN X t c g)) ∧ Fin8 t c g ap f (mrX X t c g))
theorem lp_refM {t c : Nat} {g ap : Int32} (ht : t < 2) (hc4 : c ≤ 4) (hg : GrpOK g) : ∀ (f d : Nat) (X : RAM), Fin8 t c g ap f X → V l D ac b "SpanStoreModel" c_M_refine 6 (some .int) false 5 129 0 0 (some (.int (nI (rfM t c g ap f d X).1)), 144, mk (rfM t c g ap f d X).2) 0 0 42 [(0, .ref 122), (1, .int (nI t)), (2, .int g), (3, .int ap), (4, .int (nI d))] [] 144 (mk X) := by
  intro f
  induction f with
  | zero =>
    intro d X hF
    obtain ⟨⟨hc, hM⟩, hn⟩ := hF
    refine s_aload_n (q := 43) d_M_refine_42 rfl rfl (Or.inr ⟨_, rfl⟩) ?_
    refine s_iload_n (q := 44) d_M_refine_43 rfl rfl ?_
    refine s_iload_n (q := 45) d_M_refine_44 rfl rfl ?_
    refine s_iconst (v := 1) (q := 46) d_M_refine_45 rfl ki_1 ?_
    refine g_callV (q := 49) d_M_refine_46 rfl ml_M_158 mx_M_sumNow mv_M_sumNow (t_M_sumNow ht hc hc4 hM hg) skM rfl rfl (Nat.le_of_ble_eq_true rfl) (by decide) ?_
    refine s_aload_n (q := 50) d_M_refine_49 rfl rfl (Or.inr ⟨_, rfl⟩) ?_
    refine s_iload_n (q := 51) d_M_refine_50 rfl rfl ?_
    refine s_iload_n (q := 52) d_M_refine_51 rfl rfl ?_
    refine s_iconst (v := 0) (q := 53) d_M_refine_52 rfl ki_0 ?_
    refine g_callV (q := 56) d_M_refine_53 rfl ml_M_158 mx_M_sumNow mv_M_sumNow (t_M_sumNow ht hc hc4 hM hg) skM rfl rfl (Nat.le_of_ble_eq_true rfl) (by decide) ?_
    refine s_lsub (q := 57) d_M_refine_56 rfl ?_
    refine s_iload_n (q := 58) d_M_refine_57 rfl rfl ?_
    refine s_i2l (q := 59) d_M_refine_58 rfl ?_
    refine s_lcmp (q := 60) d_M_refine_59 rfl ?_
    refine s_if_le (tgt := 86) (q := 63) d_M_refine_60 (by decide) rfl (fun _ => ?_) (fun z9 => absurd (lg_le.mpr hn) z9)
    refine s_iload (q := 88) d_M_refine_86 rfl rfl ?_
    exact g_iret d_M_refine_88 rfl rfl rfl rfl
  | succ f ih =>
    intro d X hF
    obtain ⟨⟨hc, hM⟩, hF⟩ := hF
    by_cases c1 : ap.toInt64 < smT X t c g 1 - smT X t c g 0
    · obtain ⟨hw, hF⟩ := hF c1
      rw [show (rfM t c g ap (f + 1) d X) = (rfM t c g ap f (d + 1) (mrX X t c g)) from by rw [rfM, if_pos c1]]
      refine s_aload_n (q := 43) d_M_refine_42 rfl rfl (Or.inr ⟨_, rfl⟩) ?_
      refine s_iload_n (q := 44) d_M_refine_43 rfl rfl ?_
      refine s_iload_n (q := 45) d_M_refine_44 rfl rfl ?_
      refine s_iconst (v := 1) (q := 46) d_M_refine_45 rfl ki_1 ?_
      refine g_callV (q := 49) d_M_refine_46 rfl ml_M_158 mx_M_sumNow mv_M_sumNow (t_M_sumNow ht hc hc4 hM hg) skM rfl rfl (Nat.le_of_ble_eq_true rfl) (by decide) ?_
      refine s_aload_n (q := 50) d_M_refine_49 rfl rfl (Or.inr ⟨_, rfl⟩) ?_
      refine s_iload_n (q := 51) d_M_refine_50 rfl rfl ?_
      refine s_iload_n (q := 52) d_M_refine_51 rfl rfl ?_
      refine s_iconst (v := 0) (q := 53) d_M_refine_52 rfl ki_0 ?_
      refine g_callV (q := 56) d_M_refine_53 rfl ml_M_158 mx_M_sumNow mv_M_sumNow (t_M_sumNow ht hc hc4 hM hg) skM rfl rfl (Nat.le_of_ble_eq_true rfl) (by decide) ?_
      refine s_lsub (q := 57) d_M_refine_56 rfl ?_
      refine s_iload_n (q := 58) d_M_refine_57 rfl rfl ?_
      refine s_i2l (q := 59) d_M_refine_58 rfl ?_
      refine s_lcmp (q := 60) d_M_refine_59 rfl ?_
      refine s_if_le (tgt := 86) (q := 63) d_M_refine_60 (by decide) rfl (fun z9 => absurd z9 (fun z => lg_le.mp z c1)) (fun _ => ?_)
      refine s_aload_n (q := 64) d_M_refine_63 rfl rfl (Or.inr ⟨_, rfl⟩) ?_
      refine s_bipush (v := 8) (q := 66) d_M_refine_64 rfl kb_8 ?_
      refine s_iload_n (q := 67) d_M_refine_66 rfl rfl ?_
      refine s_imul (q := 68) d_M_refine_67 rfl ?_
      refine s_aload_n (q := 69) d_M_refine_68 rfl rfl (Or.inr ⟨_, rfl⟩) ?_
      refine s_iload_n (q := 70) d_M_refine_69 rfl rfl ?_
      refine s_iload_n (q := 71) d_M_refine_70 rfl rfl ?_
      refine g_callV (q := 74) d_M_refine_71 rfl ml_M_175 mx_M_nextOf mv_M_nextOf (t_M_nextOf ht hc hc4 hM hg) skM rfl rfl (Nat.le_of_ble_eq_true rfl) (by decide) ?_
      rw [hw.2]
      refine s_iadd (q := 75) d_M_refine_74 rfl ?_
      rw [ix8m]
      refine g_callV (q := 78) d_M_refine_75 rfl ml_M_123 mx_M_readsAll mv_M_readsAll (t_M_readsAll (by omega) (hM _ (by omega)).1 (hM _ (by omega)).2) skM rfl rfl (Nat.le_of_ble_eq_true rfl) (by decide) ?_
      refine s_istore (q := 80) d_M_refine_78 rfl (by decide) ?_
      refine s_iinc (q := 83) d_M_refine_80 rfl rfl (by first | exact inc1 _ | rfl) (by decide) ?_
      refine s_goto (tgt := 42) d_M_refine_83 (by decide) ?_
      exact s_lv (lv' := [(0, .ref 122), (1, .int (nI t)), (2, .int g), (3, .int ap), (4, .int (nI (d + 1)))]) ⟨rfl, rfl, rfl, rfl, rfl, trivial⟩ (ih (d + 1) (mrX X t c g) hF)
    · rw [show (rfM t c g ap (f + 1) d X) = (d, X) from by rw [rfM, if_neg c1]]
      refine s_aload_n (q := 43) d_M_refine_42 rfl rfl (Or.inr ⟨_, rfl⟩) ?_
      refine s_iload_n (q := 44) d_M_refine_43 rfl rfl ?_
      refine s_iload_n (q := 45) d_M_refine_44 rfl rfl ?_
      refine s_iconst (v := 1) (q := 46) d_M_refine_45 rfl ki_1 ?_
      refine g_callV (q := 49) d_M_refine_46 rfl ml_M_158 mx_M_sumNow mv_M_sumNow (t_M_sumNow ht hc hc4 hM hg) skM rfl rfl (Nat.le_of_ble_eq_true rfl) (by decide) ?_
      refine s_aload_n (q := 50) d_M_refine_49 rfl rfl (Or.inr ⟨_, rfl⟩) ?_
      refine s_iload_n (q := 51) d_M_refine_50 rfl rfl ?_
      refine s_iload_n (q := 52) d_M_refine_51 rfl rfl ?_
      refine s_iconst (v := 0) (q := 53) d_M_refine_52 rfl ki_0 ?_
      refine g_callV (q := 56) d_M_refine_53 rfl ml_M_158 mx_M_sumNow mv_M_sumNow (t_M_sumNow ht hc hc4 hM hg) skM rfl rfl (Nat.le_of_ble_eq_true rfl) (by decide) ?_
      refine s_lsub (q := 57) d_M_refine_56 rfl ?_
      refine s_iload_n (q := 58) d_M_refine_57 rfl rfl ?_
      refine s_i2l (q := 59) d_M_refine_58 rfl ?_
      refine s_lcmp (q := 60) d_M_refine_59 rfl ?_
      refine s_if_le (tgt := 86) (q := 63) d_M_refine_60 (by decide) rfl (fun _ => ?_) (fun z9 => absurd (lg_le.mpr c1) z9)
      refine s_iload (q := 88) d_M_refine_86 rfl rfl ?_
      exact g_iret d_M_refine_88 rfl rfl rfl rfl
theorem t_M_refine_T {X : RAM} {x g ap : Int32} (hx : x < 0 ∨ 2 ≤ x) : CG l D ac b y_M_refine c_M_refine 6 (some .int) 5 129 [.ref 122, .int x, .int g, .int ap] X (some (.int (-2))) (X) := by
  refine Ct_of false (by decide) (fun h => by cases h) (Nat.le_of_ble_eq_true rfl) ?_
  show V l D ac b "SpanStoreModel" c_M_refine 6 (some .int) false 5 129 0 0 ((some (.int (-2))), 144, mk (X)) 0 0 0 [(0, .ref 122), (1, .int x), (2, .int g), (3, .int ap)] [] 144 (mk X)
  refine s_iload_n (q := 1) d_M_refine_0 rfl rfl ?_
  refine g_callS (q := 4) d_M_refine_1 rfl ml_M_78 mx_M_isTable ms_M_isTable t_M_isTable rfl rfl (Nat.le_of_ble_eq_true rfl) (by decide) ?_
  refine s_if_eq (tgt := 24) (q := 7) d_M_refine_4 (by decide) rfl (fun _ => ?_) (fun z9 => absurd (bI_d.mpr (niT hx)) z9)
  refine s_bipush (v := (-2)) (q := 26) d_M_refine_24 rfl kb_m2 ?_
  exact g_iret d_M_refine_26 rfl rfl rfl rfl
theorem t_M_refine_G {X : RAM} {t : Nat} {g ap : Int32} (ht : t < 2) (hg : ¬ GrpOK g) : CG l D ac b y_M_refine c_M_refine 6 (some .int) 5 129 [.ref 122, .int (nI t), .int g, .int ap] X (some (.int (-2))) (X) := by
  refine Ct_of false (by decide) (fun h => by cases h) (Nat.le_of_ble_eq_true rfl) ?_
  show V l D ac b "SpanStoreModel" c_M_refine 6 (some .int) false 5 129 0 0 ((some (.int (-2))), 144, mk (X)) 0 0 0 [(0, .ref 122), (1, .int (nI t)), (2, .int g), (3, .int ap)] [] 144 (mk X)
  refine s_iload_n (q := 1) d_M_refine_0 rfl rfl ?_
  refine g_callS (q := 4) d_M_refine_1 rfl ml_M_78 mx_M_isTable ms_M_isTable t_M_isTable rfl rfl (Nat.le_of_ble_eq_true rfl) (by decide) ?_
  refine s_if_eq (tgt := 24) (q := 7) d_M_refine_4 (by decide) rfl (fun z9 => absurd z9 (bI_dn.mpr (inT ht))) (fun _ => ?_)
  refine s_iload_n (q := 8) d_M_refine_7 rfl rfl ?_
  refine g_callS (q := 11) d_M_refine_8 rfl ml_M_153 mx_M_isGroup ms_M_isGroup t_M_isGroup rfl rfl (Nat.le_of_ble_eq_true rfl) (by decide) ?_
  refine s_if_eq (tgt := 24) (q := 14) d_M_refine_11 (by decide) rfl (fun _ => ?_) (fun z9 => absurd (bI_d.mpr (fun z => hg (grp3.mp z))) z9)
  refine s_bipush (v := (-2)) (q := 26) d_M_refine_24 rfl kb_m2 ?_
  exact g_iret d_M_refine_26 rfl rfl rfl rfl
theorem apin {ap : Int32} : (0 ≤ ap ∧ ap ≤ 1000000) ↔ ApOK ap := by
  unfold ApOK
  rw [i_nlt]
theorem t_M_refine_A {X : RAM} {t : Nat} {g ap : Int32} (ht : t < 2) (hg : GrpOK g) (ha : ¬ ApOK ap) : CG l D ac b y_M_refine c_M_refine 6 (some .int) 5 129 [.ref 122, .int (nI t), .int g, .int ap] X (some (.int (-2))) (X) := by
  refine Ct_of false (by decide) (fun h => by cases h) (Nat.le_of_ble_eq_true rfl) ?_
  show V l D ac b "SpanStoreModel" c_M_refine 6 (some .int) false 5 129 0 0 ((some (.int (-2))), 144, mk (X)) 0 0 0 [(0, .ref 122), (1, .int (nI t)), (2, .int g), (3, .int ap)] [] 144 (mk X)
  refine s_iload_n (q := 1) d_M_refine_0 rfl rfl ?_
  refine g_callS (q := 4) d_M_refine_1 rfl ml_M_78 mx_M_isTable ms_M_isTable t_M_isTable rfl rfl (Nat.le_of_ble_eq_true rfl) (by decide) ?_
  refine s_if_eq (tgt := 24) (q := 7) d_M_refine_4 (by decide) rfl (fun z9 => absurd z9 (bI_dn.mpr (inT ht))) (fun _ => ?_)
  refine s_iload_n (q := 8) d_M_refine_7 rfl rfl ?_
  refine g_callS (q := 11) d_M_refine_8 rfl ml_M_153 mx_M_isGroup ms_M_isGroup t_M_isGroup rfl rfl (Nat.le_of_ble_eq_true rfl) (by decide) ?_
  refine s_if_eq (tgt := 24) (q := 14) d_M_refine_11 (by decide) rfl (fun z9 => absurd z9 (bI_dn.mpr (grp3.mpr hg))) (fun _ => ?_)
  refine s_iload_n (q := 15) d_M_refine_14 rfl rfl ?_
  refine s_iconst (v := 0) (q := 16) d_M_refine_15 rfl ki_0 ?_
  refine s_ldc (q := 18) d_M_refine_16 rfl kc_M_178 ?_
  refine g_callS (q := 21) d_M_refine_18 rfl ml_M_74 mx_M_in ms_M_in t_M_in rfl rfl (Nat.le_of_ble_eq_true rfl) (by decide) ?_
  refine s_if_ne (tgt := 27) (q := 24) d_M_refine_21 (by decide) rfl (fun z9 => absurd (bI_d.mpr (fun z => ha (apin.mp z))) z9) (fun _ => ?_)
  refine s_bipush (v := (-2)) (q := 26) d_M_refine_24 rfl kb_m2 ?_
  exact g_iret d_M_refine_26 rfl rfl rfl rfl
theorem t_M_refine_S {X : RAM} {t : Nat} {g ap : Int32} (ht : t < 2) (hg : GrpOK g) (ha : ApOK ap) (hs : X 134 t = 0) : CG l D ac b y_M_refine c_M_refine 6 (some .int) 5 129 [.ref 122, .int (nI t), .int g, .int ap] X (some (.int (-3))) (X) := by
  refine Ct_of false (by decide) (fun h => by cases h) (Nat.le_of_ble_eq_true rfl) ?_
  show V l D ac b "SpanStoreModel" c_M_refine 6 (some .int) false 5 129 0 0 ((some (.int (-3))), 144, mk (X)) 0 0 0 [(0, .ref 122), (1, .int (nI t)), (2, .int g), (3, .int ap)] [] 144 (mk X)
  refine s_iload_n (q := 1) d_M_refine_0 rfl rfl ?_
  refine g_callS (q := 4) d_M_refine_1 rfl ml_M_78 mx_M_isTable ms_M_isTable t_M_isTable rfl rfl (Nat.le_of_ble_eq_true rfl) (by decide) ?_
  refine s_if_eq (tgt := 24) (q := 7) d_M_refine_4 (by decide) rfl (fun z9 => absurd z9 (bI_dn.mpr (inT ht))) (fun _ => ?_)
  refine s_iload_n (q := 8) d_M_refine_7 rfl rfl ?_
  refine g_callS (q := 11) d_M_refine_8 rfl ml_M_153 mx_M_isGroup ms_M_isGroup t_M_isGroup rfl rfl (Nat.le_of_ble_eq_true rfl) (by decide) ?_
  refine s_if_eq (tgt := 24) (q := 14) d_M_refine_11 (by decide) rfl (fun z9 => absurd z9 (bI_dn.mpr (grp3.mpr hg))) (fun _ => ?_)
  refine s_iload_n (q := 15) d_M_refine_14 rfl rfl ?_
  refine s_iconst (v := 0) (q := 16) d_M_refine_15 rfl ki_0 ?_
  refine s_ldc (q := 18) d_M_refine_16 rfl kc_M_178 ?_
  refine g_callS (q := 21) d_M_refine_18 rfl ml_M_74 mx_M_in ms_M_in t_M_in rfl rfl (Nat.le_of_ble_eq_true rfl) (by decide) ?_
  refine s_if_ne (tgt := 27) (q := 24) d_M_refine_21 (by decide) rfl (fun _ => ?_) (fun z9 => absurd z9 (bI_dn.mpr (apin.mpr ha)))
  refine s_aload_n (q := 28) d_M_refine_27 rfl rfl (Or.inr ⟨_, rfl⟩) ?_
  refine g_getr (q := 31) d_M_refine_28 rfl fl_M_44 skM rfl ?_
  refine s_iload_n (q := 32) d_M_refine_31 rfl rfl ?_
  refine g_zald (q := 33) d_M_refine_32 rfl sm_11 (by omega) rfl ht ?_
  refine s_if_ne (tgt := 39) (q := 36) d_M_refine_33 (by decide) rfl (fun z9 => absurd hs z9) (fun _ => ?_)
  refine s_bipush (v := (-3)) (q := 38) d_M_refine_36 rfl kb_m3 ?_
  exact g_iret d_M_refine_38 rfl rfl rfl rfl
theorem t_M_refine_D {X : RAM} {t c : Nat} {g ap : Int32} (ht : t < 2) (hg : GrpOK g) (ha : ApOK ap) (hs : ¬ X 134 t = 0) (hc4 : c ≤ 4) (hF : Fin8 t c g ap 8 X) : CG l D ac b y_M_refine c_M_refine 6 (some .int) 5 129 [.ref 122, .int (nI t), .int g, .int ap] X (some (.int (nI (rfM t c g ap 8 0 X).1))) ((rfM t c g ap 8 0 X).2) := by
  refine Ct_of false (by decide) (fun h => by cases h) (Nat.le_of_ble_eq_true rfl) ?_
  show V l D ac b "SpanStoreModel" c_M_refine 6 (some .int) false 5 129 0 0 ((some (.int (nI (rfM t c g ap 8 0 X).1))), 144, mk ((rfM t c g ap 8 0 X).2)) 0 0 0 [(0, .ref 122), (1, .int (nI t)), (2, .int g), (3, .int ap)] [] 144 (mk X)
  refine s_iload_n (q := 1) d_M_refine_0 rfl rfl ?_
  refine g_callS (q := 4) d_M_refine_1 rfl ml_M_78 mx_M_isTable ms_M_isTable t_M_isTable rfl rfl (Nat.le_of_ble_eq_true rfl) (by decide) ?_
  refine s_if_eq (tgt := 24) (q := 7) d_M_refine_4 (by decide) rfl (fun z9 => absurd z9 (bI_dn.mpr (inT ht))) (fun _ => ?_)
  refine s_iload_n (q := 8) d_M_refine_7 rfl rfl ?_
  refine g_callS (q := 11) d_M_refine_8 rfl ml_M_153 mx_M_isGroup ms_M_isGroup t_M_isGroup rfl rfl (Nat.le_of_ble_eq_true rfl) (by decide) ?_
  refine s_if_eq (tgt := 24) (q := 14) d_M_refine_11 (by decide) rfl (fun z9 => absurd z9 (bI_dn.mpr (grp3.mpr hg))) (fun _ => ?_)
  refine s_iload_n (q := 15) d_M_refine_14 rfl rfl ?_
  refine s_iconst (v := 0) (q := 16) d_M_refine_15 rfl ki_0 ?_
  refine s_ldc (q := 18) d_M_refine_16 rfl kc_M_178 ?_
  refine g_callS (q := 21) d_M_refine_18 rfl ml_M_74 mx_M_in ms_M_in t_M_in rfl rfl (Nat.le_of_ble_eq_true rfl) (by decide) ?_
  refine s_if_ne (tgt := 27) (q := 24) d_M_refine_21 (by decide) rfl (fun _ => ?_) (fun z9 => absurd z9 (bI_dn.mpr (apin.mpr ha)))
  refine s_aload_n (q := 28) d_M_refine_27 rfl rfl (Or.inr ⟨_, rfl⟩) ?_
  refine g_getr (q := 31) d_M_refine_28 rfl fl_M_44 skM rfl ?_
  refine s_iload_n (q := 32) d_M_refine_31 rfl rfl ?_
  refine g_zald (q := 33) d_M_refine_32 rfl sm_11 (by omega) rfl ht ?_
  refine s_if_ne (tgt := 39) (q := 36) d_M_refine_33 (by decide) rfl (fun _ => ?_) (fun z9 => absurd z9 hs)
  refine s_iconst (v := 0) (q := 40) d_M_refine_39 rfl ki_0 ?_
  refine s_istore (q := 42) d_M_refine_40 rfl (by decide) ?_
  exact s_lv (lv' := [(0, .ref 122), (1, .int (nI t)), (2, .int g), (3, .int ap), (4, .int (nI 0))]) ⟨rfl, rfl, rfl, rfl, rfl, trivial⟩ (lp_refM ht hc4 hg 8 0 X hF)
end P17
