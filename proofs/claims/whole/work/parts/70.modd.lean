set_option maxRecDepth 100000 in
set_option maxHeartbeats 4000000 in
theorem X11_plan_L149_ok {G : GL} {X : CX} (C : Ctx G X cX11_plan 11 RX11 rm_X11_plan) (a0 : Nat) (x1 : Int32) (x3 : Int32) (x4 : Int32) (x6 : Int32) (x7 : Int32) (x9 : Int32) (x10 : Int32) (μ : Mem) : ∀ (n : Nat) (x8 : Int32) (z : Int32), X11_plan_L149 a0 x1 x3 x4 x6 x7 x9 x10 μ n x8 = some z → AW G 11 X 0 0 183 [(0, .ref (gZ G + a0)), (1, .int x1), (3, .int x3), (4, .int x4), (6, .int x6), (7, .int x7), (8, .int z), (9, .int x9), (10, .int x10)] [] μ → AW G 11 X 0 0 149 [(0, .ref (gZ G + a0)), (1, .int x1), (3, .int x3), (4, .int x4), (6, .int x6), (7, .int x7), (8, .int x8), (9, .int x9), (10, .int x10)] [] μ := by
  intro n
  induction n with
  | zero =>
    intro x8 z h kx
    rw [X11_plan_L149] at h
    cases h
  | succ n ih =>
    intro x8 z h kx
    rw [X11_plan_L149] at h
    refine aw_iload C 6 dX11_plan_149 rfl ?_
    refine aw_iload C 4 dX11_plan_151 rfl ?_
    refine aw_iconst C ((-1)) dX11_plan_153 (by decide) ?_
    refine aw_ixor C dX11_plan_154 ?_
    refine aw_iand C dX11_plan_155 ?_
    refine aw_if_ne C 177 dX11_plan_156 (by decide) (fun c1 => ?_) (fun c1 => ?_)
    · rw [if_neg c1] at h
      refine aw_iinc C (x8 + 1) 6 [(8, .int (x8 + 1)), (0, .ref (gZ G + a0)), (1, .int x1), (3, .int x3), (4, .int x4), (6, .int x6), (7, .int x7), (9, .int x9), (10, .int x10)] dX11_plan_177 rfl rfl (by decide) rfl ?_
      refine aw_goto C 149 dX11_plan_180 (by decide) ?_
      exact aw_sub [1, 2, 3, 4, 5, 6, 0, 7, 8] rfl (ih _ _ h kx)
    · rw [if_pos c1] at h
      refine aw_aload_n C 0 dX11_plan_159 rfl rfl ?_
      refine aw_iload_n C 1 dX11_plan_160 rfl rfl ?_
      refine aw_iload C 7 dX11_plan_161 rfl ?_
      refine aw_iload C 4 dX11_plan_163 rfl ?_
      refine aw_iload C 5 dX11_plan_165 rfl ?_
      refine aw_iload C 6 dX11_plan_167 rfl ?_
      obtain ⟨g2, hg2, h⟩ := bindE h
      obtain ⟨v3, hv3, h⟩ := bindE h
      refine aw_cV_I C [.int x1, .int x9, .int x6, .int x7, .int x8] _ (mt_X11_by hv3) cs_X11_by ml_X11_341 im_X11_by se_X11_by (ci := 11) rfl rfl hg2 ⟨by decide, by decide⟩ ⟨rfl, rfl⟩ ⟨Nat.zero_le _, Nat.zero_le _⟩ rfl rfl (Nat.le_of_ble_eq_true rfl) dX11_plan_169 ?_
      refine aw_iload C 8 dX11_plan_172 rfl ?_
      refine aw_icmp_eq C 183 dX11_plan_174 (by decide) (fun c4 => ?_) (fun c4 => ?_)
      · rw [if_pos c4] at h
        have e9 := inj1 h
        subst e9
        exact aw_sub [0, 1, 2, 3, 4, 5, 6, 7, 8] rfl kx
      · rw [if_neg c4] at h
        refine aw_iinc C (x8 + 1) 6 [(8, .int (x8 + 1)), (0, .ref (gZ G + a0)), (1, .int x1), (3, .int x3), (4, .int x4), (6, .int x6), (7, .int x7), (9, .int x9), (10, .int x10)] dX11_plan_177 rfl rfl (by decide) rfl ?_
        refine aw_goto C 149 dX11_plan_180 (by decide) ?_
        exact aw_sub [1, 2, 3, 4, 5, 6, 0, 7, 8] rfl (ih _ _ h kx)
set_option maxRecDepth 100000 in
set_option maxHeartbeats 4000000 in
theorem X11_plan_L100_ok {G : GL} {X : CX} (C : Ctx G X cX11_plan 11 RX11 rm_X11_plan) (a0 : Nat) (x1 : Int32) (x3 : Int32) (x4 : Int32) (μ : Mem) : ∀ (n : Nat) (x6 : Int32) (x7 : Int32) (x8 : Int32) (x9 : Int32) (z : Int32 × Int32 × Int32 × Int32), X11_plan_L100 a0 x1 x3 x4 μ n x6 x7 x8 x9 = some z → AW G 11 X 0 0 207 [(0, .ref (gZ G + a0)), (1, .int x1), (3, .int x3), (4, .int x4), (6, .int z.1), (7, .int z.2.1), (8, .int z.2.2.1), (9, .int z.2.2.2)] [] μ → AW G 11 X 0 0 100 [(0, .ref (gZ G + a0)), (1, .int x1), (3, .int x3), (4, .int x4), (6, .int x6), (7, .int x7), (8, .int x8), (9, .int x9)] [] μ := by
  intro n
  induction n with
  | zero =>
    intro x6 x7 x8 x9 z h kx
    rw [X11_plan_L100] at h
    cases h
  | succ n ih =>
    intro x6 x7 x8 x9 z h kx
    rw [X11_plan_L100] at h
    refine aw_iload C 7 dX11_plan_100 rfl ?_
    refine aw_iload_n C 2 dX11_plan_102 rfl rfl ?_
    refine aw_icmp_gt C 207 dX11_plan_103 (by decide) (fun c1 => ?_) (fun c1 => ?_)
    · rw [if_pos c1] at h
      have e9 := inj1 h
      subst e9
      exact aw_sub [0, 1, 2, 3, 4, 5, 6, 7] rfl kx
    · rw [if_neg c1] at h
      refine aw_aload_n C 0 dX11_plan_106 rfl rfl ?_
      obtain ⟨v2, hv2, h⟩ := bindE h
      refine aw_gR C fl_X11_112 rfl hv2 dX11_plan_107 ?_
      refine aw_iload C 7 dX11_plan_110 rfl ?_
      refine aw_iload C 4 dX11_plan_112 rfl ?_
      refine aw_iload C 5 dX11_plan_114 rfl ?_
      refine aw_cS_I C [.int x9, .int x6, .int x7] _ (mt_X11_place _ _ _) cs_X11_place ml_X11_335 st_X11_place ⟨by decide, by decide⟩ ⟨rfl, rfl⟩ ⟨Nat.zero_le _, Nat.zero_le _⟩ rfl rfl (Nat.le_of_ble_eq_true rfl) dX11_plan_116 ?_
      obtain ⟨v3, hv3, h⟩ := bindE h
      refine aw_aI C hv3 dX11_plan_119 ?_
      refine aw_istore C [(10, .int v3), (0, .ref (gZ G + a0)), (1, .int x1), (3, .int x3), (4, .int x4), (6, .int x6), (7, .int x7), (8, .int x8), (9, .int x9)] dX11_plan_120 (by decide) rfl ?_
      refine aw_iconst C 0 dX11_plan_122 (by decide) ?_
      refine aw_istore C [(8, .int 0), (10, .int v3), (0, .ref (gZ G + a0)), (1, .int x1), (3, .int x3), (4, .int x4), (6, .int x6), (7, .int x7), (9, .int x9)] dX11_plan_123 (by decide) rfl ?_
      refine aw_aload_n C 2 dX11_plan_125 rfl rfl ?_
      obtain ⟨v4, hv4, h⟩ := bindE h
      refine aw_gR C fl_X11_112 rfl hv4 dX11_plan_126 ?_
      refine aw_iload C 8 dX11_plan_129 rfl ?_
      refine aw_iconst C 1 dX11_plan_131 (by decide) ?_
      refine aw_iadd C dX11_plan_132 ?_
      refine aw_iload C 6 dX11_plan_133 rfl ?_
      refine aw_iload C 7 dX11_plan_135 rfl ?_
      refine aw_cS_I C [.int (x9 + 1), .int x6, .int x7] _ (mt_X11_place _ _ _) cs_X11_place ml_X11_335 st_X11_place ⟨by decide, by decide⟩ ⟨rfl, rfl⟩ ⟨Nat.zero_le _, Nat.zero_le _⟩ rfl rfl (Nat.le_of_ble_eq_true rfl) dX11_plan_137 ?_
      obtain ⟨v5, hv5, h⟩ := bindE h
      refine aw_aI C hv5 dX11_plan_140 ?_
      refine aw_iload C 1 dX11_plan_141 rfl ?_
      obtain ⟨z8, hz8, h⟩ := bindE h
      have kj143 : AW G 11 X 0 0 201 [(0, .ref (gZ G + a0)), (1, .int x1), (3, .int x3), (4, .int x4), (6, .int z8.1), (7, .int z8.2.1), (8, .int z8.2.2), (9, .int x9)] [] μ := by
        refine aw_iinc C (x9 + 1) 7 [(9, .int (x9 + 1)), (0, .ref (gZ G + a0)), (1, .int x1), (3, .int x3), (4, .int x4), (6, .int z8.1), (7, .int z8.2.1), (8, .int z8.2.2)] dX11_plan_201 rfl rfl (by decide) rfl ?_
        refine aw_goto C 100 dX11_plan_204 (by decide) ?_
        exact aw_sub [1, 2, 3, 4, 5, 6, 7, 0] rfl (ih _ _ _ _ _ h kx)
      replace h := hz8
      refine aw_icmp_eq C 201 dX11_plan_143 (by decide) (fun c6 => ?_) (fun c6 => ?_)
      · rw [if_pos c6] at h
        have e9 := inj1 h
        subst e9
        exact aw_sub [2, 3, 4, 5, 6, 7, 0, 8] rfl kj143
      · rw [if_neg c6] at h
        refine aw_iconst C 1 dX11_plan_146 (by decide) ?_
        refine aw_istore C [(8, .int 1), (10, .int v3), (0, .ref (gZ G + a0)), (1, .int x1), (3, .int x3), (4, .int x4), (6, .int x6), (7, .int x7), (9, .int x9)] dX11_plan_147 (by decide) rfl ?_
        obtain ⟨z7, hz7, h⟩ := bindE h
        refine aw_sub [2, 3, 4, 5, 6, 7, 0, 8, 1] rfl ?_
        refine X11_plan_L149_ok C _ _ _ _ _ _ _ _ _ _ _ _ hz7 ?_
        refine aw_iload C 4 dX11_plan_183 rfl ?_
        refine aw_iload C 6 dX11_plan_185 rfl ?_
        refine aw_iconst C ((-1)) dX11_plan_187 (by decide) ?_
        refine aw_ixor C dX11_plan_188 ?_
        refine aw_iand C dX11_plan_189 ?_
        refine aw_istore C [(6, .int (x6 &&& (z7 ^^^ ((-1))))), (0, .ref (gZ G + a0)), (1, .int x1), (3, .int x3), (4, .int x4), (7, .int x7), (8, .int z7), (9, .int x9), (10, .int v3)] dX11_plan_190 (by decide) rfl ?_
        refine aw_iload C 5 dX11_plan_192 rfl ?_
        refine aw_iconst C 1 dX11_plan_194 (by decide) ?_
        refine aw_iload C 7 dX11_plan_195 rfl ?_
        refine aw_ishl C dX11_plan_197 ?_
        refine aw_ior C dX11_plan_198 ?_
        refine aw_istore C [(7, .int (x7 ||| (1 <<< (x9 &&& 31)))), (6, .int (x6 &&& (z7 ^^^ ((-1))))), (0, .ref (gZ G + a0)), (1, .int x1), (3, .int x3), (4, .int x4), (8, .int z7), (9, .int x9), (10, .int v3)] dX11_plan_199 (by decide) rfl ?_
        have e9 := inj1 h
        subst e9
        exact aw_sub [2, 3, 4, 5, 1, 0, 6, 7] rfl kj143
set_option maxRecDepth 100000 in
set_option maxHeartbeats 4000000 in
theorem wk_X11_plan {G : GL} {X : CX} {a0 : Nat} {x1 : Int32} {x2 : Int32} {x3 : Int32} {x4 : Int32} {μ : Mem} {r : Int32} {μ' : Mem} (C : Ctx G X cX11_plan 11 RX11 rm_X11_plan) (h : X11_plan a0 x1 x2 x3 x4 μ = some (r, μ')) (hret : RtI G 11 X cX11_plan 0 0 r μ') : AW G 11 X 0 0 0 [(0, .ref (gZ G + a0)), (1, .int x1), (2, .int x2), (3, .int x3), (4, .int x4)] [] μ := by
  unfold X11_plan at h
  refine aw_iload_n C 1 dX11_plan_0 rfl rfl ?_
  refine aw_cS_I C [.int x1] _ (mt_X11_isPerson _) cs_X11_isPerson ml_X11_153 st_X11_isPerson ⟨by decide, by decide⟩ ⟨rfl, rfl⟩ ⟨Nat.zero_le _, Nat.zero_le _⟩ rfl rfl (Nat.le_of_ble_eq_true rfl) dX11_plan_1 ?_
  refine aw_if_ne C 11 dX11_plan_4 (by decide) (fun c1 => ?_) (fun c1 => ?_)
  · rw [if_neg c1] at h
    refine aw_iload_n C 2 dX11_plan_11 rfl rfl ?_
    refine aw_i2l C dX11_plan_12 ?_
    refine aw_lconst C 1 dX11_plan_13 (by decide) ?_
    refine aw_ldc2 C kl_X11_344 dX11_plan_14 ?_
    refine aw_cS_I C [.long x2.toInt64, .long 1, .long 6] _ (mt_X11_in _ _ _) cs_X11_in ml_X11_138 st_X11_in ⟨by decide, by decide⟩ ⟨rfl, rfl⟩ ⟨Nat.zero_le _, Nat.zero_le _⟩ rfl rfl (Nat.le_of_ble_eq_true rfl) dX11_plan_17 ?_
    refine aw_if_eq C 49 dX11_plan_20 (by decide) (fun c2 => ?_) (fun c2 => ?_)
    · rw [if_pos c2] at h
      refine aw_sipush C ((-1002)) dX11_plan_49 (by decide) ?_
      obtain ⟨e8, e9⟩ := inj2 h
      subst e8
      subst e9
      exact hret _ _ dX11_plan_52
    · rw [if_neg c2] at h
      refine aw_iload_n C 3 dX11_plan_23 rfl rfl ?_
      refine aw_i2l C dX11_plan_24 ?_
      refine aw_ldc2 C kl_X11_156 dX11_plan_25 ?_
      refine aw_iload_n C 2 dX11_plan_28 rfl rfl ?_
      refine aw_iconst C 1 dX11_plan_29 (by decide) ?_
      refine aw_isub C dX11_plan_30 ?_
      refine aw_i2l C dX11_plan_31 ?_
      refine aw_cS_I C [.long x3.toInt64, .long ((-1)), .long ((x2 - 1).toInt64)] _ (mt_X11_in _ _ _) cs_X11_in ml_X11_138 st_X11_in ⟨by decide, by decide⟩ ⟨rfl, rfl⟩ ⟨Nat.zero_le _, Nat.zero_le _⟩ rfl rfl (Nat.le_of_ble_eq_true rfl) dX11_plan_32 ?_
      refine aw_if_eq C 49 dX11_plan_35 (by decide) (fun c3 => ?_) (fun c3 => ?_)
      · rw [if_pos c3] at h
        refine aw_sipush C ((-1002)) dX11_plan_49 (by decide) ?_
        obtain ⟨e8, e9⟩ := inj2 h
        subst e8
        subst e9
        exact hret _ _ dX11_plan_52
      · rw [if_neg c3] at h
        refine aw_iload C 4 dX11_plan_38 rfl ?_
        refine aw_i2l C dX11_plan_40 ?_
        refine aw_lconst C 0 dX11_plan_41 (by decide) ?_
        refine aw_lconst C 1 dX11_plan_42 (by decide) ?_
        refine aw_cS_I C [.long x4.toInt64, .long 0, .long 1] _ (mt_X11_in _ _ _) cs_X11_in ml_X11_138 st_X11_in ⟨by decide, by decide⟩ ⟨rfl, rfl⟩ ⟨Nat.zero_le _, Nat.zero_le _⟩ rfl rfl (Nat.le_of_ble_eq_true rfl) dX11_plan_43 ?_
        refine aw_if_ne C 53 dX11_plan_46 (by decide) (fun c4 => ?_) (fun c4 => ?_)
        · rw [if_neg c4] at h
          refine aw_aload_n C 0 dX11_plan_53 rfl rfl ?_
          refine aw_iload_n C 1 dX11_plan_54 rfl rfl ?_
          refine aw_iload_n C 2 dX11_plan_55 rfl rfl ?_
          obtain ⟨g5, hg5, h⟩ := bindE h
          obtain ⟨μ6, hμ6, h⟩ := bindE h
          refine aw_cV_V C [.int x1, .int x2] _ (mt_X11_findPlans hμ6) cs_X11_findPlans ml_X11_346 im_X11_findPlans se_X11_findPlans (ci := 11) rfl rfl hg5 ⟨by decide, by decide⟩ ⟨rfl, rfl⟩ ⟨Nat.zero_le _, Nat.zero_le _⟩ rfl rfl (Nat.le_of_ble_eq_true rfl) dX11_plan_56 ?_
          refine aw_iconst C 1 dX11_plan_59 (by decide) ?_
          refine aw_aload_n C 0 dX11_plan_60 rfl rfl ?_
          obtain ⟨v7, hv7, h⟩ := bindE h
          refine aw_gI C fl_X11_322 rfl hv7 dX11_plan_61 ?_
          refine aw_ishl C dX11_plan_64 ?_
          refine aw_iconst C 1 dX11_plan_65 (by decide) ?_
          refine aw_isub C dX11_plan_66 ?_
          obtain ⟨v8, ev8, h⟩ := bindS h
          refine aw_topi ev8 ?_
          refine aw_istore C [(5, .int v8), (0, .ref (gZ G + a0)), (1, .int x1), (2, .int x2), (3, .int x3), (4, .int x4)] dX11_plan_67 (by decide) rfl ?_
          refine aw_iload_n C 4 dX11_plan_69 rfl rfl ?_
          refine aw_iconst C ((-1)) dX11_plan_70 (by decide) ?_
          refine aw_icmp_ne C 87 dX11_plan_71 (by decide) (fun c9 => ?_) (fun c9 => ?_)
          · rw [if_neg c9] at h
            refine aw_iload C 0 dX11_plan_87 rfl ?_
            refine aw_istore C [(6, .int v8), (5, .int v8), (0, .ref (gZ G + a0)), (1, .int x1), (2, .int x2), (3, .int x3), (4, .int x4)] dX11_plan_89 (by decide) rfl ?_
            refine aw_iconst C 0 dX11_plan_91 (by decide) ?_
            refine aw_istore C [(7, .int 0), (6, .int v8), (5, .int v8), (0, .ref (gZ G + a0)), (1, .int x1), (2, .int x2), (3, .int x3), (4, .int x4)] dX11_plan_92 (by decide) rfl ?_
            refine aw_iconst C 0 dX11_plan_94 (by decide) ?_
            refine aw_istore C [(8, .int 0), (7, .int 0), (6, .int v8), (5, .int v8), (0, .ref (gZ G + a0)), (1, .int x1), (2, .int x2), (3, .int x3), (4, .int x4)] dX11_plan_95 (by decide) rfl ?_
            refine aw_iconst C 0 dX11_plan_97 (by decide) ?_
            refine aw_istore C [(9, .int 0), (8, .int 0), (7, .int 0), (6, .int v8), (5, .int v8), (0, .ref (gZ G + a0)), (1, .int x1), (2, .int x2), (3, .int x3), (4, .int x4)] dX11_plan_98 (by decide) rfl ?_
            obtain ⟨z10, hz10, h⟩ := bindE h
            refine aw_sub [5, 6, 8, 9, 3, 2, 1, 0] rfl ?_
            refine X11_plan_L100_ok C _ _ _ _ _ _ _ _ _ _ _ hz10 ?_
            refine aw_iload C 3 dX11_plan_207 rfl ?_
            obtain ⟨z17, hz17, h⟩ := bindE h
            have kj209 : AW G 11 X 0 0 242 [] [.int z17] μ6 := by
              obtain ⟨e8, e9⟩ := inj2 h
              subst e8
              subst e9
              exact hret _ _ dX11_plan_242
            replace h := hz17
            refine aw_if_ne C 221 dX11_plan_209 (by decide) (fun c11 => ?_) (fun c11 => ?_)
            · rw [if_neg c11] at h
              refine aw_iload C 6 dX11_plan_221 rfl ?_
              refine aw_if_ne C 230 dX11_plan_223 (by decide) (fun c12 => ?_) (fun c12 => ?_)
              · rw [if_neg c12] at h
                refine aw_aload_n C 0 dX11_plan_230 rfl rfl ?_
                obtain ⟨v13, hv13, h⟩ := bindE h
                refine aw_gR C fl_X11_118 rfl hv13 dX11_plan_231 ?_
                refine aw_bipush C 64 dX11_plan_234 (by decide) ?_
                refine aw_iload_n C 2 dX11_plan_236 rfl rfl ?_
                refine aw_imul C dX11_plan_237 ?_
                refine aw_iload C 6 dX11_plan_238 rfl ?_
                refine aw_iadd C dX11_plan_240 ?_
                obtain ⟨v14, hv14, h⟩ := bindE h
                refine aw_aI C hv14 dX11_plan_241 ?_
                have e9 := inj1 h
                subst e9
                exact aw_sub [] rfl kj209
              · rw [if_pos c12] at h
                refine aw_iconst C ((-1)) dX11_plan_226 (by decide) ?_
                refine aw_goto C 242 dX11_plan_227 (by decide) ?_
                have e9 := inj1 h
                subst e9
                exact aw_sub [] rfl kj209
            · rw [if_pos c11] at h
              refine aw_aload_n C 0 dX11_plan_212 rfl rfl ?_
              refine aw_iload C 6 dX11_plan_213 rfl ?_
              obtain ⟨g15, hg15, h⟩ := bindE h
              obtain ⟨v16, hv16, h⟩ := bindE h
              refine aw_cV_I C [.int z10.2.2.1] _ (mt_X11_setOf hv16) cs_X11_setOf ml_X11_325 im_X11_setOf se_X11_setOf (ci := 11) rfl rfl hg15 ⟨by decide, by decide⟩ ⟨rfl, rfl⟩ ⟨Nat.zero_le _, Nat.zero_le _⟩ rfl rfl (Nat.le_of_ble_eq_true rfl) dX11_plan_215 ?_
              refine aw_goto C 242 dX11_plan_218 (by decide) ?_
              have e9 := inj1 h
              subst e9
              exact aw_sub [] rfl kj209
          · rw [if_pos c9] at h
            refine aw_aload_n C 1 dX11_plan_74 rfl rfl ?_
            obtain ⟨v18, hv18, h⟩ := bindE h
            refine aw_gR C fl_X11_112 rfl hv18 dX11_plan_75 ?_
            refine aw_iconst C 0 dX11_plan_78 (by decide) ?_
            refine aw_iload C 0 dX11_plan_79 rfl ?_
            refine aw_iconst C 0 dX11_plan_81 (by decide) ?_
            refine aw_cS_I C [.int 0, .int v8, .int 0] _ (mt_X11_place _ _ _) cs_X11_place ml_X11_335 st_X11_place ⟨by decide, by decide⟩ ⟨rfl, rfl⟩ ⟨Nat.zero_le _, Nat.zero_le _⟩ rfl rfl (Nat.le_of_ble_eq_true rfl) dX11_plan_82 ?_
            obtain ⟨v19, hv19, h⟩ := bindE h
            refine aw_aI C hv19 dX11_plan_85 ?_
            obtain ⟨e8, e9⟩ := inj2 h
            subst e8
            subst e9
            exact hret _ _ dX11_plan_86
        · rw [if_pos c4] at h
          refine aw_sipush C ((-1002)) dX11_plan_49 (by decide) ?_
          obtain ⟨e8, e9⟩ := inj2 h
          subst e8
          subst e9
          exact hret _ _ dX11_plan_52
  · rw [if_pos c1] at h
    refine aw_sipush C ((-1001)) dX11_plan_7 (by decide) ?_
    obtain ⟨e8, e9⟩ := inj2 h
    subst e8
    subst e9
    exact hret _ _ dX11_plan_10
set_option maxRecDepth 100000 in
set_option maxHeartbeats 4000000 in
theorem mt_X11_plan {G : GL} {l : Launch} {a0 : Nat} {x1 : Int32} {x2 : Int32} {x3 : Int32} {x4 : Int32} {μ : Mem} {r : Int32} {μ' : Mem} (h : X11_plan a0 x1 x2 x3 x4 μ = some (r, μ')) : MtI G l yX11_plan cX11_plan 11 (some .int) rm_X11_plan false [.ref (gZ G + a0), .int x1, .int x2, .int x3, .int x4] μ r μ' := met_I (by decide) rfl rfl (Nat.le_of_ble_eq_true rfl) (fun X _ C _ _ hret => wk_X11_plan C h hret)
set_option maxRecDepth 100000 in
set_option maxHeartbeats 4000000 in
theorem X11_deadOf_L4_ok {G : GL} {X : CX} (C : Ctx G X cX11_deadOf 4 RX11 rm_X11_deadOf) (a0 : Nat) (x1 : Int32) (μ : Mem) : ∀ (n : Nat) (x2 : Int32) (x3 : Int32) (z : Int32 × Int32), X11_deadOf_L4 a0 x1 μ n x2 x3 = some z → AW G 4 X 0 0 39 [(0, .ref (gZ G + a0)), (1, .int x1), (2, .int z.1), (3, .int z.2)] [] μ → AW G 4 X 0 0 4 [(0, .ref (gZ G + a0)), (1, .int x1), (2, .int x2), (3, .int x3)] [] μ := by
  intro n
  induction n with
  | zero =>
    intro x2 x3 z h kx
    rw [X11_deadOf_L4] at h
    cases h
  | succ n ih =>
    intro x2 x3 z h kx
    rw [X11_deadOf_L4] at h
    refine aw_iload_n C 3 dX11_deadOf_4 rfl rfl ?_
    refine aw_aload_n C 0 dX11_deadOf_5 rfl rfl ?_
    obtain ⟨v1, hv1, h⟩ := bindE h
    refine aw_gI C fl_X11_182 rfl hv1 dX11_deadOf_6 ?_
    refine aw_icmp_ge C 39 dX11_deadOf_9 (by decide) (fun c2 => ?_) (fun c2 => ?_)
    · rw [if_pos c2] at h
      have e9 := inj1 h
      subst e9
      exact aw_sub [0, 1, 2, 3] rfl kx
    · rw [if_neg c2] at h
      refine aw_iload_n C 2 dX11_deadOf_12 rfl rfl ?_
      refine aw_aload_n C 0 dX11_deadOf_13 rfl rfl ?_
      obtain ⟨v3, hv3, h⟩ := bindE h
      refine aw_gR C fl_X11_65 rfl hv3 dX11_deadOf_14 ?_
      refine aw_iload_n C 3 dX11_deadOf_17 rfl rfl ?_
      obtain ⟨v4, hv4, h⟩ := bindE h
      refine aw_aZ C hv4 dX11_deadOf_18 ?_
      obtain ⟨v6, ev6, h⟩ := bindS h
      have kj19 : AW G 4 X 0 0 31 [(0, .ref (gZ G + a0)), (1, .int x1), (3, .int x3)] [.int v6, .int x2] μ := by
        refine aw_ior C dX11_deadOf_31 ?_
        obtain ⟨v7, ev7, h⟩ := bindS h
        refine aw_topi ev7 ?_
        refine aw_istore_n C [(2, .int v7), (0, .ref (gZ G + a0)), (1, .int x1), (3, .int x3)] dX11_deadOf_32 rfl (by decide) rfl ?_
        refine aw_iinc C (x3 + 1) 3 [(3, .int (x3 + 1)), (2, .int v7), (0, .ref (gZ G + a0)), (1, .int x1)] dX11_deadOf_33 rfl rfl (by decide) rfl ?_
        refine aw_goto C 4 dX11_deadOf_36 (by decide) ?_
        exact aw_sub [2, 3, 1, 0] rfl (ih _ _ _ h kx)
      clear h
      refine aw_if_eq C 30 dX11_deadOf_19 (by decide) (fun c5 => ?_) (fun c5 => ?_)
      · refine aw_iconst C 0 dX11_deadOf_30 (by decide) ?_
        rw [if_pos c5] at ev6
        subst ev6
        exact aw_sub [0, 1, 3] rfl kj19
      · refine aw_iload_n C 1 dX11_deadOf_22 rfl rfl ?_
        refine aw_iconst C 1 dX11_deadOf_23 (by decide) ?_
        refine aw_iload_n C 3 dX11_deadOf_24 rfl rfl ?_
        refine aw_ishl C dX11_deadOf_25 ?_
        refine aw_iand C dX11_deadOf_26 ?_
        refine aw_goto C 31 dX11_deadOf_27 (by decide) ?_
        rw [if_neg c5] at ev6
        subst ev6
        exact aw_sub [0, 1, 3] rfl kj19
set_option maxRecDepth 100000 in
set_option maxHeartbeats 4000000 in
theorem wk_X11_deadOf {G : GL} {X : CX} {a0 : Nat} {x1 : Int32} {μ : Mem} {r : Int32} (C : Ctx G X cX11_deadOf 4 RX11 rm_X11_deadOf) (h : X11_deadOf a0 x1 μ = some r) (hret : RtI G 4 X cX11_deadOf 0 0 r μ) : AW G 4 X 0 0 0 [(0, .ref (gZ G + a0)), (1, .int x1)] [] μ := by
  unfold X11_deadOf at h
  refine aw_iconst C 0 dX11_deadOf_0 (by decide) ?_
  refine aw_istore_n C [(2, .int 0), (0, .ref (gZ G + a0)), (1, .int x1)] dX11_deadOf_1 rfl (by decide) rfl ?_
  refine aw_iconst C 0 dX11_deadOf_2 (by decide) ?_
  refine aw_istore_n C [(3, .int 0), (2, .int 0), (0, .ref (gZ G + a0)), (1, .int x1)] dX11_deadOf_3 rfl (by decide) rfl ?_
  obtain ⟨z1, hz1, h⟩ := bindE h
  refine aw_sub [2, 3, 1, 0] rfl ?_
  refine X11_deadOf_L4_ok C _ _ _ _ _ _ _ hz1 ?_
  refine aw_iload_n C 2 dX11_deadOf_39 rfl rfl ?_
  have e9 := inj1 h
  subst e9
  exact hret _ _ dX11_deadOf_40
set_option maxRecDepth 100000 in
set_option maxHeartbeats 4000000 in
theorem mt_X11_deadOf {G : GL} {l : Launch} {a0 : Nat} {x1 : Int32} {μ : Mem} {r : Int32} (h : X11_deadOf a0 x1 μ = some r) : MtI G l yX11_deadOf cX11_deadOf 4 (some .int) rm_X11_deadOf false [.ref (gZ G + a0), .int x1] μ r μ := met_I (by decide) rfl rfl (Nat.le_of_ble_eq_true rfl) (fun X _ C _ _ hret => wk_X11_deadOf C h hret)
set_option maxRecDepth 100000 in
set_option maxHeartbeats 4000000 in
theorem X11_areFor_L5_ok {G : GL} {X : CX} (C : Ctx G X cX11_areFor 5 RX11 rm_X11_areFor) (a0 : Nat) (x1 : Int32) (x2 : Int32) (μ : Mem) : ∀ (n : Nat) (x3 : Int32) (x4 : Int32) (z : Int32 × Int32), X11_areFor_L5 a0 x1 x2 μ n x3 x4 = some z → AW G 5 X 0 0 54 [(0, .ref (gZ G + a0)), (1, .int x1), (2, .int x2), (3, .int z.1), (4, .int z.2)] [] μ → AW G 5 X 0 0 5 [(0, .ref (gZ G + a0)), (1, .int x1), (2, .int x2), (3, .int x3), (4, .int x4)] [] μ := by
  intro n
  induction n with
  | zero =>
    intro x3 x4 z h kx
    rw [X11_areFor_L5] at h
    cases h
  | succ n ih =>
    intro x3 x4 z h kx
    rw [X11_areFor_L5] at h
    refine aw_iload C 4 dX11_areFor_5 rfl ?_
    refine aw_aload_n C 0 dX11_areFor_7 rfl rfl ?_
    obtain ⟨v1, hv1, h⟩ := bindE h
    refine aw_gI C fl_X11_182 rfl hv1 dX11_areFor_8 ?_
    refine aw_icmp_ge C 54 dX11_areFor_11 (by decide) (fun c2 => ?_) (fun c2 => ?_)
    · rw [if_pos c2] at h
      have e9 := inj1 h
      subst e9
      exact aw_sub [0, 1, 2, 3, 4] rfl kx
    · rw [if_neg c2] at h
      refine aw_iload_n C 3 dX11_areFor_14 rfl rfl ?_
      obtain ⟨z8, hz8, h⟩ := bindE h
      have kj15 : AW G 5 X 0 0 47 [(0, .ref (gZ G + a0)), (1, .int x1), (2, .int x2), (4, .int x4)] [.int z8] μ := by
        refine aw_istore_n C [(3, .int z8), (0, .ref (gZ G + a0)), (1, .int x1), (2, .int x2), (4, .int x4)] dX11_areFor_47 rfl (by decide) rfl ?_
        refine aw_iinc C (x4 + 1) 4 [(4, .int (x4 + 1)), (3, .int z8), (0, .ref (gZ G + a0)), (1, .int x1), (2, .int x2)] dX11_areFor_48 rfl rfl (by decide) rfl ?_
        refine aw_goto C 5 dX11_areFor_51 (by decide) ?_
        exact aw_sub [2, 3, 4, 1, 0] rfl (ih _ _ _ h kx)
      replace h := hz8
      refine aw_if_eq C 46 dX11_areFor_15 (by decide) (fun c3 => ?_) (fun c3 => ?_)
      · rw [if_pos c3] at h
        refine aw_iconst C 0 dX11_areFor_46 (by decide) ?_
        have e9 := inj1 h
        subst e9
        exact aw_sub [0, 1, 2, 4] rfl kj15
      · rw [if_neg c3] at h
        refine aw_iload_n C 2 dX11_areFor_18 rfl rfl ?_
        refine aw_iload C 4 dX11_areFor_19 rfl ?_
        refine aw_ishr C dX11_areFor_21 ?_
        refine aw_iconst C 1 dX11_areFor_22 (by decide) ?_
        refine aw_iand C dX11_areFor_23 ?_
        refine aw_if_eq C 42 dX11_areFor_24 (by decide) (fun c4 => ?_) (fun c4 => ?_)
        · rw [if_pos c4] at h
          refine aw_iconst C 1 dX11_areFor_42 (by decide) ?_
          refine aw_goto C 47 dX11_areFor_43 (by decide) ?_
          have e9 := inj1 h
          subst e9
          exact aw_sub [0, 1, 2, 4] rfl kj15
        · rw [if_neg c4] at h
          refine aw_aload_n C 0 dX11_areFor_27 rfl rfl ?_
          obtain ⟨v5, hv5, h⟩ := bindE h
          refine aw_gR C fl_X11_41 rfl hv5 dX11_areFor_28 ?_
          refine aw_iload C 4 dX11_areFor_31 rfl ?_
          obtain ⟨v6, hv6, h⟩ := bindE h
          refine aw_aI C hv6 dX11_areFor_33 ?_
          refine aw_iload_n C 1 dX11_areFor_34 rfl rfl ?_
          refine aw_ishr C dX11_areFor_35 ?_
          refine aw_iconst C 1 dX11_areFor_36 (by decide) ?_
          refine aw_iand C dX11_areFor_37 ?_
          refine aw_iconst C 1 dX11_areFor_38 (by decide) ?_
          refine aw_icmp_ne C 46 dX11_areFor_39 (by decide) (fun c7 => ?_) (fun c7 => ?_)
          · rw [if_neg c7] at h
            refine aw_iconst C 0 dX11_areFor_46 (by decide) ?_
            have e9 := inj1 h
            subst e9
            exact aw_sub [0, 1, 2, 4] rfl kj15
          · rw [if_pos c7] at h
            refine aw_iconst C 1 dX11_areFor_42 (by decide) ?_
            refine aw_goto C 47 dX11_areFor_43 (by decide) ?_
            have e9 := inj1 h
            subst e9
            exact aw_sub [0, 1, 2, 4] rfl kj15
set_option maxRecDepth 100000 in
set_option maxHeartbeats 4000000 in
theorem wk_X11_areFor {G : GL} {X : CX} {a0 : Nat} {x1 : Int32} {x2 : Int32} {μ : Mem} {r : Int32} (C : Ctx G X cX11_areFor 5 RX11 rm_X11_areFor) (h : X11_areFor a0 x1 x2 μ = some r) (hret : RtZ G 5 X cX11_areFor 0 0 r μ) : AW G 5 X 0 0 0 [(0, .ref (gZ G + a0)), (1, .int x1), (2, .int x2)] [] μ := by
  unfold X11_areFor at h
  refine aw_iconst C 1 dX11_areFor_0 (by decide) ?_
  refine aw_istore_n C [(3, .int 1), (0, .ref (gZ G + a0)), (1, .int x1), (2, .int x2)] dX11_areFor_1 rfl (by decide) rfl ?_
  refine aw_iconst C 0 dX11_areFor_2 (by decide) ?_
  refine aw_istore C [(4, .int 0), (3, .int 1), (0, .ref (gZ G + a0)), (1, .int x1), (2, .int x2)] dX11_areFor_3 (by decide) rfl ?_
  obtain ⟨z1, hz1, h⟩ := bindE h
  refine aw_sub [2, 3, 4, 1, 0] rfl ?_
  refine X11_areFor_L5_ok C _ _ _ _ _ _ _ _ hz1 ?_
  refine aw_iload_n C 3 dX11_areFor_54 rfl rfl ?_
  obtain ⟨v2, hv2, h⟩ := bindE h
  obtain ⟨ev2, zv2⟩ := zzE hv2
  refine aw_topi ev2 ?_
  have e9 := inj1 h
  subst e9
  exact hret _ _ dX11_areFor_55 zv2
set_option maxRecDepth 100000 in
set_option maxHeartbeats 4000000 in
theorem mt_X11_areFor {G : GL} {l : Launch} {a0 : Nat} {x1 : Int32} {x2 : Int32} {μ : Mem} {r : Int32} (h : X11_areFor a0 x1 x2 μ = some r) : MtI G l yX11_areFor cX11_areFor 5 (some .boolean) rm_X11_areFor false [.ref (gZ G + a0), .int x1, .int x2] μ r μ := met_Z (by decide) rfl (Nat.le_of_ble_eq_true rfl) (fun X _ C _ _ hret => wk_X11_areFor C h hret)
set_option maxRecDepth 100000 in
set_option maxHeartbeats 4000000 in
theorem wk_X11_say {G : GL} {X : CX} {a0 : Nat} {x1 : Int32} {x2 : Int32} {x3 : Int32} {μ : Mem} {r : Int32} {μ' : Mem} (C : Ctx G X cX11_say 4 RX11 rm_X11_say) (h : X11_say a0 x1 x2 x3 μ = some (r, μ')) (hret : RtI G 4 X cX11_say 0 0 r μ') : AW G 4 X 0 0 0 [(0, .ref (gZ G + a0)), (1, .int x1), (2, .int x2), (3, .int x3)] [] μ := by
  unfold X11_say at h
  refine aw_iload_n C 1 dX11_say_0 rfl rfl ?_
  refine aw_cS_I C [.int x1] _ (mt_X11_isPerson _) cs_X11_isPerson ml_X11_153 st_X11_isPerson ⟨by decide, by decide⟩ ⟨rfl, rfl⟩ ⟨Nat.zero_le _, Nat.zero_le _⟩ rfl rfl (Nat.le_of_ble_eq_true rfl) dX11_say_1 ?_
  refine aw_if_eq C 15 dX11_say_4 (by decide) (fun c1 => ?_) (fun c1 => ?_)
  · rw [if_pos c1] at h
    refine aw_sipush C ((-1001)) dX11_say_15 (by decide) ?_
    obtain ⟨e8, e9⟩ := inj2 h
    subst e8
    subst e9
    exact hret _ _ dX11_say_18
  · rw [if_neg c1] at h
    refine aw_aload_n C 0 dX11_say_7 rfl rfl ?_
    refine aw_iload_n C 2 dX11_say_8 rfl rfl ?_
    obtain ⟨g2, hg2, h⟩ := bindE h
    obtain ⟨v3, hv3, h⟩ := bindE h
    refine aw_cV_I C [.int x2] _ (mt_X11_areThings hv3) cs_X11_areThings ml_X11_315 im_X11_areThings se_X11_areThings (ci := 11) rfl rfl hg2 ⟨by decide, by decide⟩ ⟨rfl, rfl⟩ ⟨Nat.zero_le _, Nat.zero_le _⟩ rfl rfl (Nat.le_of_ble_eq_true rfl) dX11_say_9 ?_
    refine aw_if_ne C 19 dX11_say_12 (by decide) (fun c4 => ?_) (fun c4 => ?_)
    · rw [if_neg c4] at h
      refine aw_iload_n C 3 dX11_say_19 rfl rfl ?_
      refine aw_cS_I C [.int x3] _ (mt_X11_isWay _) cs_X11_isWay ml_X11_214 st_X11_isWay ⟨by decide, by decide⟩ ⟨rfl, rfl⟩ ⟨Nat.zero_le _, Nat.zero_le _⟩ rfl rfl (Nat.le_of_ble_eq_true rfl) dX11_say_20 ?_
      refine aw_if_ne C 30 dX11_say_23 (by decide) (fun c5 => ?_) (fun c5 => ?_)
      · rw [if_neg c5] at h
        refine aw_aload_n C 0 dX11_say_30 rfl rfl ?_
        refine aw_iload_n C 1 dX11_say_31 rfl rfl ?_
        refine aw_iload_n C 2 dX11_say_32 rfl rfl ?_
        refine aw_iload_n C 3 dX11_say_33 rfl rfl ?_
        refine aw_iconst C 0 dX11_say_34 (by decide) ?_
        refine aw_iconst C 0 dX11_say_35 (by decide) ?_
        obtain ⟨g6, hg6, h⟩ := bindE h
        obtain ⟨z7, hz7, h⟩ := bindE h
        refine aw_cV_I C [.int x1, .int x2, .int x3, .int 0, .int 0] _ (mt_X11_barring hz7) cs_X11_barring ml_X11_318 im_X11_barring se_X11_barring (ci := 11) rfl rfl hg6 ⟨by decide, by decide⟩ ⟨rfl, rfl⟩ ⟨Nat.zero_le _, Nat.zero_le _⟩ rfl rfl (Nat.le_of_ble_eq_true rfl) dX11_say_36 ?_
        refine aw_if_gt C 67 dX11_say_39 (by decide) (fun c8 => ?_) (fun c8 => ?_)
        · rw [if_pos c8] at h
          refine aw_sipush C ((-1003)) dX11_say_67 (by decide) ?_
          obtain ⟨e8, e9⟩ := inj2 h
          subst e8
          subst e9
          exact hret _ _ dX11_say_70
        · rw [if_neg c8] at h
          refine aw_aload_n C 0 dX11_say_42 rfl rfl ?_
          refine aw_iload_n C 2 dX11_say_43 rfl rfl ?_
          obtain ⟨g9, hg9, h⟩ := bindE h
          obtain ⟨v10, hv10, h⟩ := bindE h
          refine aw_cV_I C [.int x2] _ (mt_X11_deadOf hv10) cs_X11_deadOf ml_X11_349 im_X11_deadOf se_X11_deadOf (ci := 11) rfl rfl hg9 ⟨by decide, by decide⟩ ⟨rfl, rfl⟩ ⟨Nat.zero_le _, Nat.zero_le _⟩ rfl rfl (Nat.le_of_ble_eq_true rfl) dX11_say_44 ?_
          refine aw_if_ne C 67 dX11_say_47 (by decide) (fun c11 => ?_) (fun c11 => ?_)
          · rw [if_neg c11] at h
            refine aw_sipush C ((-1003)) dX11_say_67 (by decide) ?_
            obtain ⟨e8, e9⟩ := inj2 h
            subst e8
            subst e9
            exact hret _ _ dX11_say_70
          · rw [if_pos c11] at h
            refine aw_aload_n C 0 dX11_say_50 rfl rfl ?_
            refine aw_iload_n C 1 dX11_say_51 rfl rfl ?_
            refine aw_iload_n C 2 dX11_say_52 rfl rfl ?_
            obtain ⟨g12, hg12, h⟩ := bindE h
            obtain ⟨v13, hv13, h⟩ := bindE h
            refine aw_cV_I C [.int x1, .int x2] _ (mt_X11_areFor hv13) cs_X11_areFor ml_X11_352 im_X11_areFor se_X11_areFor (ci := 11) rfl rfl hg12 ⟨by decide, by decide⟩ ⟨rfl, rfl⟩ ⟨Nat.zero_le _, Nat.zero_le _⟩ rfl rfl (Nat.le_of_ble_eq_true rfl) dX11_say_53 ?_
            refine aw_if_eq C 67 dX11_say_56 (by decide) (fun c14 => ?_) (fun c14 => ?_)
            · rw [if_pos c14] at h
              refine aw_sipush C ((-1003)) dX11_say_67 (by decide) ?_
              obtain ⟨e8, e9⟩ := inj2 h
              subst e8
              subst e9
              exact hret _ _ dX11_say_70
            · rw [if_neg c14] at h
              refine aw_aload_n C 0 dX11_say_59 rfl rfl ?_
              refine aw_iload_n C 2 dX11_say_60 rfl rfl ?_
              obtain ⟨g15, hg15, h⟩ := bindE h
              obtain ⟨v16, hv16, h⟩ := bindE h
              refine aw_cV_I C [.int x2] _ (mt_X11_isOneMatter hv16) cs_X11_isOneMatter ml_X11_329 im_X11_isOneMatter se_X11_isOneMatter (ci := 11) rfl rfl hg15 ⟨by decide, by decide⟩ ⟨rfl, rfl⟩ ⟨Nat.zero_le _, Nat.zero_le _⟩ rfl rfl (Nat.le_of_ble_eq_true rfl) dX11_say_61 ?_
              refine aw_if_ne C 71 dX11_say_64 (by decide) (fun c17 => ?_) (fun c17 => ?_)
              · rw [if_neg c17] at h
                refine aw_aload_n C 0 dX11_say_71 rfl rfl ?_
                obtain ⟨v18, hv18, h⟩ := bindE h
                refine aw_gI C fl_X11_195 rfl hv18 dX11_say_72 ?_
                refine aw_bipush C 40 dX11_say_75 (by decide) ?_
                refine aw_icmp_ne C 84 dX11_say_77 (by decide) (fun c19 => ?_) (fun c19 => ?_)
                · rw [if_neg c19] at h
                  refine aw_aload_n C 0 dX11_say_84 rfl rfl ?_
                  obtain ⟨v20, hv20, h⟩ := bindE h
                  refine aw_gR C fl_X11_121 rfl hv20 dX11_say_85 ?_
                  refine aw_aload_n C 0 dX11_say_88 rfl rfl ?_
                  obtain ⟨v21, hv21, h⟩ := bindE h
                  refine aw_gI C fl_X11_195 rfl hv21 dX11_say_89 ?_
                  refine aw_iload_n C 1 dX11_say_92 rfl rfl ?_
                  obtain ⟨μ22, hμ22, h⟩ := bindE h
                  refine aw_sI C hμ22 dX11_say_93 ?_
                  refine aw_aload_n C 0 dX11_say_94 rfl rfl ?_
                  obtain ⟨v23, hv23, h⟩ := bindE h
                  refine aw_gR C fl_X11_124 rfl hv23 dX11_say_95 ?_
                  refine aw_aload_n C 0 dX11_say_98 rfl rfl ?_
                  obtain ⟨v24, hv24, h⟩ := bindE h
                  refine aw_gI C fl_X11_195 rfl hv24 dX11_say_99 ?_
                  refine aw_iload_n C 2 dX11_say_102 rfl rfl ?_
                  obtain ⟨μ25, hμ25, h⟩ := bindE h
                  refine aw_sI C hμ25 dX11_say_103 ?_
                  refine aw_aload_n C 0 dX11_say_104 rfl rfl ?_
                  obtain ⟨v26, hv26, h⟩ := bindE h
                  refine aw_gR C fl_X11_127 rfl hv26 dX11_say_105 ?_
                  refine aw_aload_n C 0 dX11_say_108 rfl rfl ?_
                  obtain ⟨v27, hv27, h⟩ := bindE h
                  refine aw_gI C fl_X11_195 rfl hv27 dX11_say_109 ?_
                  refine aw_iload_n C 3 dX11_say_112 rfl rfl ?_
                  obtain ⟨μ28, hμ28, h⟩ := bindE h
                  refine aw_sI C hμ28 dX11_say_113 ?_
                  refine aw_aload_n C 0 dX11_say_114 rfl rfl ?_
                  obtain ⟨v29, hv29, h⟩ := bindE h
                  refine aw_gR C fl_X11_130 rfl hv29 dX11_say_115 ?_
                  refine aw_aload_n C 0 dX11_say_118 rfl rfl ?_
                  obtain ⟨v30, hv30, h⟩ := bindE h
                  refine aw_gI C fl_X11_195 rfl hv30 dX11_say_119 ?_
                  refine aw_aload_n C 0 dX11_say_122 rfl rfl ?_
                  obtain ⟨v31, hv31, h⟩ := bindE h
                  refine aw_gI C fl_X11_158 rfl hv31 dX11_say_123 ?_
                  obtain ⟨μ32, hμ32, h⟩ := bindE h
                  refine aw_sI C hμ32 dX11_say_126 ?_
                  refine aw_aload_n C 0 dX11_say_127 rfl rfl ?_
                  obtain ⟨v33, hv33, h⟩ := bindE h
                  refine aw_gR C fl_X11_133 rfl hv33 dX11_say_128 ?_
                  refine aw_aload_n C 0 dX11_say_131 rfl rfl ?_
                  obtain ⟨v34, hv34, h⟩ := bindE h
                  refine aw_gI C fl_X11_195 rfl hv34 dX11_say_132 ?_
                  refine aw_iconst C 0 dX11_say_135 (by decide) ?_
                  obtain ⟨μ35, hμ35, h⟩ := bindE h
                  refine aw_sI C hμ35 dX11_say_136 ?_
                  refine aw_aload_n C 0 dX11_say_137 rfl rfl ?_
                  refine aw_dup C dX11_say_138 rfl ?_
                  obtain ⟨v36, hv36, h⟩ := bindE h
                  refine aw_gI C fl_X11_195 rfl hv36 dX11_say_139 ?_
                  refine aw_iconst C 1 dX11_say_142 (by decide) ?_
                  refine aw_iadd C dX11_say_143 ?_
                  obtain ⟨μ37, hμ37, h⟩ := bindE h
                  refine aw_pI C fl_X11_195 rfl hμ37 dX11_say_144 ?_
                  refine aw_aload_n C 0 dX11_say_147 rfl rfl ?_
                  obtain ⟨v38, hv38, h⟩ := bindE h
                  refine aw_gI C fl_X11_195 rfl hv38 dX11_say_148 ?_
                  refine aw_iconst C 1 dX11_say_151 (by decide) ?_
                  refine aw_isub C dX11_say_152 ?_
                  obtain ⟨e8, e9⟩ := inj2 h
                  subst e8
                  subst e9
                  exact hret _ _ dX11_say_153
                · rw [if_pos c19] at h
                  refine aw_sipush C ((-1004)) dX11_say_80 (by decide) ?_
                  obtain ⟨e8, e9⟩ := inj2 h
                  subst e8
                  subst e9
                  exact hret _ _ dX11_say_83
              · rw [if_pos c17] at h
                refine aw_sipush C ((-1003)) dX11_say_67 (by decide) ?_
                obtain ⟨e8, e9⟩ := inj2 h
                subst e8
                subst e9
                exact hret _ _ dX11_say_70
      · rw [if_pos c5] at h
        refine aw_sipush C ((-1002)) dX11_say_26 (by decide) ?_
        obtain ⟨e8, e9⟩ := inj2 h
        subst e8
        subst e9
        exact hret _ _ dX11_say_29
    · rw [if_pos c4] at h
      refine aw_sipush C ((-1001)) dX11_say_15 (by decide) ?_
      obtain ⟨e8, e9⟩ := inj2 h
      subst e8
      subst e9
      exact hret _ _ dX11_say_18
set_option maxRecDepth 100000 in
set_option maxHeartbeats 4000000 in
theorem mt_X11_say {G : GL} {l : Launch} {a0 : Nat} {x1 : Int32} {x2 : Int32} {x3 : Int32} {μ : Mem} {r : Int32} {μ' : Mem} (h : X11_say a0 x1 x2 x3 μ = some (r, μ')) : MtI G l yX11_say cX11_say 4 (some .int) rm_X11_say false [.ref (gZ G + a0), .int x1, .int x2, .int x3] μ r μ' := met_I (by decide) rfl rfl (Nat.le_of_ble_eq_true rfl) (fun X _ C _ _ hret => wk_X11_say C h hret)
set_option maxRecDepth 100000 in
set_option maxHeartbeats 4000000 in
theorem wk_X11_isSaying {G : GL} {X : CX} {a0 : Nat} {x1 : Int32} {μ : Mem} {r : Int32} (C : Ctx G X cX11_isSaying 2 RX11 rm_X11_isSaying) (h : X11_isSaying a0 x1 μ = some r) (hret : RtZ G 2 X cX11_isSaying 0 0 r μ) : AW G 2 X 0 0 0 [(0, .ref (gZ G + a0)), (1, .int x1)] [] μ := by
  unfold X11_isSaying at h
  refine aw_iload_n C 1 dX11_isSaying_0 rfl rfl ?_
  refine aw_i2l C dX11_isSaying_1 ?_
  refine aw_lconst C 0 dX11_isSaying_2 (by decide) ?_
  refine aw_aload_n C 0 dX11_isSaying_3 rfl rfl ?_
  obtain ⟨v1, hv1, h⟩ := bindE h
  refine aw_gI C fl_X11_195 rfl hv1 dX11_isSaying_4 ?_
  refine aw_iconst C 1 dX11_isSaying_7 (by decide) ?_
  refine aw_isub C dX11_isSaying_8 ?_
  refine aw_i2l C dX11_isSaying_9 ?_
  refine aw_cS_I C [.long x1.toInt64, .long 0, .long ((v1 - 1).toInt64)] _ (mt_X11_in _ _ _) cs_X11_in ml_X11_138 st_X11_in ⟨by decide, by decide⟩ ⟨rfl, rfl⟩ ⟨Nat.zero_le _, Nat.zero_le _⟩ rfl rfl (Nat.le_of_ble_eq_true rfl) dX11_isSaying_10 ?_
  obtain ⟨v2, hv2, h⟩ := bindE h
  obtain ⟨ev2, zv2⟩ := zzE hv2
  refine aw_topi ev2 ?_
  have e9 := inj1 h
  subst e9
  exact hret _ _ dX11_isSaying_13 zv2
set_option maxRecDepth 100000 in
set_option maxHeartbeats 4000000 in
theorem mt_X11_isSaying {G : GL} {l : Launch} {a0 : Nat} {x1 : Int32} {μ : Mem} {r : Int32} (h : X11_isSaying a0 x1 μ = some r) : MtI G l yX11_isSaying cX11_isSaying 2 (some .boolean) rm_X11_isSaying false [.ref (gZ G + a0), .int x1] μ r μ := met_Z (by decide) rfl (Nat.le_of_ble_eq_true rfl) (fun X _ C _ _ hret => wk_X11_isSaying C h hret)
set_option maxRecDepth 100000 in
set_option maxHeartbeats 4000000 in
theorem wk_X11_came {G : GL} {X : CX} {a0 : Nat} {x1 : Int32} {x2 : Int32} {μ : Mem} {r : Int32} {μ' : Mem} (C : Ctx G X cX11_came 3 RX11 rm_X11_came) (h : X11_came a0 x1 x2 μ = some (r, μ')) (hret : RtI G 3 X cX11_came 0 0 r μ') : AW G 3 X 0 0 0 [(0, .ref (gZ G + a0)), (1, .int x1), (2, .int x2)] [] μ := by
  unfold X11_came at h
  refine aw_aload_n C 0 dX11_came_0 rfl rfl ?_
  refine aw_iload_n C 1 dX11_came_1 rfl rfl ?_
  obtain ⟨g1, hg1, h⟩ := bindE h
  obtain ⟨v2, hv2, h⟩ := bindE h
  refine aw_cV_I C [.int x1] _ (mt_X11_isSaying hv2) cs_X11_isSaying ml_X11_355 im_X11_isSaying se_X11_isSaying (ci := 11) rfl rfl hg1 ⟨by decide, by decide⟩ ⟨rfl, rfl⟩ ⟨Nat.zero_le _, Nat.zero_le _⟩ rfl rfl (Nat.le_of_ble_eq_true rfl) dX11_came_2 ?_
  refine aw_if_ne C 12 dX11_came_5 (by decide) (fun c3 => ?_) (fun c3 => ?_)
  · rw [if_neg c3] at h
    refine aw_iload_n C 2 dX11_came_12 rfl rfl ?_
    refine aw_i2l C dX11_came_13 ?_
    refine aw_lconst C 1 dX11_came_14 (by decide) ?_
    refine aw_ldc2 C kl_X11_136 dX11_came_15 ?_
    refine aw_cS_I C [.long x2.toInt64, .long 1, .long 3] _ (mt_X11_in _ _ _) cs_X11_in ml_X11_138 st_X11_in ⟨by decide, by decide⟩ ⟨rfl, rfl⟩ ⟨Nat.zero_le _, Nat.zero_le _⟩ rfl rfl (Nat.le_of_ble_eq_true rfl) dX11_came_18 ?_
    refine aw_if_ne C 28 dX11_came_21 (by decide) (fun c4 => ?_) (fun c4 => ?_)
    · rw [if_neg c4] at h
      refine aw_aload_n C 0 dX11_came_28 rfl rfl ?_
      obtain ⟨v5, hv5, h⟩ := bindE h
      refine aw_gR C fl_X11_133 rfl hv5 dX11_came_29 ?_
      refine aw_iload_n C 1 dX11_came_32 rfl rfl ?_
      obtain ⟨v6, hv6, h⟩ := bindE h
      refine aw_aI C hv6 dX11_came_33 ?_
      refine aw_if_le C 41 dX11_came_34 (by decide) (fun c7 => ?_) (fun c7 => ?_)
      · rw [if_pos c7] at h
        refine aw_aload_n C 0 dX11_came_41 rfl rfl ?_
        obtain ⟨v8, hv8, h⟩ := bindE h
        refine aw_gR C fl_X11_133 rfl hv8 dX11_came_42 ?_
        refine aw_iload_n C 1 dX11_came_45 rfl rfl ?_
        refine aw_iload_n C 2 dX11_came_46 rfl rfl ?_
        obtain ⟨μ9, hμ9, h⟩ := bindE h
        refine aw_sI C hμ9 dX11_came_47 ?_
        refine aw_iconst C 0 dX11_came_48 (by decide) ?_
        obtain ⟨e8, e9⟩ := inj2 h
        subst e8
        subst e9
        exact hret _ _ dX11_came_49
      · rw [if_neg c7] at h
        refine aw_sipush C ((-1003)) dX11_came_37 (by decide) ?_
        obtain ⟨e8, e9⟩ := inj2 h
        subst e8
        subst e9
        exact hret _ _ dX11_came_40
    · rw [if_pos c4] at h
      refine aw_sipush C ((-1002)) dX11_came_24 (by decide) ?_
      obtain ⟨e8, e9⟩ := inj2 h
      subst e8
      subst e9
      exact hret _ _ dX11_came_27
  · rw [if_pos c3] at h
    refine aw_sipush C ((-1001)) dX11_came_8 (by decide) ?_
    obtain ⟨e8, e9⟩ := inj2 h
    subst e8
    subst e9
    exact hret _ _ dX11_came_11
set_option maxRecDepth 100000 in
set_option maxHeartbeats 4000000 in
theorem mt_X11_came {G : GL} {l : Launch} {a0 : Nat} {x1 : Int32} {x2 : Int32} {μ : Mem} {r : Int32} {μ' : Mem} (h : X11_came a0 x1 x2 μ = some (r, μ')) : MtI G l yX11_came cX11_came 3 (some .int) rm_X11_came false [.ref (gZ G + a0), .int x1, .int x2] μ r μ' := met_I (by decide) rfl rfl (Nat.le_of_ble_eq_true rfl) (fun X _ C _ _ hret => wk_X11_came C h hret)
set_option maxRecDepth 100000 in
set_option maxHeartbeats 4000000 in
theorem wk_X11_saying {G : GL} {X : CX} {a0 : Nat} {x1 : Int32} {x2 : Int32} {μ : Mem} {r : Int32} (C : Ctx G X cX11_saying 3 RX11 rm_X11_saying) (h : X11_saying a0 x1 x2 μ = some r) (hret : RtI G 3 X cX11_saying 0 0 r μ) : AW G 3 X 0 0 0 [(0, .ref (gZ G + a0)), (1, .int x1), (2, .int x2)] [] μ := by
  unfold X11_saying at h
  refine aw_aload_n C 0 dX11_saying_0 rfl rfl ?_
  refine aw_iload_n C 1 dX11_saying_1 rfl rfl ?_
  obtain ⟨g1, hg1, h⟩ := bindE h
  obtain ⟨v2, hv2, h⟩ := bindE h
  refine aw_cV_I C [.int x1] _ (mt_X11_isSaying hv2) cs_X11_isSaying ml_X11_355 im_X11_isSaying se_X11_isSaying (ci := 11) rfl rfl hg1 ⟨by decide, by decide⟩ ⟨rfl, rfl⟩ ⟨Nat.zero_le _, Nat.zero_le _⟩ rfl rfl (Nat.le_of_ble_eq_true rfl) dX11_saying_2 ?_
  refine aw_if_ne C 12 dX11_saying_5 (by decide) (fun c3 => ?_) (fun c3 => ?_)
  · rw [if_neg c3] at h
    refine aw_iload_n C 2 dX11_saying_12 rfl rfl ?_
    by_cases c4 : x2 = Int32.ofNat 0
    · rw [if_pos c4] at h
      refine aw_tin C (0) 52 c4 dX11_saying_13 (by decide) (by decide) rfl (by decide) ?_
      refine aw_aload_n C 0 dX11_saying_52 rfl rfl ?_
      obtain ⟨v5, hv5, h⟩ := bindE h
      refine aw_gR C fl_X11_121 rfl hv5 dX11_saying_53 ?_
      refine aw_iload_n C 1 dX11_saying_56 rfl rfl ?_
      obtain ⟨v6, hv6, h⟩ := bindE h
      refine aw_aI C hv6 dX11_saying_57 ?_
      have e9 := inj1 h
      subst e9
      exact hret _ _ dX11_saying_58
    · rw [if_neg c4] at h
      by_cases c7 : x2 = Int32.ofNat 1
      · rw [if_pos c7] at h
        refine aw_tin C (1) 59 c7 dX11_saying_13 (by decide) (by decide) rfl (by decide) ?_
        refine aw_aload_n C 0 dX11_saying_59 rfl rfl ?_
        obtain ⟨v8, hv8, h⟩ := bindE h
        refine aw_gR C fl_X11_124 rfl hv8 dX11_saying_60 ?_
        refine aw_iload_n C 1 dX11_saying_63 rfl rfl ?_
        obtain ⟨v9, hv9, h⟩ := bindE h
        refine aw_aI C hv9 dX11_saying_64 ?_
        have e9 := inj1 h
        subst e9
        exact hret _ _ dX11_saying_65
      · rw [if_neg c7] at h
        by_cases c10 : x2 = Int32.ofNat 2
        · rw [if_pos c10] at h
          refine aw_tin C (2) 66 c10 dX11_saying_13 (by decide) (by decide) rfl (by decide) ?_
          refine aw_aload_n C 0 dX11_saying_66 rfl rfl ?_
          obtain ⟨v11, hv11, h⟩ := bindE h
          refine aw_gR C fl_X11_127 rfl hv11 dX11_saying_67 ?_
          refine aw_iload_n C 1 dX11_saying_70 rfl rfl ?_
          obtain ⟨v12, hv12, h⟩ := bindE h
          refine aw_aI C hv12 dX11_saying_71 ?_
          have e9 := inj1 h
          subst e9
          exact hret _ _ dX11_saying_72
        · rw [if_neg c10] at h
          by_cases c13 : x2 = Int32.ofNat 3
          · rw [if_pos c13] at h
            refine aw_tin C (3) 73 c13 dX11_saying_13 (by decide) (by decide) rfl (by decide) ?_
            refine aw_aload_n C 0 dX11_saying_73 rfl rfl ?_
            obtain ⟨v14, hv14, h⟩ := bindE h
            refine aw_gR C fl_X11_130 rfl hv14 dX11_saying_74 ?_
            refine aw_iload_n C 1 dX11_saying_77 rfl rfl ?_
            obtain ⟨v15, hv15, h⟩ := bindE h
            refine aw_aI C hv15 dX11_saying_78 ?_
            have e9 := inj1 h
            subst e9
            exact hret _ _ dX11_saying_79
          · rw [if_neg c13] at h
            by_cases c16 : x2 = Int32.ofNat 4
            · rw [if_pos c16] at h
              refine aw_tin C (4) 80 c16 dX11_saying_13 (by decide) (by decide) rfl (by decide) ?_
              refine aw_aload_n C 0 dX11_saying_80 rfl rfl ?_
              obtain ⟨v17, hv17, h⟩ := bindE h
              refine aw_gR C fl_X11_133 rfl hv17 dX11_saying_81 ?_
              refine aw_iload_n C 1 dX11_saying_84 rfl rfl ?_
              obtain ⟨v18, hv18, h⟩ := bindE h
              refine aw_aI C hv18 dX11_saying_85 ?_
              have e9 := inj1 h
              subst e9
              exact hret _ _ dX11_saying_86
            · rw [if_neg c16] at h
              by_cases c19 : x2 = Int32.ofNat 5
              · rw [if_pos c19] at h
                refine aw_tin C (5) 87 c19 dX11_saying_13 (by decide) (by decide) rfl (by decide) ?_
                refine aw_aload_n C 0 dX11_saying_87 rfl rfl ?_
                refine aw_aload_n C 0 dX11_saying_88 rfl rfl ?_
                obtain ⟨v20, hv20, h⟩ := bindE h
                refine aw_gR C fl_X11_124 rfl hv20 dX11_saying_89 ?_
                refine aw_iload_n C 1 dX11_saying_92 rfl rfl ?_
                obtain ⟨v21, hv21, h⟩ := bindE h
                refine aw_aI C hv21 dX11_saying_93 ?_
                obtain ⟨g22, hg22, h⟩ := bindE h
                obtain ⟨v23, hv23, h⟩ := bindE h
                refine aw_cV_I C [.int v21] _ (mt_X11_deadOf hv23) cs_X11_deadOf ml_X11_349 im_X11_deadOf se_X11_deadOf (ci := 11) rfl rfl hg22 ⟨by decide, by decide⟩ ⟨rfl, rfl⟩ ⟨Nat.zero_le _, Nat.zero_le _⟩ rfl rfl (Nat.le_of_ble_eq_true rfl) dX11_saying_94 ?_
                have e9 := inj1 h
                subst e9
                exact hret _ _ dX11_saying_97
              · rw [if_neg c19] at h
                refine aw_tout C 98 dX11_saying_13 (tsw_out 6 (by decide) (fun k hk => by rcases (show k = 0 ∨ k = 1 ∨ k = 2 ∨ k = 3 ∨ k = 4 ∨ k = 5 by omega) with rfl | rfl | rfl | rfl | rfl | rfl <;> assumption)) (by decide) ?_
                refine aw_sipush C ((-1002)) dX11_saying_98 (by decide) ?_
                have e9 := inj1 h
                subst e9
                exact hret _ _ dX11_saying_101
  · rw [if_pos c3] at h
    refine aw_sipush C ((-1001)) dX11_saying_8 (by decide) ?_
    have e9 := inj1 h
    subst e9
    exact hret _ _ dX11_saying_11
set_option maxRecDepth 100000 in
set_option maxHeartbeats 4000000 in
theorem mt_X11_saying {G : GL} {l : Launch} {a0 : Nat} {x1 : Int32} {x2 : Int32} {μ : Mem} {r : Int32} (h : X11_saying a0 x1 x2 μ = some r) : MtI G l yX11_saying cX11_saying 3 (some .int) rm_X11_saying false [.ref (gZ G + a0), .int x1, .int x2] μ r μ := met_I (by decide) rfl rfl (Nat.le_of_ble_eq_true rfl) (fun X _ C _ _ hret => wk_X11_saying C h hret)
set_option maxRecDepth 100000 in
set_option maxHeartbeats 4000000 in
theorem X11_cameOf_L5_ok {G : GL} {X : CX} (C : Ctx G X cX11_cameOf 5 RX11 rm_X11_cameOf) (a0 : Nat) (x1 : Int32) (x2 : Int32) (μ : Mem) : ∀ (n : Nat) (x3 : Int32) (x4 : Int32) (z : Int32 × Int32), X11_cameOf_L5 a0 x1 x2 μ n x3 x4 = some z → AW G 5 X 0 0 67 [(0, .ref (gZ G + a0)), (1, .int x1), (2, .int x2), (3, .int z.1), (4, .int z.2)] [] μ → AW G 5 X 0 0 5 [(0, .ref (gZ G + a0)), (1, .int x1), (2, .int x2), (3, .int x3), (4, .int x4)] [] μ := by
  intro n
  induction n with
  | zero =>
    intro x3 x4 z h kx
    rw [X11_cameOf_L5] at h
    cases h
  | succ n ih =>
    intro x3 x4 z h kx
    rw [X11_cameOf_L5] at h
    refine aw_iload C 4 dX11_cameOf_5 rfl ?_
    refine aw_aload_n C 0 dX11_cameOf_7 rfl rfl ?_
    obtain ⟨v1, hv1, h⟩ := bindE h
    refine aw_gI C fl_X11_195 rfl hv1 dX11_cameOf_8 ?_
    refine aw_icmp_ge C 67 dX11_cameOf_11 (by decide) (fun c2 => ?_) (fun c2 => ?_)
    · rw [if_pos c2] at h
      have e9 := inj1 h
      subst e9
      exact aw_sub [0, 1, 2, 3, 4] rfl kx
    · rw [if_neg c2] at h
      refine aw_iload_n C 3 dX11_cameOf_14 rfl rfl ?_
      refine aw_aload_n C 0 dX11_cameOf_15 rfl rfl ?_
      obtain ⟨v3, hv3, h⟩ := bindE h
      refine aw_gR C fl_X11_127 rfl hv3 dX11_cameOf_16 ?_
      refine aw_iload C 4 dX11_cameOf_19 rfl ?_
      obtain ⟨v4, hv4, h⟩ := bindE h
      refine aw_aI C hv4 dX11_cameOf_21 ?_
      refine aw_iload_n C 1 dX11_cameOf_22 rfl rfl ?_
      obtain ⟨z13, hz13, h⟩ := bindE h
      have kj23 : AW G 5 X 0 0 59 [(0, .ref (gZ G + a0)), (1, .int x1), (2, .int x2), (4, .int x4)] [.int z13, .int x3] μ := by
        refine aw_iadd C dX11_cameOf_59 ?_
        obtain ⟨v14, ev14, h⟩ := bindS h
        refine aw_topi ev14 ?_
        refine aw_istore_n C [(3, .int v14), (0, .ref (gZ G + a0)), (1, .int x1), (2, .int x2), (4, .int x4)] dX11_cameOf_60 rfl (by decide) rfl ?_
        refine aw_iinc C (x4 + 1) 4 [(4, .int (x4 + 1)), (3, .int v14), (0, .ref (gZ G + a0)), (1, .int x1), (2, .int x2)] dX11_cameOf_61 rfl rfl (by decide) rfl ?_
        refine aw_goto C 5 dX11_cameOf_64 (by decide) ?_
        exact aw_sub [2, 3, 4, 1, 0] rfl (ih _ _ _ h kx)
      replace h := hz13
      refine aw_icmp_ne C 58 dX11_cameOf_23 (by decide) (fun c5 => ?_) (fun c5 => ?_)
      · rw [if_neg c5] at h
        refine aw_iconst C 0 dX11_cameOf_58 (by decide) ?_
        have e9 := inj1 h
        subst e9
        exact aw_sub [0, 1, 2, 4] rfl kj23
      · rw [if_pos c5] at h
        refine aw_iload_n C 2 dX11_cameOf_26 rfl rfl ?_
        refine aw_if_eq C 44 dX11_cameOf_27 (by decide) (fun c6 => ?_) (fun c6 => ?_)
        · rw [if_pos c6] at h
          refine aw_aload_n C 0 dX11_cameOf_44 rfl rfl ?_
          obtain ⟨v7, hv7, h⟩ := bindE h
          refine aw_gR C fl_X11_133 rfl hv7 dX11_cameOf_45 ?_
          refine aw_iload C 4 dX11_cameOf_48 rfl ?_
          obtain ⟨v8, hv8, h⟩ := bindE h
          refine aw_aI C hv8 dX11_cameOf_50 ?_
          refine aw_if_le C 58 dX11_cameOf_51 (by decide) (fun c9 => ?_) (fun c9 => ?_)
          · rw [if_pos c9] at h
            refine aw_iconst C 0 dX11_cameOf_58 (by decide) ?_
            have e9 := inj1 h
            subst e9
            exact aw_sub [0, 1, 2, 4] rfl kj23
          · rw [if_neg c9] at h
            refine aw_iconst C 1 dX11_cameOf_54 (by decide) ?_
            refine aw_goto C 59 dX11_cameOf_55 (by decide) ?_
            have e9 := inj1 h
            subst e9
            exact aw_sub [0, 1, 2, 4] rfl kj23
        · rw [if_neg c6] at h
          refine aw_aload_n C 0 dX11_cameOf_30 rfl rfl ?_
          obtain ⟨v10, hv10, h⟩ := bindE h
          refine aw_gR C fl_X11_133 rfl hv10 dX11_cameOf_31 ?_
          refine aw_iload C 4 dX11_cameOf_34 rfl ?_
          obtain ⟨v11, hv11, h⟩ := bindE h
          refine aw_aI C hv11 dX11_cameOf_36 ?_
          refine aw_iconst C 1 dX11_cameOf_37 (by decide) ?_
          refine aw_icmp_ne C 58 dX11_cameOf_38 (by decide) (fun c12 => ?_) (fun c12 => ?_)
          · rw [if_neg c12] at h
            refine aw_iconst C 0 dX11_cameOf_58 (by decide) ?_
            have e9 := inj1 h
            subst e9
            exact aw_sub [0, 1, 2, 4] rfl kj23
          · rw [if_pos c12] at h
            refine aw_goto C 54 dX11_cameOf_41 (by decide) ?_
            refine aw_iconst C 1 dX11_cameOf_54 (by decide) ?_
            refine aw_goto C 59 dX11_cameOf_55 (by decide) ?_
            have e9 := inj1 h
            subst e9
            exact aw_sub [0, 1, 2, 4] rfl kj23
set_option maxRecDepth 100000 in
set_option maxHeartbeats 4000000 in
theorem wk_X11_cameOf {G : GL} {X : CX} {a0 : Nat} {x1 : Int32} {x2 : Int32} {μ : Mem} {r : Int32} (C : Ctx G X cX11_cameOf 5 RX11 rm_X11_cameOf) (h : X11_cameOf a0 x1 x2 μ = some r) (hret : RtI G 5 X cX11_cameOf 0 0 r μ) : AW G 5 X 0 0 0 [(0, .ref (gZ G + a0)), (1, .int x1), (2, .int x2)] [] μ := by
  unfold X11_cameOf at h
  refine aw_iconst C 0 dX11_cameOf_0 (by decide) ?_
  refine aw_istore_n C [(3, .int 0), (0, .ref (gZ G + a0)), (1, .int x1), (2, .int x2)] dX11_cameOf_1 rfl (by decide) rfl ?_
  refine aw_iconst C 0 dX11_cameOf_2 (by decide) ?_
  refine aw_istore C [(4, .int 0), (3, .int 0), (0, .ref (gZ G + a0)), (1, .int x1), (2, .int x2)] dX11_cameOf_3 (by decide) rfl ?_
  obtain ⟨z1, hz1, h⟩ := bindE h
  refine aw_sub [2, 3, 4, 1, 0] rfl ?_
  refine X11_cameOf_L5_ok C _ _ _ _ _ _ _ _ hz1 ?_
  refine aw_iload_n C 3 dX11_cameOf_67 rfl rfl ?_
  have e9 := inj1 h
  subst e9
  exact hret _ _ dX11_cameOf_68
set_option maxRecDepth 100000 in
set_option maxHeartbeats 4000000 in
theorem mt_X11_cameOf {G : GL} {l : Launch} {a0 : Nat} {x1 : Int32} {x2 : Int32} {μ : Mem} {r : Int32} (h : X11_cameOf a0 x1 x2 μ = some r) : MtI G l yX11_cameOf cX11_cameOf 5 (some .int) rm_X11_cameOf false [.ref (gZ G + a0), .int x1, .int x2] μ r μ := met_I (by decide) rfl rfl (Nat.le_of_ble_eq_true rfl) (fun X _ C _ _ hret => wk_X11_cameOf C h hret)
set_option maxRecDepth 100000 in
set_option maxHeartbeats 4000000 in
theorem X11_choose_L5_ok {G : GL} {X : CX} (C : Ctx G X cX11_choose 5 RX11 rm_X11_choose) (x0 : Int32) (x1 : Int32) (μ : Mem) : ∀ (n : Nat) (j2 : Int64) (x4 : Int32) (z : Int64 × Int32), X11_choose_L5 x0 x1 μ n j2 x4 = some z → AW G 5 X 0 0 31 [(0, .int x0), (1, .int x1), (2, .long z.1), (4, .int z.2)] [] μ → AW G 5 X 0 0 5 [(0, .int x0), (1, .int x1), (2, .long j2), (4, .int x4)] [] μ := by
  intro n
  induction n with
  | zero =>
    intro j2 x4 z h kx
    rw [X11_choose_L5] at h
    cases h
  | succ n ih =>
    intro j2 x4 z h kx
    rw [X11_choose_L5] at h
    refine aw_iload C 3 dX11_choose_5 rfl ?_
    refine aw_iload_n C 1 dX11_choose_7 rfl rfl ?_
    refine aw_icmp_gt C 31 dX11_choose_8 (by decide) (fun c1 => ?_) (fun c1 => ?_)
    · rw [if_pos c1] at h
      have e9 := inj1 h
      subst e9
      exact aw_sub [0, 1, 2, 3] rfl kx
    · rw [if_neg c1] at h
      refine aw_lload_n C 2 dX11_choose_11 rfl rfl ?_
      refine aw_iload_n C 0 dX11_choose_12 rfl rfl ?_
      refine aw_iload C 3 dX11_choose_13 rfl ?_
      refine aw_isub C dX11_choose_15 ?_
      refine aw_iconst C 1 dX11_choose_16 (by decide) ?_
      refine aw_iadd C dX11_choose_17 ?_
      refine aw_i2l C dX11_choose_18 ?_
      refine aw_lmul C dX11_choose_19 ?_
      refine aw_iload C 3 dX11_choose_20 rfl ?_
      refine aw_i2l C dX11_choose_22 ?_
      obtain ⟨v2, hv2, h⟩ := bindE h
      refine aw_ldiv C hv2 dX11_choose_23 ?_
      refine aw_lstore_n C [(2, .long v2), (0, .int x0), (1, .int x1), (4, .int x4)] dX11_choose_24 rfl (by decide) rfl ?_
      refine aw_iinc C (x4 + 1) 3 [(4, .int (x4 + 1)), (2, .long v2), (0, .int x0), (1, .int x1)] dX11_choose_25 rfl rfl (by decide) rfl ?_
      refine aw_goto C 5 dX11_choose_28 (by decide) ?_
      exact aw_sub [2, 3, 1, 0] rfl (ih _ _ _ h kx)
set_option maxRecDepth 100000 in
set_option maxHeartbeats 4000000 in
theorem wk_X11_choose {G : GL} {X : CX} {x0 : Int32} {x1 : Int32} {μ : Mem} {r : Int64} (C : Ctx G X cX11_choose 5 RX11 rm_X11_choose) (h : X11_choose x0 x1 μ = some r) (hret : RtJ G 5 X cX11_choose 0 0 r μ) : AW G 5 X 0 0 0 [(0, .int x0), (1, .int x1)] [] μ := by
  unfold X11_choose at h
  refine aw_lconst C 1 dX11_choose_0 (by decide) ?_
  refine aw_lstore_n C [(2, .long 1), (0, .int x0), (1, .int x1)] dX11_choose_1 rfl (by decide) rfl ?_
  refine aw_iconst C 1 dX11_choose_2 (by decide) ?_
  refine aw_istore C [(4, .int 1), (2, .long 1), (0, .int x0), (1, .int x1)] dX11_choose_3 (by decide) rfl ?_
  obtain ⟨z1, hz1, h⟩ := bindE h
  refine aw_sub [2, 3, 1, 0] rfl ?_
  refine X11_choose_L5_ok C _ _ _ _ _ _ _ hz1 ?_
  refine aw_iload_n C 1 dX11_choose_31 rfl rfl ?_
  refine aw_iload_n C 0 dX11_choose_32 rfl rfl ?_
  obtain ⟨v3, ev3, h⟩ := bindS h
  have kj33 : AW G 5 X 0 0 45 [] [.long v3] μ := by
    have e9 := inj1 h
    subst e9
    exact hret _ _ dX11_choose_45
  clear h
  refine aw_icmp_gt C 40 dX11_choose_33 (by decide) (fun c2 => ?_) (fun c2 => ?_)
  · refine aw_lconst C 0 dX11_choose_40 (by decide) ?_
    refine aw_goto C 45 dX11_choose_41 (by decide) ?_
    rw [if_pos c2] at ev3
    subst ev3
    exact aw_sub [] rfl kj33
  · refine aw_iload_n C 1 dX11_choose_36 rfl rfl ?_
    refine aw_if_ge C 44 dX11_choose_37 (by decide) (fun c4 => ?_) (fun c4 => ?_)
    · refine aw_lload_n C 2 dX11_choose_44 rfl rfl ?_
      rw [if_neg c2, if_pos c4] at ev3
      subst ev3
      exact aw_sub [] rfl kj33
    · refine aw_lconst C 0 dX11_choose_40 (by decide) ?_
      refine aw_goto C 45 dX11_choose_41 (by decide) ?_
      rw [if_neg c2, if_neg c4] at ev3
      subst ev3
      exact aw_sub [] rfl kj33
set_option maxRecDepth 100000 in
set_option maxHeartbeats 4000000 in
theorem mt_X11_choose {G : GL} {l : Launch} {x0 : Int32} {x1 : Int32} {μ : Mem} {r : Int64} (h : X11_choose x0 x1 μ = some r) : MtJ G l yX11_choose cX11_choose 5 (some .long) rm_X11_choose false [.int x0, .int x1] μ r μ := met_J (by decide) rfl (Nat.le_of_ble_eq_true rfl) (fun X _ C _ _ hret => wk_X11_choose C h hret)
set_option maxRecDepth 100000 in
set_option maxHeartbeats 4000000 in
theorem X11_gcd_L6_ok {G : GL} {X : CX} (C : Ctx G X cX11_gcd 10 RX11 rm_X11_gcd) (μ : Mem) : ∀ (n : Nat) (j4 : Int64) (j6 : Int64) (z : Int64 × Int64), X11_gcd_L6 μ n j4 j6 = some z → AW G 10 X 0 0 31 [(4, .long z.1), (6, .long z.2)] [] μ → AW G 10 X 0 0 6 [(4, .long j4), (6, .long j6)] [] μ := by
  intro n
  induction n with
  | zero =>
    intro j4 j6 z h kx
    rw [X11_gcd_L6] at h
    cases h
  | succ n ih =>
    intro j4 j6 z h kx
    rw [X11_gcd_L6] at h
    refine aw_lload C 1 dX11_gcd_6 rfl ?_
    refine aw_lconst C 0 dX11_gcd_8 (by decide) ?_
    refine aw_lcmp C dX11_gcd_9 ?_
    refine aw_if_eq C 31 dX11_gcd_10 (by decide) (fun c1 => ?_) (fun c1 => ?_)
    · rw [if_pos c1] at h
      have e9 := inj1 h
      subst e9
      exact aw_sub [0, 1] rfl kx
    · rw [if_neg c1] at h
      refine aw_lload C 0 dX11_gcd_13 rfl ?_
      refine aw_lload C 1 dX11_gcd_15 rfl ?_
      obtain ⟨v2, hv2, h⟩ := bindE h
      refine aw_lrem C hv2 dX11_gcd_17 ?_
      refine aw_lstore C [(8, .long v2), (4, .long j4), (6, .long j6)] dX11_gcd_18 (by decide) rfl ?_
      refine aw_lload C 2 dX11_gcd_20 rfl ?_
      refine aw_lstore C [(4, .long j6), (8, .long v2), (6, .long j6)] dX11_gcd_22 (by decide) rfl ?_
      refine aw_lload C 1 dX11_gcd_24 rfl ?_
      refine aw_lstore C [(6, .long v2), (4, .long j6), (8, .long v2)] dX11_gcd_26 (by decide) rfl ?_
      refine aw_goto C 6 dX11_gcd_28 (by decide) ?_
      exact aw_sub [1, 0] rfl (ih _ _ _ h kx)
set_option maxRecDepth 100000 in
set_option maxHeartbeats 4000000 in
theorem wk_X11_gcd {G : GL} {X : CX} {j0 : Int64} {j2 : Int64} {μ : Mem} {r : Int64} (C : Ctx G X cX11_gcd 10 RX11 rm_X11_gcd) (h : X11_gcd j0 j2 μ = some r) (hret : RtJ G 10 X cX11_gcd 0 0 r μ) : AW G 10 X 0 0 0 [(0, .long j0), (2, .long j2)] [] μ := by
  unfold X11_gcd at h
  refine aw_lload_n C 0 dX11_gcd_0 rfl rfl ?_
  refine aw_lstore C [(4, .long j0), (0, .long j0), (2, .long j2)] dX11_gcd_1 (by decide) rfl ?_
  refine aw_lload_n C 2 dX11_gcd_3 rfl rfl ?_
  refine aw_lstore C [(6, .long j2), (4, .long j0), (0, .long j0), (2, .long j2)] dX11_gcd_4 (by decide) rfl ?_
  obtain ⟨z1, hz1, h⟩ := bindE h
  refine aw_sub [1, 0] rfl ?_
  refine X11_gcd_L6_ok C _ _ _ _ _ hz1 ?_
  refine aw_lload C 0 dX11_gcd_31 rfl ?_
  have e9 := inj1 h
  subst e9
  exact hret _ _ dX11_gcd_33
set_option maxRecDepth 100000 in
set_option maxHeartbeats 4000000 in
theorem mt_X11_gcd {G : GL} {l : Launch} {j0 : Int64} {j2 : Int64} {μ : Mem} {r : Int64} (h : X11_gcd j0 j2 μ = some r) : MtJ G l yX11_gcd cX11_gcd 10 (some .long) rm_X11_gcd false [.long j0, .long j2] μ r μ := met_J (by decide) rfl (Nat.le_of_ble_eq_true rfl) (fun X _ C _ _ hret => wk_X11_gcd C h hret)
set_option maxRecDepth 100000 in
set_option maxHeartbeats 4000000 in
theorem X11_learnt_L125_ok {G : GL} {X : CX} (C : Ctx G X cX11_learnt 14 RX11 rm_X11_learnt) (x3 : Int32) (x4 : Int32) (x5 : Int32) (x6 : Int32) (x7 : Int32) (μ : Mem) : ∀ (n : Nat) (j8 : Int64) (x10 : Int32) (z : Int64 × Int32), X11_learnt_L125 x3 x4 x5 x6 x7 μ n j8 x10 = some z → AW G 14 X 0 0 164 [(3, .int x3), (4, .int x4), (5, .int x5), (6, .int x6), (7, .int x7), (8, .long z.1), (10, .int z.2)] [] μ → AW G 14 X 0 0 125 [(3, .int x3), (4, .int x4), (5, .int x5), (6, .int x6), (7, .int x7), (8, .long j8), (10, .int x10)] [] μ := by
  intro n
  induction n with
  | zero =>
    intro j8 x10 z h kx
    rw [X11_learnt_L125] at h
    cases h
  | succ n ih =>
    intro j8 x10 z h kx
    rw [X11_learnt_L125] at h
    refine aw_iload C 6 dX11_learnt_125 rfl ?_
    refine aw_iload C 2 dX11_learnt_127 rfl ?_
    refine aw_icmp_gt C 164 dX11_learnt_129 (by decide) (fun c1 => ?_) (fun c1 => ?_)
    · rw [if_pos c1] at h
      have e9 := inj1 h
      subst e9
      exact aw_sub [0, 1, 2, 3, 4, 5, 6] rfl kx
    · rw [if_neg c1] at h
      refine aw_lload C 5 dX11_learnt_132 rfl ?_
      refine aw_iload C 2 dX11_learnt_134 rfl ?_
      refine aw_iload C 6 dX11_learnt_136 rfl ?_
      obtain ⟨v2, hv2, h⟩ := bindE h
      refine aw_cS_J C [.int x5, .int x10] _ (mt_X11_choose hv2) cs_X11_choose ml_X11_362 st_X11_choose ⟨by decide, by decide⟩ ⟨rfl, rfl⟩ ⟨Nat.zero_le _, Nat.zero_le _⟩ rfl rfl (Nat.le_of_ble_eq_true rfl) dX11_learnt_138 ?_
      refine aw_iload C 4 dX11_learnt_141 rfl ?_
      refine aw_iload C 1 dX11_learnt_143 rfl ?_
      refine aw_iload C 3 dX11_learnt_145 rfl ?_
      refine aw_iadd C dX11_learnt_147 ?_
      refine aw_iload C 6 dX11_learnt_148 rfl ?_
      refine aw_isub C dX11_learnt_150 ?_
      obtain ⟨v3, hv3, h⟩ := bindE h
      refine aw_cS_J C [.int x7, .int ((x4 + x6) - x10)] _ (mt_X11_choose hv3) cs_X11_choose ml_X11_362 st_X11_choose ⟨by decide, by decide⟩ ⟨rfl, rfl⟩ ⟨Nat.zero_le _, Nat.zero_le _⟩ rfl rfl (Nat.le_of_ble_eq_true rfl) dX11_learnt_151 ?_
      refine aw_lmul C dX11_learnt_154 ?_
      refine aw_ladd C dX11_learnt_155 ?_
      obtain ⟨v4, ev4, h⟩ := bindS h
      refine aw_topj ev4 ?_
      refine aw_lstore C [(8, .long v4), (3, .int x3), (4, .int x4), (5, .int x5), (6, .int x6), (7, .int x7), (10, .int x10)] dX11_learnt_156 (by decide) rfl ?_
      refine aw_iinc C (x10 + 1) 6 [(10, .int (x10 + 1)), (8, .long v4), (3, .int x3), (4, .int x4), (5, .int x5), (6, .int x6), (7, .int x7)] dX11_learnt_158 rfl rfl (by decide) rfl ?_
      refine aw_goto C 125 dX11_learnt_161 (by decide) ?_
      exact aw_sub [2, 3, 4, 5, 6, 1, 0] rfl (ih _ _ _ h kx)
set_option maxRecDepth 100000 in
set_option maxHeartbeats 4000000 in
theorem wk_X11_learnt {G : GL} {X : CX} {a0 : Nat} {x1 : Int32} {x2 : Int32} {x3 : Int32} {μ : Mem} {r : Int32} (C : Ctx G X cX11_learnt 14 RX11 rm_X11_learnt) (h : X11_learnt a0 x1 x2 x3 μ = some r) (hret : RtI G 14 X cX11_learnt 0 0 r μ) : AW G 14 X 0 0 0 [(0, .ref (gZ G + a0)), (1, .int x1), (2, .int x2), (3, .int x3)] [] μ := by
  unfold X11_learnt at h
  refine aw_iload_n C 1 dX11_learnt_0 rfl rfl ?_
  refine aw_cS_I C [.int x1] _ (mt_X11_isWay _) cs_X11_isWay ml_X11_214 st_X11_isWay ⟨by decide, by decide⟩ ⟨rfl, rfl⟩ ⟨Nat.zero_le _, Nat.zero_le _⟩ rfl rfl (Nat.le_of_ble_eq_true rfl) dX11_learnt_1 ?_
  refine aw_if_eq C 31 dX11_learnt_4 (by decide) (fun c1 => ?_) (fun c1 => ?_)
  · rw [if_pos c1] at h
    refine aw_sipush C ((-1002)) dX11_learnt_31 (by decide) ?_
    have e9 := inj1 h
    subst e9
    exact hret _ _ dX11_learnt_34
  · rw [if_neg c1] at h
    refine aw_iload_n C 2 dX11_learnt_7 rfl rfl ?_
    refine aw_cS_I C [.int x2] _ (mt_X11_isWay _) cs_X11_isWay ml_X11_214 st_X11_isWay ⟨by decide, by decide⟩ ⟨rfl, rfl⟩ ⟨Nat.zero_le _, Nat.zero_le _⟩ rfl rfl (Nat.le_of_ble_eq_true rfl) dX11_learnt_8 ?_
    refine aw_if_eq C 31 dX11_learnt_11 (by decide) (fun c2 => ?_) (fun c2 => ?_)
    · rw [if_pos c2] at h
      refine aw_sipush C ((-1002)) dX11_learnt_31 (by decide) ?_
      have e9 := inj1 h
      subst e9
      exact hret _ _ dX11_learnt_34
    · rw [if_neg c2] at h
      refine aw_iload_n C 1 dX11_learnt_14 rfl rfl ?_
      refine aw_iload_n C 2 dX11_learnt_15 rfl rfl ?_
      refine aw_icmp_eq C 31 dX11_learnt_16 (by decide) (fun c3 => ?_) (fun c3 => ?_)
      · rw [if_pos c3] at h
        refine aw_sipush C ((-1002)) dX11_learnt_31 (by decide) ?_
        have e9 := inj1 h
        subst e9
        exact hret _ _ dX11_learnt_34
      · rw [if_neg c3] at h
        refine aw_iload_n C 3 dX11_learnt_19 rfl rfl ?_
        refine aw_i2l C dX11_learnt_20 ?_
        refine aw_lconst C 0 dX11_learnt_21 (by decide) ?_
        refine aw_ldc2 C kl_X11_185 dX11_learnt_22 ?_
        refine aw_cS_I C [.long x3.toInt64, .long 0, .long 5] _ (mt_X11_in _ _ _) cs_X11_in ml_X11_138 st_X11_in ⟨by decide, by decide⟩ ⟨rfl, rfl⟩ ⟨Nat.zero_le _, Nat.zero_le _⟩ rfl rfl (Nat.le_of_ble_eq_true rfl) dX11_learnt_25 ?_
        refine aw_if_ne C 35 dX11_learnt_28 (by decide) (fun c4 => ?_) (fun c4 => ?_)
        · rw [if_neg c4] at h
          refine aw_aload_n C 0 dX11_learnt_35 rfl rfl ?_
          refine aw_iload_n C 1 dX11_learnt_36 rfl rfl ?_
          refine aw_iconst C 1 dX11_learnt_37 (by decide) ?_
          obtain ⟨g5, hg5, h⟩ := bindE h
          obtain ⟨v6, hv6, h⟩ := bindE h
          refine aw_cV_I C [.int x1, .int 1] _ (mt_X11_cameOf hv6) cs_X11_cameOf ml_X11_358 im_X11_cameOf se_X11_cameOf (ci := 11) rfl rfl hg5 ⟨by decide, by decide⟩ ⟨rfl, rfl⟩ ⟨Nat.zero_le _, Nat.zero_le _⟩ rfl rfl (Nat.le_of_ble_eq_true rfl) dX11_learnt_38 ?_
          refine aw_istore C [(4, .int v6), (0, .ref (gZ G + a0)), (1, .int x1), (2, .int x2), (3, .int x3)] dX11_learnt_41 (by decide) rfl ?_
          refine aw_aload_n C 1 dX11_learnt_43 rfl rfl ?_
          refine aw_iload_n C 2 dX11_learnt_44 rfl rfl ?_
          refine aw_iconst C 0 dX11_learnt_45 (by decide) ?_
          obtain ⟨g7, hg7, h⟩ := bindE h
          obtain ⟨v8, hv8, h⟩ := bindE h
          refine aw_cV_I C [.int x1, .int 0] _ (mt_X11_cameOf hv8) cs_X11_cameOf ml_X11_358 im_X11_cameOf se_X11_cameOf (ci := 11) rfl rfl hg7 ⟨by decide, by decide⟩ ⟨rfl, rfl⟩ ⟨Nat.zero_le _, Nat.zero_le _⟩ rfl rfl (Nat.le_of_ble_eq_true rfl) dX11_learnt_46 ?_
          refine aw_istore C [(5, .int v8), (4, .int v6), (0, .ref (gZ G + a0)), (1, .int x1), (2, .int x2), (3, .int x3)] dX11_learnt_49 (by decide) rfl ?_
          refine aw_aload_n C 2 dX11_learnt_51 rfl rfl ?_
          refine aw_iload_n C 4 dX11_learnt_52 rfl rfl ?_
          refine aw_iconst C 1 dX11_learnt_53 (by decide) ?_
          obtain ⟨g9, hg9, h⟩ := bindE h
          obtain ⟨v10, hv10, h⟩ := bindE h
          refine aw_cV_I C [.int x2, .int 1] _ (mt_X11_cameOf hv10) cs_X11_cameOf ml_X11_358 im_X11_cameOf se_X11_cameOf (ci := 11) rfl rfl hg9 ⟨by decide, by decide⟩ ⟨rfl, rfl⟩ ⟨Nat.zero_le _, Nat.zero_le _⟩ rfl rfl (Nat.le_of_ble_eq_true rfl) dX11_learnt_54 ?_
          refine aw_istore C [(6, .int v10), (5, .int v8), (4, .int v6), (0, .ref (gZ G + a0)), (1, .int x1), (2, .int x2), (3, .int x3)] dX11_learnt_57 (by decide) rfl ?_
          refine aw_aload_n C 3 dX11_learnt_59 rfl rfl ?_
          refine aw_iload_n C 5 dX11_learnt_60 rfl rfl ?_
          refine aw_iconst C 0 dX11_learnt_61 (by decide) ?_
          obtain ⟨g11, hg11, h⟩ := bindE h
          obtain ⟨v12, hv12, h⟩ := bindE h
          refine aw_cV_I C [.int x2, .int 0] _ (mt_X11_cameOf hv12) cs_X11_cameOf ml_X11_358 im_X11_cameOf se_X11_cameOf (ci := 11) rfl rfl hg11 ⟨by decide, by decide⟩ ⟨rfl, rfl⟩ ⟨Nat.zero_le _, Nat.zero_le _⟩ rfl rfl (Nat.le_of_ble_eq_true rfl) dX11_learnt_62 ?_
          refine aw_istore C [(7, .int v12), (6, .int v10), (5, .int v8), (4, .int v6), (0, .ref (gZ G + a0)), (1, .int x1), (2, .int x2), (3, .int x3)] dX11_learnt_65 (by decide) rfl ?_
          refine aw_iload_n C 7 dX11_learnt_67 rfl rfl ?_
          refine aw_iconst C 4 dX11_learnt_68 (by decide) ?_
          refine aw_icmp_ge C 104 dX11_learnt_69 (by decide) (fun c13 => ?_) (fun c13 => ?_)
          · rw [if_pos c13] at h
            refine aw_iload C 2 dX11_learnt_104 rfl ?_
            refine aw_iload C 0 dX11_learnt_106 rfl ?_
            refine aw_iadd C dX11_learnt_108 ?_
            refine aw_bipush C 30 dX11_learnt_109 (by decide) ?_
            refine aw_icmp_le C 118 dX11_learnt_111 (by decide) (fun c14 => ?_) (fun c14 => ?_)
            · rw [if_pos c14] at h
              refine aw_lconst C 0 dX11_learnt_118 (by decide) ?_
              refine aw_lstore C [(8, .long 0), (7, .int v12), (6, .int v10), (5, .int v8), (4, .int v6), (0, .ref (gZ G + a0)), (1, .int x1), (2, .int x2), (3, .int x3)] dX11_learnt_119 (by decide) rfl ?_
              refine aw_iload C 4 dX11_learnt_121 rfl ?_
              refine aw_istore C [(10, .int v6), (8, .long 0), (7, .int v12), (6, .int v10), (5, .int v8), (4, .int v6), (0, .ref (gZ G + a0)), (1, .int x1), (2, .int x2), (3, .int x3)] dX11_learnt_123 (by decide) rfl ?_
              obtain ⟨z15, hz15, h⟩ := bindE h
              refine aw_sub [9, 5, 4, 3, 2, 1, 0] rfl ?_
              refine X11_learnt_L125_ok C _ _ _ _ _ _ _ _ _ _ hz15 ?_
              refine aw_iload C 2 dX11_learnt_164 rfl ?_
              refine aw_iload C 4 dX11_learnt_166 rfl ?_
              refine aw_iadd C dX11_learnt_168 ?_
              refine aw_iload C 1 dX11_learnt_169 rfl ?_
              refine aw_iload C 3 dX11_learnt_171 rfl ?_
              refine aw_iadd C dX11_learnt_173 ?_
              obtain ⟨v16, hv16, h⟩ := bindE h
              refine aw_cS_J C [.int (v8 + v12), .int (v6 + v10)] _ (mt_X11_choose hv16) cs_X11_choose ml_X11_362 st_X11_choose ⟨by decide, by decide⟩ ⟨rfl, rfl⟩ ⟨Nat.zero_le _, Nat.zero_le _⟩ rfl rfl (Nat.le_of_ble_eq_true rfl) dX11_learnt_174 ?_
              refine aw_lstore C [(10, .long v16), (3, .int x3), (4, .int v6), (5, .int v8), (6, .int v10), (7, .int v12), (8, .long z15.1)] dX11_learnt_177 (by decide) rfl ?_
              refine aw_lload C 6 dX11_learnt_179 rfl ?_
              refine aw_lload C 0 dX11_learnt_181 rfl ?_
              obtain ⟨v17, hv17, h⟩ := bindE h
              refine aw_cS_J C [.long z15.1, .long v16] _ (mt_X11_gcd hv17) cs_X11_gcd ml_X11_366 st_X11_gcd ⟨by decide, by decide⟩ ⟨rfl, rfl⟩ ⟨Nat.zero_le _, Nat.zero_le _⟩ rfl rfl (Nat.le_of_ble_eq_true rfl) dX11_learnt_183 ?_
              refine aw_lstore C [(12, .long v17), (10, .long v16), (3, .int x3), (4, .int v6), (5, .int v8), (6, .int v10), (7, .int v12), (8, .long z15.1)] dX11_learnt_186 (by decide) rfl ?_
              refine aw_iload_n C 2 dX11_learnt_188 rfl rfl ?_
              refine aw_iconst C 4 dX11_learnt_189 (by decide) ?_
              obtain ⟨z21, hz21, h⟩ := bindE h
              have kj190 : AW G 14 X 0 0 206 [] [.long z21] μ := by
                refine aw_l2i C dX11_learnt_206 ?_
                have e9 := inj1 h
                subst e9
                exact hret _ _ dX11_learnt_207
              replace h := hz21
              refine aw_icmp_ne C 201 dX11_learnt_190 (by decide) (fun c18 => ?_) (fun c18 => ?_)
              · rw [if_neg c18] at h
                refine aw_lload C 1 dX11_learnt_201 rfl ?_
                refine aw_lload C 0 dX11_learnt_203 rfl ?_
                obtain ⟨v19, hv19, h⟩ := bindE h
                refine aw_ldiv C hv19 dX11_learnt_205 ?_
                have e9 := inj1 h
                subst e9
                exact aw_sub [] rfl kj190
              · rw [if_pos c18] at h
                refine aw_lload C 7 dX11_learnt_193 rfl ?_
                refine aw_lload C 0 dX11_learnt_195 rfl ?_
                obtain ⟨v20, hv20, h⟩ := bindE h
                refine aw_ldiv C hv20 dX11_learnt_197 ?_
                refine aw_goto C 206 dX11_learnt_198 (by decide) ?_
                have e9 := inj1 h
                subst e9
                exact aw_sub [] rfl kj190
            · rw [if_neg c14] at h
              refine aw_sipush C ((-1003)) dX11_learnt_114 (by decide) ?_
              have e9 := inj1 h
              subst e9
              exact hret _ _ dX11_learnt_117
          · rw [if_neg c13] at h
            refine aw_iload_n C 7 dX11_learnt_72 rfl rfl ?_
            obtain ⟨v23, ev23, h⟩ := bindS h
            have kj73 : AW G 14 X 0 0 103 [] [.int v23] μ := by
              have e9 := inj1 h
              subst e9
              exact hret _ _ dX11_learnt_103
            clear h
            refine aw_if_ne C 81 dX11_learnt_73 (by decide) (fun c22 => ?_) (fun c22 => ?_)
            · refine aw_iload_n C 7 dX11_learnt_81 rfl rfl ?_
              refine aw_iconst C 1 dX11_learnt_82 (by decide) ?_
              refine aw_icmp_ne C 91 dX11_learnt_83 (by decide) (fun c24 => ?_) (fun c24 => ?_)
              · refine aw_iload_n C 7 dX11_learnt_91 rfl rfl ?_
                refine aw_iconst C 2 dX11_learnt_92 (by decide) ?_
                refine aw_icmp_ne C 101 dX11_learnt_93 (by decide) (fun c25 => ?_) (fun c25 => ?_)
                · refine aw_iload C 0 dX11_learnt_101 rfl ?_
                  rw [if_neg c22, if_neg c24, if_neg c25] at ev23
                  subst ev23
                  exact aw_sub [] rfl kj73
                · refine aw_iload C 1 dX11_learnt_96 rfl ?_
                  refine aw_goto C 103 dX11_learnt_98 (by decide) ?_
                  rw [if_neg c22, if_neg c24, if_pos c25] at ev23
                  subst ev23
                  exact aw_sub [] rfl kj73
              · refine aw_iload C 2 dX11_learnt_86 rfl ?_
                refine aw_goto C 103 dX11_learnt_88 (by decide) ?_
                rw [if_neg c22, if_pos c24] at ev23
                subst ev23
                exact aw_sub [] rfl kj73
            · refine aw_iload C 3 dX11_learnt_76 rfl ?_
              refine aw_goto C 103 dX11_learnt_78 (by decide) ?_
              rw [if_pos c22] at ev23
              subst ev23
              exact aw_sub [] rfl kj73
        · rw [if_pos c4] at h
          refine aw_sipush C ((-1002)) dX11_learnt_31 (by decide) ?_
          have e9 := inj1 h
          subst e9
          exact hret _ _ dX11_learnt_34
set_option maxRecDepth 100000 in
set_option maxHeartbeats 4000000 in
theorem mt_X11_learnt {G : GL} {l : Launch} {a0 : Nat} {x1 : Int32} {x2 : Int32} {x3 : Int32} {μ : Mem} {r : Int32} (h : X11_learnt a0 x1 x2 x3 μ = some r) : MtI G l yX11_learnt cX11_learnt 14 (some .int) rm_X11_learnt false [.ref (gZ G + a0), .int x1, .int x2, .int x3] μ r μ := met_I (by decide) rfl rfl (Nat.le_of_ble_eq_true rfl) (fun X _ C _ _ hret => wk_X11_learnt C h hret)
set_option maxRecDepth 100000 in
set_option maxHeartbeats 4000000 in
theorem X11_who_L31_ok {G : GL} {X : CX} (C : Ctx G X cX11_who 9 RX11 rm_X11_who) (a0 : Nat) (x1 : Int32) (x2 : Int32) (μ : Mem) : ∀ (n : Nat) (x3 : Int32) (x4 : Int32) (z : Int32 × Int32), X11_who_L31 a0 x1 x2 μ n x3 x4 = some z → AW G 9 X 0 0 77 [(0, .ref (gZ G + a0)), (1, .int x1), (2, .int x2), (3, .int z.1), (4, .int z.2)] [] μ → AW G 9 X 0 0 31 [(0, .ref (gZ G + a0)), (1, .int x1), (2, .int x2), (3, .int x3), (4, .int x4)] [] μ := by
  intro n
  induction n with
  | zero =>
    intro x3 x4 z h kx
    rw [X11_who_L31] at h
    cases h
  | succ n ih =>
    intro x3 x4 z h kx
    rw [X11_who_L31] at h
    refine aw_iload C 4 dX11_who_31 rfl ?_
    refine aw_aload_n C 0 dX11_who_33 rfl rfl ?_
    obtain ⟨v1, hv1, h⟩ := bindE h
    refine aw_gI C fl_X11_195 rfl hv1 dX11_who_34 ?_
    refine aw_icmp_ge C 77 dX11_who_37 (by decide) (fun c2 => ?_) (fun c2 => ?_)
    · rw [if_pos c2] at h
      have e9 := inj1 h
      subst e9
      exact aw_sub [0, 1, 2, 3, 4] rfl kx
    · rw [if_neg c2] at h
      refine aw_iload_n C 3 dX11_who_40 rfl rfl ?_
      refine aw_aload_n C 0 dX11_who_41 rfl rfl ?_
      obtain ⟨v3, hv3, h⟩ := bindE h
      refine aw_gR C fl_X11_124 rfl hv3 dX11_who_42 ?_
      refine aw_iload C 4 dX11_who_45 rfl ?_
      obtain ⟨v4, hv4, h⟩ := bindE h
      refine aw_aI C hv4 dX11_who_47 ?_
      refine aw_iload_n C 1 dX11_who_48 rfl rfl ?_
      refine aw_ishr C dX11_who_49 ?_
      refine aw_iconst C 1 dX11_who_50 (by decide) ?_
      refine aw_iand C dX11_who_51 ?_
      refine aw_iconst C 1 dX11_who_52 (by decide) ?_
      obtain ⟨z8, hz8, h⟩ := bindE h
      have kj53 : AW G 9 X 0 0 69 [(0, .ref (gZ G + a0)), (1, .int x1), (2, .int x2), (4, .int x4)] [.int z8, .int x3] μ := by
        refine aw_ior C dX11_who_69 ?_
        obtain ⟨v9, ev9, h⟩ := bindS h
        refine aw_topi ev9 ?_
        refine aw_istore_n C [(3, .int v9), (0, .ref (gZ G + a0)), (1, .int x1), (2, .int x2), (4, .int x4)] dX11_who_70 rfl (by decide) rfl ?_
        refine aw_iinc C (x4 + 1) 4 [(4, .int (x4 + 1)), (3, .int v9), (0, .ref (gZ G + a0)), (1, .int x1), (2, .int x2)] dX11_who_71 rfl rfl (by decide) rfl ?_
        refine aw_goto C 31 dX11_who_74 (by decide) ?_
        exact aw_sub [2, 3, 4, 1, 0] rfl (ih _ _ _ h kx)
      replace h := hz8
      refine aw_icmp_ne C 68 dX11_who_53 (by decide) (fun c5 => ?_) (fun c5 => ?_)
      · rw [if_neg c5] at h
        refine aw_iconst C 0 dX11_who_68 (by decide) ?_
        have e9 := inj1 h
        subst e9
        exact aw_sub [0, 1, 2, 4] rfl kj53
      · rw [if_pos c5] at h
        refine aw_iconst C 1 dX11_who_56 (by decide) ?_
        refine aw_aload_n C 0 dX11_who_57 rfl rfl ?_
        obtain ⟨v6, hv6, h⟩ := bindE h
        refine aw_gR C fl_X11_121 rfl hv6 dX11_who_58 ?_
        refine aw_iload C 4 dX11_who_61 rfl ?_
        obtain ⟨v7, hv7, h⟩ := bindE h
        refine aw_aI C hv7 dX11_who_63 ?_
        refine aw_ishl C dX11_who_64 ?_
        refine aw_goto C 69 dX11_who_65 (by decide) ?_
        have e9 := inj1 h
        subst e9
        exact aw_sub [0, 1, 2, 4] rfl kj53
set_option maxRecDepth 100000 in
set_option maxHeartbeats 4000000 in
theorem X11_who_L111_ok {G : GL} {X : CX} (C : Ctx G X cX11_who 9 RX11 rm_X11_who) (a0 : Nat) (x4 : Int32) : ∀ (n : Nat) (x5 : Int32) (x6 : Int32) (x7 : Int32) (μ : Mem) (z : Int32 × Int32 × Int32 × Mem), X11_who_L111 a0 x4 n x5 x6 x7 μ = some z → AW G 9 X 0 0 166 [(0, .ref (gZ G + a0)), (4, .int x4), (5, .int z.1), (6, .int z.2.1), (7, .int z.2.2.1)] [] z.2.2.2 → AW G 9 X 0 0 111 [(0, .ref (gZ G + a0)), (4, .int x4), (5, .int x5), (6, .int x6), (7, .int x7)] [] μ := by
  intro n
  induction n with
  | zero =>
    intro x5 x6 x7 μ z h kx
    rw [X11_who_L111] at h
    cases h
  | succ n ih =>
    intro x5 x6 x7 μ z h kx
    rw [X11_who_L111] at h
    refine aw_iload C 4 dX11_who_111 rfl ?_
    refine aw_iconst C 4 dX11_who_113 (by decide) ?_
    refine aw_icmp_ge C 166 dX11_who_114 (by decide) (fun c1 => ?_) (fun c1 => ?_)
    · rw [if_pos c1] at h
      have e9 := inj1 h
      subst e9
      exact aw_sub [0, 1, 2, 3, 4] rfl kx
    · rw [if_neg c1] at h
      refine aw_iload C 1 dX11_who_117 rfl ?_
      refine aw_iload C 4 dX11_who_119 rfl ?_
      refine aw_ishr C dX11_who_121 ?_
      refine aw_iconst C 1 dX11_who_122 (by decide) ?_
      refine aw_iand C dX11_who_123 ?_
      refine aw_iconst C 1 dX11_who_124 (by decide) ?_
      obtain ⟨z6, hz6, h⟩ := bindE h
      have kj125 : AW G 9 X 0 0 143 [(0, .ref (gZ G + a0)), (4, .int x4), (5, .int x5), (6, .int x6), (7, .int x7)] [.int z6.1] z6.2 := by
        refine aw_istore C [(8, .int z6.1), (0, .ref (gZ G + a0)), (4, .int x4), (5, .int x5), (6, .int x6), (7, .int x7)] dX11_who_143 (by decide) rfl ?_
        refine aw_iload C 0 dX11_who_145 rfl ?_
        refine aw_iload C 4 dX11_who_147 rfl ?_
        obtain ⟨v8, ev8, h⟩ := bindS h
        obtain ⟨v9, ev9, h⟩ := bindS h
        have kj149 : AW G 9 X 0 0 160 [(0, .ref (gZ G + a0)), (4, .int x4), (5, .int v8), (6, .int v9), (7, .int x7)] [] z6.2 := by
          refine aw_iinc C (x7 + 1) 4 [(7, .int (x7 + 1)), (0, .ref (gZ G + a0)), (4, .int x4), (5, .int v8), (6, .int v9)] dX11_who_160 rfl rfl (by decide) rfl ?_
          refine aw_goto C 111 dX11_who_163 (by decide) ?_
          exact aw_sub [1, 2, 3, 4, 0] rfl (ih _ _ _ _ _ h kx)
        clear h
        refine aw_icmp_le C 160 dX11_who_149 (by decide) (fun c7 => ?_) (fun c7 => ?_)
        · rw [if_pos c7] at ev8
          subst ev8
          rw [if_pos c7] at ev9
          subst ev9
          exact aw_sub [1, 2, 3, 4, 5] rfl kj149
        · refine aw_iload C 5 dX11_who_152 rfl ?_
          refine aw_istore C [(5, .int x7), (8, .int z6.1), (0, .ref (gZ G + a0)), (4, .int x4), (6, .int x6), (7, .int x7)] dX11_who_154 (by decide) rfl ?_
          refine aw_iload C 1 dX11_who_156 rfl ?_
          refine aw_istore C [(6, .int z6.1), (5, .int x7), (8, .int z6.1), (0, .ref (gZ G + a0)), (4, .int x4), (7, .int x7)] dX11_who_158 (by decide) rfl ?_
          rw [if_neg c7] at ev8
          subst ev8
          rw [if_neg c7] at ev9
          subst ev9
          exact aw_sub [3, 4, 1, 0, 5] rfl kj149
      replace h := hz6
      refine aw_icmp_ne C 142 dX11_who_125 (by decide) (fun c2 => ?_) (fun c2 => ?_)
      · rw [if_neg c2] at h
        refine aw_iconst C ((-1)) dX11_who_142 (by decide) ?_
        have e9 := inj1 h
        subst e9
        exact aw_sub [0, 1, 2, 3, 4] rfl kj125
      · rw [if_pos c2] at h
        refine aw_aload_n C 0 dX11_who_128 rfl rfl ?_
        refine aw_iload C 4 dX11_who_129 rfl ?_
        refine aw_aload_n C 0 dX11_who_131 rfl rfl ?_
        obtain ⟨v3, hv3, h⟩ := bindE h
        refine aw_gI C fl_X11_158 rfl hv3 dX11_who_132 ?_
        refine aw_iconst C 0 dX11_who_135 (by decide) ?_
        obtain ⟨g4, hg4, h⟩ := bindE h
        obtain ⟨z5, hz5, h⟩ := bindE h
        refine aw_cV_I C [.int x7, .int v3, .int 0] _ (mt_X11_seamOdds hz5) cs_X11_seamOdds ml_X11_179 im_X11_seamOdds se_X11_seamOdds (ci := 11) rfl rfl hg4 ⟨by decide, by decide⟩ ⟨rfl, rfl⟩ ⟨Nat.zero_le _, Nat.zero_le _⟩ rfl rfl (Nat.le_of_ble_eq_true rfl) dX11_who_136 ?_
        refine aw_goto C 143 dX11_who_139 (by decide) ?_
        have e9 := inj1 h
        subst e9
        exact aw_sub [0, 1, 2, 3, 4] rfl kj125
set_option maxRecDepth 100000 in
set_option maxHeartbeats 4000000 in
theorem wk_X11_who {G : GL} {X : CX} {a0 : Nat} {x1 : Int32} {x2 : Int32} {μ : Mem} {r : Int32} {μ' : Mem} (C : Ctx G X cX11_who 9 RX11 rm_X11_who) (h : X11_who a0 x1 x2 μ = some (r, μ')) (hret : RtI G 9 X cX11_who 0 0 r μ') : AW G 9 X 0 0 0 [(0, .ref (gZ G + a0)), (1, .int x1), (2, .int x2)] [] μ := by
  unfold X11_who at h
  refine aw_aload_n C 0 dX11_who_0 rfl rfl ?_
  refine aw_iload_n C 1 dX11_who_1 rfl rfl ?_
  obtain ⟨g1, hg1, h⟩ := bindE h
  obtain ⟨v2, hv2, h⟩ := bindE h
  refine aw_cV_I C [.int x1] _ (mt_X11_isThing hv2) cs_X11_isThing ml_X11_198 im_X11_isThing se_X11_isThing (ci := 11) rfl rfl hg1 ⟨by decide, by decide⟩ ⟨rfl, rfl⟩ ⟨Nat.zero_le _, Nat.zero_le _⟩ rfl rfl (Nat.le_of_ble_eq_true rfl) dX11_who_2 ?_
  refine aw_if_ne C 12 dX11_who_5 (by decide) (fun c3 => ?_) (fun c3 => ?_)
  · rw [if_neg c3] at h
    refine aw_iload_n C 2 dX11_who_12 rfl rfl ?_
    refine aw_i2l C dX11_who_13 ?_
    refine aw_lconst C 0 dX11_who_14 (by decide) ?_
    refine aw_lconst C 1 dX11_who_15 (by decide) ?_
    refine aw_cS_I C [.long x2.toInt64, .long 0, .long 1] _ (mt_X11_in _ _ _) cs_X11_in ml_X11_138 st_X11_in ⟨by decide, by decide⟩ ⟨rfl, rfl⟩ ⟨Nat.zero_le _, Nat.zero_le _⟩ rfl rfl (Nat.le_of_ble_eq_true rfl) dX11_who_16 ?_
    refine aw_if_ne C 26 dX11_who_19 (by decide) (fun c4 => ?_) (fun c4 => ?_)
    · rw [if_neg c4] at h
      refine aw_iconst C 0 dX11_who_26 (by decide) ?_
      refine aw_istore_n C [(3, .int 0), (0, .ref (gZ G + a0)), (1, .int x1), (2, .int x2)] dX11_who_27 rfl (by decide) rfl ?_
      refine aw_iconst C 0 dX11_who_28 (by decide) ?_
      refine aw_istore C [(4, .int 0), (3, .int 0), (0, .ref (gZ G + a0)), (1, .int x1), (2, .int x2)] dX11_who_29 (by decide) rfl ?_
      obtain ⟨z5, hz5, h⟩ := bindE h
      refine aw_sub [2, 3, 4, 1, 0] rfl ?_
      refine X11_who_L31_ok C _ _ _ _ _ _ _ _ hz5 ?_
      refine aw_iload_n C 2 dX11_who_77 rfl rfl ?_
      obtain ⟨z11, hz11, h⟩ := bindE h
      have kj78 : AW G 9 X 0 0 100 [(0, .ref (gZ G + a0))] [.int z11] μ := by
        refine aw_istore C [(4, .int z11), (0, .ref (gZ G + a0))] dX11_who_100 (by decide) rfl ?_
        refine aw_iconst C ((-1)) dX11_who_102 (by decide) ?_
        refine aw_istore C [(5, .int ((-1))), (4, .int z11), (0, .ref (gZ G + a0))] dX11_who_103 (by decide) rfl ?_
        refine aw_iconst C ((-1)) dX11_who_105 (by decide) ?_
        refine aw_istore C [(6, .int ((-1))), (5, .int ((-1))), (4, .int z11), (0, .ref (gZ G + a0))] dX11_who_106 (by decide) rfl ?_
        refine aw_iconst C 0 dX11_who_108 (by decide) ?_
        refine aw_istore C [(7, .int 0), (6, .int ((-1))), (5, .int ((-1))), (4, .int z11), (0, .ref (gZ G + a0))] dX11_who_109 (by decide) rfl ?_
        obtain ⟨z12, hz12, h⟩ := bindE h
        refine aw_sub [4, 3, 2, 1, 0] rfl ?_
        refine X11_who_L111_ok C _ _ _ _ _ _ _ _ hz12 ?_
        refine aw_iload C 2 dX11_who_166 rfl ?_
        obtain ⟨e8, e9⟩ := inj2 h
        subst e8
        subst e9
        exact hret _ _ dX11_who_168
      replace h := hz11
      refine aw_if_ne C 90 dX11_who_78 (by decide) (fun c6 => ?_) (fun c6 => ?_)
      · rw [if_neg c6] at h
        refine aw_aload_n C 0 dX11_who_90 rfl rfl ?_
        obtain ⟨v7, hv7, h⟩ := bindE h
        refine aw_gR C fl_X11_41 rfl hv7 dX11_who_91 ?_
        refine aw_iload_n C 1 dX11_who_94 rfl rfl ?_
        obtain ⟨v8, hv8, h⟩ := bindE h
        refine aw_aI C hv8 dX11_who_95 ?_
        refine aw_iload_n C 3 dX11_who_96 rfl rfl ?_
        refine aw_iconst C ((-1)) dX11_who_97 (by decide) ?_
        refine aw_ixor C dX11_who_98 ?_
        refine aw_iand C dX11_who_99 ?_
        have e9 := inj1 h
        subst e9
        exact aw_sub [0] rfl kj78
      · rw [if_pos c6] at h
        refine aw_aload_n C 0 dX11_who_81 rfl rfl ?_
        obtain ⟨v9, hv9, h⟩ := bindE h
        refine aw_gR C fl_X11_41 rfl hv9 dX11_who_82 ?_
        refine aw_iload_n C 1 dX11_who_85 rfl rfl ?_
        obtain ⟨v10, hv10, h⟩ := bindE h
        refine aw_aI C hv10 dX11_who_86 ?_
        refine aw_goto C 100 dX11_who_87 (by decide) ?_
        have e9 := inj1 h
        subst e9
        exact aw_sub [0] rfl kj78
    · rw [if_pos c4] at h
      refine aw_sipush C ((-1002)) dX11_who_22 (by decide) ?_
      obtain ⟨e8, e9⟩ := inj2 h
      subst e8
      subst e9
      exact hret _ _ dX11_who_25
  · rw [if_pos c3] at h
    refine aw_sipush C ((-1001)) dX11_who_8 (by decide) ?_
    obtain ⟨e8, e9⟩ := inj2 h
    subst e8
    subst e9
    exact hret _ _ dX11_who_11
set_option maxRecDepth 100000 in
set_option maxHeartbeats 4000000 in
theorem mt_X11_who {G : GL} {l : Launch} {a0 : Nat} {x1 : Int32} {x2 : Int32} {μ : Mem} {r : Int32} {μ' : Mem} (h : X11_who a0 x1 x2 μ = some (r, μ')) : MtI G l yX11_who cX11_who 9 (some .int) rm_X11_who false [.ref (gZ G + a0), .int x1, .int x2] μ r μ' := met_I (by decide) rfl rfl (Nat.le_of_ble_eq_true rfl) (fun X _ C _ _ hret => wk_X11_who C h hret)
set_option maxRecDepth 100000 in
set_option maxHeartbeats 4000000 in
theorem X11_tried_L99_ok {G : GL} {X : CX} (C : Ctx G X cX11_tried 15 RX11 rm_X11_tried) (a0 : Nat) (x1 : Int32) (x2 : Int32) (x3 : Int32) (x4 : Int32) (x8 : Int32) (x10 : Int32) (x11 : Int32) (μ : Mem) : ∀ (n : Nat) (x5 : Int32) (x6 : Int32) (x7 : Int32) (x9 : Int32) (x12 : Int32) (x13 : Int32) (z : Int32 × Int32 × Int32 × Int32 × Int32 × Int32), X11_tried_L99 a0 x1 x2 x3 x4 x8 x10 x11 μ n x5 x6 x7 x9 x12 x13 = some z → AW G 15 X 0 0 241 [(0, .ref (gZ G + a0)), (1, .int x1), (2, .int x2), (3, .int x3), (4, .int x4), (5, .int z.1), (6, .int z.2.1), (7, .int z.2.2.1), (8, .int x8), (9, .int z.2.2.2.1), (10, .int x10), (11, .int x11), (12, .int z.2.2.2.2.1), (13, .int z.2.2.2.2.2)] [] μ → AW G 15 X 0 0 99 [(0, .ref (gZ G + a0)), (1, .int x1), (2, .int x2), (3, .int x3), (4, .int x4), (5, .int x5), (6, .int x6), (7, .int x7), (8, .int x8), (9, .int x9), (10, .int x10), (11, .int x11), (12, .int x12), (13, .int x13)] [] μ := by
  intro n
  induction n with
  | zero =>
    intro x5 x6 x7 x9 x12 x13 z h kx
    rw [X11_tried_L99] at h
    cases h
  | succ n ih =>
    intro x5 x6 x7 x9 x12 x13 z h kx
    rw [X11_tried_L99] at h
    refine aw_iload C 13 dX11_tried_99 rfl ?_
    refine aw_aload_n C 0 dX11_tried_101 rfl rfl ?_
    obtain ⟨v1, hv1, h⟩ := bindE h
    refine aw_gI C fl_X11_182 rfl hv1 dX11_tried_102 ?_
    refine aw_icmp_ge C 241 dX11_tried_105 (by decide) (fun c2 => ?_) (fun c2 => ?_)
    · rw [if_pos c2] at h
      have e9 := inj1 h
      subst e9
      exact aw_sub [0, 1, 2, 3, 4, 5, 6, 7, 8, 9, 10, 11, 12, 13] rfl kx
    · rw [if_neg c2] at h
      refine aw_aload_n C 0 dX11_tried_108 rfl rfl ?_
      obtain ⟨v3, hv3, h⟩ := bindE h
      refine aw_gR C fl_X11_41 rfl hv3 dX11_tried_109 ?_
      refine aw_iload C 13 dX11_tried_112 rfl ?_
      obtain ⟨v4, hv4, h⟩ := bindE h
      refine aw_aI C hv4 dX11_tried_114 ?_
      refine aw_iload_n C 1 dX11_tried_115 rfl rfl ?_
      refine aw_ishr C dX11_tried_116 ?_
      refine aw_iconst C 1 dX11_tried_117 (by decide) ?_
      refine aw_iand C dX11_tried_118 ?_
      refine aw_iconst C 1 dX11_tried_119 (by decide) ?_
      obtain ⟨z10, hz10, h⟩ := bindE h
      have kj120 : AW G 15 X 0 0 150 [(0, .ref (gZ G + a0)), (1, .int x1), (2, .int x2), (3, .int x3), (4, .int x4), (5, .int x5), (6, .int x6), (7, .int x7), (8, .int x8), (9, .int x9), (10, .int x10), (11, .int x11), (12, .int x12), (13, .int x13)] [.int z10] μ := by
        refine aw_istore C [(14, .int z10), (0, .ref (gZ G + a0)), (1, .int x1), (2, .int x2), (3, .int x3), (4, .int x4), (5, .int x5), (6, .int x6), (7, .int x7), (8, .int x8), (9, .int x9), (10, .int x10), (11, .int x11), (12, .int x12), (13, .int x13)] dX11_tried_150 (by decide) rfl ?_
        refine aw_iload C 0 dX11_tried_152 rfl ?_
        obtain ⟨z31, hz31, h⟩ := bindE h
        have kj154 : AW G 15 X 0 0 235 [(0, .ref (gZ G + a0)), (1, .int x1), (2, .int x2), (3, .int x3), (4, .int x4), (5, .int z31.1), (6, .int z31.2.1), (7, .int z31.2.2.1), (8, .int x8), (9, .int z31.2.2.2.1), (10, .int x10), (11, .int x11), (12, .int z31.2.2.2.2), (13, .int x13)] [] μ := by
          refine aw_iinc C (x13 + 1) 13 [(13, .int (x13 + 1)), (0, .ref (gZ G + a0)), (1, .int x1), (2, .int x2), (3, .int x3), (4, .int x4), (5, .int z31.1), (6, .int z31.2.1), (7, .int z31.2.2.1), (8, .int x8), (9, .int z31.2.2.2.1), (10, .int x10), (11, .int x11), (12, .int z31.2.2.2.2)] dX11_tried_235 rfl rfl (by decide) rfl ?_
          refine aw_goto C 99 dX11_tried_238 (by decide) ?_
          exact aw_sub [1, 2, 3, 4, 5, 6, 7, 8, 9, 10, 11, 12, 13, 0] rfl (ih _ _ _ _ _ _ _ h kx)
        replace h := hz31
        refine aw_if_eq C 235 dX11_tried_154 (by decide) (fun c11 => ?_) (fun c11 => ?_)
        · rw [if_pos c11] at h
          have e9 := inj1 h
          subst e9
          exact aw_sub [1, 2, 3, 4, 5, 6, 7, 8, 9, 10, 11, 12, 13, 14] rfl kj154
        · rw [if_neg c11] at h
          refine aw_iload C 12 dX11_tried_157 rfl ?_
          refine aw_if_ne C 183 dX11_tried_159 (by decide) (fun c12 => ?_) (fun c12 => ?_)
          · rw [if_neg c12] at h
            refine aw_iload C 6 dX11_tried_183 rfl ?_
            refine aw_iconst C 1 dX11_tried_185 (by decide) ?_
            refine aw_iload C 14 dX11_tried_186 rfl ?_
            refine aw_ishl C dX11_tried_188 ?_
            refine aw_ior C dX11_tried_189 ?_
            refine aw_istore C [(5, .int (x5 ||| (1 <<< (x13 &&& 31)))), (14, .int z10), (0, .ref (gZ G + a0)), (1, .int x1), (2, .int x2), (3, .int x3), (4, .int x4), (6, .int x6), (7, .int x7), (8, .int x8), (9, .int x9), (10, .int x10), (11, .int x11), (12, .int x12), (13, .int x13)] dX11_tried_190 (by decide) rfl ?_
            refine aw_iload C 7 dX11_tried_192 rfl ?_
            refine aw_iload C 11 dX11_tried_194 rfl ?_
            refine aw_aload_n C 2 dX11_tried_196 rfl rfl ?_
            obtain ⟨v13, hv13, h⟩ := bindE h
            refine aw_gR C fl_X11_59 rfl hv13 dX11_tried_197 ?_
            refine aw_iload C 14 dX11_tried_200 rfl ?_
            obtain ⟨v14, hv14, h⟩ := bindE h
            refine aw_aI C hv14 dX11_tried_202 ?_
            obtain ⟨v16, ev16, h⟩ := bindS h
            have kj203 : AW G 15 X 0 0 211 [(0, .ref (gZ G + a0)), (1, .int x1), (2, .int x2), (3, .int x3), (4, .int x4), (5, .int (x5 ||| (1 <<< (x13 &&& 31)))), (7, .int x7), (8, .int x8), (9, .int x9), (10, .int x10), (11, .int x11), (13, .int x13)] [.int v16, .int x6] μ := by
              refine aw_iadd C dX11_tried_211 ?_
              refine aw_istore C [(6, .int (x6 + v16)), (0, .ref (gZ G + a0)), (1, .int x1), (2, .int x2), (3, .int x3), (4, .int x4), (5, .int (x5 ||| (1 <<< (x13 &&& 31)))), (7, .int x7), (8, .int x8), (9, .int x9), (10, .int x10), (11, .int x11), (13, .int x13)] dX11_tried_212 (by decide) rfl ?_
              refine aw_iload C 7 dX11_tried_214 rfl ?_
              refine aw_iload C 10 dX11_tried_216 rfl ?_
              refine aw_aload_n C 1 dX11_tried_218 rfl rfl ?_
              obtain ⟨v17, hv17, h⟩ := bindE h
              refine aw_gR C fl_X11_62 rfl hv17 dX11_tried_219 ?_
              refine aw_iload C 12 dX11_tried_222 rfl ?_
              obtain ⟨v18, hv18, h⟩ := bindE h
              refine aw_aI C hv18 dX11_tried_224 ?_
              refine aw_isub C dX11_tried_225 ?_
              refine aw_iadd C dX11_tried_226 ?_
              refine aw_istore C [(7, .int (x7 + (x10 - v18))), (6, .int (x6 + v16)), (0, .ref (gZ G + a0)), (1, .int x1), (2, .int x2), (3, .int x3), (4, .int x4), (5, .int (x5 ||| (1 <<< (x13 &&& 31)))), (8, .int x8), (9, .int x9), (10, .int x10), (11, .int x11), (13, .int x13)] dX11_tried_227 (by decide) rfl ?_
              refine aw_iinc C (x9 + 1) 9 [(9, .int (x9 + 1)), (7, .int (x7 + (x10 - v18))), (6, .int (x6 + v16)), (0, .ref (gZ G + a0)), (1, .int x1), (2, .int x2), (3, .int x3), (4, .int x4), (5, .int (x5 ||| (1 <<< (x13 &&& 31)))), (8, .int x8), (10, .int x10), (11, .int x11), (13, .int x13)] dX11_tried_229 rfl rfl (by decide) rfl ?_
              refine aw_iconst C 1 dX11_tried_232 (by decide) ?_
              refine aw_istore C [(12, .int 1), (9, .int (x9 + 1)), (7, .int (x7 + (x10 - v18))), (6, .int (x6 + v16)), (0, .ref (gZ G + a0)), (1, .int x1), (2, .int x2), (3, .int x3), (4, .int x4), (5, .int (x5 ||| (1 <<< (x13 &&& 31)))), (8, .int x8), (10, .int x10), (11, .int x11), (13, .int x13)] dX11_tried_233 (by decide) rfl ?_
              have e9 := inj1 h
              subst e9
              exact aw_sub [4, 5, 6, 7, 8, 9, 3, 2, 10, 1, 11, 12, 0, 13] rfl kj154
            clear h
            refine aw_icmp_le C 210 dX11_tried_203 (by decide) (fun c15 => ?_) (fun c15 => ?_)
            · refine aw_iconst C 0 dX11_tried_210 (by decide) ?_
              rw [if_pos c15] at ev16
              subst ev16
              exact aw_sub [2, 3, 4, 5, 6, 0, 8, 9, 10, 11, 12, 14] rfl kj203
            · refine aw_iconst C 1 dX11_tried_206 (by decide) ?_
              refine aw_goto C 211 dX11_tried_207 (by decide) ?_
              rw [if_neg c15] at ev16
              subst ev16
              exact aw_sub [2, 3, 4, 5, 6, 0, 8, 9, 10, 11, 12, 14] rfl kj203
          · rw [if_pos c12] at h
            refine aw_aload_n C 1 dX11_tried_162 rfl rfl ?_
            refine aw_iload C 14 dX11_tried_163 rfl ?_
            obtain ⟨g19, hg19, h⟩ := bindE h
            obtain ⟨v20, hv20, h⟩ := bindE h
            refine aw_cV_I C [.int x13] _ (mt_X11_isMust hv20) cs_X11_isMust ml_X11_332 im_X11_isMust se_X11_isMust (ci := 11) rfl rfl hg19 ⟨by decide, by decide⟩ ⟨rfl, rfl⟩ ⟨Nat.zero_le _, Nat.zero_le _⟩ rfl rfl (Nat.le_of_ble_eq_true rfl) dX11_tried_165 ?_
            refine aw_if_eq C 235 dX11_tried_168 (by decide) (fun c21 => ?_) (fun c21 => ?_)
            · rw [if_pos c21] at h
              have e9 := inj1 h
              subst e9
              exact aw_sub [1, 2, 3, 4, 5, 6, 7, 8, 9, 10, 11, 12, 13, 14] rfl kj154
            · rw [if_neg c21] at h
              refine aw_aload_n C 1 dX11_tried_171 rfl rfl ?_
              obtain ⟨v22, hv22, h⟩ := bindE h
              refine aw_gR C fl_X11_59 rfl hv22 dX11_tried_172 ?_
              refine aw_iload C 14 dX11_tried_175 rfl ?_
              obtain ⟨v23, hv23, h⟩ := bindE h
              refine aw_aI C hv23 dX11_tried_177 ?_
              refine aw_iload C 11 dX11_tried_178 rfl ?_
              refine aw_icmp_ne C 235 dX11_tried_180 (by decide) (fun c24 => ?_) (fun c24 => ?_)
              · rw [if_neg c24] at h
                have e9 := inj1 h
                subst e9
                exact aw_sub [1, 2, 3, 4, 5, 6, 7, 8, 9, 10, 11, 12, 13, 14] rfl kj154
              · rw [if_pos c24] at h
                refine aw_iload C 6 dX11_tried_183 rfl ?_
                refine aw_iconst C 1 dX11_tried_185 (by decide) ?_
                refine aw_iload C 14 dX11_tried_186 rfl ?_
                refine aw_ishl C dX11_tried_188 ?_
                refine aw_ior C dX11_tried_189 ?_
                refine aw_istore C [(5, .int (x5 ||| (1 <<< (x13 &&& 31)))), (14, .int z10), (0, .ref (gZ G + a0)), (1, .int x1), (2, .int x2), (3, .int x3), (4, .int x4), (6, .int x6), (7, .int x7), (8, .int x8), (9, .int x9), (10, .int x10), (11, .int x11), (12, .int x12), (13, .int x13)] dX11_tried_190 (by decide) rfl ?_
                refine aw_iload C 7 dX11_tried_192 rfl ?_
                refine aw_iload C 11 dX11_tried_194 rfl ?_
                refine aw_aload_n C 2 dX11_tried_196 rfl rfl ?_
                obtain ⟨v25, hv25, h⟩ := bindE h
                refine aw_gR C fl_X11_59 rfl hv25 dX11_tried_197 ?_
                refine aw_iload C 14 dX11_tried_200 rfl ?_
                obtain ⟨v26, hv26, h⟩ := bindE h
                refine aw_aI C hv26 dX11_tried_202 ?_
                obtain ⟨v28, ev28, h⟩ := bindS h
                have kj203 : AW G 15 X 0 0 211 [(0, .ref (gZ G + a0)), (1, .int x1), (2, .int x2), (3, .int x3), (4, .int x4), (5, .int (x5 ||| (1 <<< (x13 &&& 31)))), (7, .int x7), (8, .int x8), (9, .int x9), (10, .int x10), (11, .int x11), (13, .int x13)] [.int v28, .int x6] μ := by
                  refine aw_iadd C dX11_tried_211 ?_
                  refine aw_istore C [(6, .int (x6 + v28)), (0, .ref (gZ G + a0)), (1, .int x1), (2, .int x2), (3, .int x3), (4, .int x4), (5, .int (x5 ||| (1 <<< (x13 &&& 31)))), (7, .int x7), (8, .int x8), (9, .int x9), (10, .int x10), (11, .int x11), (13, .int x13)] dX11_tried_212 (by decide) rfl ?_
                  refine aw_iload C 7 dX11_tried_214 rfl ?_
                  refine aw_iload C 10 dX11_tried_216 rfl ?_
                  refine aw_aload_n C 1 dX11_tried_218 rfl rfl ?_
                  obtain ⟨v29, hv29, h⟩ := bindE h
                  refine aw_gR C fl_X11_62 rfl hv29 dX11_tried_219 ?_
                  refine aw_iload C 12 dX11_tried_222 rfl ?_
                  obtain ⟨v30, hv30, h⟩ := bindE h
                  refine aw_aI C hv30 dX11_tried_224 ?_
                  refine aw_isub C dX11_tried_225 ?_
                  refine aw_iadd C dX11_tried_226 ?_
                  refine aw_istore C [(7, .int (x7 + (x10 - v30))), (6, .int (x6 + v28)), (0, .ref (gZ G + a0)), (1, .int x1), (2, .int x2), (3, .int x3), (4, .int x4), (5, .int (x5 ||| (1 <<< (x13 &&& 31)))), (8, .int x8), (9, .int x9), (10, .int x10), (11, .int x11), (13, .int x13)] dX11_tried_227 (by decide) rfl ?_
                  refine aw_iinc C (x9 + 1) 9 [(9, .int (x9 + 1)), (7, .int (x7 + (x10 - v30))), (6, .int (x6 + v28)), (0, .ref (gZ G + a0)), (1, .int x1), (2, .int x2), (3, .int x3), (4, .int x4), (5, .int (x5 ||| (1 <<< (x13 &&& 31)))), (8, .int x8), (10, .int x10), (11, .int x11), (13, .int x13)] dX11_tried_229 rfl rfl (by decide) rfl ?_
                  refine aw_iconst C 1 dX11_tried_232 (by decide) ?_
                  refine aw_istore C [(12, .int 1), (9, .int (x9 + 1)), (7, .int (x7 + (x10 - v30))), (6, .int (x6 + v28)), (0, .ref (gZ G + a0)), (1, .int x1), (2, .int x2), (3, .int x3), (4, .int x4), (5, .int (x5 ||| (1 <<< (x13 &&& 31)))), (8, .int x8), (10, .int x10), (11, .int x11), (13, .int x13)] dX11_tried_233 (by decide) rfl ?_
                  have e9 := inj1 h
                  subst e9
                  exact aw_sub [4, 5, 6, 7, 8, 9, 3, 2, 10, 1, 11, 12, 0, 13] rfl kj154
                clear h
                refine aw_icmp_le C 210 dX11_tried_203 (by decide) (fun c27 => ?_) (fun c27 => ?_)
                · refine aw_iconst C 0 dX11_tried_210 (by decide) ?_
                  rw [if_pos c27] at ev28
                  subst ev28
                  exact aw_sub [2, 3, 4, 5, 6, 0, 8, 9, 10, 11, 12, 14] rfl kj203
                · refine aw_iconst C 1 dX11_tried_206 (by decide) ?_
                  refine aw_goto C 211 dX11_tried_207 (by decide) ?_
                  rw [if_neg c27] at ev28
                  subst ev28
                  exact aw_sub [2, 3, 4, 5, 6, 0, 8, 9, 10, 11, 12, 14] rfl kj203
      replace h := hz10
      refine aw_icmp_ne C 149 dX11_tried_120 (by decide) (fun c5 => ?_) (fun c5 => ?_)
      · rw [if_neg c5] at h
        refine aw_iconst C 0 dX11_tried_149 (by decide) ?_
        have e9 := inj1 h
        subst e9
        exact aw_sub [0, 1, 2, 3, 4, 5, 6, 7, 8, 9, 10, 11, 12, 13] rfl kj120
      · rw [if_pos c5] at h
        refine aw_iload C 5 dX11_tried_123 rfl ?_
        refine aw_iload C 13 dX11_tried_125 rfl ?_
        refine aw_ishr C dX11_tried_127 ?_
        refine aw_iconst C 1 dX11_tried_128 (by decide) ?_
        refine aw_iand C dX11_tried_129 ?_
        refine aw_if_ne C 149 dX11_tried_130 (by decide) (fun c6 => ?_) (fun c6 => ?_)
        · rw [if_neg c6] at h
          refine aw_iconst C 0 dX11_tried_149 (by decide) ?_
          have e9 := inj1 h
          subst e9
          exact aw_sub [0, 1, 2, 3, 4, 5, 6, 7, 8, 9, 10, 11, 12, 13] rfl kj120
        · rw [if_pos c6] at h
          refine aw_aload_n C 0 dX11_tried_133 rfl rfl ?_
          obtain ⟨v7, hv7, h⟩ := bindE h
          refine aw_gR C fl_X11_62 rfl hv7 dX11_tried_134 ?_
          refine aw_iload C 13 dX11_tried_137 rfl ?_
          obtain ⟨v8, hv8, h⟩ := bindE h
          refine aw_aI C hv8 dX11_tried_139 ?_
          refine aw_iload C 10 dX11_tried_140 rfl ?_
          refine aw_icmp_gt C 149 dX11_tried_142 (by decide) (fun c9 => ?_) (fun c9 => ?_)
          · rw [if_pos c9] at h
            refine aw_iconst C 0 dX11_tried_149 (by decide) ?_
            have e9 := inj1 h
            subst e9
            exact aw_sub [0, 1, 2, 3, 4, 5, 6, 7, 8, 9, 10, 11, 12, 13] rfl kj120
          · rw [if_neg c9] at h
            refine aw_iconst C 1 dX11_tried_145 (by decide) ?_
            refine aw_goto C 150 dX11_tried_146 (by decide) ?_
            have e9 := inj1 h
            subst e9
            exact aw_sub [0, 1, 2, 3, 4, 5, 6, 7, 8, 9, 10, 11, 12, 13] rfl kj120
set_option maxRecDepth 100000 in
set_option maxHeartbeats 4000000 in
theorem X11_tried_L65_ok {G : GL} {X : CX} (C : Ctx G X cX11_tried 15 RX11 rm_X11_tried) (a0 : Nat) (x1 : Int32) (x2 : Int32) (x3 : Int32) (x4 : Int32) : ∀ (n : Nat) (x5 : Int32) (x6 : Int32) (x7 : Int32) (x8 : Int32) (x9 : Int32) (x10 : Int32) (μ : Mem) (z : Int32 × Int32 × Int32 × Int32 × Int32 × Int32 × Mem), X11_tried_L65 a0 x1 x2 x3 x4 n x5 x6 x7 x8 x9 x10 μ = some z → AW G 15 X 0 0 270 [(0, .ref (gZ G + a0)), (1, .int x1), (2, .int x2), (3, .int x3), (4, .int x4), (5, .int z.1), (6, .int z.2.1), (7, .int z.2.2.1), (8, .int z.2.2.2.1), (9, .int z.2.2.2.2.1), (10, .int z.2.2.2.2.2.1)] [] z.2.2.2.2.2.2 → AW G 15 X 0 0 65 [(0, .ref (gZ G + a0)), (1, .int x1), (2, .int x2), (3, .int x3), (4, .int x4), (5, .int x5), (6, .int x6), (7, .int x7), (8, .int x8), (9, .int x9), (10, .int x10)] [] μ := by
  intro n
  induction n with
  | zero =>
    intro x5 x6 x7 x8 x9 x10 μ z h kx
    rw [X11_tried_L65] at h
    cases h
  | succ n ih =>
    intro x5 x6 x7 x8 x9 x10 μ z h kx
    rw [X11_tried_L65] at h
    refine aw_iload C 10 dX11_tried_65 rfl ?_
    refine aw_aload_n C 0 dX11_tried_67 rfl rfl ?_
    obtain ⟨v1, hv1, h⟩ := bindE h
    refine aw_gI C fl_X11_158 rfl hv1 dX11_tried_68 ?_
    refine aw_icmp_ge C 270 dX11_tried_71 (by decide) (fun c2 => ?_) (fun c2 => ?_)
    · rw [if_pos c2] at h
      have e9 := inj1 h
      subst e9
      exact aw_sub [0, 1, 2, 3, 4, 5, 6, 7, 8, 9, 10] rfl kx
    · rw [if_neg c2] at h
      refine aw_aload_n C 0 dX11_tried_74 rfl rfl ?_
      refine aw_iload_n C 1 dX11_tried_75 rfl rfl ?_
      refine aw_iload C 10 dX11_tried_76 rfl ?_
      refine aw_iconst C 0 dX11_tried_78 (by decide) ?_
      obtain ⟨g3, hg3, h⟩ := bindE h
      obtain ⟨z4, hz4, h⟩ := bindE h
      refine aw_cV_I C [.int x1, .int x10, .int 0] _ (mt_X11_seamOdds hz4) cs_X11_seamOdds ml_X11_179 im_X11_seamOdds se_X11_seamOdds (ci := 11) rfl rfl hg3 ⟨by decide, by decide⟩ ⟨rfl, rfl⟩ ⟨Nat.zero_le _, Nat.zero_le _⟩ rfl rfl (Nat.le_of_ble_eq_true rfl) dX11_tried_79 ?_
      refine aw_iload_n C 2 dX11_tried_82 rfl rfl ?_
      obtain ⟨v6, ev6, h⟩ := bindS h
      have kj83 : AW G 15 X 0 0 91 [(0, .ref (gZ G + a0)), (1, .int x1), (2, .int x2), (3, .int x3), (4, .int x4), (5, .int x5), (6, .int x6), (7, .int x7), (8, .int x8), (9, .int x9), (10, .int x10)] [.int v6] z4.2 := by
        refine aw_istore C [(11, .int v6), (0, .ref (gZ G + a0)), (1, .int x1), (2, .int x2), (3, .int x3), (4, .int x4), (5, .int x5), (6, .int x6), (7, .int x7), (8, .int x8), (9, .int x9), (10, .int x10)] dX11_tried_91 (by decide) rfl ?_
        refine aw_iconst C 0 dX11_tried_93 (by decide) ?_
        refine aw_istore C [(12, .int 0), (11, .int v6), (0, .ref (gZ G + a0)), (1, .int x1), (2, .int x2), (3, .int x3), (4, .int x4), (5, .int x5), (6, .int x6), (7, .int x7), (8, .int x8), (9, .int x9), (10, .int x10)] dX11_tried_94 (by decide) rfl ?_
        refine aw_iconst C 0 dX11_tried_96 (by decide) ?_
        refine aw_istore C [(13, .int 0), (12, .int 0), (11, .int v6), (0, .ref (gZ G + a0)), (1, .int x1), (2, .int x2), (3, .int x3), (4, .int x4), (5, .int x5), (6, .int x6), (7, .int x7), (8, .int x8), (9, .int x9), (10, .int x10)] dX11_tried_97 (by decide) rfl ?_
        obtain ⟨z7, hz7, h⟩ := bindE h
        refine aw_sub [3, 4, 5, 6, 7, 8, 9, 10, 11, 12, 13, 2, 1, 0] rfl ?_
        refine X11_tried_L99_ok C _ _ _ _ _ _ _ _ _ _ _ _ _ _ _ _ _ hz7 ?_
        refine aw_iload C 8 dX11_tried_241 rfl ?_
        refine aw_iload C 12 dX11_tried_243 rfl ?_
        obtain ⟨z11, hz11, h⟩ := bindE h
        have kj245 : AW G 15 X 0 0 261 [(0, .ref (gZ G + a0)), (1, .int x1), (2, .int x2), (3, .int x3), (4, .int x4), (5, .int z7.1), (6, .int z7.2.1), (7, .int z7.2.2.1), (9, .int z7.2.2.2.1), (10, .int x10)] [.int z11.1, .int x8] z11.2 := by
          refine aw_iadd C dX11_tried_261 ?_
          obtain ⟨v12, ev12, h⟩ := bindS h
          refine aw_topi ev12 ?_
          refine aw_istore C [(8, .int v12), (0, .ref (gZ G + a0)), (1, .int x1), (2, .int x2), (3, .int x3), (4, .int x4), (5, .int z7.1), (6, .int z7.2.1), (7, .int z7.2.2.1), (9, .int z7.2.2.2.1), (10, .int x10)] dX11_tried_262 (by decide) rfl ?_
          refine aw_iinc C (x10 + 1) 10 [(10, .int (x10 + 1)), (8, .int v12), (0, .ref (gZ G + a0)), (1, .int x1), (2, .int x2), (3, .int x3), (4, .int x4), (5, .int z7.1), (6, .int z7.2.1), (7, .int z7.2.2.1), (9, .int z7.2.2.2.1)] dX11_tried_264 rfl rfl (by decide) rfl ?_
          refine aw_goto C 65 dX11_tried_267 (by decide) ?_
          exact aw_sub [2, 3, 4, 5, 6, 7, 8, 9, 1, 10, 0] rfl (ih _ _ _ _ _ _ _ _ h kx)
        replace h := hz11
        refine aw_if_eq C 260 dX11_tried_245 (by decide) (fun c8 => ?_) (fun c8 => ?_)
        · rw [if_pos c8] at h
          refine aw_iconst C 0 dX11_tried_260 (by decide) ?_
          have e9 := inj1 h
          subst e9
          exact aw_sub [0, 1, 2, 3, 4, 5, 6, 7, 9, 10] rfl kj245
        · rw [if_neg c8] at h
          refine aw_aload_n C 0 dX11_tried_248 rfl rfl ?_
          refine aw_iload_n C 1 dX11_tried_249 rfl rfl ?_
          refine aw_iload_n C 3 dX11_tried_250 rfl rfl ?_
          refine aw_iload C 10 dX11_tried_251 rfl ?_
          refine aw_iconst C 0 dX11_tried_253 (by decide) ?_
          obtain ⟨g9, hg9, h⟩ := bindE h
          obtain ⟨z10, hz10, h⟩ := bindE h
          refine aw_cV_I C [.int x1, .int x3, .int x10, .int 0] _ (mt_X11_lossOf hz10) cs_X11_lossOf ml_X11_220 im_X11_lossOf se_X11_lossOf (ci := 11) rfl rfl hg9 ⟨by decide, by decide⟩ ⟨rfl, rfl⟩ ⟨Nat.zero_le _, Nat.zero_le _⟩ rfl rfl (Nat.le_of_ble_eq_true rfl) dX11_tried_254 ?_
          refine aw_goto C 261 dX11_tried_257 (by decide) ?_
          have e9 := inj1 h
          subst e9
          exact aw_sub [0, 1, 2, 3, 4, 5, 6, 7, 9, 10] rfl kj245
      clear h
      refine aw_icmp_lt C 90 dX11_tried_83 (by decide) (fun c5 => ?_) (fun c5 => ?_)
      · refine aw_iconst C 0 dX11_tried_90 (by decide) ?_
        rw [if_pos c5] at ev6
        subst ev6
        exact aw_sub [0, 1, 2, 3, 4, 5, 6, 7, 8, 9, 10] rfl kj83
      · refine aw_iconst C 1 dX11_tried_86 (by decide) ?_
        refine aw_goto C 91 dX11_tried_87 (by decide) ?_
        rw [if_neg c5] at ev6
        subst ev6
        exact aw_sub [0, 1, 2, 3, 4, 5, 6, 7, 8, 9, 10] rfl kj83
set_option maxRecDepth 100000 in
set_option maxHeartbeats 4000000 in
theorem X11_tried_L273_ok {G : GL} {X : CX} (C : Ctx G X cX11_tried 15 RX11 rm_X11_tried) (a0 : Nat) (x1 : Int32) (x4 : Int32) (x5 : Int32) (x7 : Int32) (x8 : Int32) (x9 : Int32) (μ : Mem) : ∀ (n : Nat) (x6 : Int32) (x10 : Int32) (z : Int32 × Int32), X11_tried_L273 a0 x1 x4 x5 x7 x8 x9 μ n x6 x10 = some z → AW G 15 X 0 0 349 [(0, .ref (gZ G + a0)), (1, .int x1), (4, .int x4), (5, .int x5), (6, .int z.1), (7, .int x7), (8, .int x8), (9, .int x9), (10, .int z.2)] [] μ → AW G 15 X 0 0 273 [(0, .ref (gZ G + a0)), (1, .int x1), (4, .int x4), (5, .int x5), (6, .int x6), (7, .int x7), (8, .int x8), (9, .int x9), (10, .int x10)] [] μ := by
  intro n
  induction n with
  | zero =>
    intro x6 x10 z h kx
    rw [X11_tried_L273] at h
    cases h
  | succ n ih =>
    intro x6 x10 z h kx
    rw [X11_tried_L273] at h
    refine aw_iload C 8 dX11_tried_273 rfl ?_
    refine aw_aload_n C 0 dX11_tried_275 rfl rfl ?_
    obtain ⟨v1, hv1, h⟩ := bindE h
    refine aw_gI C fl_X11_182 rfl hv1 dX11_tried_276 ?_
    refine aw_icmp_ge C 349 dX11_tried_279 (by decide) (fun c2 => ?_) (fun c2 => ?_)
    · rw [if_pos c2] at h
      have e9 := inj1 h
      subst e9
      exact aw_sub [0, 1, 2, 3, 4, 5, 6, 7, 8] rfl kx
    · rw [if_neg c2] at h
      refine aw_aload_n C 0 dX11_tried_282 rfl rfl ?_
      obtain ⟨v3, hv3, h⟩ := bindE h
      refine aw_gR C fl_X11_41 rfl hv3 dX11_tried_283 ?_
      refine aw_iload C 8 dX11_tried_286 rfl ?_
      obtain ⟨v4, hv4, h⟩ := bindE h
      refine aw_aI C hv4 dX11_tried_288 ?_
      refine aw_iload_n C 1 dX11_tried_289 rfl rfl ?_
      refine aw_ishr C dX11_tried_290 ?_
      refine aw_iconst C 1 dX11_tried_291 (by decide) ?_
      refine aw_iand C dX11_tried_292 ?_
      refine aw_iconst C 1 dX11_tried_293 (by decide) ?_
      obtain ⟨v6, ev6, h⟩ := bindS h
      have kj294 : AW G 15 X 0 0 312 [(0, .ref (gZ G + a0)), (1, .int x1), (4, .int x4), (5, .int x5), (6, .int x6), (7, .int x7), (8, .int x8), (9, .int x9), (10, .int x10)] [.int v6] μ := by
        refine aw_istore C [(11, .int v6), (0, .ref (gZ G + a0)), (1, .int x1), (4, .int x4), (5, .int x5), (6, .int x6), (7, .int x7), (8, .int x8), (9, .int x9), (10, .int x10)] dX11_tried_312 (by decide) rfl ?_
        refine aw_iload C 5 dX11_tried_314 rfl ?_
        refine aw_iload C 0 dX11_tried_316 rfl ?_
        obtain ⟨z12, hz12, h⟩ := bindE h
        have kj318 : AW G 15 X 0 0 340 [(0, .ref (gZ G + a0)), (1, .int x1), (4, .int x4), (5, .int x5), (7, .int x7), (8, .int x8), (9, .int x9), (10, .int x10)] [.int z12, .int x6] μ := by
          refine aw_iadd C dX11_tried_340 ?_
          obtain ⟨v13, ev13, h⟩ := bindS h
          refine aw_topi ev13 ?_
          refine aw_istore C [(6, .int v13), (0, .ref (gZ G + a0)), (1, .int x1), (4, .int x4), (5, .int x5), (7, .int x7), (8, .int x8), (9, .int x9), (10, .int x10)] dX11_tried_341 (by decide) rfl ?_
          refine aw_iinc C (x10 + 1) 8 [(10, .int (x10 + 1)), (6, .int v13), (0, .ref (gZ G + a0)), (1, .int x1), (4, .int x4), (5, .int x5), (7, .int x7), (8, .int x8), (9, .int x9)] dX11_tried_343 rfl rfl (by decide) rfl ?_
          refine aw_goto C 273 dX11_tried_346 (by decide) ?_
          exact aw_sub [2, 3, 4, 5, 1, 6, 7, 8, 0] rfl (ih _ _ _ h kx)
        replace h := hz12
        refine aw_if_eq C 339 dX11_tried_318 (by decide) (fun c7 => ?_) (fun c7 => ?_)
        · rw [if_pos c7] at h
          refine aw_iconst C 0 dX11_tried_339 (by decide) ?_
          have e9 := inj1 h
          subst e9
          exact aw_sub [1, 2, 3, 4, 6, 7, 8, 9] rfl kj318
        · rw [if_neg c7] at h
          refine aw_aload_n C 1 dX11_tried_321 rfl rfl ?_
          obtain ⟨v8, hv8, h⟩ := bindE h
          refine aw_gR C fl_X11_59 rfl hv8 dX11_tried_322 ?_
          refine aw_iload C 9 dX11_tried_325 rfl ?_
          obtain ⟨v9, hv9, h⟩ := bindE h
          refine aw_aI C hv9 dX11_tried_327 ?_
          refine aw_aload_n C 1 dX11_tried_328 rfl rfl ?_
          obtain ⟨v10, hv10, h⟩ := bindE h
          refine aw_gI C fl_X11_158 rfl hv10 dX11_tried_329 ?_
          refine aw_icmp_ge C 339 dX11_tried_332 (by decide) (fun c11 => ?_) (fun c11 => ?_)
          · rw [if_pos c11] at h
            refine aw_iconst C 0 dX11_tried_339 (by decide) ?_
            have e9 := inj1 h
            subst e9
            exact aw_sub [1, 2, 3, 4, 6, 7, 8, 9] rfl kj318
          · rw [if_neg c11] at h
            refine aw_iconst C 1 dX11_tried_335 (by decide) ?_
            refine aw_goto C 340 dX11_tried_336 (by decide) ?_
            have e9 := inj1 h
            subst e9
            exact aw_sub [1, 2, 3, 4, 6, 7, 8, 9] rfl kj318
      clear h
      refine aw_icmp_ne C 311 dX11_tried_294 (by decide) (fun c5 => ?_) (fun c5 => ?_)
      · refine aw_iconst C 0 dX11_tried_311 (by decide) ?_
        rw [if_neg c5] at ev6
        subst ev6
        exact aw_sub [0, 1, 2, 3, 4, 5, 6, 7, 8] rfl kj294
      · refine aw_iload C 3 dX11_tried_297 rfl ?_
        refine aw_iload C 8 dX11_tried_299 rfl ?_
        refine aw_ishr C dX11_tried_301 ?_
        refine aw_iconst C 1 dX11_tried_302 (by decide) ?_
        refine aw_iand C dX11_tried_303 ?_
        refine aw_if_ne C 311 dX11_tried_304 (by decide) (fun c14 => ?_) (fun c14 => ?_)
        · refine aw_iconst C 0 dX11_tried_311 (by decide) ?_
          rw [if_pos c5, if_neg c14] at ev6
          subst ev6
          exact aw_sub [0, 1, 2, 3, 4, 5, 6, 7, 8] rfl kj294
        · refine aw_iconst C 1 dX11_tried_307 (by decide) ?_
          refine aw_goto C 312 dX11_tried_308 (by decide) ?_
          rw [if_pos c5, if_pos c14] at ev6
          subst ev6
          exact aw_sub [0, 1, 2, 3, 4, 5, 6, 7, 8] rfl kj294
set_option maxRecDepth 100000 in
set_option maxHeartbeats 4000000 in
theorem wk_X11_tried {G : GL} {X : CX} {a0 : Nat} {x1 : Int32} {x2 : Int32} {x3 : Int32} {x4 : Int32} {μ : Mem} {r : Int32} {μ' : Mem} (C : Ctx G X cX11_tried 15 RX11 rm_X11_tried) (h : X11_tried a0 x1 x2 x3 x4 μ = some (r, μ')) (hret : RtI G 15 X cX11_tried 0 0 r μ') : AW G 15 X 0 0 0 [(0, .ref (gZ G + a0)), (1, .int x1), (2, .int x2), (3, .int x3), (4, .int x4)] [] μ := by
  unfold X11_tried at h
  refine aw_iload_n C 1 dX11_tried_0 rfl rfl ?_
  refine aw_cS_I C [.int x1] _ (mt_X11_isPerson _) cs_X11_isPerson ml_X11_153 st_X11_isPerson ⟨by decide, by decide⟩ ⟨rfl, rfl⟩ ⟨Nat.zero_le _, Nat.zero_le _⟩ rfl rfl (Nat.le_of_ble_eq_true rfl) dX11_tried_1 ?_
  refine aw_if_ne C 11 dX11_tried_4 (by decide) (fun c1 => ?_) (fun c1 => ?_)
  · rw [if_neg c1] at h
    refine aw_iload_n C 2 dX11_tried_11 rfl rfl ?_
    refine aw_i2l C dX11_tried_12 ?_
    refine aw_lconst C 0 dX11_tried_13 (by decide) ?_
    refine aw_ldc2 C kl_X11_171 dX11_tried_14 ?_
    refine aw_cS_I C [.long x2.toInt64, .long 0, .long 1000000] _ (mt_X11_in _ _ _) cs_X11_in ml_X11_138 st_X11_in ⟨by decide, by decide⟩ ⟨rfl, rfl⟩ ⟨Nat.zero_le _, Nat.zero_le _⟩ rfl rfl (Nat.le_of_ble_eq_true rfl) dX11_tried_17 ?_
    refine aw_if_eq C 43 dX11_tried_20 (by decide) (fun c2 => ?_) (fun c2 => ?_)
    · rw [if_pos c2] at h
      refine aw_sipush C ((-1002)) dX11_tried_43 (by decide) ?_
      obtain ⟨e8, e9⟩ := inj2 h
      subst e8
      subst e9
      exact hret _ _ dX11_tried_46
    · rw [if_neg c2] at h
      refine aw_iload_n C 3 dX11_tried_23 rfl rfl ?_
      refine aw_cS_I C [.int x3] _ (mt_X11_isWay _) cs_X11_isWay ml_X11_214 st_X11_isWay ⟨by decide, by decide⟩ ⟨rfl, rfl⟩ ⟨Nat.zero_le _, Nat.zero_le _⟩ rfl rfl (Nat.le_of_ble_eq_true rfl) dX11_tried_24 ?_
      refine aw_if_eq C 43 dX11_tried_27 (by decide) (fun c3 => ?_) (fun c3 => ?_)
      · rw [if_pos c3] at h
        refine aw_sipush C ((-1002)) dX11_tried_43 (by decide) ?_
        obtain ⟨e8, e9⟩ := inj2 h
        subst e8
        subst e9
        exact hret _ _ dX11_tried_46
      · rw [if_neg c3] at h
        refine aw_iload C 4 dX11_tried_30 rfl ?_
        refine aw_i2l C dX11_tried_32 ?_
        refine aw_lconst C 0 dX11_tried_33 (by decide) ?_
        refine aw_ldc2 C kl_X11_136 dX11_tried_34 ?_
        refine aw_cS_I C [.long x4.toInt64, .long 0, .long 3] _ (mt_X11_in _ _ _) cs_X11_in ml_X11_138 st_X11_in ⟨by decide, by decide⟩ ⟨rfl, rfl⟩ ⟨Nat.zero_le _, Nat.zero_le _⟩ rfl rfl (Nat.le_of_ble_eq_true rfl) dX11_tried_37 ?_
        refine aw_if_ne C 47 dX11_tried_40 (by decide) (fun c4 => ?_) (fun c4 => ?_)
        · rw [if_neg c4] at h
          refine aw_iconst C 0 dX11_tried_47 (by decide) ?_
          refine aw_istore C [(5, .int 0), (0, .ref (gZ G + a0)), (1, .int x1), (2, .int x2), (3, .int x3), (4, .int x4)] dX11_tried_48 (by decide) rfl ?_
          refine aw_iconst C 0 dX11_tried_50 (by decide) ?_
          refine aw_istore C [(6, .int 0), (5, .int 0), (0, .ref (gZ G + a0)), (1, .int x1), (2, .int x2), (3, .int x3), (4, .int x4)] dX11_tried_51 (by decide) rfl ?_
          refine aw_iconst C 0 dX11_tried_53 (by decide) ?_
          refine aw_istore C [(7, .int 0), (6, .int 0), (5, .int 0), (0, .ref (gZ G + a0)), (1, .int x1), (2, .int x2), (3, .int x3), (4, .int x4)] dX11_tried_54 (by decide) rfl ?_
          refine aw_iconst C 0 dX11_tried_56 (by decide) ?_
          refine aw_istore C [(8, .int 0), (7, .int 0), (6, .int 0), (5, .int 0), (0, .ref (gZ G + a0)), (1, .int x1), (2, .int x2), (3, .int x3), (4, .int x4)] dX11_tried_57 (by decide) rfl ?_
          refine aw_iconst C 0 dX11_tried_59 (by decide) ?_
          refine aw_istore C [(9, .int 0), (8, .int 0), (7, .int 0), (6, .int 0), (5, .int 0), (0, .ref (gZ G + a0)), (1, .int x1), (2, .int x2), (3, .int x3), (4, .int x4)] dX11_tried_60 (by decide) rfl ?_
          refine aw_iconst C 0 dX11_tried_62 (by decide) ?_
          refine aw_istore C [(10, .int 0), (9, .int 0), (8, .int 0), (7, .int 0), (6, .int 0), (5, .int 0), (0, .ref (gZ G + a0)), (1, .int x1), (2, .int x2), (3, .int x3), (4, .int x4)] dX11_tried_63 (by decide) rfl ?_
          obtain ⟨z5, hz5, h⟩ := bindE h
          refine aw_sub [6, 7, 8, 9, 10, 5, 4, 3, 2, 1, 0] rfl ?_
          refine X11_tried_L65_ok C _ _ _ _ _ _ _ _ _ _ _ _ _ _ hz5 ?_
          refine aw_iconst C 0 dX11_tried_270 (by decide) ?_
          refine aw_istore C [(10, .int 0), (0, .ref (gZ G + a0)), (1, .int x1), (2, .int x2), (3, .int x3), (4, .int x4), (5, .int z5.1), (6, .int z5.2.1), (7, .int z5.2.2.1), (8, .int z5.2.2.2.1), (9, .int z5.2.2.2.2.1)] dX11_tried_271 (by decide) rfl ?_
          obtain ⟨z6, hz6, h⟩ := bindE h
          refine aw_sub [1, 2, 5, 6, 7, 8, 9, 10, 0] rfl ?_
          refine X11_tried_L273_ok C _ _ _ _ _ _ _ _ _ _ _ _ hz6 ?_
          refine aw_iload C 2 dX11_tried_349 rfl ?_
          obtain ⟨v8, ev8, h⟩ := bindS h
          have kj351 : AW G 15 X 0 0 383 [] [.int v8] z5.2.2.2.2.2.2 := by
            obtain ⟨e8, e9⟩ := inj2 h
            subst e8
            subst e9
            exact hret _ _ dX11_tried_383
          clear h
          refine aw_if_ne C 359 dX11_tried_351 (by decide) (fun c7 => ?_) (fun c7 => ?_)
          · refine aw_iload C 2 dX11_tried_359 rfl ?_
            refine aw_iconst C 1 dX11_tried_361 (by decide) ?_
            refine aw_icmp_ne C 370 dX11_tried_362 (by decide) (fun c9 => ?_) (fun c9 => ?_)
            · refine aw_iload C 2 dX11_tried_370 rfl ?_
              refine aw_iconst C 2 dX11_tried_372 (by decide) ?_
              refine aw_icmp_ne C 381 dX11_tried_373 (by decide) (fun c10 => ?_) (fun c10 => ?_)
              · refine aw_iload C 7 dX11_tried_381 rfl ?_
                rw [if_neg c7, if_neg c9, if_neg c10] at ev8
                subst ev8
                exact aw_sub [] rfl kj351
              · refine aw_iload C 6 dX11_tried_376 rfl ?_
                refine aw_goto C 383 dX11_tried_378 (by decide) ?_
                rw [if_neg c7, if_neg c9, if_pos c10] at ev8
                subst ev8
                exact aw_sub [] rfl kj351
            · refine aw_iload C 5 dX11_tried_365 rfl ?_
              refine aw_goto C 383 dX11_tried_367 (by decide) ?_
              rw [if_neg c7, if_pos c9] at ev8
              subst ev8
              exact aw_sub [] rfl kj351
          · refine aw_iload C 4 dX11_tried_354 rfl ?_
            refine aw_goto C 383 dX11_tried_356 (by decide) ?_
            rw [if_pos c7] at ev8
            subst ev8
            exact aw_sub [] rfl kj351
        · rw [if_pos c4] at h
          refine aw_sipush C ((-1002)) dX11_tried_43 (by decide) ?_
          obtain ⟨e8, e9⟩ := inj2 h
          subst e8
          subst e9
          exact hret _ _ dX11_tried_46
  · rw [if_pos c1] at h
    refine aw_sipush C ((-1001)) dX11_tried_7 (by decide) ?_
    obtain ⟨e8, e9⟩ := inj2 h
    subst e8
    subst e9
    exact hret _ _ dX11_tried_10
set_option maxRecDepth 100000 in
set_option maxHeartbeats 4000000 in
theorem mt_X11_tried {G : GL} {l : Launch} {a0 : Nat} {x1 : Int32} {x2 : Int32} {x3 : Int32} {x4 : Int32} {μ : Mem} {r : Int32} {μ' : Mem} (h : X11_tried a0 x1 x2 x3 x4 μ = some (r, μ')) : MtI G l yX11_tried cX11_tried 15 (some .int) rm_X11_tried false [.ref (gZ G + a0), .int x1, .int x2, .int x3, .int x4] μ r μ' := met_I (by decide) rfl rfl (Nat.le_of_ble_eq_true rfl) (fun X _ C _ _ hret => wk_X11_tried C h hret)
