set_option maxRecDepth 100000 in
set_option maxHeartbeats 4000000 in
theorem wk_X11_stateOf {G : GL} {X : CX} {a0 : Nat} {x1 : Int32} {μ : Mem} {r : Int32} (C : Ctx G X cX11_stateOf 2 RX11 rm_X11_stateOf) (h : X11_stateOf a0 x1 μ = some r) (hret : RtI G 2 X cX11_stateOf 0 0 r μ) : AW G 2 X 0 0 0 [(0, .ref (gZ G + a0)), (1, .int x1)] [] μ := by
  unfold X11_stateOf at h
  refine aw_aload_n C 0 dX11_stateOf_0 rfl rfl ?_
  obtain ⟨v1, hv1, h⟩ := bindE h
  refine aw_gR C fl_X11_65 rfl hv1 dX11_stateOf_1 ?_
  refine aw_iload_n C 1 dX11_stateOf_4 rfl rfl ?_
  obtain ⟨v2, hv2, h⟩ := bindE h
  refine aw_aZ C hv2 dX11_stateOf_5 ?_
  obtain ⟨z11, hz11, h⟩ := bindE h
  have kj6 : AW G 2 X 0 0 43 [] [.int z11] μ := by
    have e9 := inj1 h
    subst e9
    exact hret _ _ dX11_stateOf_43
  replace h := hz11
  refine aw_if_eq C 13 dX11_stateOf_6 (by decide) (fun c3 => ?_) (fun c3 => ?_)
  · rw [if_pos c3] at h
    refine aw_aload_n C 0 dX11_stateOf_13 rfl rfl ?_
    refine aw_iload_n C 1 dX11_stateOf_14 rfl rfl ?_
    obtain ⟨g4, hg4, h⟩ := bindE h
    obtain ⟨v5, hv5, h⟩ := bindE h
    refine aw_cV_I C [.int x1] _ (mt_X11_isTold hv5) cs_X11_isTold ml_X11_205 im_X11_isTold se_X11_isTold (ci := 11) rfl rfl hg4 ⟨by decide, by decide⟩ ⟨rfl, rfl⟩ ⟨Nat.zero_le _, Nat.zero_le _⟩ rfl rfl (Nat.le_of_ble_eq_true rfl) dX11_stateOf_15 ?_
    refine aw_if_eq C 25 dX11_stateOf_18 (by decide) (fun c6 => ?_) (fun c6 => ?_)
    · rw [if_pos c6] at h
      refine aw_aload_n C 0 dX11_stateOf_25 rfl rfl ?_
      obtain ⟨v7, hv7, h⟩ := bindE h
      refine aw_gR C fl_X11_59 rfl hv7 dX11_stateOf_26 ?_
      refine aw_iload_n C 1 dX11_stateOf_29 rfl rfl ?_
      obtain ⟨v8, hv8, h⟩ := bindE h
      refine aw_aI C hv8 dX11_stateOf_30 ?_
      refine aw_aload_n C 0 dX11_stateOf_31 rfl rfl ?_
      obtain ⟨v9, hv9, h⟩ := bindE h
      refine aw_gI C fl_X11_158 rfl hv9 dX11_stateOf_32 ?_
      refine aw_icmp_ge C 42 dX11_stateOf_35 (by decide) (fun c10 => ?_) (fun c10 => ?_)
      · rw [if_pos c10] at h
        refine aw_iconst C 0 dX11_stateOf_42 (by decide) ?_
        have e9 := inj1 h
        subst e9
        exact aw_sub [] rfl kj6
      · rw [if_neg c10] at h
        refine aw_iconst C 3 dX11_stateOf_38 (by decide) ?_
        refine aw_goto C 43 dX11_stateOf_39 (by decide) ?_
        have e9 := inj1 h
        subst e9
        exact aw_sub [] rfl kj6
    · rw [if_neg c6] at h
      refine aw_iconst C 1 dX11_stateOf_21 (by decide) ?_
      refine aw_goto C 43 dX11_stateOf_22 (by decide) ?_
      have e9 := inj1 h
      subst e9
      exact aw_sub [] rfl kj6
  · rw [if_neg c3] at h
    refine aw_iconst C 2 dX11_stateOf_9 (by decide) ?_
    refine aw_goto C 43 dX11_stateOf_10 (by decide) ?_
    have e9 := inj1 h
    subst e9
    exact aw_sub [] rfl kj6
set_option maxRecDepth 100000 in
set_option maxHeartbeats 4000000 in
theorem mt_X11_stateOf {G : GL} {l : Launch} {a0 : Nat} {x1 : Int32} {μ : Mem} {r : Int32} (h : X11_stateOf a0 x1 μ = some r) : MtI G l yX11_stateOf cX11_stateOf 2 (some .int) rm_X11_stateOf false [.ref (gZ G + a0), .int x1] μ r μ := met_I (by decide) rfl rfl (Nat.le_of_ble_eq_true rfl) (fun X _ C _ _ hret => wk_X11_stateOf C h hret)
set_option maxRecDepth 100000 in
set_option maxHeartbeats 4000000 in
theorem wk_X11_told {G : GL} {X : CX} {a0 : Nat} {x1 : Int32} {x2 : Int32} {μ : Mem} {r : Int32} (C : Ctx G X cX11_told 3 RX11 rm_X11_told) (h : X11_told a0 x1 x2 μ = some r) (hret : RtI G 3 X cX11_told 0 0 r μ) : AW G 3 X 0 0 0 [(0, .ref (gZ G + a0)), (1, .int x1), (2, .int x2)] [] μ := by
  unfold X11_told at h
  refine aw_aload_n C 0 dX11_told_0 rfl rfl ?_
  refine aw_iload_n C 1 dX11_told_1 rfl rfl ?_
  obtain ⟨g1, hg1, h⟩ := bindE h
  obtain ⟨v2, hv2, h⟩ := bindE h
  refine aw_cV_I C [.int x1] _ (mt_X11_isThing hv2) cs_X11_isThing ml_X11_198 im_X11_isThing se_X11_isThing (ci := 11) rfl rfl hg1 ⟨by decide, by decide⟩ ⟨rfl, rfl⟩ ⟨Nat.zero_le _, Nat.zero_le _⟩ rfl rfl (Nat.le_of_ble_eq_true rfl) dX11_told_2 ?_
  refine aw_if_ne C 12 dX11_told_5 (by decide) (fun c3 => ?_) (fun c3 => ?_)
  · rw [if_neg c3] at h
    refine aw_iload_n C 2 dX11_told_12 rfl rfl ?_
    by_cases c4 : x2 = Int32.ofNat 0
    · rw [if_pos c4] at h
      refine aw_tin C (0) 60 c4 dX11_told_13 (by decide) (by decide) rfl (by decide) ?_
      refine aw_aload_n C 0 dX11_told_60 rfl rfl ?_
      obtain ⟨v5, hv5, h⟩ := bindE h
      refine aw_gR C fl_X11_41 rfl hv5 dX11_told_61 ?_
      refine aw_iload_n C 1 dX11_told_64 rfl rfl ?_
      obtain ⟨v6, hv6, h⟩ := bindE h
      refine aw_aI C hv6 dX11_told_65 ?_
      have e9 := inj1 h
      subst e9
      exact hret _ _ dX11_told_66
    · rw [if_neg c4] at h
      by_cases c7 : x2 = Int32.ofNat 1
      · rw [if_pos c7] at h
        refine aw_tin C (1) 67 c7 dX11_told_13 (by decide) (by decide) rfl (by decide) ?_
        refine aw_aload_n C 0 dX11_told_67 rfl rfl ?_
        obtain ⟨v8, hv8, h⟩ := bindE h
        refine aw_gR C fl_X11_44 rfl hv8 dX11_told_68 ?_
        refine aw_iload_n C 1 dX11_told_71 rfl rfl ?_
        obtain ⟨v9, hv9, h⟩ := bindE h
        refine aw_aI C hv9 dX11_told_72 ?_
        have e9 := inj1 h
        subst e9
        exact hret _ _ dX11_told_73
      · rw [if_neg c7] at h
        by_cases c10 : x2 = Int32.ofNat 2
        · rw [if_pos c10] at h
          refine aw_tin C (2) 74 c10 dX11_told_13 (by decide) (by decide) rfl (by decide) ?_
          refine aw_aload_n C 0 dX11_told_74 rfl rfl ?_
          obtain ⟨v11, hv11, h⟩ := bindE h
          refine aw_gR C fl_X11_47 rfl hv11 dX11_told_75 ?_
          refine aw_iload_n C 1 dX11_told_78 rfl rfl ?_
          obtain ⟨v12, hv12, h⟩ := bindE h
          refine aw_aI C hv12 dX11_told_79 ?_
          have e9 := inj1 h
          subst e9
          exact hret _ _ dX11_told_80
        · rw [if_neg c10] at h
          by_cases c13 : x2 = Int32.ofNat 3
          · rw [if_pos c13] at h
            refine aw_tin C (3) 81 c13 dX11_told_13 (by decide) (by decide) rfl (by decide) ?_
            refine aw_aload_n C 0 dX11_told_81 rfl rfl ?_
            obtain ⟨v14, hv14, h⟩ := bindE h
            refine aw_gR C fl_X11_50 rfl hv14 dX11_told_82 ?_
            refine aw_iload_n C 1 dX11_told_85 rfl rfl ?_
            obtain ⟨v15, hv15, h⟩ := bindE h
            refine aw_aI C hv15 dX11_told_86 ?_
            have e9 := inj1 h
            subst e9
            exact hret _ _ dX11_told_87
          · rw [if_neg c13] at h
            by_cases c16 : x2 = Int32.ofNat 4
            · rw [if_pos c16] at h
              refine aw_tin C (4) 88 c16 dX11_told_13 (by decide) (by decide) rfl (by decide) ?_
              refine aw_aload_n C 0 dX11_told_88 rfl rfl ?_
              obtain ⟨v17, hv17, h⟩ := bindE h
              refine aw_gR C fl_X11_59 rfl hv17 dX11_told_89 ?_
              refine aw_iload_n C 1 dX11_told_92 rfl rfl ?_
              obtain ⟨v18, hv18, h⟩ := bindE h
              refine aw_aI C hv18 dX11_told_93 ?_
              have e9 := inj1 h
              subst e9
              exact hret _ _ dX11_told_94
            · rw [if_neg c16] at h
              by_cases c19 : x2 = Int32.ofNat 5
              · rw [if_pos c19] at h
                refine aw_tin C (5) 95 c19 dX11_told_13 (by decide) (by decide) rfl (by decide) ?_
                refine aw_aload_n C 0 dX11_told_95 rfl rfl ?_
                refine aw_iload_n C 1 dX11_told_96 rfl rfl ?_
                obtain ⟨g20, hg20, h⟩ := bindE h
                obtain ⟨v21, hv21, h⟩ := bindE h
                refine aw_cV_I C [.int x1] _ (mt_X11_stateOf hv21) cs_X11_stateOf ml_X11_208 im_X11_stateOf se_X11_stateOf (ci := 11) rfl rfl hg20 ⟨by decide, by decide⟩ ⟨rfl, rfl⟩ ⟨Nat.zero_le _, Nat.zero_le _⟩ rfl rfl (Nat.le_of_ble_eq_true rfl) dX11_told_97 ?_
                have e9 := inj1 h
                subst e9
                exact hret _ _ dX11_told_100
              · rw [if_neg c19] at h
                by_cases c22 : x2 = Int32.ofNat 6
                · rw [if_pos c22] at h
                  refine aw_tin C (6) 101 c22 dX11_told_13 (by decide) (by decide) rfl (by decide) ?_
                  refine aw_aload_n C 0 dX11_told_101 rfl rfl ?_
                  refine aw_iload_n C 1 dX11_told_102 rfl rfl ?_
                  obtain ⟨g23, hg23, h⟩ := bindE h
                  obtain ⟨v24, hv24, h⟩ := bindE h
                  refine aw_cV_I C [.int x1] _ (mt_X11_sayingsOf hv24) cs_X11_sayingsOf ml_X11_201 im_X11_sayingsOf se_X11_sayingsOf (ci := 11) rfl rfl hg23 ⟨by decide, by decide⟩ ⟨rfl, rfl⟩ ⟨Nat.zero_le _, Nat.zero_le _⟩ rfl rfl (Nat.le_of_ble_eq_true rfl) dX11_told_103 ?_
                  have e9 := inj1 h
                  subst e9
                  exact hret _ _ dX11_told_106
                · rw [if_neg c22] at h
                  by_cases c25 : x2 = Int32.ofNat 7
                  · rw [if_pos c25] at h
                    refine aw_tin C (7) 107 c25 dX11_told_13 (by decide) (by decide) rfl (by decide) ?_
                    refine aw_aload_n C 0 dX11_told_107 rfl rfl ?_
                    obtain ⟨v26, hv26, h⟩ := bindE h
                    refine aw_gR C fl_X11_62 rfl hv26 dX11_told_108 ?_
                    refine aw_iload_n C 1 dX11_told_111 rfl rfl ?_
                    obtain ⟨v27, hv27, h⟩ := bindE h
                    refine aw_aI C hv27 dX11_told_112 ?_
                    have e9 := inj1 h
                    subst e9
                    exact hret _ _ dX11_told_113
                  · rw [if_neg c25] at h
                    refine aw_tout C 114 dX11_told_13 (tsw_out 8 (by decide) (fun k hk => by rcases (show k = 0 ∨ k = 1 ∨ k = 2 ∨ k = 3 ∨ k = 4 ∨ k = 5 ∨ k = 6 ∨ k = 7 by omega) with rfl | rfl | rfl | rfl | rfl | rfl | rfl | rfl <;> assumption)) (by decide) ?_
                    refine aw_sipush C ((-1002)) dX11_told_114 (by decide) ?_
                    have e9 := inj1 h
                    subst e9
                    exact hret _ _ dX11_told_117
  · rw [if_pos c3] at h
    refine aw_sipush C ((-1001)) dX11_told_8 (by decide) ?_
    have e9 := inj1 h
    subst e9
    exact hret _ _ dX11_told_11
set_option maxRecDepth 100000 in
set_option maxHeartbeats 4000000 in
theorem mt_X11_told {G : GL} {l : Launch} {a0 : Nat} {x1 : Int32} {x2 : Int32} {μ : Mem} {r : Int32} (h : X11_told a0 x1 x2 μ = some r) : MtI G l yX11_told cX11_told 3 (some .int) rm_X11_told false [.ref (gZ G + a0), .int x1, .int x2] μ r μ := met_I (by decide) rfl rfl (Nat.le_of_ble_eq_true rfl) (fun X _ C _ _ hret => wk_X11_told C h hret)
set_option maxRecDepth 100000 in
set_option maxHeartbeats 4000000 in
theorem wk_X11_valueOf {G : GL} {X : CX} {a0 : Nat} {x1 : Int32} {x2 : Int32} {x3 : Int32} {μ : Mem} {r : Int32} {μ' : Mem} (C : Ctx G X cX11_valueOf 6 RX11 rm_X11_valueOf) (h : X11_valueOf a0 x1 x2 x3 μ = some (r, μ')) (hret : RtI G 6 X cX11_valueOf 0 0 r μ') : AW G 6 X 0 0 0 [(0, .ref (gZ G + a0)), (1, .int x1), (2, .int x2), (3, .int x3)] [] μ := by
  unfold X11_valueOf at h
  refine aw_aload_n C 0 dX11_valueOf_0 rfl rfl ?_
  obtain ⟨v1, hv1, h⟩ := bindE h
  refine aw_gI C fl_X11_158 rfl hv1 dX11_valueOf_1 ?_
  refine aw_iload_n C 3 dX11_valueOf_4 rfl rfl ?_
  refine aw_iadd C dX11_valueOf_5 ?_
  obtain ⟨v2, ev2, h⟩ := bindS h
  refine aw_topi ev2 ?_
  refine aw_istore C [(4, .int v2), (0, .ref (gZ G + a0)), (1, .int x1), (2, .int x2), (3, .int x3)] dX11_valueOf_6 (by decide) rfl ?_
  refine aw_aload_n C 1 dX11_valueOf_8 rfl rfl ?_
  obtain ⟨v3, hv3, h⟩ := bindE h
  refine aw_gR C fl_X11_53 rfl hv3 dX11_valueOf_9 ?_
  refine aw_iload_n C 2 dX11_valueOf_12 rfl rfl ?_
  obtain ⟨v4, hv4, h⟩ := bindE h
  refine aw_aI C hv4 dX11_valueOf_13 ?_
  refine aw_aload_n C 1 dX11_valueOf_14 rfl rfl ?_
  obtain ⟨v5, hv5, h⟩ := bindE h
  refine aw_gR C fl_X11_56 rfl hv5 dX11_valueOf_15 ?_
  refine aw_iload_n C 2 dX11_valueOf_18 rfl rfl ?_
  obtain ⟨v6, hv6, h⟩ := bindE h
  refine aw_aI C hv6 dX11_valueOf_19 ?_
  refine aw_iload C 0 dX11_valueOf_20 rfl ?_
  refine aw_aload_n C 1 dX11_valueOf_22 rfl rfl ?_
  obtain ⟨v7, hv7, h⟩ := bindE h
  refine aw_gR C fl_X11_62 rfl hv7 dX11_valueOf_23 ?_
  refine aw_iload_n C 2 dX11_valueOf_26 rfl rfl ?_
  obtain ⟨v8, hv8, h⟩ := bindE h
  refine aw_aI C hv8 dX11_valueOf_27 ?_
  refine aw_isub C dX11_valueOf_28 ?_
  refine aw_imul C dX11_valueOf_29 ?_
  refine aw_isub C dX11_valueOf_30 ?_
  obtain ⟨v9, ev9, h⟩ := bindS h
  refine aw_topi ev9 ?_
  refine aw_istore C [(5, .int v9), (4, .int v2), (0, .ref (gZ G + a0)), (1, .int x1), (2, .int x2), (3, .int x3)] dX11_valueOf_31 (by decide) rfl ?_
  refine aw_aload_n C 2 dX11_valueOf_33 rfl rfl ?_
  obtain ⟨v10, hv10, h⟩ := bindE h
  refine aw_gR C fl_X11_65 rfl hv10 dX11_valueOf_34 ?_
  refine aw_iload_n C 3 dX11_valueOf_37 rfl rfl ?_
  obtain ⟨v11, hv11, h⟩ := bindE h
  refine aw_aZ C hv11 dX11_valueOf_38 ?_
  refine aw_if_ne C 58 dX11_valueOf_39 (by decide) (fun c12 => ?_) (fun c12 => ?_)
  · rw [if_neg c12] at h
    refine aw_iconst C 0 dX11_valueOf_58 (by decide) ?_
    obtain ⟨e8, e9⟩ := inj2 h
    subst e8
    subst e9
    exact hret _ _ dX11_valueOf_59
  · rw [if_pos c12] at h
    refine aw_iload C 1 dX11_valueOf_42 rfl ?_
    refine aw_aload_n C 2 dX11_valueOf_44 rfl rfl ?_
    obtain ⟨v13, hv13, h⟩ := bindE h
    refine aw_gR C fl_X11_59 rfl hv13 dX11_valueOf_45 ?_
    refine aw_iload_n C 3 dX11_valueOf_48 rfl rfl ?_
    obtain ⟨v14, hv14, h⟩ := bindE h
    refine aw_aI C hv14 dX11_valueOf_49 ?_
    refine aw_icmp_gt C 58 dX11_valueOf_50 (by decide) (fun c15 => ?_) (fun c15 => ?_)
    · rw [if_pos c15] at h
      refine aw_iconst C 0 dX11_valueOf_58 (by decide) ?_
      obtain ⟨e8, e9⟩ := inj2 h
      subst e8
      subst e9
      exact hret _ _ dX11_valueOf_59
    · rw [if_neg c15] at h
      refine aw_iload C 0 dX11_valueOf_53 rfl ?_
      refine aw_if_gt C 60 dX11_valueOf_55 (by decide) (fun c16 => ?_) (fun c16 => ?_)
      · rw [if_pos c16] at h
        refine aw_aload_n C 2 dX11_valueOf_60 rfl rfl ?_
        obtain ⟨v17, hv17, h⟩ := bindE h
        refine aw_gR C fl_X11_44 rfl hv17 dX11_valueOf_61 ?_
        refine aw_iload_n C 3 dX11_valueOf_64 rfl rfl ?_
        obtain ⟨v18, hv18, h⟩ := bindE h
        refine aw_aI C hv18 dX11_valueOf_65 ?_
        refine aw_iconst C 2 dX11_valueOf_66 (by decide) ?_
        obtain ⟨z24, hz24, h⟩ := bindE h
        have kj67 : AW G 6 X 0 0 95 [] [.int z24.1] z24.2 := by
          obtain ⟨e8, e9⟩ := inj2 h
          subst e8
          subst e9
          exact hret _ _ dX11_valueOf_95
        replace h := hz24
        refine aw_icmp_ne C 93 dX11_valueOf_67 (by decide) (fun c19 => ?_) (fun c19 => ?_)
        · rw [if_neg c19] at h
          refine aw_iload C 0 dX11_valueOf_93 rfl ?_
          have e9 := inj1 h
          subst e9
          exact aw_sub [] rfl kj67
        · rw [if_pos c19] at h
          refine aw_iload C 0 dX11_valueOf_70 rfl ?_
          refine aw_i2l C dX11_valueOf_72 ?_
          refine aw_aload_n C 2 dX11_valueOf_73 rfl rfl ?_
          refine aw_iload_n C 4 dX11_valueOf_74 rfl rfl ?_
          refine aw_aload_n C 2 dX11_valueOf_75 rfl rfl ?_
          obtain ⟨v20, hv20, h⟩ := bindE h
          refine aw_gI C fl_X11_158 rfl hv20 dX11_valueOf_76 ?_
          refine aw_iload_n C 5 dX11_valueOf_79 rfl rfl ?_
          obtain ⟨g21, hg21, h⟩ := bindE h
          obtain ⟨z22, hz22, h⟩ := bindE h
          refine aw_cV_I C [.int x2, .int v20, .int x3] _ (mt_X11_seamOdds hz22) cs_X11_seamOdds ml_X11_179 im_X11_seamOdds se_X11_seamOdds (ci := 11) rfl rfl hg21 ⟨by decide, by decide⟩ ⟨rfl, rfl⟩ ⟨Nat.zero_le _, Nat.zero_le _⟩ rfl rfl (Nat.le_of_ble_eq_true rfl) dX11_valueOf_80 ?_
          refine aw_i2l C dX11_valueOf_83 ?_
          refine aw_lmul C dX11_valueOf_84 ?_
          refine aw_ldc2 C kl_X11_171 dX11_valueOf_85 ?_
          obtain ⟨v23, hv23, h⟩ := bindE h
          refine aw_ldiv C hv23 dX11_valueOf_88 ?_
          refine aw_l2i C dX11_valueOf_89 ?_
          refine aw_goto C 95 dX11_valueOf_90 (by decide) ?_
          have e9 := inj1 h
          subst e9
          exact aw_sub [] rfl kj67
      · rw [if_neg c16] at h
        refine aw_iconst C 0 dX11_valueOf_58 (by decide) ?_
        obtain ⟨e8, e9⟩ := inj2 h
        subst e8
        subst e9
        exact hret _ _ dX11_valueOf_59
set_option maxRecDepth 100000 in
set_option maxHeartbeats 4000000 in
theorem mt_X11_valueOf {G : GL} {l : Launch} {a0 : Nat} {x1 : Int32} {x2 : Int32} {x3 : Int32} {μ : Mem} {r : Int32} {μ' : Mem} (h : X11_valueOf a0 x1 x2 x3 μ = some (r, μ')) : MtI G l yX11_valueOf cX11_valueOf 6 (some .int) rm_X11_valueOf false [.ref (gZ G + a0), .int x1, .int x2, .int x3] μ r μ' := met_I (by decide) rfl rfl (Nat.le_of_ble_eq_true rfl) (fun X _ C _ _ hret => wk_X11_valueOf C h hret)
set_option maxRecDepth 100000 in
set_option maxHeartbeats 4000000 in
theorem wk_X11_value {G : GL} {X : CX} {a0 : Nat} {x1 : Int32} {x2 : Int32} {x3 : Int32} {μ : Mem} {r : Int32} {μ' : Mem} (C : Ctx G X cX11_value 4 RX11 rm_X11_value) (h : X11_value a0 x1 x2 x3 μ = some (r, μ')) (hret : RtI G 4 X cX11_value 0 0 r μ') : AW G 4 X 0 0 0 [(0, .ref (gZ G + a0)), (1, .int x1), (2, .int x2), (3, .int x3)] [] μ := by
  unfold X11_value at h
  refine aw_aload_n C 0 dX11_value_0 rfl rfl ?_
  refine aw_iload_n C 1 dX11_value_1 rfl rfl ?_
  obtain ⟨g1, hg1, h⟩ := bindE h
  obtain ⟨v2, hv2, h⟩ := bindE h
  refine aw_cV_I C [.int x1] _ (mt_X11_isThing hv2) cs_X11_isThing ml_X11_198 im_X11_isThing se_X11_isThing (ci := 11) rfl rfl hg1 ⟨by decide, by decide⟩ ⟨rfl, rfl⟩ ⟨Nat.zero_le _, Nat.zero_le _⟩ rfl rfl (Nat.le_of_ble_eq_true rfl) dX11_value_2 ?_
  refine aw_if_eq C 15 dX11_value_5 (by decide) (fun c3 => ?_) (fun c3 => ?_)
  · rw [if_pos c3] at h
    refine aw_sipush C ((-1001)) dX11_value_15 (by decide) ?_
    obtain ⟨e8, e9⟩ := inj2 h
    subst e8
    subst e9
    exact hret _ _ dX11_value_18
  · rw [if_neg c3] at h
    refine aw_iload_n C 2 dX11_value_8 rfl rfl ?_
    refine aw_cS_I C [.int x2] _ (mt_X11_isPerson _) cs_X11_isPerson ml_X11_153 st_X11_isPerson ⟨by decide, by decide⟩ ⟨rfl, rfl⟩ ⟨Nat.zero_le _, Nat.zero_le _⟩ rfl rfl (Nat.le_of_ble_eq_true rfl) dX11_value_9 ?_
    refine aw_if_ne C 19 dX11_value_12 (by decide) (fun c4 => ?_) (fun c4 => ?_)
    · rw [if_neg c4] at h
      refine aw_iload_n C 3 dX11_value_19 rfl rfl ?_
      refine aw_i2l C dX11_value_20 ?_
      refine aw_lconst C 0 dX11_value_21 (by decide) ?_
      refine aw_ldc2 C kl_X11_177 dX11_value_22 ?_
      refine aw_cS_I C [.long x3.toInt64, .long 0, .long 8] _ (mt_X11_in _ _ _) cs_X11_in ml_X11_138 st_X11_in ⟨by decide, by decide⟩ ⟨rfl, rfl⟩ ⟨Nat.zero_le _, Nat.zero_le _⟩ rfl rfl (Nat.le_of_ble_eq_true rfl) dX11_value_25 ?_
      obtain ⟨z8, hz8, h⟩ := bindE h
      have kj28 : AW G 4 X 0 0 44 [] [.int z8.1] z8.2 := by
        obtain ⟨e8, e9⟩ := inj2 h
        subst e8
        subst e9
        exact hret _ _ dX11_value_44
      replace h := hz8
      refine aw_if_eq C 41 dX11_value_28 (by decide) (fun c5 => ?_) (fun c5 => ?_)
      · rw [if_pos c5] at h
        refine aw_sipush C ((-1002)) dX11_value_41 (by decide) ?_
        have e9 := inj1 h
        subst e9
        exact aw_sub [] rfl kj28
      · rw [if_neg c5] at h
        refine aw_aload_n C 0 dX11_value_31 rfl rfl ?_
        refine aw_iload_n C 1 dX11_value_32 rfl rfl ?_
        refine aw_iload_n C 2 dX11_value_33 rfl rfl ?_
        refine aw_iload_n C 3 dX11_value_34 rfl rfl ?_
        obtain ⟨g6, hg6, h⟩ := bindE h
        obtain ⟨z7, hz7, h⟩ := bindE h
        refine aw_cV_I C [.int x1, .int x2, .int x3] _ (mt_X11_valueOf hz7) cs_X11_valueOf ml_X11_211 im_X11_valueOf se_X11_valueOf (ci := 11) rfl rfl hg6 ⟨by decide, by decide⟩ ⟨rfl, rfl⟩ ⟨Nat.zero_le _, Nat.zero_le _⟩ rfl rfl (Nat.le_of_ble_eq_true rfl) dX11_value_35 ?_
        refine aw_goto C 44 dX11_value_38 (by decide) ?_
        have e9 := inj1 h
        subst e9
        exact aw_sub [] rfl kj28
    · rw [if_pos c4] at h
      refine aw_sipush C ((-1001)) dX11_value_15 (by decide) ?_
      obtain ⟨e8, e9⟩ := inj2 h
      subst e8
      subst e9
      exact hret _ _ dX11_value_18
set_option maxRecDepth 100000 in
set_option maxHeartbeats 4000000 in
theorem mt_X11_value {G : GL} {l : Launch} {a0 : Nat} {x1 : Int32} {x2 : Int32} {x3 : Int32} {μ : Mem} {r : Int32} {μ' : Mem} (h : X11_value a0 x1 x2 x3 μ = some (r, μ')) : MtI G l yX11_value cX11_value 4 (some .int) rm_X11_value false [.ref (gZ G + a0), .int x1, .int x2, .int x3] μ r μ' := met_I (by decide) rfl rfl (Nat.le_of_ble_eq_true rfl) (fun X _ C _ _ hret => wk_X11_value C h hret)
set_option maxRecDepth 100000 in
set_option maxHeartbeats 4000000 in
theorem wk_X11_isWay {G : GL} {X : CX} {x0 : Int32} {μ : Mem} (C : Ctx G X cX11_isWay 1 RX11 rm_X11_isWay) (hret : RtZ G 1 X cX11_isWay 0 0 (X11_isWay x0) μ) : AW G 1 X 0 0 0 [(0, .int x0)] [] μ := by
  unfold X11_isWay at hret
  refine aw_iload_n C 0 dX11_isWay_0 rfl rfl ?_
  refine aw_i2l C dX11_isWay_1 ?_
  refine aw_lconst C 0 dX11_isWay_2 (by decide) ?_
  refine aw_ldc2 C kl_X11_136 dX11_isWay_3 ?_
  refine aw_cS_I C [.long x0.toInt64, .long 0, .long 3] _ (mt_X11_in _ _ _) cs_X11_in ml_X11_138 st_X11_in ⟨by decide, by decide⟩ ⟨rfl, rfl⟩ ⟨Nat.zero_le _, Nat.zero_le _⟩ rfl rfl (Nat.le_of_ble_eq_true rfl) dX11_isWay_6 ?_
  exact hret _ _ dX11_isWay_9 (z_X11_in _ _ _)
set_option maxRecDepth 100000 in
set_option maxHeartbeats 4000000 in
theorem mt_X11_isWay {G : GL} {l : Launch} (x0 : Int32) {μ : Mem} : MtI G l yX11_isWay cX11_isWay 1 (some .boolean) rm_X11_isWay false [.int x0] μ (X11_isWay x0) μ := met_Z (by decide) rfl (Nat.le_of_ble_eq_true rfl) (fun X _ C _ _ hret => wk_X11_isWay C hret)
theorem z_X11_isWay (x0 : Int32) : X11_isWay x0 = 0 ∨ X11_isWay x0 = 1 := by
  unfold X11_isWay
  exact z_X11_in _ _ _
set_option maxRecDepth 100000 in
set_option maxHeartbeats 4000000 in
theorem wk_X11_cost {G : GL} {X : CX} {a0 : Nat} {x1 : Int32} {x2 : Int32} {x3 : Int32} {μ : Mem} {r : Int32} {μ' : Mem} (C : Ctx G X cX11_cost 5 RX11 rm_X11_cost) (h : X11_cost a0 x1 x2 x3 μ = some (r, μ')) (hret : RtI G 5 X cX11_cost 0 0 r μ') : AW G 5 X 0 0 0 [(0, .ref (gZ G + a0)), (1, .int x1), (2, .int x2), (3, .int x3)] [] μ := by
  unfold X11_cost at h
  refine aw_iload_n C 1 dX11_cost_0 rfl rfl ?_
  refine aw_cS_I C [.int x1] _ (mt_X11_isWay _) cs_X11_isWay ml_X11_214 st_X11_isWay ⟨by decide, by decide⟩ ⟨rfl, rfl⟩ ⟨Nat.zero_le _, Nat.zero_le _⟩ rfl rfl (Nat.le_of_ble_eq_true rfl) dX11_cost_1 ?_
  refine aw_if_eq C 26 dX11_cost_4 (by decide) (fun c1 => ?_) (fun c1 => ?_)
  · rw [if_pos c1] at h
    refine aw_sipush C ((-1002)) dX11_cost_26 (by decide) ?_
    obtain ⟨e8, e9⟩ := inj2 h
    subst e8
    subst e9
    exact hret _ _ dX11_cost_29
  · rw [if_neg c1] at h
    refine aw_iload_n C 2 dX11_cost_7 rfl rfl ?_
    refine aw_cS_I C [.int x2] _ (mt_X11_isState _) cs_X11_isState ml_X11_142 st_X11_isState ⟨by decide, by decide⟩ ⟨rfl, rfl⟩ ⟨Nat.zero_le _, Nat.zero_le _⟩ rfl rfl (Nat.le_of_ble_eq_true rfl) dX11_cost_8 ?_
    refine aw_if_eq C 26 dX11_cost_11 (by decide) (fun c2 => ?_) (fun c2 => ?_)
    · rw [if_pos c2] at h
      refine aw_sipush C ((-1002)) dX11_cost_26 (by decide) ?_
      obtain ⟨e8, e9⟩ := inj2 h
      subst e8
      subst e9
      exact hret _ _ dX11_cost_29
    · rw [if_neg c2] at h
      refine aw_iload_n C 3 dX11_cost_14 rfl rfl ?_
      refine aw_i2l C dX11_cost_15 ?_
      refine aw_lconst C 0 dX11_cost_16 (by decide) ?_
      refine aw_ldc2 C kl_X11_189 dX11_cost_17 ?_
      refine aw_cS_I C [.long x3.toInt64, .long 0, .long 999] _ (mt_X11_in _ _ _) cs_X11_in ml_X11_138 st_X11_in ⟨by decide, by decide⟩ ⟨rfl, rfl⟩ ⟨Nat.zero_le _, Nat.zero_le _⟩ rfl rfl (Nat.le_of_ble_eq_true rfl) dX11_cost_20 ?_
      refine aw_if_ne C 30 dX11_cost_23 (by decide) (fun c3 => ?_) (fun c3 => ?_)
      · rw [if_neg c3] at h
        refine aw_aload_n C 0 dX11_cost_30 rfl rfl ?_
        obtain ⟨v4, hv4, h⟩ := bindE h
        refine aw_gR C fl_X11_69 rfl hv4 dX11_cost_31 ?_
        refine aw_iconst C 4 dX11_cost_34 (by decide) ?_
        refine aw_iload_n C 1 dX11_cost_35 rfl rfl ?_
        refine aw_imul C dX11_cost_36 ?_
        refine aw_iload_n C 2 dX11_cost_37 rfl rfl ?_
        refine aw_iadd C dX11_cost_38 ?_
        obtain ⟨v5, hv5, h⟩ := bindE h
        refine aw_aI C hv5 dX11_cost_39 ?_
        refine aw_istore C [(4, .int v5), (0, .ref (gZ G + a0)), (1, .int x1), (2, .int x2), (3, .int x3)] dX11_cost_40 (by decide) rfl ?_
        refine aw_aload_n C 1 dX11_cost_42 rfl rfl ?_
        obtain ⟨v6, hv6, h⟩ := bindE h
        refine aw_gR C fl_X11_69 rfl hv6 dX11_cost_43 ?_
        refine aw_iconst C 4 dX11_cost_46 (by decide) ?_
        refine aw_iload_n C 2 dX11_cost_47 rfl rfl ?_
        refine aw_imul C dX11_cost_48 ?_
        refine aw_iload_n C 3 dX11_cost_49 rfl rfl ?_
        refine aw_iadd C dX11_cost_50 ?_
        refine aw_iload_n C 4 dX11_cost_51 rfl rfl ?_
        obtain ⟨μ7, hμ7, h⟩ := bindE h
        refine aw_sI C hμ7 dX11_cost_52 ?_
        refine aw_iload C 0 dX11_cost_53 rfl ?_
        obtain ⟨e8, e9⟩ := inj2 h
        subst e8
        subst e9
        exact hret _ _ dX11_cost_55
      · rw [if_pos c3] at h
        refine aw_sipush C ((-1002)) dX11_cost_26 (by decide) ?_
        obtain ⟨e8, e9⟩ := inj2 h
        subst e8
        subst e9
        exact hret _ _ dX11_cost_29
set_option maxRecDepth 100000 in
set_option maxHeartbeats 4000000 in
theorem mt_X11_cost {G : GL} {l : Launch} {a0 : Nat} {x1 : Int32} {x2 : Int32} {x3 : Int32} {μ : Mem} {r : Int32} {μ' : Mem} (h : X11_cost a0 x1 x2 x3 μ = some (r, μ')) : MtI G l yX11_cost cX11_cost 5 (some .int) rm_X11_cost false [.ref (gZ G + a0), .int x1, .int x2, .int x3] μ r μ' := met_I (by decide) rfl rfl (Nat.le_of_ble_eq_true rfl) (fun X _ C _ _ hret => wk_X11_cost C h hret)
set_option maxRecDepth 100000 in
set_option maxHeartbeats 4000000 in
theorem wk_X11_seen {G : GL} {X : CX} {a0 : Nat} {x1 : Int32} {x2 : Int32} {μ : Mem} {r : Int32} {μ' : Mem} (C : Ctx G X cX11_seen 4 RX11 rm_X11_seen) (h : X11_seen a0 x1 x2 μ = some (r, μ')) (hret : RtI G 4 X cX11_seen 0 0 r μ') : AW G 4 X 0 0 0 [(0, .ref (gZ G + a0)), (1, .int x1), (2, .int x2)] [] μ := by
  unfold X11_seen at h
  refine aw_iload_n C 1 dX11_seen_0 rfl rfl ?_
  refine aw_cS_I C [.int x1] _ (mt_X11_isWay _) cs_X11_isWay ml_X11_214 st_X11_isWay ⟨by decide, by decide⟩ ⟨rfl, rfl⟩ ⟨Nat.zero_le _, Nat.zero_le _⟩ rfl rfl (Nat.le_of_ble_eq_true rfl) dX11_seen_1 ?_
  refine aw_if_eq C 19 dX11_seen_4 (by decide) (fun c1 => ?_) (fun c1 => ?_)
  · rw [if_pos c1] at h
    refine aw_sipush C ((-1002)) dX11_seen_19 (by decide) ?_
    obtain ⟨e8, e9⟩ := inj2 h
    subst e8
    subst e9
    exact hret _ _ dX11_seen_22
  · rw [if_neg c1] at h
    refine aw_iload_n C 2 dX11_seen_7 rfl rfl ?_
    refine aw_i2l C dX11_seen_8 ?_
    refine aw_lconst C 0 dX11_seen_9 (by decide) ?_
    refine aw_ldc2 C kl_X11_217 dX11_seen_10 ?_
    refine aw_cS_I C [.long x2.toInt64, .long 0, .long 100] _ (mt_X11_in _ _ _) cs_X11_in ml_X11_138 st_X11_in ⟨by decide, by decide⟩ ⟨rfl, rfl⟩ ⟨Nat.zero_le _, Nat.zero_le _⟩ rfl rfl (Nat.le_of_ble_eq_true rfl) dX11_seen_13 ?_
    refine aw_if_ne C 23 dX11_seen_16 (by decide) (fun c2 => ?_) (fun c2 => ?_)
    · rw [if_neg c2] at h
      refine aw_aload_n C 0 dX11_seen_23 rfl rfl ?_
      obtain ⟨v3, hv3, h⟩ := bindE h
      refine aw_gR C fl_X11_72 rfl hv3 dX11_seen_24 ?_
      refine aw_iload_n C 1 dX11_seen_27 rfl rfl ?_
      obtain ⟨v4, hv4, h⟩ := bindE h
      refine aw_aI C hv4 dX11_seen_28 ?_
      refine aw_istore_n C [(3, .int v4), (0, .ref (gZ G + a0)), (1, .int x1), (2, .int x2)] dX11_seen_29 rfl (by decide) rfl ?_
      refine aw_aload_n C 1 dX11_seen_30 rfl rfl ?_
      obtain ⟨v5, hv5, h⟩ := bindE h
      refine aw_gR C fl_X11_72 rfl hv5 dX11_seen_31 ?_
      refine aw_iload_n C 2 dX11_seen_34 rfl rfl ?_
      refine aw_iload_n C 3 dX11_seen_35 rfl rfl ?_
      obtain ⟨μ6, hμ6, h⟩ := bindE h
      refine aw_sI C hμ6 dX11_seen_36 ?_
      refine aw_iload_n C 0 dX11_seen_37 rfl rfl ?_
      obtain ⟨e8, e9⟩ := inj2 h
      subst e8
      subst e9
      exact hret _ _ dX11_seen_38
    · rw [if_pos c2] at h
      refine aw_sipush C ((-1002)) dX11_seen_19 (by decide) ?_
      obtain ⟨e8, e9⟩ := inj2 h
      subst e8
      subst e9
      exact hret _ _ dX11_seen_22
set_option maxRecDepth 100000 in
set_option maxHeartbeats 4000000 in
theorem mt_X11_seen {G : GL} {l : Launch} {a0 : Nat} {x1 : Int32} {x2 : Int32} {μ : Mem} {r : Int32} {μ' : Mem} (h : X11_seen a0 x1 x2 μ = some (r, μ')) : MtI G l yX11_seen cX11_seen 4 (some .int) rm_X11_seen false [.ref (gZ G + a0), .int x1, .int x2] μ r μ' := met_I (by decide) rfl rfl (Nat.le_of_ble_eq_true rfl) (fun X _ C _ _ hret => wk_X11_seen C h hret)
set_option maxRecDepth 100000 in
set_option maxHeartbeats 4000000 in
theorem X11_lossOf_L14_ok {G : GL} {X : CX} (C : Ctx G X cX11_lossOf 7 RX11 rm_X11_lossOf) (a0 : Nat) (x2 : Int32) (μ : Mem) : ∀ (n : Nat) (x5 : Int32) (x6 : Int32) (z : Int32 × Int32), X11_lossOf_L14 a0 x2 μ n x5 x6 = some z → AW G 7 X 0 0 53 [(0, .ref (gZ G + a0)), (2, .int x2), (5, .int z.1), (6, .int z.2)] [] μ → AW G 7 X 0 0 14 [(0, .ref (gZ G + a0)), (2, .int x2), (5, .int x5), (6, .int x6)] [] μ := by
  intro n
  induction n with
  | zero =>
    intro x5 x6 z h kx
    rw [X11_lossOf_L14] at h
    cases h
  | succ n ih =>
    intro x5 x6 z h kx
    rw [X11_lossOf_L14] at h
    refine aw_iload C 3 dX11_lossOf_14 rfl ?_
    refine aw_iconst C 4 dX11_lossOf_16 (by decide) ?_
    refine aw_icmp_ge C 53 dX11_lossOf_17 (by decide) (fun c1 => ?_) (fun c1 => ?_)
    · rw [if_pos c1] at h
      have e9 := inj1 h
      subst e9
      exact aw_sub [0, 1, 2, 3] rfl kx
    · rw [if_neg c1] at h
      refine aw_iload C 2 dX11_lossOf_20 rfl ?_
      refine aw_aload_n C 0 dX11_lossOf_22 rfl rfl ?_
      obtain ⟨v2, hv2, h⟩ := bindE h
      refine aw_gR C fl_X11_35 rfl hv2 dX11_lossOf_23 ?_
      refine aw_iload C 3 dX11_lossOf_26 rfl ?_
      obtain ⟨v3, hv3, h⟩ := bindE h
      refine aw_aI C hv3 dX11_lossOf_28 ?_
      refine aw_aload_n C 0 dX11_lossOf_29 rfl rfl ?_
      obtain ⟨v4, hv4, h⟩ := bindE h
      refine aw_gR C fl_X11_69 rfl hv4 dX11_lossOf_30 ?_
      refine aw_iconst C 4 dX11_lossOf_33 (by decide) ?_
      refine aw_iload_n C 1 dX11_lossOf_34 rfl rfl ?_
      refine aw_imul C dX11_lossOf_35 ?_
      refine aw_iload C 3 dX11_lossOf_36 rfl ?_
      refine aw_iadd C dX11_lossOf_38 ?_
      obtain ⟨v5, hv5, h⟩ := bindE h
      refine aw_aI C hv5 dX11_lossOf_39 ?_
      refine aw_imul C dX11_lossOf_40 ?_
      refine aw_ldc C kc_X11_219 dX11_lossOf_41 ?_
      obtain ⟨v6, hv6, h⟩ := bindE h
      refine aw_idiv C hv6 dX11_lossOf_43 ?_
      refine aw_iadd C dX11_lossOf_44 ?_
      obtain ⟨v7, ev7, h⟩ := bindS h
      refine aw_topi ev7 ?_
      refine aw_istore C [(5, .int v7), (0, .ref (gZ G + a0)), (2, .int x2), (6, .int x6)] dX11_lossOf_45 (by decide) rfl ?_
      refine aw_iinc C (x6 + 1) 3 [(6, .int (x6 + 1)), (5, .int v7), (0, .ref (gZ G + a0)), (2, .int x2)] dX11_lossOf_47 rfl rfl (by decide) rfl ?_
      refine aw_goto C 14 dX11_lossOf_50 (by decide) ?_
      exact aw_sub [2, 3, 1, 0] rfl (ih _ _ _ h kx)
set_option maxRecDepth 100000 in
set_option maxHeartbeats 4000000 in
theorem wk_X11_lossOf {G : GL} {X : CX} {a0 : Nat} {x1 : Int32} {x2 : Int32} {x3 : Int32} {x4 : Int32} {μ : Mem} {r : Int32} {μ' : Mem} (C : Ctx G X cX11_lossOf 7 RX11 rm_X11_lossOf) (h : X11_lossOf a0 x1 x2 x3 x4 μ = some (r, μ')) (hret : RtI G 7 X cX11_lossOf 0 0 r μ') : AW G 7 X 0 0 0 [(0, .ref (gZ G + a0)), (1, .int x1), (2, .int x2), (3, .int x3), (4, .int x4)] [] μ := by
  unfold X11_lossOf at h
  refine aw_aload_n C 0 dX11_lossOf_0 rfl rfl ?_
  refine aw_iload_n C 1 dX11_lossOf_1 rfl rfl ?_
  refine aw_iload_n C 3 dX11_lossOf_2 rfl rfl ?_
  refine aw_iload C 4 dX11_lossOf_3 rfl ?_
  obtain ⟨g1, hg1, h⟩ := bindE h
  obtain ⟨μ2, hμ2, h⟩ := bindE h
  refine aw_cV_V C [.int x1, .int x3, .int x4] _ (mt_X11_findOdds hμ2) cs_X11_findOdds ml_X11_173 im_X11_findOdds se_X11_findOdds (ci := 11) rfl rfl hg1 ⟨by decide, by decide⟩ ⟨rfl, rfl⟩ ⟨Nat.zero_le _, Nat.zero_le _⟩ rfl rfl (Nat.le_of_ble_eq_true rfl) dX11_lossOf_5 ?_
  refine aw_iconst C 0 dX11_lossOf_8 (by decide) ?_
  refine aw_istore C [(5, .int 0), (0, .ref (gZ G + a0)), (1, .int x1), (2, .int x2), (3, .int x3), (4, .int x4)] dX11_lossOf_9 (by decide) rfl ?_
  refine aw_iconst C 0 dX11_lossOf_11 (by decide) ?_
  refine aw_istore C [(6, .int 0), (5, .int 0), (0, .ref (gZ G + a0)), (1, .int x1), (2, .int x2), (3, .int x3), (4, .int x4)] dX11_lossOf_12 (by decide) rfl ?_
  obtain ⟨z3, hz3, h⟩ := bindE h
  refine aw_sub [2, 4, 1, 0] rfl ?_
  refine X11_lossOf_L14_ok C _ _ _ _ _ _ _ hz3 ?_
  refine aw_iload C 2 dX11_lossOf_53 rfl ?_
  obtain ⟨e8, e9⟩ := inj2 h
  subst e8
  subst e9
  exact hret _ _ dX11_lossOf_55
set_option maxRecDepth 100000 in
set_option maxHeartbeats 4000000 in
theorem mt_X11_lossOf {G : GL} {l : Launch} {a0 : Nat} {x1 : Int32} {x2 : Int32} {x3 : Int32} {x4 : Int32} {μ : Mem} {r : Int32} {μ' : Mem} (h : X11_lossOf a0 x1 x2 x3 x4 μ = some (r, μ')) : MtI G l yX11_lossOf cX11_lossOf 7 (some .int) rm_X11_lossOf false [.ref (gZ G + a0), .int x1, .int x2, .int x3, .int x4] μ r μ' := met_I (by decide) rfl rfl (Nat.le_of_ble_eq_true rfl) (fun X _ C _ _ hret => wk_X11_lossOf C h hret)
set_option maxRecDepth 100000 in
set_option maxHeartbeats 4000000 in
theorem wk_X11_loss {G : GL} {X : CX} {a0 : Nat} {x1 : Int32} {x2 : Int32} {x3 : Int32} {μ : Mem} {r : Int32} {μ' : Mem} (C : Ctx G X cX11_loss 4 RX11 rm_X11_loss) (h : X11_loss a0 x1 x2 x3 μ = some (r, μ')) (hret : RtI G 4 X cX11_loss 0 0 r μ') : AW G 4 X 0 0 0 [(0, .ref (gZ G + a0)), (1, .int x1), (2, .int x2), (3, .int x3)] [] μ := by
  unfold X11_loss at h
  refine aw_iload_n C 1 dX11_loss_0 rfl rfl ?_
  refine aw_cS_I C [.int x1] _ (mt_X11_isPerson _) cs_X11_isPerson ml_X11_153 st_X11_isPerson ⟨by decide, by decide⟩ ⟨rfl, rfl⟩ ⟨Nat.zero_le _, Nat.zero_le _⟩ rfl rfl (Nat.le_of_ble_eq_true rfl) dX11_loss_1 ?_
  refine aw_if_ne C 11 dX11_loss_4 (by decide) (fun c1 => ?_) (fun c1 => ?_)
  · rw [if_neg c1] at h
    refine aw_iload_n C 2 dX11_loss_11 rfl rfl ?_
    refine aw_cS_I C [.int x2] _ (mt_X11_isWay _) cs_X11_isWay ml_X11_214 st_X11_isWay ⟨by decide, by decide⟩ ⟨rfl, rfl⟩ ⟨Nat.zero_le _, Nat.zero_le _⟩ rfl rfl (Nat.le_of_ble_eq_true rfl) dX11_loss_12 ?_
    obtain ⟨z7, hz7, h⟩ := bindE h
    have kj15 : AW G 4 X 0 0 47 [] [.int z7.1] z7.2 := by
      obtain ⟨e8, e9⟩ := inj2 h
      subst e8
      subst e9
      exact hret _ _ dX11_loss_47
    replace h := hz7
    refine aw_if_eq C 44 dX11_loss_15 (by decide) (fun c2 => ?_) (fun c2 => ?_)
    · rw [if_pos c2] at h
      refine aw_sipush C ((-1002)) dX11_loss_44 (by decide) ?_
      have e9 := inj1 h
      subst e9
      exact aw_sub [] rfl kj15
    · rw [if_neg c2] at h
      refine aw_iload_n C 3 dX11_loss_18 rfl rfl ?_
      refine aw_i2l C dX11_loss_19 ?_
      refine aw_lconst C 0 dX11_loss_20 (by decide) ?_
      refine aw_ldc2 C kl_X11_177 dX11_loss_21 ?_
      refine aw_cS_I C [.long x3.toInt64, .long 0, .long 8] _ (mt_X11_in _ _ _) cs_X11_in ml_X11_138 st_X11_in ⟨by decide, by decide⟩ ⟨rfl, rfl⟩ ⟨Nat.zero_le _, Nat.zero_le _⟩ rfl rfl (Nat.le_of_ble_eq_true rfl) dX11_loss_24 ?_
      refine aw_if_eq C 44 dX11_loss_27 (by decide) (fun c3 => ?_) (fun c3 => ?_)
      · rw [if_pos c3] at h
        refine aw_sipush C ((-1002)) dX11_loss_44 (by decide) ?_
        have e9 := inj1 h
        subst e9
        exact aw_sub [] rfl kj15
      · rw [if_neg c3] at h
        refine aw_aload_n C 0 dX11_loss_30 rfl rfl ?_
        refine aw_iload_n C 1 dX11_loss_31 rfl rfl ?_
        refine aw_iload_n C 2 dX11_loss_32 rfl rfl ?_
        refine aw_aload_n C 0 dX11_loss_33 rfl rfl ?_
        obtain ⟨v4, hv4, h⟩ := bindE h
        refine aw_gI C fl_X11_158 rfl hv4 dX11_loss_34 ?_
        refine aw_iload_n C 3 dX11_loss_37 rfl rfl ?_
        obtain ⟨g5, hg5, h⟩ := bindE h
        obtain ⟨z6, hz6, h⟩ := bindE h
        refine aw_cV_I C [.int x1, .int x2, .int v4, .int x3] _ (mt_X11_lossOf hz6) cs_X11_lossOf ml_X11_220 im_X11_lossOf se_X11_lossOf (ci := 11) rfl rfl hg5 ⟨by decide, by decide⟩ ⟨rfl, rfl⟩ ⟨Nat.zero_le _, Nat.zero_le _⟩ rfl rfl (Nat.le_of_ble_eq_true rfl) dX11_loss_38 ?_
        refine aw_goto C 47 dX11_loss_41 (by decide) ?_
        have e9 := inj1 h
        subst e9
        exact aw_sub [] rfl kj15
  · rw [if_pos c1] at h
    refine aw_sipush C ((-1001)) dX11_loss_7 (by decide) ?_
    obtain ⟨e8, e9⟩ := inj2 h
    subst e8
    subst e9
    exact hret _ _ dX11_loss_10
set_option maxRecDepth 100000 in
set_option maxHeartbeats 4000000 in
theorem mt_X11_loss {G : GL} {l : Launch} {a0 : Nat} {x1 : Int32} {x2 : Int32} {x3 : Int32} {μ : Mem} {r : Int32} {μ' : Mem} (h : X11_loss a0 x1 x2 x3 μ = some (r, μ')) : MtI G l yX11_loss cX11_loss 4 (some .int) rm_X11_loss false [.ref (gZ G + a0), .int x1, .int x2, .int x3] μ r μ' := met_I (by decide) rfl rfl (Nat.le_of_ble_eq_true rfl) (fun X _ C _ _ hret => wk_X11_loss C h hret)
set_option maxRecDepth 100000 in
set_option maxHeartbeats 4000000 in
theorem X11_thingsThat_L4_ok {G : GL} {X : CX} (C : Ctx G X cX11_thingsThat 4 RX11 rm_X11_thingsThat) (a0 : Nat) (x1 : Int32) (μ : Mem) : ∀ (n : Nat) (x2 : Int32) (x3 : Int32) (z : Int32 × Int32), X11_thingsThat_L4 a0 x1 μ n x2 x3 = some z → AW G 4 X 0 0 35 [(0, .ref (gZ G + a0)), (1, .int x1), (2, .int z.1), (3, .int z.2)] [] μ → AW G 4 X 0 0 4 [(0, .ref (gZ G + a0)), (1, .int x1), (2, .int x2), (3, .int x3)] [] μ := by
  intro n
  induction n with
  | zero =>
    intro x2 x3 z h kx
    rw [X11_thingsThat_L4] at h
    cases h
  | succ n ih =>
    intro x2 x3 z h kx
    rw [X11_thingsThat_L4] at h
    refine aw_iload_n C 3 dX11_thingsThat_4 rfl rfl ?_
    refine aw_aload_n C 0 dX11_thingsThat_5 rfl rfl ?_
    obtain ⟨v1, hv1, h⟩ := bindE h
    refine aw_gI C fl_X11_182 rfl hv1 dX11_thingsThat_6 ?_
    refine aw_icmp_ge C 35 dX11_thingsThat_9 (by decide) (fun c2 => ?_) (fun c2 => ?_)
    · rw [if_pos c2] at h
      have e9 := inj1 h
      subst e9
      exact aw_sub [0, 1, 2, 3] rfl kx
    · rw [if_neg c2] at h
      refine aw_iload_n C 2 dX11_thingsThat_12 rfl rfl ?_
      refine aw_aload_n C 0 dX11_thingsThat_13 rfl rfl ?_
      refine aw_iload_n C 3 dX11_thingsThat_14 rfl rfl ?_
      obtain ⟨g3, hg3, h⟩ := bindE h
      obtain ⟨v4, hv4, h⟩ := bindE h
      refine aw_cV_I C [.int x3] _ (mt_X11_stateOf hv4) cs_X11_stateOf ml_X11_208 im_X11_stateOf se_X11_stateOf (ci := 11) rfl rfl hg3 ⟨by decide, by decide⟩ ⟨rfl, rfl⟩ ⟨Nat.zero_le _, Nat.zero_le _⟩ rfl rfl (Nat.le_of_ble_eq_true rfl) dX11_thingsThat_15 ?_
      refine aw_iload_n C 1 dX11_thingsThat_18 rfl rfl ?_
      obtain ⟨v6, ev6, h⟩ := bindS h
      have kj19 : AW G 4 X 0 0 27 [(0, .ref (gZ G + a0)), (1, .int x1), (3, .int x3)] [.int v6, .int x2] μ := by
        refine aw_iadd C dX11_thingsThat_27 ?_
        obtain ⟨v7, ev7, h⟩ := bindS h
        refine aw_topi ev7 ?_
        refine aw_istore_n C [(2, .int v7), (0, .ref (gZ G + a0)), (1, .int x1), (3, .int x3)] dX11_thingsThat_28 rfl (by decide) rfl ?_
        refine aw_iinc C (x3 + 1) 3 [(3, .int (x3 + 1)), (2, .int v7), (0, .ref (gZ G + a0)), (1, .int x1)] dX11_thingsThat_29 rfl rfl (by decide) rfl ?_
        refine aw_goto C 4 dX11_thingsThat_32 (by decide) ?_
        exact aw_sub [2, 3, 1, 0] rfl (ih _ _ _ h kx)
      clear h
      refine aw_icmp_ne C 26 dX11_thingsThat_19 (by decide) (fun c5 => ?_) (fun c5 => ?_)
      · refine aw_iconst C 0 dX11_thingsThat_26 (by decide) ?_
        rw [if_neg c5] at ev6
        subst ev6
        exact aw_sub [0, 1, 3] rfl kj19
      · refine aw_iconst C 1 dX11_thingsThat_22 (by decide) ?_
        refine aw_goto C 27 dX11_thingsThat_23 (by decide) ?_
        rw [if_pos c5] at ev6
        subst ev6
        exact aw_sub [0, 1, 3] rfl kj19
set_option maxRecDepth 100000 in
set_option maxHeartbeats 4000000 in
theorem wk_X11_thingsThat {G : GL} {X : CX} {a0 : Nat} {x1 : Int32} {μ : Mem} {r : Int32} (C : Ctx G X cX11_thingsThat 4 RX11 rm_X11_thingsThat) (h : X11_thingsThat a0 x1 μ = some r) (hret : RtI G 4 X cX11_thingsThat 0 0 r μ) : AW G 4 X 0 0 0 [(0, .ref (gZ G + a0)), (1, .int x1)] [] μ := by
  unfold X11_thingsThat at h
  refine aw_iconst C 0 dX11_thingsThat_0 (by decide) ?_
  refine aw_istore_n C [(2, .int 0), (0, .ref (gZ G + a0)), (1, .int x1)] dX11_thingsThat_1 rfl (by decide) rfl ?_
  refine aw_iconst C 0 dX11_thingsThat_2 (by decide) ?_
  refine aw_istore_n C [(3, .int 0), (2, .int 0), (0, .ref (gZ G + a0)), (1, .int x1)] dX11_thingsThat_3 rfl (by decide) rfl ?_
  obtain ⟨z1, hz1, h⟩ := bindE h
  refine aw_sub [2, 3, 1, 0] rfl ?_
  refine X11_thingsThat_L4_ok C _ _ _ _ _ _ _ hz1 ?_
  refine aw_iload_n C 2 dX11_thingsThat_35 rfl rfl ?_
  have e9 := inj1 h
  subst e9
  exact hret _ _ dX11_thingsThat_36
set_option maxRecDepth 100000 in
set_option maxHeartbeats 4000000 in
theorem mt_X11_thingsThat {G : GL} {l : Launch} {a0 : Nat} {x1 : Int32} {μ : Mem} {r : Int32} (h : X11_thingsThat a0 x1 μ = some r) : MtI G l yX11_thingsThat cX11_thingsThat 4 (some .int) rm_X11_thingsThat false [.ref (gZ G + a0), .int x1] μ r μ := met_I (by decide) rfl rfl (Nat.le_of_ble_eq_true rfl) (fun X _ C _ _ hret => wk_X11_thingsThat C h hret)
set_option maxRecDepth 100000 in
set_option maxHeartbeats 4000000 in
theorem wk_X11_count {G : GL} {X : CX} {a0 : Nat} {x1 : Int32} {μ : Mem} {r : Int32} (C : Ctx G X cX11_count 2 RX11 rm_X11_count) (h : X11_count a0 x1 μ = some r) (hret : RtI G 2 X cX11_count 0 0 r μ) : AW G 2 X 0 0 0 [(0, .ref (gZ G + a0)), (1, .int x1)] [] μ := by
  unfold X11_count at h
  refine aw_iload_n C 1 dX11_count_0 rfl rfl ?_
  by_cases c1 : x1 = Int32.ofNat 0
  · rw [if_pos c1] at h
    refine aw_tin C (0) 48 c1 dX11_count_1 (by decide) (by decide) rfl (by decide) ?_
    refine aw_aload_n C 0 dX11_count_48 rfl rfl ?_
    obtain ⟨v2, hv2, h⟩ := bindE h
    refine aw_gI C fl_X11_158 rfl hv2 dX11_count_49 ?_
    have e9 := inj1 h
    subst e9
    exact hret _ _ dX11_count_52
  · rw [if_neg c1] at h
    by_cases c3 : x1 = Int32.ofNat 1
    · rw [if_pos c3] at h
      refine aw_tin C (1) 53 c3 dX11_count_1 (by decide) (by decide) rfl (by decide) ?_
      refine aw_aload_n C 0 dX11_count_53 rfl rfl ?_
      obtain ⟨v4, hv4, h⟩ := bindE h
      refine aw_gI C fl_X11_182 rfl hv4 dX11_count_54 ?_
      have e9 := inj1 h
      subst e9
      exact hret _ _ dX11_count_57
    · rw [if_neg c3] at h
      by_cases c5 : x1 = Int32.ofNat 2
      · rw [if_pos c5] at h
        refine aw_tin C (2) 58 c5 dX11_count_1 (by decide) (by decide) rfl (by decide) ?_
        refine aw_aload_n C 0 dX11_count_58 rfl rfl ?_
        refine aw_iconst C 0 dX11_count_59 (by decide) ?_
        obtain ⟨g6, hg6, h⟩ := bindE h
        obtain ⟨v7, hv7, h⟩ := bindE h
        refine aw_cV_I C [.int 0] _ (mt_X11_thingsThat hv7) cs_X11_thingsThat ml_X11_224 im_X11_thingsThat se_X11_thingsThat (ci := 11) rfl rfl hg6 ⟨by decide, by decide⟩ ⟨rfl, rfl⟩ ⟨Nat.zero_le _, Nat.zero_le _⟩ rfl rfl (Nat.le_of_ble_eq_true rfl) dX11_count_60 ?_
        have e9 := inj1 h
        subst e9
        exact hret _ _ dX11_count_63
      · rw [if_neg c5] at h
        by_cases c8 : x1 = Int32.ofNat 3
        · rw [if_pos c8] at h
          refine aw_tin C (3) 64 c8 dX11_count_1 (by decide) (by decide) rfl (by decide) ?_
          refine aw_aload_n C 0 dX11_count_64 rfl rfl ?_
          refine aw_iconst C 1 dX11_count_65 (by decide) ?_
          obtain ⟨g9, hg9, h⟩ := bindE h
          obtain ⟨v10, hv10, h⟩ := bindE h
          refine aw_cV_I C [.int 1] _ (mt_X11_thingsThat hv10) cs_X11_thingsThat ml_X11_224 im_X11_thingsThat se_X11_thingsThat (ci := 11) rfl rfl hg9 ⟨by decide, by decide⟩ ⟨rfl, rfl⟩ ⟨Nat.zero_le _, Nat.zero_le _⟩ rfl rfl (Nat.le_of_ble_eq_true rfl) dX11_count_66 ?_
          have e9 := inj1 h
          subst e9
          exact hret _ _ dX11_count_69
        · rw [if_neg c8] at h
          by_cases c11 : x1 = Int32.ofNat 4
          · rw [if_pos c11] at h
            refine aw_tin C (4) 70 c11 dX11_count_1 (by decide) (by decide) rfl (by decide) ?_
            refine aw_aload_n C 0 dX11_count_70 rfl rfl ?_
            refine aw_iconst C 2 dX11_count_71 (by decide) ?_
            obtain ⟨g12, hg12, h⟩ := bindE h
            obtain ⟨v13, hv13, h⟩ := bindE h
            refine aw_cV_I C [.int 2] _ (mt_X11_thingsThat hv13) cs_X11_thingsThat ml_X11_224 im_X11_thingsThat se_X11_thingsThat (ci := 11) rfl rfl hg12 ⟨by decide, by decide⟩ ⟨rfl, rfl⟩ ⟨Nat.zero_le _, Nat.zero_le _⟩ rfl rfl (Nat.le_of_ble_eq_true rfl) dX11_count_72 ?_
            have e9 := inj1 h
            subst e9
            exact hret _ _ dX11_count_75
          · rw [if_neg c11] at h
            by_cases c14 : x1 = Int32.ofNat 5
            · rw [if_pos c14] at h
              refine aw_tin C (5) 76 c14 dX11_count_1 (by decide) (by decide) rfl (by decide) ?_
              refine aw_aload_n C 0 dX11_count_76 rfl rfl ?_
              refine aw_iconst C 3 dX11_count_77 (by decide) ?_
              obtain ⟨g15, hg15, h⟩ := bindE h
              obtain ⟨v16, hv16, h⟩ := bindE h
              refine aw_cV_I C [.int 3] _ (mt_X11_thingsThat hv16) cs_X11_thingsThat ml_X11_224 im_X11_thingsThat se_X11_thingsThat (ci := 11) rfl rfl hg15 ⟨by decide, by decide⟩ ⟨rfl, rfl⟩ ⟨Nat.zero_le _, Nat.zero_le _⟩ rfl rfl (Nat.le_of_ble_eq_true rfl) dX11_count_78 ?_
              have e9 := inj1 h
              subst e9
              exact hret _ _ dX11_count_81
            · rw [if_neg c14] at h
              by_cases c17 : x1 = Int32.ofNat 6
              · rw [if_pos c17] at h
                refine aw_tin C (6) 82 c17 dX11_count_1 (by decide) (by decide) rfl (by decide) ?_
                refine aw_aload_n C 0 dX11_count_82 rfl rfl ?_
                obtain ⟨v18, hv18, h⟩ := bindE h
                refine aw_gI C fl_X11_195 rfl hv18 dX11_count_83 ?_
                have e9 := inj1 h
                subst e9
                exact hret _ _ dX11_count_86
              · rw [if_neg c17] at h
                by_cases c19 : x1 = Int32.ofNat 7
                · rw [if_pos c19] at h
                  refine aw_tin C (7) 87 c19 dX11_count_1 (by decide) (by decide) rfl (by decide) ?_
                  refine aw_aload_n C 0 dX11_count_87 rfl rfl ?_
                  obtain ⟨v20, hv20, h⟩ := bindE h
                  refine aw_gI C fl_X11_227 rfl hv20 dX11_count_88 ?_
                  have e9 := inj1 h
                  subst e9
                  exact hret _ _ dX11_count_91
                · rw [if_neg c19] at h
                  refine aw_tout C 92 dX11_count_1 (tsw_out 8 (by decide) (fun k hk => by rcases (show k = 0 ∨ k = 1 ∨ k = 2 ∨ k = 3 ∨ k = 4 ∨ k = 5 ∨ k = 6 ∨ k = 7 by omega) with rfl | rfl | rfl | rfl | rfl | rfl | rfl | rfl <;> assumption)) (by decide) ?_
                  refine aw_sipush C ((-1002)) dX11_count_92 (by decide) ?_
                  have e9 := inj1 h
                  subst e9
                  exact hret _ _ dX11_count_95
set_option maxRecDepth 100000 in
set_option maxHeartbeats 4000000 in
theorem mt_X11_count {G : GL} {l : Launch} {a0 : Nat} {x1 : Int32} {μ : Mem} {r : Int32} (h : X11_count a0 x1 μ = some r) : MtI G l yX11_count cX11_count 2 (some .int) rm_X11_count false [.ref (gZ G + a0), .int x1] μ r μ := met_I (by decide) rfl rfl (Nat.le_of_ble_eq_true rfl) (fun X _ C _ _ hret => wk_X11_count C h hret)
set_option maxRecDepth 100000 in
set_option maxHeartbeats 4000000 in
theorem X11_feed_L37_ok {G : GL} {X : CX} (C : Ctx G X cX11_feed 5 RX11 rm_X11_feed) (a0 : Nat) (j2 : Int64) : ∀ (n : Nat) (x4 : Int32) (μ : Mem) (z : Int32 × Mem), X11_feed_L37 a0 j2 n x4 μ = some z → AW G 5 X 0 0 79 [(0, .ref (gZ G + a0)), (2, .long j2), (4, .int z.1)] [] z.2 → AW G 5 X 0 0 37 [(0, .ref (gZ G + a0)), (2, .long j2), (4, .int x4)] [] μ := by
  intro n
  induction n with
  | zero =>
    intro x4 μ z h kx
    rw [X11_feed_L37] at h
    cases h
  | succ n ih =>
    intro x4 μ z h kx
    rw [X11_feed_L37] at h
    refine aw_iload C 2 dX11_feed_37 rfl ?_
    refine aw_if_lt C 79 dX11_feed_39 (by decide) (fun c1 => ?_) (fun c1 => ?_)
    · rw [if_pos c1] at h
      have e9 := inj1 h
      subst e9
      exact aw_sub [0, 1, 2] rfl kx
    · rw [if_neg c1] at h
      refine aw_aload_n C 0 dX11_feed_42 rfl rfl ?_
      obtain ⟨v2, hv2, h⟩ := bindE h
      refine aw_gR C fl_X11_102 rfl hv2 dX11_feed_43 ?_
      refine aw_aload_n C 0 dX11_feed_46 rfl rfl ?_
      obtain ⟨v3, hv3, h⟩ := bindE h
      refine aw_gI C fl_X11_227 rfl hv3 dX11_feed_47 ?_
      refine aw_lload_n C 1 dX11_feed_50 rfl rfl ?_
      refine aw_bipush C 8 dX11_feed_51 (by decide) ?_
      refine aw_iload C 2 dX11_feed_53 rfl ?_
      refine aw_imul C dX11_feed_55 ?_
      refine aw_lshr C dX11_feed_56 ?_
      refine aw_ldc2 C kl_X11_230 dX11_feed_57 ?_
      refine aw_land C dX11_feed_60 ?_
      refine aw_l2i C dX11_feed_61 ?_
      obtain ⟨μ4, hμ4, h⟩ := bindE h
      refine aw_sI C hμ4 dX11_feed_62 ?_
      refine aw_aload_n C 0 dX11_feed_63 rfl rfl ?_
      refine aw_dup C dX11_feed_64 rfl ?_
      obtain ⟨v5, hv5, h⟩ := bindE h
      refine aw_gI C fl_X11_227 rfl hv5 dX11_feed_65 ?_
      refine aw_iconst C 1 dX11_feed_68 (by decide) ?_
      refine aw_iadd C dX11_feed_69 ?_
      obtain ⟨μ6, hμ6, h⟩ := bindE h
      refine aw_pI C fl_X11_227 rfl hμ6 dX11_feed_70 ?_
      refine aw_iinc C (x4 + (-1)) 2 [(4, .int (x4 + (-1))), (0, .ref (gZ G + a0)), (2, .long j2)] dX11_feed_73 rfl rfl (by decide) rfl ?_
      refine aw_goto C 37 dX11_feed_76 (by decide) ?_
      exact aw_sub [1, 2, 0] rfl (ih _ _ _ h kx)
set_option maxRecDepth 100000 in
set_option maxHeartbeats 4000000 in
theorem wk_X11_feed {G : GL} {X : CX} {a0 : Nat} {x1 : Int32} {j2 : Int64} {μ : Mem} {r : Int32} {μ' : Mem} (C : Ctx G X cX11_feed 5 RX11 rm_X11_feed) (h : X11_feed a0 x1 j2 μ = some (r, μ')) (hret : RtI G 5 X cX11_feed 0 0 r μ') : AW G 5 X 0 0 0 [(0, .ref (gZ G + a0)), (1, .int x1), (2, .long j2)] [] μ := by
  unfold X11_feed at h
  refine aw_iload_n C 1 dX11_feed_0 rfl rfl ?_
  refine aw_i2l C dX11_feed_1 ?_
  refine aw_lconst C 1 dX11_feed_2 (by decide) ?_
  refine aw_ldc2 C kl_X11_177 dX11_feed_3 ?_
  refine aw_cS_I C [.long x1.toInt64, .long 1, .long 8] _ (mt_X11_in _ _ _) cs_X11_in ml_X11_138 st_X11_in ⟨by decide, by decide⟩ ⟨rfl, rfl⟩ ⟨Nat.zero_le _, Nat.zero_le _⟩ rfl rfl (Nat.le_of_ble_eq_true rfl) dX11_feed_6 ?_
  refine aw_if_ne C 16 dX11_feed_9 (by decide) (fun c1 => ?_) (fun c1 => ?_)
  · rw [if_neg c1] at h
    refine aw_aload_n C 0 dX11_feed_16 rfl rfl ?_
    obtain ⟨v2, hv2, h⟩ := bindE h
    refine aw_gI C fl_X11_227 rfl hv2 dX11_feed_17 ?_
    refine aw_iload_n C 1 dX11_feed_20 rfl rfl ?_
    refine aw_iadd C dX11_feed_21 ?_
    refine aw_sipush C 160 dX11_feed_22 (by decide) ?_
    refine aw_icmp_le C 32 dX11_feed_25 (by decide) (fun c3 => ?_) (fun c3 => ?_)
    · rw [if_pos c3] at h
      refine aw_iload_n C 1 dX11_feed_32 rfl rfl ?_
      refine aw_iconst C 1 dX11_feed_33 (by decide) ?_
      refine aw_isub C dX11_feed_34 ?_
      obtain ⟨v4, ev4, h⟩ := bindS h
      refine aw_topi ev4 ?_
      refine aw_istore C [(4, .int v4), (0, .ref (gZ G + a0)), (1, .int x1), (2, .long j2)] dX11_feed_35 (by decide) rfl ?_
      obtain ⟨z5, hz5, h⟩ := bindE h
      refine aw_sub [1, 3, 0] rfl ?_
      refine X11_feed_L37_ok C _ _ _ _ _ _ hz5 ?_
      refine aw_aload_n C 0 dX11_feed_79 rfl rfl ?_
      obtain ⟨v6, hv6, h⟩ := bindE h
      refine aw_gI C fl_X11_227 rfl hv6 dX11_feed_80 ?_
      obtain ⟨e8, e9⟩ := inj2 h
      subst e8
      subst e9
      exact hret _ _ dX11_feed_83
    · rw [if_neg c3] at h
      refine aw_sipush C ((-1004)) dX11_feed_28 (by decide) ?_
      obtain ⟨e8, e9⟩ := inj2 h
      subst e8
      subst e9
      exact hret _ _ dX11_feed_31
  · rw [if_pos c1] at h
    refine aw_sipush C ((-1002)) dX11_feed_12 (by decide) ?_
    obtain ⟨e8, e9⟩ := inj2 h
    subst e8
    subst e9
    exact hret _ _ dX11_feed_15
set_option maxRecDepth 100000 in
set_option maxHeartbeats 4000000 in
theorem mt_X11_feed {G : GL} {l : Launch} {a0 : Nat} {x1 : Int32} {j2 : Int64} {μ : Mem} {r : Int32} {μ' : Mem} (h : X11_feed a0 x1 j2 μ = some (r, μ')) : MtI G l yX11_feed cX11_feed 5 (some .int) rm_X11_feed false [.ref (gZ G + a0), .int x1, .long j2] μ r μ' := met_I (by decide) rfl rfl (Nat.le_of_ble_eq_true rfl) (fun X _ C _ _ hret => wk_X11_feed C h hret)
set_option maxRecDepth 100000 in
set_option maxHeartbeats 4000000 in
theorem X11_here_L0_ok {G : GL} {X : CX} (C : Ctx G X cX11_here 1 RX11 rm_X11_here) (a0 : Nat) : ∀ (n : Nat)  (μ : Mem) (z : Mem), X11_here_L0 a0 n μ = some z → AW G 1 X 0 0 38 [(0, .ref (gZ G + a0))] [] z → AW G 1 X 0 0 0 [(0, .ref (gZ G + a0))] [] μ := by
  intro n
  induction n with
  | zero =>
    intro  μ z h kx
    rw [X11_here_L0] at h
    cases h
  | succ n ih =>
    intro  μ z h kx
    rw [X11_here_L0] at h
    refine aw_aload_n C 0 dX11_here_0 rfl rfl ?_
    obtain ⟨v1, hv1, h⟩ := bindE h
    refine aw_gI C fl_X11_232 rfl hv1 dX11_here_1 ?_
    refine aw_aload_n C 0 dX11_here_4 rfl rfl ?_
    obtain ⟨v2, hv2, h⟩ := bindE h
    refine aw_gI C fl_X11_227 rfl hv2 dX11_here_5 ?_
    refine aw_icmp_ge C 38 dX11_here_8 (by decide) (fun c3 => ?_) (fun c3 => ?_)
    · rw [if_pos c3] at h
      have e9 := inj1 h
      subst e9
      exact aw_sub [0] rfl kx
    · rw [if_neg c3] at h
      refine aw_aload_n C 0 dX11_here_11 rfl rfl ?_
      obtain ⟨v4, hv4, h⟩ := bindE h
      refine aw_gR C fl_X11_102 rfl hv4 dX11_here_12 ?_
      refine aw_aload_n C 0 dX11_here_15 rfl rfl ?_
      obtain ⟨v5, hv5, h⟩ := bindE h
      refine aw_gI C fl_X11_232 rfl hv5 dX11_here_16 ?_
      obtain ⟨v6, hv6, h⟩ := bindE h
      refine aw_aI C hv6 dX11_here_19 ?_
      refine aw_bipush C 32 dX11_here_20 (by decide) ?_
      refine aw_icmp_ne C 38 dX11_here_22 (by decide) (fun c7 => ?_) (fun c7 => ?_)
      · rw [if_neg c7] at h
        have e9 := inj1 h
        subst e9
        exact aw_sub [0] rfl kx
      · rw [if_pos c7] at h
        refine aw_aload_n C 0 dX11_here_25 rfl rfl ?_
        refine aw_dup C dX11_here_26 rfl ?_
        obtain ⟨v8, hv8, h⟩ := bindE h
        refine aw_gI C fl_X11_232 rfl hv8 dX11_here_27 ?_
        refine aw_iconst C 1 dX11_here_30 (by decide) ?_
        refine aw_iadd C dX11_here_31 ?_
        obtain ⟨μ9, hμ9, h⟩ := bindE h
        refine aw_pI C fl_X11_232 rfl hμ9 dX11_here_32 ?_
        refine aw_goto C 0 dX11_here_35 (by decide) ?_
        exact aw_sub [0] rfl (ih _ _ h kx)
set_option maxRecDepth 100000 in
set_option maxHeartbeats 4000000 in
theorem wk_X11_here {G : GL} {X : CX} {a0 : Nat} {μ : Mem} {r : Int32} {μ' : Mem} (C : Ctx G X cX11_here 1 RX11 rm_X11_here) (h : X11_here a0 μ = some (r, μ')) (hret : RtI G 1 X cX11_here 0 0 r μ') : AW G 1 X 0 0 0 [(0, .ref (gZ G + a0))] [] μ := by
  unfold X11_here at h
  obtain ⟨z1, hz1, h⟩ := bindE h
  refine aw_sub [0] rfl ?_
  refine X11_here_L0_ok C _ _ _ _ hz1 ?_
  refine aw_aload_n C 0 dX11_here_38 rfl rfl ?_
  obtain ⟨v2, hv2, h⟩ := bindE h
  refine aw_gI C fl_X11_232 rfl hv2 dX11_here_39 ?_
  refine aw_aload_n C 0 dX11_here_42 rfl rfl ?_
  obtain ⟨v3, hv3, h⟩ := bindE h
  refine aw_gI C fl_X11_227 rfl hv3 dX11_here_43 ?_
  obtain ⟨z8, hz8, h⟩ := bindE h
  have kj46 : AW G 1 X 0 0 62 [] [.int z8] z1 := by
    obtain ⟨e8, e9⟩ := inj2 h
    subst e8
    subst e9
    exact hret _ _ dX11_here_62
  replace h := hz8
  refine aw_icmp_ge C 61 dX11_here_46 (by decide) (fun c4 => ?_) (fun c4 => ?_)
  · rw [if_pos c4] at h
    refine aw_iconst C ((-1)) dX11_here_61 (by decide) ?_
    have e9 := inj1 h
    subst e9
    exact aw_sub [] rfl kj46
  · rw [if_neg c4] at h
    refine aw_aload_n C 0 dX11_here_49 rfl rfl ?_
    obtain ⟨v5, hv5, h⟩ := bindE h
    refine aw_gR C fl_X11_102 rfl hv5 dX11_here_50 ?_
    refine aw_aload_n C 0 dX11_here_53 rfl rfl ?_
    obtain ⟨v6, hv6, h⟩ := bindE h
    refine aw_gI C fl_X11_232 rfl hv6 dX11_here_54 ?_
    obtain ⟨v7, hv7, h⟩ := bindE h
    refine aw_aI C hv7 dX11_here_57 ?_
    refine aw_goto C 62 dX11_here_58 (by decide) ?_
    have e9 := inj1 h
    subst e9
    exact aw_sub [] rfl kj46
set_option maxRecDepth 100000 in
set_option maxHeartbeats 4000000 in
theorem mt_X11_here {G : GL} {l : Launch} {a0 : Nat} {μ : Mem} {r : Int32} {μ' : Mem} (h : X11_here a0 μ = some (r, μ')) : MtI G l yX11_here cX11_here 1 (some .int) rm_X11_here false [.ref (gZ G + a0)] μ r μ' := met_I (by decide) rfl rfl (Nat.le_of_ble_eq_true rfl) (fun X _ C _ _ hret => wk_X11_here C h hret)
set_option maxRecDepth 100000 in
set_option maxHeartbeats 4000000 in
theorem wk_X11_fails {G : GL} {X : CX} {a0 : Nat} {x1 : Int32} {x2 : Int32} {μ : Mem} {r : Int32} {μ' : Mem} (C : Ctx G X cX11_fails 3 RX11 rm_X11_fails) (h : X11_fails a0 x1 x2 μ = some (r, μ')) (hret : RtI G 3 X cX11_fails 0 0 r μ') : AW G 3 X 0 0 0 [(0, .ref (gZ G + a0)), (1, .int x1), (2, .int x2)] [] μ := by
  unfold X11_fails at h
  refine aw_aload_n C 0 dX11_fails_0 rfl rfl ?_
  refine aw_iload_n C 2 dX11_fails_1 rfl rfl ?_
  obtain ⟨μ1, hμ1, h⟩ := bindE h
  refine aw_pI C fl_X11_105 rfl hμ1 dX11_fails_2 ?_
  refine aw_iload_n C 1 dX11_fails_5 rfl rfl ?_
  obtain ⟨e8, e9⟩ := inj2 h
  subst e8
  subst e9
  exact hret _ _ dX11_fails_6
set_option maxRecDepth 100000 in
set_option maxHeartbeats 4000000 in
theorem mt_X11_fails {G : GL} {l : Launch} {a0 : Nat} {x1 : Int32} {x2 : Int32} {μ : Mem} {r : Int32} {μ' : Mem} (h : X11_fails a0 x1 x2 μ = some (r, μ')) : MtI G l yX11_fails cX11_fails 3 (some .int) rm_X11_fails false [.ref (gZ G + a0), .int x1, .int x2] μ r μ' := met_I (by decide) rfl rfl (Nat.le_of_ble_eq_true rfl) (fun X _ C _ _ hret => wk_X11_fails C h hret)
set_option maxRecDepth 100000 in
set_option maxHeartbeats 4000000 in
theorem X11_readWord_L18_ok {G : GL} {X : CX} (C : Ctx G X cX11_readWord 2 RX11 rm_X11_readWord) (a0 : Nat) : ∀ (n : Nat)  (μ : Mem) (z : Mem), X11_readWord_L18 a0 n μ = some z → AW G 2 X 0 0 108 [(0, .ref (gZ G + a0))] [] z → AW G 2 X 0 0 18 [(0, .ref (gZ G + a0))] [] μ := by
  intro n
  induction n with
  | zero =>
    intro  μ z h kx
    rw [X11_readWord_L18] at h
    cases h
  | succ n ih =>
    intro  μ z h kx
    rw [X11_readWord_L18] at h
    refine aw_aload_n C 0 dX11_readWord_18 rfl rfl ?_
    obtain ⟨v1, hv1, h⟩ := bindE h
    refine aw_gI C fl_X11_243 rfl hv1 dX11_readWord_19 ?_
    refine aw_aload_n C 0 dX11_readWord_22 rfl rfl ?_
    obtain ⟨v2, hv2, h⟩ := bindE h
    refine aw_gI C fl_X11_227 rfl hv2 dX11_readWord_23 ?_
    refine aw_icmp_ge C 108 dX11_readWord_26 (by decide) (fun c3 => ?_) (fun c3 => ?_)
    · rw [if_pos c3] at h
      have e9 := inj1 h
      subst e9
      exact aw_sub [0] rfl kx
    · rw [if_neg c3] at h
      refine aw_aload_n C 0 dX11_readWord_29 rfl rfl ?_
      obtain ⟨v4, hv4, h⟩ := bindE h
      refine aw_gR C fl_X11_102 rfl hv4 dX11_readWord_30 ?_
      refine aw_aload_n C 0 dX11_readWord_33 rfl rfl ?_
      obtain ⟨v5, hv5, h⟩ := bindE h
      refine aw_gI C fl_X11_243 rfl hv5 dX11_readWord_34 ?_
      obtain ⟨v6, hv6, h⟩ := bindE h
      refine aw_aI C hv6 dX11_readWord_37 ?_
      refine aw_i2l C dX11_readWord_38 ?_
      refine aw_ldc2 C kl_X11_246 dX11_readWord_39 ?_
      refine aw_ldc2 C kl_X11_248 dX11_readWord_42 ?_
      refine aw_cS_I C [.long v6.toInt64, .long 97, .long 122] _ (mt_X11_in _ _ _) cs_X11_in ml_X11_138 st_X11_in ⟨by decide, by decide⟩ ⟨rfl, rfl⟩ ⟨Nat.zero_le _, Nat.zero_le _⟩ rfl rfl (Nat.le_of_ble_eq_true rfl) dX11_readWord_45 ?_
      refine aw_if_eq C 108 dX11_readWord_48 (by decide) (fun c7 => ?_) (fun c7 => ?_)
      · rw [if_pos c7] at h
        have e9 := inj1 h
        subst e9
        exact aw_sub [0] rfl kx
      · rw [if_neg c7] at h
        refine aw_aload_n C 0 dX11_readWord_51 rfl rfl ?_
        refine aw_aload_n C 0 dX11_readWord_52 rfl rfl ?_
        obtain ⟨v8, hv8, h⟩ := bindE h
        refine aw_gJ C fl_X11_239 rfl hv8 dX11_readWord_53 ?_
        refine aw_ldc2 C kl_X11_250 dX11_readWord_56 ?_
        refine aw_lcmp C dX11_readWord_59 ?_
        obtain ⟨z14, hz14, h⟩ := bindE h
        have kj60 : AW G 2 X 0 0 92 [(0, .ref (gZ G + a0))] [.long z14, .ref (gZ G + a0)] μ := by
          obtain ⟨μ15, hμ15, h⟩ := bindE h
          refine aw_pJ C fl_X11_239 rfl hμ15 dX11_readWord_92 ?_
          refine aw_aload_n C 0 dX11_readWord_95 rfl rfl ?_
          refine aw_dup C dX11_readWord_96 rfl ?_
          obtain ⟨v16, hv16, h⟩ := bindE h
          refine aw_gI C fl_X11_243 rfl hv16 dX11_readWord_97 ?_
          refine aw_iconst C 1 dX11_readWord_100 (by decide) ?_
          refine aw_iadd C dX11_readWord_101 ?_
          obtain ⟨μ17, hμ17, h⟩ := bindE h
          refine aw_pI C fl_X11_243 rfl hμ17 dX11_readWord_102 ?_
          refine aw_goto C 18 dX11_readWord_105 (by decide) ?_
          exact aw_sub [0] rfl (ih _ _ h kx)
        replace h := hz14
        refine aw_if_le C 69 dX11_readWord_60 (by decide) (fun c9 => ?_) (fun c9 => ?_)
        · rw [if_pos c9] at h
          refine aw_ldc2 C kl_X11_254 dX11_readWord_69 ?_
          refine aw_aload_n C 0 dX11_readWord_72 rfl rfl ?_
          obtain ⟨v10, hv10, h⟩ := bindE h
          refine aw_gJ C fl_X11_239 rfl hv10 dX11_readWord_73 ?_
          refine aw_lmul C dX11_readWord_76 ?_
          refine aw_aload_n C 0 dX11_readWord_77 rfl rfl ?_
          obtain ⟨v11, hv11, h⟩ := bindE h
          refine aw_gR C fl_X11_102 rfl hv11 dX11_readWord_78 ?_
          refine aw_aload_n C 0 dX11_readWord_81 rfl rfl ?_
          obtain ⟨v12, hv12, h⟩ := bindE h
          refine aw_gI C fl_X11_243 rfl hv12 dX11_readWord_82 ?_
          obtain ⟨v13, hv13, h⟩ := bindE h
          refine aw_aI C hv13 dX11_readWord_85 ?_
          refine aw_i2l C dX11_readWord_86 ?_
          refine aw_ladd C dX11_readWord_87 ?_
          refine aw_ldc2 C kl_X11_256 dX11_readWord_88 ?_
          refine aw_lsub C dX11_readWord_91 ?_
          have e9 := inj1 h
          subst e9
          exact aw_sub [0] rfl kj60
        · rw [if_neg c9] at h
          refine aw_ldc2 C kl_X11_252 dX11_readWord_63 ?_
          refine aw_goto C 92 dX11_readWord_66 (by decide) ?_
          have e9 := inj1 h
          subst e9
          exact aw_sub [0] rfl kj60
set_option maxRecDepth 100000 in
set_option maxHeartbeats 4000000 in
theorem wk_X11_readWord {G : GL} {X : CX} {a0 : Nat} {μ : Mem} {μ' : Mem} (C : Ctx G X cX11_readWord 2 RX11 rm_X11_readWord) (h : X11_readWord a0 μ = some μ') (hret : RtV G 2 X cX11_readWord 0 0 μ') : AW G 2 X 0 0 0 [(0, .ref (gZ G + a0))] [] μ := by
  unfold X11_readWord at h
  refine aw_aload_n C 0 dX11_readWord_0 rfl rfl ?_
  obtain ⟨g1, hg1, h⟩ := bindE h
  obtain ⟨z2, hz2, h⟩ := bindE h
  refine aw_cV_I C [] _ (mt_X11_here hz2) cs_X11_here ml_X11_235 im_X11_here se_X11_here (ci := 11) rfl rfl hg1 ⟨by decide, by decide⟩ ⟨rfl, rfl⟩ ⟨Nat.zero_le _, Nat.zero_le _⟩ rfl rfl (Nat.le_of_ble_eq_true rfl) dX11_readWord_1 ?_
  refine aw_istore_n C [(1, .int z2.1), (0, .ref (gZ G + a0))] dX11_readWord_4 rfl (by decide) rfl ?_
  refine aw_aload_n C 1 dX11_readWord_5 rfl rfl ?_
  refine aw_lconst C 0 dX11_readWord_6 (by decide) ?_
  obtain ⟨μ3, hμ3, h⟩ := bindE h
  refine aw_pJ C fl_X11_239 rfl hμ3 dX11_readWord_7 ?_
  refine aw_aload_n C 1 dX11_readWord_10 rfl rfl ?_
  refine aw_aload_n C 1 dX11_readWord_11 rfl rfl ?_
  obtain ⟨v4, hv4, h⟩ := bindE h
  refine aw_gI C fl_X11_232 rfl hv4 dX11_readWord_12 ?_
  obtain ⟨μ5, hμ5, h⟩ := bindE h
  refine aw_pI C fl_X11_243 rfl hμ5 dX11_readWord_15 ?_
  obtain ⟨z6, hz6, h⟩ := bindE h
  refine aw_sub [1] rfl ?_
  refine X11_readWord_L18_ok C _ _ _ _ hz6 ?_
  have e9 := inj1 h
  subst e9
  exact hret _ _ dX11_readWord_108
set_option maxRecDepth 100000 in
set_option maxHeartbeats 4000000 in
theorem mt_X11_readWord {G : GL} {l : Launch} {a0 : Nat} {μ : Mem} {μ' : Mem} (h : X11_readWord a0 μ = some μ') : MtV G l yX11_readWord cX11_readWord 2 none rm_X11_readWord false [.ref (gZ G + a0)] μ μ' := met_V (by decide) rfl (Nat.le_of_ble_eq_true rfl) (fun X _ C _ _ hret => wk_X11_readWord C h hret)
set_option maxRecDepth 100000 in
set_option maxHeartbeats 4000000 in
theorem wk_X11_code {G : GL} {X : CX} {x0 : Int32} {x1 : Int32} {x2 : Int32} {x3 : Int32} {x4 : Int32} {x5 : Int32} {μ : Mem} (C : Ctx G X cX11_code 8 RX11 rm_X11_code) (hret : RtJ G 8 X cX11_code 0 0 (X11_code x0 x1 x2 x3 x4 x5) μ) : AW G 8 X 0 0 0 [(0, .int x0), (1, .int x1), (2, .int x2), (3, .int x3), (4, .int x4), (5, .int x5)] [] μ := by
  unfold X11_code at hret
  refine aw_ldc2 C kl_X11_254 dX11_code_0 ?_
  refine aw_iload_n C 0 dX11_code_3 rfl rfl ?_
  refine aw_i2l C dX11_code_4 ?_
  refine aw_ldc2 C kl_X11_256 dX11_code_5 ?_
  refine aw_lsub C dX11_code_8 ?_
  refine aw_lmul C dX11_code_9 ?_
  refine aw_iload_n C 1 dX11_code_10 rfl rfl ?_
  refine aw_i2l C dX11_code_11 ?_
  refine aw_ladd C dX11_code_12 ?_
  refine aw_ldc2 C kl_X11_256 dX11_code_13 ?_
  refine aw_lsub C dX11_code_16 ?_
  refine aw_lstore C [(6, .long (((27 * (x0.toInt64 - 96)) + x1.toInt64) - 96)), (0, .int x0), (1, .int x1), (2, .int x2), (3, .int x3), (4, .int x4), (5, .int x5)] dX11_code_17 (by decide) rfl ?_
  refine aw_iload_n C 3 dX11_code_19 rfl rfl ?_
  have kj20 : ∀ (q20_0 : Int64), q20_0 = (if x2 = 0 then ((27 * (x0.toInt64 - 96)) + x1.toInt64) - 96 else ((27 * (((27 * (x0.toInt64 - 96)) + x1.toInt64) - 96)) + x2.toInt64) - 96) → AW G 8 X 0 0 41 [(3, .int x3), (4, .int x4), (5, .int x5)] [.long q20_0] μ := by
    rintro _ rfl
    refine aw_lstore C [(6, .long ((if x2 = 0 then ((27 * (x0.toInt64 - 96)) + x1.toInt64) - 96 else ((27 * (((27 * (x0.toInt64 - 96)) + x1.toInt64) - 96)) + x2.toInt64) - 96))), (3, .int x3), (4, .int x4), (5, .int x5)] dX11_code_41 (by decide) rfl ?_
    refine aw_iload_n C 1 dX11_code_43 rfl rfl ?_
    have kj44 : ∀ (q44_0 : Int64), q44_0 = (if x3 = 0 then (if x2 = 0 then ((27 * (x0.toInt64 - 96)) + x1.toInt64) - 96 else ((27 * (((27 * (x0.toInt64 - 96)) + x1.toInt64) - 96)) + x2.toInt64) - 96) else ((27 * ((if x2 = 0 then ((27 * (x0.toInt64 - 96)) + x1.toInt64) - 96 else ((27 * (((27 * (x0.toInt64 - 96)) + x1.toInt64) - 96)) + x2.toInt64) - 96))) + x3.toInt64) - 96) → AW G 8 X 0 0 65 [(4, .int x4), (5, .int x5)] [.long q44_0] μ := by
      rintro _ rfl
      refine aw_lstore C [(6, .long ((if x3 = 0 then (if x2 = 0 then ((27 * (x0.toInt64 - 96)) + x1.toInt64) - 96 else ((27 * (((27 * (x0.toInt64 - 96)) + x1.toInt64) - 96)) + x2.toInt64) - 96) else ((27 * ((if x2 = 0 then ((27 * (x0.toInt64 - 96)) + x1.toInt64) - 96 else ((27 * (((27 * (x0.toInt64 - 96)) + x1.toInt64) - 96)) + x2.toInt64) - 96))) + x3.toInt64) - 96))), (4, .int x4), (5, .int x5)] dX11_code_65 (by decide) rfl ?_
      refine aw_iload C 1 dX11_code_67 rfl ?_
      have kj69 : ∀ (q69_0 : Int64), q69_0 = (if x4 = 0 then (if x3 = 0 then (if x2 = 0 then ((27 * (x0.toInt64 - 96)) + x1.toInt64) - 96 else ((27 * (((27 * (x0.toInt64 - 96)) + x1.toInt64) - 96)) + x2.toInt64) - 96) else ((27 * ((if x2 = 0 then ((27 * (x0.toInt64 - 96)) + x1.toInt64) - 96 else ((27 * (((27 * (x0.toInt64 - 96)) + x1.toInt64) - 96)) + x2.toInt64) - 96))) + x3.toInt64) - 96) else ((27 * ((if x3 = 0 then (if x2 = 0 then ((27 * (x0.toInt64 - 96)) + x1.toInt64) - 96 else ((27 * (((27 * (x0.toInt64 - 96)) + x1.toInt64) - 96)) + x2.toInt64) - 96) else ((27 * ((if x2 = 0 then ((27 * (x0.toInt64 - 96)) + x1.toInt64) - 96 else ((27 * (((27 * (x0.toInt64 - 96)) + x1.toInt64) - 96)) + x2.toInt64) - 96))) + x3.toInt64) - 96))) + x4.toInt64) - 96) → AW G 8 X 0 0 91 [(5, .int x5)] [.long q69_0] μ := by
        rintro _ rfl
        refine aw_lstore C [(6, .long ((if x4 = 0 then (if x3 = 0 then (if x2 = 0 then ((27 * (x0.toInt64 - 96)) + x1.toInt64) - 96 else ((27 * (((27 * (x0.toInt64 - 96)) + x1.toInt64) - 96)) + x2.toInt64) - 96) else ((27 * ((if x2 = 0 then ((27 * (x0.toInt64 - 96)) + x1.toInt64) - 96 else ((27 * (((27 * (x0.toInt64 - 96)) + x1.toInt64) - 96)) + x2.toInt64) - 96))) + x3.toInt64) - 96) else ((27 * ((if x3 = 0 then (if x2 = 0 then ((27 * (x0.toInt64 - 96)) + x1.toInt64) - 96 else ((27 * (((27 * (x0.toInt64 - 96)) + x1.toInt64) - 96)) + x2.toInt64) - 96) else ((27 * ((if x2 = 0 then ((27 * (x0.toInt64 - 96)) + x1.toInt64) - 96 else ((27 * (((27 * (x0.toInt64 - 96)) + x1.toInt64) - 96)) + x2.toInt64) - 96))) + x3.toInt64) - 96))) + x4.toInt64) - 96))), (5, .int x5)] dX11_code_91 (by decide) rfl ?_
        refine aw_iload C 1 dX11_code_93 rfl ?_
        have kj95 : ∀ (q95_0 : Int64), q95_0 = (if x5 = 0 then (if x4 = 0 then (if x3 = 0 then (if x2 = 0 then ((27 * (x0.toInt64 - 96)) + x1.toInt64) - 96 else ((27 * (((27 * (x0.toInt64 - 96)) + x1.toInt64) - 96)) + x2.toInt64) - 96) else ((27 * ((if x2 = 0 then ((27 * (x0.toInt64 - 96)) + x1.toInt64) - 96 else ((27 * (((27 * (x0.toInt64 - 96)) + x1.toInt64) - 96)) + x2.toInt64) - 96))) + x3.toInt64) - 96) else ((27 * ((if x3 = 0 then (if x2 = 0 then ((27 * (x0.toInt64 - 96)) + x1.toInt64) - 96 else ((27 * (((27 * (x0.toInt64 - 96)) + x1.toInt64) - 96)) + x2.toInt64) - 96) else ((27 * ((if x2 = 0 then ((27 * (x0.toInt64 - 96)) + x1.toInt64) - 96 else ((27 * (((27 * (x0.toInt64 - 96)) + x1.toInt64) - 96)) + x2.toInt64) - 96))) + x3.toInt64) - 96))) + x4.toInt64) - 96) else ((27 * ((if x4 = 0 then (if x3 = 0 then (if x2 = 0 then ((27 * (x0.toInt64 - 96)) + x1.toInt64) - 96 else ((27 * (((27 * (x0.toInt64 - 96)) + x1.toInt64) - 96)) + x2.toInt64) - 96) else ((27 * ((if x2 = 0 then ((27 * (x0.toInt64 - 96)) + x1.toInt64) - 96 else ((27 * (((27 * (x0.toInt64 - 96)) + x1.toInt64) - 96)) + x2.toInt64) - 96))) + x3.toInt64) - 96) else ((27 * ((if x3 = 0 then (if x2 = 0 then ((27 * (x0.toInt64 - 96)) + x1.toInt64) - 96 else ((27 * (((27 * (x0.toInt64 - 96)) + x1.toInt64) - 96)) + x2.toInt64) - 96) else ((27 * ((if x2 = 0 then ((27 * (x0.toInt64 - 96)) + x1.toInt64) - 96 else ((27 * (((27 * (x0.toInt64 - 96)) + x1.toInt64) - 96)) + x2.toInt64) - 96))) + x3.toInt64) - 96))) + x4.toInt64) - 96))) + x5.toInt64) - 96) → AW G 8 X 0 0 117 [] [.long q95_0] μ := by
          rintro _ rfl
          exact hret _ _ dX11_code_117
        refine aw_if_ne C 103 dX11_code_95 (by decide) (fun c4 => ?_) (fun c4 => ?_)
        · refine aw_ldc2 C kl_X11_254 dX11_code_103 ?_
          refine aw_lload C 0 dX11_code_106 rfl ?_
          refine aw_lmul C dX11_code_108 ?_
          refine aw_iload C 1 dX11_code_109 rfl ?_
          refine aw_i2l C dX11_code_111 ?_
          refine aw_ladd C dX11_code_112 ?_
          refine aw_ldc2 C kl_X11_256 dX11_code_113 ?_
          refine aw_lsub C dX11_code_116 ?_
          exact aw_sub [] rfl (kj95 _ (by simp only [if_neg c4]))
        · refine aw_lload C 0 dX11_code_98 rfl ?_
          refine aw_goto C 117 dX11_code_100 (by decide) ?_
          exact aw_sub [] rfl (kj95 _ (by simp only [if_pos c4]))
      refine aw_if_ne C 77 dX11_code_69 (by decide) (fun c3 => ?_) (fun c3 => ?_)
      · refine aw_ldc2 C kl_X11_254 dX11_code_77 ?_
        refine aw_lload C 0 dX11_code_80 rfl ?_
        refine aw_lmul C dX11_code_82 ?_
        refine aw_iload C 1 dX11_code_83 rfl ?_
        refine aw_i2l C dX11_code_85 ?_
        refine aw_ladd C dX11_code_86 ?_
        refine aw_ldc2 C kl_X11_256 dX11_code_87 ?_
        refine aw_lsub C dX11_code_90 ?_
        exact aw_sub [2] rfl (kj69 _ (by simp only [if_neg c3]))
      · refine aw_lload C 0 dX11_code_72 rfl ?_
        refine aw_goto C 91 dX11_code_74 (by decide) ?_
        exact aw_sub [2] rfl (kj69 _ (by simp only [if_pos c3]))
    refine aw_if_ne C 52 dX11_code_44 (by decide) (fun c2 => ?_) (fun c2 => ?_)
    · refine aw_ldc2 C kl_X11_254 dX11_code_52 ?_
      refine aw_lload C 0 dX11_code_55 rfl ?_
      refine aw_lmul C dX11_code_57 ?_
      refine aw_iload_n C 1 dX11_code_58 rfl rfl ?_
      refine aw_i2l C dX11_code_59 ?_
      refine aw_ladd C dX11_code_60 ?_
      refine aw_ldc2 C kl_X11_256 dX11_code_61 ?_
      refine aw_lsub C dX11_code_64 ?_
      exact aw_sub [2, 3] rfl (kj44 _ (by simp only [if_neg c2]))
    · refine aw_lload C 0 dX11_code_47 rfl ?_
      refine aw_goto C 65 dX11_code_49 (by decide) ?_
      exact aw_sub [2, 3] rfl (kj44 _ (by simp only [if_pos c2]))
  refine aw_if_ne C 28 dX11_code_20 (by decide) (fun c1 => ?_) (fun c1 => ?_)
  · refine aw_ldc2 C kl_X11_254 dX11_code_28 ?_
    refine aw_lload C 0 dX11_code_31 rfl ?_
    refine aw_lmul C dX11_code_33 ?_
    refine aw_iload_n C 3 dX11_code_34 rfl rfl ?_
    refine aw_i2l C dX11_code_35 ?_
    refine aw_ladd C dX11_code_36 ?_
    refine aw_ldc2 C kl_X11_256 dX11_code_37 ?_
    refine aw_lsub C dX11_code_40 ?_
    exact aw_sub [4, 5, 6] rfl (kj20 _ (by simp only [if_neg c1]))
  · refine aw_lload C 0 dX11_code_23 rfl ?_
    refine aw_goto C 41 dX11_code_25 (by decide) ?_
    exact aw_sub [4, 5, 6] rfl (kj20 _ (by simp only [if_pos c1]))
set_option maxRecDepth 100000 in
set_option maxHeartbeats 4000000 in
theorem mt_X11_code {G : GL} {l : Launch} (x0 : Int32) (x1 : Int32) (x2 : Int32) (x3 : Int32) (x4 : Int32) (x5 : Int32) {μ : Mem} : MtJ G l yX11_code cX11_code 8 (some .long) rm_X11_code false [.int x0, .int x1, .int x2, .int x3, .int x4, .int x5] μ (X11_code x0 x1 x2 x3 x4 x5) μ := met_J (by decide) rfl (Nat.le_of_ble_eq_true rfl) (fun X _ C _ _ hret => wk_X11_code C hret)
set_option maxRecDepth 100000 in
set_option maxHeartbeats 4000000 in
theorem wk_X11_needs {G : GL} {X : CX} {a0 : Nat} {j1 : Int64} {μ : Mem} {r : Int32} {μ' : Mem} (C : Ctx G X cX11_needs 3 RX11 rm_X11_needs) (h : X11_needs a0 j1 μ = some (r, μ')) (hret : RtI G 3 X cX11_needs 0 0 r μ') : AW G 3 X 0 0 0 [(0, .ref (gZ G + a0)), (1, .long j1)] [] μ := by
  unfold X11_needs at h
  refine aw_aload_n C 0 dX11_needs_0 rfl rfl ?_
  obtain ⟨g1, hg1, h⟩ := bindE h
  obtain ⟨μ2, hμ2, h⟩ := bindE h
  refine aw_cV_V C [] _ (mt_X11_readWord hμ2) cs_X11_readWord ml_X11_258 im_X11_readWord se_X11_readWord (ci := 11) rfl rfl hg1 ⟨by decide, by decide⟩ ⟨rfl, rfl⟩ ⟨Nat.zero_le _, Nat.zero_le _⟩ rfl rfl (Nat.le_of_ble_eq_true rfl) dX11_needs_1 ?_
  refine aw_aload_n C 0 dX11_needs_4 rfl rfl ?_
  obtain ⟨v3, hv3, h⟩ := bindE h
  refine aw_gJ C fl_X11_239 rfl hv3 dX11_needs_5 ?_
  refine aw_lload_n C 1 dX11_needs_8 rfl rfl ?_
  refine aw_lcmp C dX11_needs_9 ?_
  refine aw_if_eq C 23 dX11_needs_10 (by decide) (fun c4 => ?_) (fun c4 => ?_)
  · rw [if_pos c4] at h
    refine aw_aload_n C 0 dX11_needs_23 rfl rfl ?_
    refine aw_aload_n C 0 dX11_needs_24 rfl rfl ?_
    obtain ⟨v5, hv5, h⟩ := bindE h
    refine aw_gI C fl_X11_243 rfl hv5 dX11_needs_25 ?_
    obtain ⟨μ6, hμ6, h⟩ := bindE h
    refine aw_pI C fl_X11_232 rfl hμ6 dX11_needs_28 ?_
    refine aw_iconst C 0 dX11_needs_31 (by decide) ?_
    obtain ⟨e8, e9⟩ := inj2 h
    subst e8
    subst e9
    exact hret _ _ dX11_needs_32
  · rw [if_neg c4] at h
    refine aw_aload_n C 0 dX11_needs_13 rfl rfl ?_
    refine aw_iconst C 1 dX11_needs_14 (by decide) ?_
    refine aw_aload_n C 0 dX11_needs_15 rfl rfl ?_
    obtain ⟨v7, hv7, h⟩ := bindE h
    refine aw_gI C fl_X11_232 rfl hv7 dX11_needs_16 ?_
    obtain ⟨g8, hg8, h⟩ := bindE h
    obtain ⟨z9, hz9, h⟩ := bindE h
    refine aw_cV_I C [.int 1, .int v7] _ (mt_X11_fails hz9) cs_X11_fails ml_X11_261 im_X11_fails se_X11_fails (ci := 11) rfl rfl hg8 ⟨by decide, by decide⟩ ⟨rfl, rfl⟩ ⟨Nat.zero_le _, Nat.zero_le _⟩ rfl rfl (Nat.le_of_ble_eq_true rfl) dX11_needs_19 ?_
    obtain ⟨e8, e9⟩ := inj2 h
    subst e8
    subst e9
    exact hret _ _ dX11_needs_22
set_option maxRecDepth 100000 in
set_option maxHeartbeats 4000000 in
theorem mt_X11_needs {G : GL} {l : Launch} {a0 : Nat} {j1 : Int64} {μ : Mem} {r : Int32} {μ' : Mem} (h : X11_needs a0 j1 μ = some (r, μ')) : MtI G l yX11_needs cX11_needs 3 (some .int) rm_X11_needs false [.ref (gZ G + a0), .long j1] μ r μ' := met_I (by decide) rfl rfl (Nat.le_of_ble_eq_true rfl) (fun X _ C _ _ hret => wk_X11_needs C h hret)
set_option maxRecDepth 100000 in
set_option maxHeartbeats 4000000 in
theorem X11_readNumber_L40_ok {G : GL} {X : CX} (C : Ctx G X cX11_readNumber 5 RX11 rm_X11_readNumber) (a0 : Nat) (x1 : Int32) (x2 : Int32) (x4 : Int32) : ∀ (n : Nat)  (μ : Mem) (z : Mem), X11_readNumber_L40 a0 x1 x2 x4 n μ = some z → AW G 5 X 0 0 127 [(0, .ref (gZ G + a0)), (1, .int x1), (2, .int x2), (4, .int x4)] [] z → AW G 5 X 0 0 40 [(0, .ref (gZ G + a0)), (1, .int x1), (2, .int x2), (4, .int x4)] [] μ := by
  intro n
  induction n with
  | zero =>
    intro  μ z h kx
    rw [X11_readNumber_L40] at h
    cases h
  | succ n ih =>
    intro  μ z h kx
    rw [X11_readNumber_L40] at h
    refine aw_aload_n C 0 dX11_readNumber_40 rfl rfl ?_
    obtain ⟨v1, hv1, h⟩ := bindE h
    refine aw_gI C fl_X11_232 rfl hv1 dX11_readNumber_41 ?_
    refine aw_aload_n C 0 dX11_readNumber_44 rfl rfl ?_
    obtain ⟨v2, hv2, h⟩ := bindE h
    refine aw_gI C fl_X11_227 rfl hv2 dX11_readNumber_45 ?_
    refine aw_icmp_ge C 127 dX11_readNumber_48 (by decide) (fun c3 => ?_) (fun c3 => ?_)
    · rw [if_pos c3] at h
      have e9 := inj1 h
      subst e9
      exact aw_sub [0, 1, 2, 3] rfl kx
    · rw [if_neg c3] at h
      refine aw_aload_n C 0 dX11_readNumber_51 rfl rfl ?_
      obtain ⟨v4, hv4, h⟩ := bindE h
      refine aw_gR C fl_X11_102 rfl hv4 dX11_readNumber_52 ?_
      refine aw_aload_n C 0 dX11_readNumber_55 rfl rfl ?_
      obtain ⟨v5, hv5, h⟩ := bindE h
      refine aw_gI C fl_X11_232 rfl hv5 dX11_readNumber_56 ?_
      obtain ⟨v6, hv6, h⟩ := bindE h
      refine aw_aI C hv6 dX11_readNumber_59 ?_
      refine aw_i2l C dX11_readNumber_60 ?_
      refine aw_ldc2 C kl_X11_265 dX11_readNumber_61 ?_
      refine aw_ldc2 C kl_X11_267 dX11_readNumber_64 ?_
      refine aw_cS_I C [.long v6.toInt64, .long 48, .long 57] _ (mt_X11_in _ _ _) cs_X11_in ml_X11_138 st_X11_in ⟨by decide, by decide⟩ ⟨rfl, rfl⟩ ⟨Nat.zero_le _, Nat.zero_le _⟩ rfl rfl (Nat.le_of_ble_eq_true rfl) dX11_readNumber_67 ?_
      refine aw_if_eq C 127 dX11_readNumber_70 (by decide) (fun c7 => ?_) (fun c7 => ?_)
      · rw [if_pos c7] at h
        have e9 := inj1 h
        subst e9
        exact aw_sub [0, 1, 2, 3] rfl kx
      · rw [if_neg c7] at h
        refine aw_aload_n C 0 dX11_readNumber_73 rfl rfl ?_
        refine aw_aload_n C 0 dX11_readNumber_74 rfl rfl ?_
        obtain ⟨v8, hv8, h⟩ := bindE h
        refine aw_gI C fl_X11_269 rfl hv8 dX11_readNumber_75 ?_
        refine aw_sipush C 10000 dX11_readNumber_78 (by decide) ?_
        obtain ⟨z15, hz15, h⟩ := bindE h
        have kj81 : AW G 5 X 0 0 111 [(0, .ref (gZ G + a0)), (1, .int x1), (2, .int x2), (4, .int x4)] [.int z15, .ref (gZ G + a0)] μ := by
          obtain ⟨μ16, hμ16, h⟩ := bindE h
          refine aw_pI C fl_X11_269 rfl hμ16 dX11_readNumber_111 ?_
          refine aw_aload_n C 0 dX11_readNumber_114 rfl rfl ?_
          refine aw_dup C dX11_readNumber_115 rfl ?_
          obtain ⟨v17, hv17, h⟩ := bindE h
          refine aw_gI C fl_X11_232 rfl hv17 dX11_readNumber_116 ?_
          refine aw_iconst C 1 dX11_readNumber_119 (by decide) ?_
          refine aw_iadd C dX11_readNumber_120 ?_
          obtain ⟨μ18, hμ18, h⟩ := bindE h
          refine aw_pI C fl_X11_232 rfl hμ18 dX11_readNumber_121 ?_
          refine aw_goto C 40 dX11_readNumber_124 (by decide) ?_
          exact aw_sub [0, 1, 2, 3] rfl (ih _ _ h kx)
        replace h := hz15
        refine aw_icmp_le C 91 dX11_readNumber_81 (by decide) (fun c9 => ?_) (fun c9 => ?_)
        · rw [if_pos c9] at h
          refine aw_bipush C 10 dX11_readNumber_91 (by decide) ?_
          refine aw_aload_n C 0 dX11_readNumber_93 rfl rfl ?_
          obtain ⟨v10, hv10, h⟩ := bindE h
          refine aw_gI C fl_X11_269 rfl hv10 dX11_readNumber_94 ?_
          refine aw_imul C dX11_readNumber_97 ?_
          refine aw_aload_n C 0 dX11_readNumber_98 rfl rfl ?_
          obtain ⟨v11, hv11, h⟩ := bindE h
          refine aw_gR C fl_X11_102 rfl hv11 dX11_readNumber_99 ?_
          refine aw_aload_n C 0 dX11_readNumber_102 rfl rfl ?_
          obtain ⟨v12, hv12, h⟩ := bindE h
          refine aw_gI C fl_X11_232 rfl hv12 dX11_readNumber_103 ?_
          obtain ⟨v13, hv13, h⟩ := bindE h
          refine aw_aI C hv13 dX11_readNumber_106 ?_
          refine aw_iadd C dX11_readNumber_107 ?_
          refine aw_bipush C 48 dX11_readNumber_108 (by decide) ?_
          refine aw_isub C dX11_readNumber_110 ?_
          have e9 := inj1 h
          subst e9
          exact aw_sub [0, 1, 2, 3] rfl kj81
        · rw [if_neg c9] at h
          refine aw_aload_n C 0 dX11_readNumber_84 rfl rfl ?_
          obtain ⟨v14, hv14, h⟩ := bindE h
          refine aw_gI C fl_X11_269 rfl hv14 dX11_readNumber_85 ?_
          refine aw_goto C 111 dX11_readNumber_88 (by decide) ?_
          have e9 := inj1 h
          subst e9
          exact aw_sub [0, 1, 2, 3] rfl kj81
set_option maxRecDepth 100000 in
set_option maxHeartbeats 4000000 in
theorem wk_X11_readNumber {G : GL} {X : CX} {a0 : Nat} {x1 : Int32} {x2 : Int32} {μ : Mem} {r : Int32} {μ' : Mem} (C : Ctx G X cX11_readNumber 5 RX11 rm_X11_readNumber) (h : X11_readNumber a0 x1 x2 μ = some (r, μ')) (hret : RtI G 5 X cX11_readNumber 0 0 r μ') : AW G 5 X 0 0 0 [(0, .ref (gZ G + a0)), (1, .int x1), (2, .int x2)] [] μ := by
  unfold X11_readNumber at h
  refine aw_aload_n C 0 dX11_readNumber_0 rfl rfl ?_
  obtain ⟨g1, hg1, h⟩ := bindE h
  obtain ⟨z2, hz2, h⟩ := bindE h
  refine aw_cV_I C [] _ (mt_X11_here hz2) cs_X11_here ml_X11_235 im_X11_here se_X11_here (ci := 11) rfl rfl hg1 ⟨by decide, by decide⟩ ⟨rfl, rfl⟩ ⟨Nat.zero_le _, Nat.zero_le _⟩ rfl rfl (Nat.le_of_ble_eq_true rfl) dX11_readNumber_1 ?_
  refine aw_istore_n C [(3, .int z2.1), (0, .ref (gZ G + a0)), (1, .int x1), (2, .int x2)] dX11_readNumber_4 rfl (by decide) rfl ?_
  refine aw_iload_n C 0 dX11_readNumber_5 rfl rfl ?_
  refine aw_i2l C dX11_readNumber_6 ?_
  refine aw_ldc2 C kl_X11_265 dX11_readNumber_7 ?_
  refine aw_ldc2 C kl_X11_267 dX11_readNumber_10 ?_
  refine aw_cS_I C [.long z2.1.toInt64, .long 48, .long 57] _ (mt_X11_in _ _ _) cs_X11_in ml_X11_138 st_X11_in ⟨by decide, by decide⟩ ⟨rfl, rfl⟩ ⟨Nat.zero_le _, Nat.zero_le _⟩ rfl rfl (Nat.le_of_ble_eq_true rfl) dX11_readNumber_13 ?_
  refine aw_if_ne C 29 dX11_readNumber_16 (by decide) (fun c3 => ?_) (fun c3 => ?_)
  · rw [if_neg c3] at h
    refine aw_aload_n C 1 dX11_readNumber_29 rfl rfl ?_
    obtain ⟨v4, hv4, h⟩ := bindE h
    refine aw_gI C fl_X11_232 rfl hv4 dX11_readNumber_30 ?_
    refine aw_istore C [(4, .int v4), (3, .int z2.1), (0, .ref (gZ G + a0)), (1, .int x1), (2, .int x2)] dX11_readNumber_33 (by decide) rfl ?_
    refine aw_aload_n C 2 dX11_readNumber_35 rfl rfl ?_
    refine aw_iconst C 0 dX11_readNumber_36 (by decide) ?_
    obtain ⟨μ5, hμ5, h⟩ := bindE h
    refine aw_pI C fl_X11_269 rfl hμ5 dX11_readNumber_37 ?_
    obtain ⟨z6, hz6, h⟩ := bindE h
    refine aw_sub [2, 3, 4, 0] rfl ?_
    refine X11_readNumber_L40_ok C _ _ _ _ _ _ _ hz6 ?_
    refine aw_aload_n C 0 dX11_readNumber_127 rfl rfl ?_
    obtain ⟨v7, hv7, h⟩ := bindE h
    refine aw_gI C fl_X11_232 rfl hv7 dX11_readNumber_128 ?_
    refine aw_iload C 3 dX11_readNumber_131 rfl ?_
    refine aw_isub C dX11_readNumber_133 ?_
    refine aw_iconst C 3 dX11_readNumber_134 (by decide) ?_
    obtain ⟨z15, hz15, h⟩ := bindE h
    have kj135 : AW G 5 X 0 0 164 [] [.int z15.1] z15.2 := by
      obtain ⟨e8, e9⟩ := inj2 h
      subst e8
      subst e9
      exact hret _ _ dX11_readNumber_164
    replace h := hz15
    refine aw_icmp_gt C 153 dX11_readNumber_135 (by decide) (fun c8 => ?_) (fun c8 => ?_)
    · rw [if_pos c8] at h
      refine aw_aload_n C 0 dX11_readNumber_153 rfl rfl ?_
      refine aw_iconst C 2 dX11_readNumber_154 (by decide) ?_
      refine aw_iload C 3 dX11_readNumber_155 rfl ?_
      obtain ⟨g9, hg9, h⟩ := bindE h
      obtain ⟨z10, hz10, h⟩ := bindE h
      refine aw_cV_I C [.int 2, .int v4] _ (mt_X11_fails hz10) cs_X11_fails ml_X11_261 im_X11_fails se_X11_fails (ci := 11) rfl rfl hg9 ⟨by decide, by decide⟩ ⟨rfl, rfl⟩ ⟨Nat.zero_le _, Nat.zero_le _⟩ rfl rfl (Nat.le_of_ble_eq_true rfl) dX11_readNumber_157 ?_
      refine aw_goto C 164 dX11_readNumber_160 (by decide) ?_
      have e9 := inj1 h
      subst e9
      exact aw_sub [] rfl kj135
    · rw [if_neg c8] at h
      refine aw_aload_n C 0 dX11_readNumber_138 rfl rfl ?_
      obtain ⟨v11, hv11, h⟩ := bindE h
      refine aw_gI C fl_X11_269 rfl hv11 dX11_readNumber_139 ?_
      refine aw_i2l C dX11_readNumber_142 ?_
      refine aw_iload_n C 1 dX11_readNumber_143 rfl rfl ?_
      refine aw_i2l C dX11_readNumber_144 ?_
      refine aw_iload_n C 2 dX11_readNumber_145 rfl rfl ?_
      refine aw_i2l C dX11_readNumber_146 ?_
      refine aw_cS_I C [.long v11.toInt64, .long x1.toInt64, .long x2.toInt64] _ (mt_X11_in _ _ _) cs_X11_in ml_X11_138 st_X11_in ⟨by decide, by decide⟩ ⟨rfl, rfl⟩ ⟨Nat.zero_le _, Nat.zero_le _⟩ rfl rfl (Nat.le_of_ble_eq_true rfl) dX11_readNumber_147 ?_
      refine aw_if_ne C 163 dX11_readNumber_150 (by decide) (fun c12 => ?_) (fun c12 => ?_)
      · rw [if_neg c12] at h
        refine aw_iconst C 0 dX11_readNumber_163 (by decide) ?_
        have e9 := inj1 h
        subst e9
        exact aw_sub [] rfl kj135
      · rw [if_pos c12] at h
        refine aw_aload_n C 0 dX11_readNumber_153 rfl rfl ?_
        refine aw_iconst C 2 dX11_readNumber_154 (by decide) ?_
        refine aw_iload C 3 dX11_readNumber_155 rfl ?_
        obtain ⟨g13, hg13, h⟩ := bindE h
        obtain ⟨z14, hz14, h⟩ := bindE h
        refine aw_cV_I C [.int 2, .int v4] _ (mt_X11_fails hz14) cs_X11_fails ml_X11_261 im_X11_fails se_X11_fails (ci := 11) rfl rfl hg13 ⟨by decide, by decide⟩ ⟨rfl, rfl⟩ ⟨Nat.zero_le _, Nat.zero_le _⟩ rfl rfl (Nat.le_of_ble_eq_true rfl) dX11_readNumber_157 ?_
        refine aw_goto C 164 dX11_readNumber_160 (by decide) ?_
        have e9 := inj1 h
        subst e9
        exact aw_sub [] rfl kj135
  · rw [if_pos c3] at h
    refine aw_aload_n C 1 dX11_readNumber_19 rfl rfl ?_
    refine aw_iconst C 1 dX11_readNumber_20 (by decide) ?_
    refine aw_aload_n C 1 dX11_readNumber_21 rfl rfl ?_
    obtain ⟨v16, hv16, h⟩ := bindE h
    refine aw_gI C fl_X11_232 rfl hv16 dX11_readNumber_22 ?_
    obtain ⟨g17, hg17, h⟩ := bindE h
    obtain ⟨z18, hz18, h⟩ := bindE h
    refine aw_cV_I C [.int 1, .int v16] _ (mt_X11_fails hz18) cs_X11_fails ml_X11_261 im_X11_fails se_X11_fails (ci := 11) rfl rfl hg17 ⟨by decide, by decide⟩ ⟨rfl, rfl⟩ ⟨Nat.zero_le _, Nat.zero_le _⟩ rfl rfl (Nat.le_of_ble_eq_true rfl) dX11_readNumber_25 ?_
    obtain ⟨e8, e9⟩ := inj2 h
    subst e8
    subst e9
    exact hret _ _ dX11_readNumber_28
set_option maxRecDepth 100000 in
set_option maxHeartbeats 4000000 in
theorem mt_X11_readNumber {G : GL} {l : Launch} {a0 : Nat} {x1 : Int32} {x2 : Int32} {μ : Mem} {r : Int32} {μ' : Mem} (h : X11_readNumber a0 x1 x2 μ = some (r, μ')) : MtI G l yX11_readNumber cX11_readNumber 5 (some .int) rm_X11_readNumber false [.ref (gZ G + a0), .int x1, .int x2] μ r μ' := met_I (by decide) rfl rfl (Nat.le_of_ble_eq_true rfl) (fun X _ C _ _ hret => wk_X11_readNumber C h hret)
set_option maxRecDepth 100000 in
set_option maxHeartbeats 4000000 in
theorem wk_X11_readWay {G : GL} {X : CX} {a0 : Nat} {x1 : Int32} {μ : Mem} {r : Int32} {μ' : Mem} (C : Ctx G X cX11_readWay 3 RX11 rm_X11_readWay) (h : X11_readWay a0 x1 μ = some (r, μ')) (hret : RtI G 3 X cX11_readWay 0 0 r μ') : AW G 3 X 0 0 0 [(0, .ref (gZ G + a0)), (1, .int x1)] [] μ := by
  unfold X11_readWay at h
  refine aw_aload_n C 0 dX11_readWay_0 rfl rfl ?_
  refine aw_iconst C 0 dX11_readWay_1 (by decide) ?_
  refine aw_iconst C 3 dX11_readWay_2 (by decide) ?_
  obtain ⟨g1, hg1, h⟩ := bindE h
  obtain ⟨z2, hz2, h⟩ := bindE h
  refine aw_cV_I C [.int 0, .int 3] _ (mt_X11_readNumber hz2) cs_X11_readNumber ml_X11_272 im_X11_readNumber se_X11_readNumber (ci := 11) rfl rfl hg1 ⟨by decide, by decide⟩ ⟨rfl, rfl⟩ ⟨Nat.zero_le _, Nat.zero_le _⟩ rfl rfl (Nat.le_of_ble_eq_true rfl) dX11_readWay_3 ?_
  refine aw_istore_n C [(2, .int z2.1), (0, .ref (gZ G + a0)), (1, .int x1)] dX11_readWay_6 rfl (by decide) rfl ?_
  refine aw_aload_n C 1 dX11_readWay_7 rfl rfl ?_
  obtain ⟨v3, hv3, h⟩ := bindE h
  refine aw_gR C fl_X11_90 rfl hv3 dX11_readWay_8 ?_
  refine aw_iload_n C 2 dX11_readWay_11 rfl rfl ?_
  refine aw_iconst C 0 dX11_readWay_12 (by decide) ?_
  obtain ⟨μ4, hμ4, h⟩ := bindE h
  refine aw_sI C hμ4 dX11_readWay_13 ?_
  refine aw_aload_n C 1 dX11_readWay_14 rfl rfl ?_
  obtain ⟨v5, hv5, h⟩ := bindE h
  refine aw_gR C fl_X11_93 rfl hv5 dX11_readWay_15 ?_
  refine aw_iload_n C 2 dX11_readWay_18 rfl rfl ?_
  refine aw_aload_n C 1 dX11_readWay_19 rfl rfl ?_
  obtain ⟨v6, hv6, h⟩ := bindE h
  refine aw_gI C fl_X11_269 rfl hv6 dX11_readWay_20 ?_
  obtain ⟨μ7, hμ7, h⟩ := bindE h
  refine aw_sI C hμ7 dX11_readWay_23 ?_
  refine aw_iload_n C 0 dX11_readWay_24 rfl rfl ?_
  refine aw_if_gt C 45 dX11_readWay_25 (by decide) (fun c8 => ?_) (fun c8 => ?_)
  · rw [if_pos c8] at h
    refine aw_iload_n C 0 dX11_readWay_45 rfl rfl ?_
    obtain ⟨e8, e9⟩ := inj2 h
    subst e8
    subst e9
    exact hret _ _ dX11_readWay_46
  · rw [if_neg c8] at h
    refine aw_aload_n C 1 dX11_readWay_28 rfl rfl ?_
    obtain ⟨g9, hg9, h⟩ := bindE h
    obtain ⟨z10, hz10, h⟩ := bindE h
    refine aw_cV_I C [] _ (mt_X11_here hz10) cs_X11_here ml_X11_235 im_X11_here se_X11_here (ci := 11) rfl rfl hg9 ⟨by decide, by decide⟩ ⟨rfl, rfl⟩ ⟨Nat.zero_le _, Nat.zero_le _⟩ rfl rfl (Nat.le_of_ble_eq_true rfl) dX11_readWay_29 ?_
    refine aw_i2l C dX11_readWay_32 ?_
    refine aw_ldc2 C kl_X11_246 dX11_readWay_33 ?_
    refine aw_ldc2 C kl_X11_248 dX11_readWay_36 ?_
    refine aw_cS_I C [.long z10.1.toInt64, .long 97, .long 122] _ (mt_X11_in _ _ _) cs_X11_in ml_X11_138 st_X11_in ⟨by decide, by decide⟩ ⟨rfl, rfl⟩ ⟨Nat.zero_le _, Nat.zero_le _⟩ rfl rfl (Nat.le_of_ble_eq_true rfl) dX11_readWay_39 ?_
    refine aw_if_ne C 47 dX11_readWay_42 (by decide) (fun c11 => ?_) (fun c11 => ?_)
    · rw [if_neg c11] at h
      refine aw_aload_n C 1 dX11_readWay_47 rfl rfl ?_
      refine aw_bipush C 115 dX11_readWay_48 (by decide) ?_
      refine aw_bipush C 116 dX11_readWay_50 (by decide) ?_
      refine aw_bipush C 97 dX11_readWay_52 (by decide) ?_
      refine aw_bipush C 116 dX11_readWay_54 (by decide) ?_
      refine aw_bipush C 101 dX11_readWay_56 (by decide) ?_
      refine aw_iconst C 0 dX11_readWay_58 (by decide) ?_
      refine aw_cS_J C [.int 115, .int 116, .int 97, .int 116, .int 101, .int 0] _ (mt_X11_code _ _ _ _ _ _) cs_X11_code ml_X11_275 st_X11_code ⟨by decide, by decide⟩ ⟨rfl, rfl⟩ ⟨Nat.zero_le _, Nat.zero_le _⟩ rfl rfl (Nat.le_of_ble_eq_true rfl) dX11_readWay_59 ?_
      obtain ⟨g12, hg12, h⟩ := bindE h
      obtain ⟨z13, hz13, h⟩ := bindE h
      refine aw_cV_I C [.long (X11_code 115 116 97 116 101 0)] _ (mt_X11_needs hz13) cs_X11_needs ml_X11_279 im_X11_needs se_X11_needs (ci := 11) rfl rfl hg12 ⟨by decide, by decide⟩ ⟨rfl, rfl⟩ ⟨Nat.zero_le _, Nat.zero_le _⟩ rfl rfl (Nat.le_of_ble_eq_true rfl) dX11_readWay_62 ?_
      refine aw_istore_n C [(2, .int z13.1), (0, .ref (gZ G + a0)), (1, .int x1)] dX11_readWay_65 rfl (by decide) rfl ?_
      refine aw_iload_n C 0 dX11_readWay_66 rfl rfl ?_
      obtain ⟨z17, hz17, h⟩ := bindE h
      have kj67 : AW G 3 X 0 0 80 [(0, .ref (gZ G + a0)), (1, .int x1)] [.int z17.1] z17.2 := by
        refine aw_istore_n C [(2, .int z17.1), (0, .ref (gZ G + a0)), (1, .int x1)] dX11_readWay_80 rfl (by decide) rfl ?_
        refine aw_aload_n C 1 dX11_readWay_81 rfl rfl ?_
        obtain ⟨v18, hv18, h⟩ := bindE h
        refine aw_gR C fl_X11_90 rfl hv18 dX11_readWay_82 ?_
        refine aw_iload_n C 2 dX11_readWay_85 rfl rfl ?_
        refine aw_iconst C 1 dX11_readWay_86 (by decide) ?_
        obtain ⟨μ19, hμ19, h⟩ := bindE h
        refine aw_sI C hμ19 dX11_readWay_87 ?_
        refine aw_aload_n C 1 dX11_readWay_88 rfl rfl ?_
        obtain ⟨v20, hv20, h⟩ := bindE h
        refine aw_gR C fl_X11_96 rfl hv20 dX11_readWay_89 ?_
        refine aw_iload_n C 2 dX11_readWay_92 rfl rfl ?_
        refine aw_aload_n C 1 dX11_readWay_93 rfl rfl ?_
        obtain ⟨v21, hv21, h⟩ := bindE h
        refine aw_gI C fl_X11_269 rfl hv21 dX11_readWay_94 ?_
        obtain ⟨μ22, hμ22, h⟩ := bindE h
        refine aw_sI C hμ22 dX11_readWay_97 ?_
        refine aw_iload_n C 0 dX11_readWay_98 rfl rfl ?_
        obtain ⟨z26, hz26, h⟩ := bindE h
        have kj99 : AW G 3 X 0 0 113 [(0, .ref (gZ G + a0)), (1, .int x1)] [.int z26.1] z26.2 := by
          refine aw_istore_n C [(2, .int z26.1), (0, .ref (gZ G + a0)), (1, .int x1)] dX11_readWay_113 rfl (by decide) rfl ?_
          refine aw_aload_n C 1 dX11_readWay_114 rfl rfl ?_
          obtain ⟨v27, hv27, h⟩ := bindE h
          refine aw_gR C fl_X11_99 rfl hv27 dX11_readWay_115 ?_
          refine aw_iload_n C 2 dX11_readWay_118 rfl rfl ?_
          refine aw_aload_n C 1 dX11_readWay_119 rfl rfl ?_
          obtain ⟨v28, hv28, h⟩ := bindE h
          refine aw_gI C fl_X11_269 rfl hv28 dX11_readWay_120 ?_
          obtain ⟨μ29, hμ29, h⟩ := bindE h
          refine aw_sI C hμ29 dX11_readWay_123 ?_
          refine aw_iload_n C 0 dX11_readWay_124 rfl rfl ?_
          obtain ⟨e8, e9⟩ := inj2 h
          subst e8
          subst e9
          exact hret _ _ dX11_readWay_125
        replace h := hz26
        refine aw_if_le C 106 dX11_readWay_99 (by decide) (fun c23 => ?_) (fun c23 => ?_)
        · rw [if_pos c23] at h
          refine aw_aload_n C 1 dX11_readWay_106 rfl rfl ?_
          refine aw_iconst C 0 dX11_readWay_107 (by decide) ?_
          refine aw_bipush C 100 dX11_readWay_108 (by decide) ?_
          obtain ⟨g24, hg24, h⟩ := bindE h
          obtain ⟨z25, hz25, h⟩ := bindE h
          refine aw_cV_I C [.int 0, .int 100] _ (mt_X11_readNumber hz25) cs_X11_readNumber ml_X11_272 im_X11_readNumber se_X11_readNumber (ci := 11) rfl rfl hg24 ⟨by decide, by decide⟩ ⟨rfl, rfl⟩ ⟨Nat.zero_le _, Nat.zero_le _⟩ rfl rfl (Nat.le_of_ble_eq_true rfl) dX11_readWay_110 ?_
          have e9 := inj1 h
          subst e9
          exact aw_sub [1, 2] rfl kj99
        · rw [if_neg c23] at h
          refine aw_iload_n C 0 dX11_readWay_102 rfl rfl ?_
          refine aw_goto C 113 dX11_readWay_103 (by decide) ?_
          have e9 := inj1 h
          subst e9
          exact aw_sub [1, 2] rfl kj99
      replace h := hz17
      refine aw_if_le C 74 dX11_readWay_67 (by decide) (fun c14 => ?_) (fun c14 => ?_)
      · rw [if_pos c14] at h
        refine aw_aload_n C 1 dX11_readWay_74 rfl rfl ?_
        refine aw_iconst C 0 dX11_readWay_75 (by decide) ?_
        refine aw_iconst C 3 dX11_readWay_76 (by decide) ?_
        obtain ⟨g15, hg15, h⟩ := bindE h
        obtain ⟨z16, hz16, h⟩ := bindE h
        refine aw_cV_I C [.int 0, .int 3] _ (mt_X11_readNumber hz16) cs_X11_readNumber ml_X11_272 im_X11_readNumber se_X11_readNumber (ci := 11) rfl rfl hg15 ⟨by decide, by decide⟩ ⟨rfl, rfl⟩ ⟨Nat.zero_le _, Nat.zero_le _⟩ rfl rfl (Nat.le_of_ble_eq_true rfl) dX11_readWay_77 ?_
        have e9 := inj1 h
        subst e9
        exact aw_sub [1, 2] rfl kj67
      · rw [if_neg c14] at h
        refine aw_iload_n C 0 dX11_readWay_70 rfl rfl ?_
        refine aw_goto C 80 dX11_readWay_71 (by decide) ?_
        have e9 := inj1 h
        subst e9
        exact aw_sub [1, 2] rfl kj67
    · rw [if_pos c11] at h
      refine aw_iload_n C 0 dX11_readWay_45 rfl rfl ?_
      obtain ⟨e8, e9⟩ := inj2 h
      subst e8
      subst e9
      exact hret _ _ dX11_readWay_46
set_option maxRecDepth 100000 in
set_option maxHeartbeats 4000000 in
theorem mt_X11_readWay {G : GL} {l : Launch} {a0 : Nat} {x1 : Int32} {μ : Mem} {r : Int32} {μ' : Mem} (h : X11_readWay a0 x1 μ = some (r, μ')) : MtI G l yX11_readWay cX11_readWay 3 (some .int) rm_X11_readWay false [.ref (gZ G + a0), .int x1] μ r μ' := met_I (by decide) rfl rfl (Nat.le_of_ble_eq_true rfl) (fun X _ C _ _ hret => wk_X11_readWay C h hret)
set_option maxRecDepth 100000 in
set_option maxHeartbeats 4000000 in
theorem wk_X11_readNever {G : GL} {X : CX} {a0 : Nat} {x1 : Int32} {μ : Mem} {r : Int32} {μ' : Mem} (C : Ctx G X cX11_readNever 4 RX11 rm_X11_readNever) (h : X11_readNever a0 x1 μ = some (r, μ')) (hret : RtI G 4 X cX11_readNever 0 0 r μ') : AW G 4 X 0 0 0 [(0, .ref (gZ G + a0)), (1, .int x1)] [] μ := by
  unfold X11_readNever at h
  refine aw_aload_n C 0 dX11_readNever_0 rfl rfl ?_
  obtain ⟨g1, hg1, h⟩ := bindE h
  obtain ⟨μ2, hμ2, h⟩ := bindE h
  refine aw_cV_V C [] _ (mt_X11_readWord hμ2) cs_X11_readWord ml_X11_258 im_X11_readWord se_X11_readWord (ci := 11) rfl rfl hg1 ⟨by decide, by decide⟩ ⟨rfl, rfl⟩ ⟨Nat.zero_le _, Nat.zero_le _⟩ rfl rfl (Nat.le_of_ble_eq_true rfl) dX11_readNever_1 ?_
  refine aw_aload_n C 0 dX11_readNever_4 rfl rfl ?_
  obtain ⟨v3, hv3, h⟩ := bindE h
  refine aw_gJ C fl_X11_239 rfl hv3 dX11_readNever_5 ?_
  refine aw_bipush C 119 dX11_readNever_8 (by decide) ?_
  refine aw_bipush C 97 dX11_readNever_10 (by decide) ?_
  refine aw_bipush C 121 dX11_readNever_12 (by decide) ?_
  refine aw_iconst C 0 dX11_readNever_14 (by decide) ?_
  refine aw_iconst C 0 dX11_readNever_15 (by decide) ?_
  refine aw_iconst C 0 dX11_readNever_16 (by decide) ?_
  refine aw_cS_J C [.int 119, .int 97, .int 121, .int 0, .int 0, .int 0] _ (mt_X11_code _ _ _ _ _ _) cs_X11_code ml_X11_275 st_X11_code ⟨by decide, by decide⟩ ⟨rfl, rfl⟩ ⟨Nat.zero_le _, Nat.zero_le _⟩ rfl rfl (Nat.le_of_ble_eq_true rfl) dX11_readNever_17 ?_
  refine aw_lcmp C dX11_readNever_20 ?_
  obtain ⟨v5, ev5, h⟩ := bindS h
  have kj21 : AW G 4 X 0 0 29 [(0, .ref (gZ G + a0)), (1, .int x1)] [.int v5] μ2 := by
    refine aw_istore_n C [(2, .int v5), (0, .ref (gZ G + a0)), (1, .int x1)] dX11_readNever_29 rfl (by decide) rfl ?_
    refine aw_iload_n C 0 dX11_readNever_30 rfl rfl ?_
    refine aw_if_ne C 65 dX11_readNever_31 (by decide) (fun c6 => ?_) (fun c6 => ?_)
    · rw [if_neg c6] at h
      refine aw_aload_n C 1 dX11_readNever_65 rfl rfl ?_
      refine aw_aload_n C 1 dX11_readNever_66 rfl rfl ?_
      obtain ⟨v7, hv7, h⟩ := bindE h
      refine aw_gI C fl_X11_243 rfl hv7 dX11_readNever_67 ?_
      obtain ⟨μ8, hμ8, h⟩ := bindE h
      refine aw_pI C fl_X11_232 rfl hμ8 dX11_readNever_70 ?_
      refine aw_iload_n C 0 dX11_readNever_73 rfl rfl ?_
      refine aw_if_eq C 83 dX11_readNever_74 (by decide) (fun c9 => ?_) (fun c9 => ?_)
      · rw [if_pos c9] at h
        refine aw_aload_n C 1 dX11_readNever_83 rfl rfl ?_
        refine aw_iconst C 0 dX11_readNever_84 (by decide) ?_
        refine aw_iconst C 3 dX11_readNever_85 (by decide) ?_
        obtain ⟨g10, hg10, h⟩ := bindE h
        obtain ⟨z11, hz11, h⟩ := bindE h
        refine aw_cV_I C [.int 0, .int 3] _ (mt_X11_readNumber hz11) cs_X11_readNumber ml_X11_272 im_X11_readNumber se_X11_readNumber (ci := 11) rfl rfl hg10 ⟨by decide, by decide⟩ ⟨rfl, rfl⟩ ⟨Nat.zero_le _, Nat.zero_le _⟩ rfl rfl (Nat.le_of_ble_eq_true rfl) dX11_readNever_86 ?_
        refine aw_istore_n C [(3, .int z11.1), (2, .int v5), (0, .ref (gZ G + a0)), (1, .int x1)] dX11_readNever_89 rfl (by decide) rfl ?_
        refine aw_aload_n C 2 dX11_readNever_90 rfl rfl ?_
        obtain ⟨v12, hv12, h⟩ := bindE h
        refine aw_gR C fl_X11_90 rfl hv12 dX11_readNever_91 ?_
        refine aw_iload_n C 3 dX11_readNever_94 rfl rfl ?_
        refine aw_iconst C 2 dX11_readNever_95 (by decide) ?_
        obtain ⟨μ13, hμ13, h⟩ := bindE h
        refine aw_sI C hμ13 dX11_readNever_96 ?_
        refine aw_aload_n C 2 dX11_readNever_97 rfl rfl ?_
        obtain ⟨v14, hv14, h⟩ := bindE h
        refine aw_gR C fl_X11_93 rfl hv14 dX11_readNever_98 ?_
        refine aw_iload_n C 3 dX11_readNever_101 rfl rfl ?_
        refine aw_aload_n C 2 dX11_readNever_102 rfl rfl ?_
        obtain ⟨v15, hv15, h⟩ := bindE h
        refine aw_gI C fl_X11_269 rfl hv15 dX11_readNever_103 ?_
        obtain ⟨μ16, hμ16, h⟩ := bindE h
        refine aw_sI C hμ16 dX11_readNever_106 ?_
        refine aw_iload_n C 0 dX11_readNever_107 rfl rfl ?_
        obtain ⟨z20, hz20, h⟩ := bindE h
        have kj108 : AW G 4 X 0 0 133 [(0, .ref (gZ G + a0)), (1, .int x1)] [.int z20.1] z20.2 := by
          refine aw_istore_n C [(3, .int z20.1), (0, .ref (gZ G + a0)), (1, .int x1)] dX11_readNever_133 rfl (by decide) rfl ?_
          refine aw_iload_n C 0 dX11_readNever_134 rfl rfl ?_
          obtain ⟨z24, hz24, h⟩ := bindE h
          have kj135 : AW G 4 X 0 0 149 [(0, .ref (gZ G + a0)), (1, .int x1)] [.int z24.1] z24.2 := by
            refine aw_istore_n C [(3, .int z24.1), (0, .ref (gZ G + a0)), (1, .int x1)] dX11_readNever_149 rfl (by decide) rfl ?_
            refine aw_aload_n C 1 dX11_readNever_150 rfl rfl ?_
            obtain ⟨v25, hv25, h⟩ := bindE h
            refine aw_gR C fl_X11_96 rfl hv25 dX11_readNever_151 ?_
            refine aw_iload_n C 2 dX11_readNever_154 rfl rfl ?_
            refine aw_aload_n C 1 dX11_readNever_155 rfl rfl ?_
            obtain ⟨v26, hv26, h⟩ := bindE h
            refine aw_gI C fl_X11_269 rfl hv26 dX11_readNever_156 ?_
            obtain ⟨μ27, hμ27, h⟩ := bindE h
            refine aw_sI C hμ27 dX11_readNever_159 ?_
            refine aw_iload_n C 0 dX11_readNever_160 rfl rfl ?_
            obtain ⟨e8, e9⟩ := inj2 h
            subst e8
            subst e9
            exact hret _ _ dX11_readNever_161
          replace h := hz24
          refine aw_if_le C 142 dX11_readNever_135 (by decide) (fun c21 => ?_) (fun c21 => ?_)
          · rw [if_pos c21] at h
            refine aw_aload_n C 1 dX11_readNever_142 rfl rfl ?_
            refine aw_iconst C 0 dX11_readNever_143 (by decide) ?_
            refine aw_bipush C 60 dX11_readNever_144 (by decide) ?_
            obtain ⟨g22, hg22, h⟩ := bindE h
            obtain ⟨z23, hz23, h⟩ := bindE h
            refine aw_cV_I C [.int 0, .int 60] _ (mt_X11_readNumber hz23) cs_X11_readNumber ml_X11_272 im_X11_readNumber se_X11_readNumber (ci := 11) rfl rfl hg22 ⟨by decide, by decide⟩ ⟨rfl, rfl⟩ ⟨Nat.zero_le _, Nat.zero_le _⟩ rfl rfl (Nat.le_of_ble_eq_true rfl) dX11_readNever_146 ?_
            have e9 := inj1 h
            subst e9
            exact aw_sub [1, 2] rfl kj135
          · rw [if_neg c21] at h
            refine aw_iload_n C 0 dX11_readNever_138 rfl rfl ?_
            refine aw_goto C 149 dX11_readNever_139 (by decide) ?_
            have e9 := inj1 h
            subst e9
            exact aw_sub [1, 2] rfl kj135
        replace h := hz20
        refine aw_if_le C 115 dX11_readNever_108 (by decide) (fun c17 => ?_) (fun c17 => ?_)
        · rw [if_pos c17] at h
          refine aw_aload_n C 2 dX11_readNever_115 rfl rfl ?_
          refine aw_bipush C 97 dX11_readNever_116 (by decide) ?_
          refine aw_bipush C 102 dX11_readNever_118 (by decide) ?_
          refine aw_bipush C 116 dX11_readNever_120 (by decide) ?_
          refine aw_bipush C 101 dX11_readNever_122 (by decide) ?_
          refine aw_bipush C 114 dX11_readNever_124 (by decide) ?_
          refine aw_iconst C 0 dX11_readNever_126 (by decide) ?_
          refine aw_cS_J C [.int 97, .int 102, .int 116, .int 101, .int 114, .int 0] _ (mt_X11_code _ _ _ _ _ _) cs_X11_code ml_X11_275 st_X11_code ⟨by decide, by decide⟩ ⟨rfl, rfl⟩ ⟨Nat.zero_le _, Nat.zero_le _⟩ rfl rfl (Nat.le_of_ble_eq_true rfl) dX11_readNever_127 ?_
          obtain ⟨g18, hg18, h⟩ := bindE h
          obtain ⟨z19, hz19, h⟩ := bindE h
          refine aw_cV_I C [.long (X11_code 97 102 116 101 114 0)] _ (mt_X11_needs hz19) cs_X11_needs ml_X11_279 im_X11_needs se_X11_needs (ci := 11) rfl rfl hg18 ⟨by decide, by decide⟩ ⟨rfl, rfl⟩ ⟨Nat.zero_le _, Nat.zero_le _⟩ rfl rfl (Nat.le_of_ble_eq_true rfl) dX11_readNever_130 ?_
          have e9 := inj1 h
          subst e9
          exact aw_sub [2, 3] rfl kj108
        · rw [if_neg c17] at h
          refine aw_iload_n C 0 dX11_readNever_111 rfl rfl ?_
          refine aw_goto C 133 dX11_readNever_112 (by decide) ?_
          have e9 := inj1 h
          subst e9
          exact aw_sub [2, 3] rfl kj108
      · rw [if_neg c9] at h
        refine aw_aload_n C 1 dX11_readNever_77 rfl rfl ?_
        refine aw_iload_n C 2 dX11_readNever_78 rfl rfl ?_
        obtain ⟨g28, hg28, h⟩ := bindE h
        obtain ⟨z29, hz29, h⟩ := bindE h
        refine aw_cV_I C [.int x1] _ (mt_X11_readWay hz29) cs_X11_readWay ml_X11_283 im_X11_readWay se_X11_readWay (ci := 11) rfl rfl hg28 ⟨by decide, by decide⟩ ⟨rfl, rfl⟩ ⟨Nat.zero_le _, Nat.zero_le _⟩ rfl rfl (Nat.le_of_ble_eq_true rfl) dX11_readNever_79 ?_
        obtain ⟨e8, e9⟩ := inj2 h
        subst e8
        subst e9
        exact hret _ _ dX11_readNever_82
    · rw [if_pos c6] at h
      refine aw_aload_n C 1 dX11_readNever_34 rfl rfl ?_
      obtain ⟨v30, hv30, h⟩ := bindE h
      refine aw_gJ C fl_X11_239 rfl hv30 dX11_readNever_35 ?_
      refine aw_bipush C 107 dX11_readNever_38 (by decide) ?_
      refine aw_bipush C 105 dX11_readNever_40 (by decide) ?_
      refine aw_bipush C 110 dX11_readNever_42 (by decide) ?_
      refine aw_bipush C 100 dX11_readNever_44 (by decide) ?_
      refine aw_iconst C 0 dX11_readNever_46 (by decide) ?_
      refine aw_iconst C 0 dX11_readNever_47 (by decide) ?_
      refine aw_cS_J C [.int 107, .int 105, .int 110, .int 100, .int 0, .int 0] _ (mt_X11_code _ _ _ _ _ _) cs_X11_code ml_X11_275 st_X11_code ⟨by decide, by decide⟩ ⟨rfl, rfl⟩ ⟨Nat.zero_le _, Nat.zero_le _⟩ rfl rfl (Nat.le_of_ble_eq_true rfl) dX11_readNever_48 ?_
      refine aw_lcmp C dX11_readNever_51 ?_
      refine aw_if_eq C 65 dX11_readNever_52 (by decide) (fun c31 => ?_) (fun c31 => ?_)
      · rw [if_pos c31] at h
        refine aw_aload_n C 1 dX11_readNever_65 rfl rfl ?_
        refine aw_aload_n C 1 dX11_readNever_66 rfl rfl ?_
        obtain ⟨v32, hv32, h⟩ := bindE h
        refine aw_gI C fl_X11_243 rfl hv32 dX11_readNever_67 ?_
        obtain ⟨μ33, hμ33, h⟩ := bindE h
        refine aw_pI C fl_X11_232 rfl hμ33 dX11_readNever_70 ?_
        refine aw_iload_n C 0 dX11_readNever_73 rfl rfl ?_
        refine aw_if_eq C 83 dX11_readNever_74 (by decide) (fun c34 => ?_) (fun c34 => ?_)
        · rw [if_pos c34] at h
          refine aw_aload_n C 1 dX11_readNever_83 rfl rfl ?_
          refine aw_iconst C 0 dX11_readNever_84 (by decide) ?_
          refine aw_iconst C 3 dX11_readNever_85 (by decide) ?_
          obtain ⟨g35, hg35, h⟩ := bindE h
          obtain ⟨z36, hz36, h⟩ := bindE h
          refine aw_cV_I C [.int 0, .int 3] _ (mt_X11_readNumber hz36) cs_X11_readNumber ml_X11_272 im_X11_readNumber se_X11_readNumber (ci := 11) rfl rfl hg35 ⟨by decide, by decide⟩ ⟨rfl, rfl⟩ ⟨Nat.zero_le _, Nat.zero_le _⟩ rfl rfl (Nat.le_of_ble_eq_true rfl) dX11_readNever_86 ?_
          refine aw_istore_n C [(3, .int z36.1), (2, .int v5), (0, .ref (gZ G + a0)), (1, .int x1)] dX11_readNever_89 rfl (by decide) rfl ?_
          refine aw_aload_n C 2 dX11_readNever_90 rfl rfl ?_
          obtain ⟨v37, hv37, h⟩ := bindE h
          refine aw_gR C fl_X11_90 rfl hv37 dX11_readNever_91 ?_
          refine aw_iload_n C 3 dX11_readNever_94 rfl rfl ?_
          refine aw_iconst C 2 dX11_readNever_95 (by decide) ?_
          obtain ⟨μ38, hμ38, h⟩ := bindE h
          refine aw_sI C hμ38 dX11_readNever_96 ?_
          refine aw_aload_n C 2 dX11_readNever_97 rfl rfl ?_
          obtain ⟨v39, hv39, h⟩ := bindE h
          refine aw_gR C fl_X11_93 rfl hv39 dX11_readNever_98 ?_
          refine aw_iload_n C 3 dX11_readNever_101 rfl rfl ?_
          refine aw_aload_n C 2 dX11_readNever_102 rfl rfl ?_
          obtain ⟨v40, hv40, h⟩ := bindE h
          refine aw_gI C fl_X11_269 rfl hv40 dX11_readNever_103 ?_
          obtain ⟨μ41, hμ41, h⟩ := bindE h
          refine aw_sI C hμ41 dX11_readNever_106 ?_
          refine aw_iload_n C 0 dX11_readNever_107 rfl rfl ?_
          obtain ⟨z45, hz45, h⟩ := bindE h
          have kj108 : AW G 4 X 0 0 133 [(0, .ref (gZ G + a0)), (1, .int x1)] [.int z45.1] z45.2 := by
            refine aw_istore_n C [(3, .int z45.1), (0, .ref (gZ G + a0)), (1, .int x1)] dX11_readNever_133 rfl (by decide) rfl ?_
            refine aw_iload_n C 0 dX11_readNever_134 rfl rfl ?_
            obtain ⟨z49, hz49, h⟩ := bindE h
            have kj135 : AW G 4 X 0 0 149 [(0, .ref (gZ G + a0)), (1, .int x1)] [.int z49.1] z49.2 := by
              refine aw_istore_n C [(3, .int z49.1), (0, .ref (gZ G + a0)), (1, .int x1)] dX11_readNever_149 rfl (by decide) rfl ?_
              refine aw_aload_n C 1 dX11_readNever_150 rfl rfl ?_
              obtain ⟨v50, hv50, h⟩ := bindE h
              refine aw_gR C fl_X11_96 rfl hv50 dX11_readNever_151 ?_
              refine aw_iload_n C 2 dX11_readNever_154 rfl rfl ?_
              refine aw_aload_n C 1 dX11_readNever_155 rfl rfl ?_
              obtain ⟨v51, hv51, h⟩ := bindE h
              refine aw_gI C fl_X11_269 rfl hv51 dX11_readNever_156 ?_
              obtain ⟨μ52, hμ52, h⟩ := bindE h
              refine aw_sI C hμ52 dX11_readNever_159 ?_
              refine aw_iload_n C 0 dX11_readNever_160 rfl rfl ?_
              obtain ⟨e8, e9⟩ := inj2 h
              subst e8
              subst e9
              exact hret _ _ dX11_readNever_161
            replace h := hz49
            refine aw_if_le C 142 dX11_readNever_135 (by decide) (fun c46 => ?_) (fun c46 => ?_)
            · rw [if_pos c46] at h
              refine aw_aload_n C 1 dX11_readNever_142 rfl rfl ?_
              refine aw_iconst C 0 dX11_readNever_143 (by decide) ?_
              refine aw_bipush C 60 dX11_readNever_144 (by decide) ?_
              obtain ⟨g47, hg47, h⟩ := bindE h
              obtain ⟨z48, hz48, h⟩ := bindE h
              refine aw_cV_I C [.int 0, .int 60] _ (mt_X11_readNumber hz48) cs_X11_readNumber ml_X11_272 im_X11_readNumber se_X11_readNumber (ci := 11) rfl rfl hg47 ⟨by decide, by decide⟩ ⟨rfl, rfl⟩ ⟨Nat.zero_le _, Nat.zero_le _⟩ rfl rfl (Nat.le_of_ble_eq_true rfl) dX11_readNever_146 ?_
              have e9 := inj1 h
              subst e9
              exact aw_sub [1, 2] rfl kj135
            · rw [if_neg c46] at h
              refine aw_iload_n C 0 dX11_readNever_138 rfl rfl ?_
              refine aw_goto C 149 dX11_readNever_139 (by decide) ?_
              have e9 := inj1 h
              subst e9
              exact aw_sub [1, 2] rfl kj135
          replace h := hz45
          refine aw_if_le C 115 dX11_readNever_108 (by decide) (fun c42 => ?_) (fun c42 => ?_)
          · rw [if_pos c42] at h
            refine aw_aload_n C 2 dX11_readNever_115 rfl rfl ?_
            refine aw_bipush C 97 dX11_readNever_116 (by decide) ?_
            refine aw_bipush C 102 dX11_readNever_118 (by decide) ?_
            refine aw_bipush C 116 dX11_readNever_120 (by decide) ?_
            refine aw_bipush C 101 dX11_readNever_122 (by decide) ?_
            refine aw_bipush C 114 dX11_readNever_124 (by decide) ?_
            refine aw_iconst C 0 dX11_readNever_126 (by decide) ?_
            refine aw_cS_J C [.int 97, .int 102, .int 116, .int 101, .int 114, .int 0] _ (mt_X11_code _ _ _ _ _ _) cs_X11_code ml_X11_275 st_X11_code ⟨by decide, by decide⟩ ⟨rfl, rfl⟩ ⟨Nat.zero_le _, Nat.zero_le _⟩ rfl rfl (Nat.le_of_ble_eq_true rfl) dX11_readNever_127 ?_
            obtain ⟨g43, hg43, h⟩ := bindE h
            obtain ⟨z44, hz44, h⟩ := bindE h
            refine aw_cV_I C [.long (X11_code 97 102 116 101 114 0)] _ (mt_X11_needs hz44) cs_X11_needs ml_X11_279 im_X11_needs se_X11_needs (ci := 11) rfl rfl hg43 ⟨by decide, by decide⟩ ⟨rfl, rfl⟩ ⟨Nat.zero_le _, Nat.zero_le _⟩ rfl rfl (Nat.le_of_ble_eq_true rfl) dX11_readNever_130 ?_
            have e9 := inj1 h
            subst e9
            exact aw_sub [2, 3] rfl kj108
          · rw [if_neg c42] at h
            refine aw_iload_n C 0 dX11_readNever_111 rfl rfl ?_
            refine aw_goto C 133 dX11_readNever_112 (by decide) ?_
            have e9 := inj1 h
            subst e9
            exact aw_sub [2, 3] rfl kj108
        · rw [if_neg c34] at h
          refine aw_aload_n C 1 dX11_readNever_77 rfl rfl ?_
          refine aw_iload_n C 2 dX11_readNever_78 rfl rfl ?_
          obtain ⟨g53, hg53, h⟩ := bindE h
          obtain ⟨z54, hz54, h⟩ := bindE h
          refine aw_cV_I C [.int x1] _ (mt_X11_readWay hz54) cs_X11_readWay ml_X11_283 im_X11_readWay se_X11_readWay (ci := 11) rfl rfl hg53 ⟨by decide, by decide⟩ ⟨rfl, rfl⟩ ⟨Nat.zero_le _, Nat.zero_le _⟩ rfl rfl (Nat.le_of_ble_eq_true rfl) dX11_readNever_79 ?_
          obtain ⟨e8, e9⟩ := inj2 h
          subst e8
          subst e9
          exact hret _ _ dX11_readNever_82
      · rw [if_neg c31] at h
        refine aw_aload_n C 1 dX11_readNever_55 rfl rfl ?_
        refine aw_iconst C 1 dX11_readNever_56 (by decide) ?_
        refine aw_aload_n C 1 dX11_readNever_57 rfl rfl ?_
        obtain ⟨v55, hv55, h⟩ := bindE h
        refine aw_gI C fl_X11_232 rfl hv55 dX11_readNever_58 ?_
        obtain ⟨g56, hg56, h⟩ := bindE h
        obtain ⟨z57, hz57, h⟩ := bindE h
        refine aw_cV_I C [.int 1, .int v55] _ (mt_X11_fails hz57) cs_X11_fails ml_X11_261 im_X11_fails se_X11_fails (ci := 11) rfl rfl hg56 ⟨by decide, by decide⟩ ⟨rfl, rfl⟩ ⟨Nat.zero_le _, Nat.zero_le _⟩ rfl rfl (Nat.le_of_ble_eq_true rfl) dX11_readNever_61 ?_
        obtain ⟨e8, e9⟩ := inj2 h
        subst e8
        subst e9
        exact hret _ _ dX11_readNever_64
  clear h
  refine aw_if_ne C 28 dX11_readNever_21 (by decide) (fun c4 => ?_) (fun c4 => ?_)
  · refine aw_iconst C 0 dX11_readNever_28 (by decide) ?_
    rw [if_neg c4] at ev5
    subst ev5
    exact aw_sub [0, 1] rfl kj21
  · refine aw_iconst C 1 dX11_readNever_24 (by decide) ?_
    refine aw_goto C 29 dX11_readNever_25 (by decide) ?_
    rw [if_pos c4] at ev5
    subst ev5
    exact aw_sub [0, 1] rfl kj21
set_option maxRecDepth 100000 in
set_option maxHeartbeats 4000000 in
theorem mt_X11_readNever {G : GL} {l : Launch} {a0 : Nat} {x1 : Int32} {μ : Mem} {r : Int32} {μ' : Mem} (h : X11_readNever a0 x1 μ = some (r, μ')) : MtI G l yX11_readNever cX11_readNever 4 (some .int) rm_X11_readNever false [.ref (gZ G + a0), .int x1] μ r μ' := met_I (by decide) rfl rfl (Nat.le_of_ble_eq_true rfl) (fun X _ C _ _ hret => wk_X11_readNever C h hret)
set_option maxRecDepth 100000 in
set_option maxHeartbeats 4000000 in
theorem wk_X11_readMost {G : GL} {X : CX} {a0 : Nat} {x1 : Int32} {μ : Mem} {r : Int32} {μ' : Mem} (C : Ctx G X cX11_readMost 3 RX11 rm_X11_readMost) (h : X11_readMost a0 x1 μ = some (r, μ')) (hret : RtI G 3 X cX11_readMost 0 0 r μ') : AW G 3 X 0 0 0 [(0, .ref (gZ G + a0)), (1, .int x1)] [] μ := by
  unfold X11_readMost at h
  refine aw_aload_n C 0 dX11_readMost_0 rfl rfl ?_
  refine aw_iconst C 0 dX11_readMost_1 (by decide) ?_
  refine aw_bipush C 9 dX11_readMost_2 (by decide) ?_
  obtain ⟨g1, hg1, h⟩ := bindE h
  obtain ⟨z2, hz2, h⟩ := bindE h
  refine aw_cV_I C [.int 0, .int 9] _ (mt_X11_readNumber hz2) cs_X11_readNumber ml_X11_272 im_X11_readNumber se_X11_readNumber (ci := 11) rfl rfl hg1 ⟨by decide, by decide⟩ ⟨rfl, rfl⟩ ⟨Nat.zero_le _, Nat.zero_le _⟩ rfl rfl (Nat.le_of_ble_eq_true rfl) dX11_readMost_4 ?_
  refine aw_istore_n C [(2, .int z2.1), (0, .ref (gZ G + a0)), (1, .int x1)] dX11_readMost_7 rfl (by decide) rfl ?_
  refine aw_aload_n C 1 dX11_readMost_8 rfl rfl ?_
  obtain ⟨v3, hv3, h⟩ := bindE h
  refine aw_gR C fl_X11_90 rfl hv3 dX11_readMost_9 ?_
  refine aw_iload_n C 2 dX11_readMost_12 rfl rfl ?_
  refine aw_iconst C 3 dX11_readMost_13 (by decide) ?_
  obtain ⟨μ4, hμ4, h⟩ := bindE h
  refine aw_sI C hμ4 dX11_readMost_14 ?_
  refine aw_aload_n C 1 dX11_readMost_15 rfl rfl ?_
  obtain ⟨v5, hv5, h⟩ := bindE h
  refine aw_gR C fl_X11_93 rfl hv5 dX11_readMost_16 ?_
  refine aw_iload_n C 2 dX11_readMost_19 rfl rfl ?_
  refine aw_aload_n C 1 dX11_readMost_20 rfl rfl ?_
  obtain ⟨v6, hv6, h⟩ := bindE h
  refine aw_gI C fl_X11_269 rfl hv6 dX11_readMost_21 ?_
  obtain ⟨μ7, hμ7, h⟩ := bindE h
  refine aw_sI C hμ7 dX11_readMost_24 ?_
  refine aw_iload_n C 0 dX11_readMost_25 rfl rfl ?_
  obtain ⟨z11, hz11, h⟩ := bindE h
  have kj26 : AW G 3 X 0 0 48 [(0, .ref (gZ G + a0)), (1, .int x1)] [.int z11.1] z11.2 := by
    refine aw_istore_n C [(2, .int z11.1), (0, .ref (gZ G + a0)), (1, .int x1)] dX11_readMost_48 rfl (by decide) rfl ?_
    refine aw_iload_n C 0 dX11_readMost_49 rfl rfl ?_
    obtain ⟨z15, hz15, h⟩ := bindE h
    have kj50 : AW G 3 X 0 0 64 [(0, .ref (gZ G + a0)), (1, .int x1)] [.int z15.1] z15.2 := by
      refine aw_istore_n C [(2, .int z15.1), (0, .ref (gZ G + a0)), (1, .int x1)] dX11_readMost_64 rfl (by decide) rfl ?_
      refine aw_aload_n C 1 dX11_readMost_65 rfl rfl ?_
      obtain ⟨v16, hv16, h⟩ := bindE h
      refine aw_gR C fl_X11_96 rfl hv16 dX11_readMost_66 ?_
      refine aw_iload_n C 2 dX11_readMost_69 rfl rfl ?_
      refine aw_aload_n C 1 dX11_readMost_70 rfl rfl ?_
      obtain ⟨v17, hv17, h⟩ := bindE h
      refine aw_gI C fl_X11_269 rfl hv17 dX11_readMost_71 ?_
      obtain ⟨μ18, hμ18, h⟩ := bindE h
      refine aw_sI C hμ18 dX11_readMost_74 ?_
      refine aw_iload_n C 0 dX11_readMost_75 rfl rfl ?_
      obtain ⟨e8, e9⟩ := inj2 h
      subst e8
      subst e9
      exact hret _ _ dX11_readMost_76
    replace h := hz15
    refine aw_if_le C 57 dX11_readMost_50 (by decide) (fun c12 => ?_) (fun c12 => ?_)
    · rw [if_pos c12] at h
      refine aw_aload_n C 1 dX11_readMost_57 rfl rfl ?_
      refine aw_iconst C 1 dX11_readMost_58 (by decide) ?_
      refine aw_bipush C 60 dX11_readMost_59 (by decide) ?_
      obtain ⟨g13, hg13, h⟩ := bindE h
      obtain ⟨z14, hz14, h⟩ := bindE h
      refine aw_cV_I C [.int 1, .int 60] _ (mt_X11_readNumber hz14) cs_X11_readNumber ml_X11_272 im_X11_readNumber se_X11_readNumber (ci := 11) rfl rfl hg13 ⟨by decide, by decide⟩ ⟨rfl, rfl⟩ ⟨Nat.zero_le _, Nat.zero_le _⟩ rfl rfl (Nat.le_of_ble_eq_true rfl) dX11_readMost_61 ?_
      have e9 := inj1 h
      subst e9
      exact aw_sub [1, 2] rfl kj50
    · rw [if_neg c12] at h
      refine aw_iload_n C 0 dX11_readMost_53 rfl rfl ?_
      refine aw_goto C 64 dX11_readMost_54 (by decide) ?_
      have e9 := inj1 h
      subst e9
      exact aw_sub [1, 2] rfl kj50
  replace h := hz11
  refine aw_if_le C 33 dX11_readMost_26 (by decide) (fun c8 => ?_) (fun c8 => ?_)
  · rw [if_pos c8] at h
    refine aw_aload_n C 1 dX11_readMost_33 rfl rfl ?_
    refine aw_bipush C 105 dX11_readMost_34 (by decide) ?_
    refine aw_bipush C 110 dX11_readMost_36 (by decide) ?_
    refine aw_iconst C 0 dX11_readMost_38 (by decide) ?_
    refine aw_iconst C 0 dX11_readMost_39 (by decide) ?_
    refine aw_iconst C 0 dX11_readMost_40 (by decide) ?_
    refine aw_iconst C 0 dX11_readMost_41 (by decide) ?_
    refine aw_cS_J C [.int 105, .int 110, .int 0, .int 0, .int 0, .int 0] _ (mt_X11_code _ _ _ _ _ _) cs_X11_code ml_X11_275 st_X11_code ⟨by decide, by decide⟩ ⟨rfl, rfl⟩ ⟨Nat.zero_le _, Nat.zero_le _⟩ rfl rfl (Nat.le_of_ble_eq_true rfl) dX11_readMost_42 ?_
    obtain ⟨g9, hg9, h⟩ := bindE h
    obtain ⟨z10, hz10, h⟩ := bindE h
    refine aw_cV_I C [.long (X11_code 105 110 0 0 0 0)] _ (mt_X11_needs hz10) cs_X11_needs ml_X11_279 im_X11_needs se_X11_needs (ci := 11) rfl rfl hg9 ⟨by decide, by decide⟩ ⟨rfl, rfl⟩ ⟨Nat.zero_le _, Nat.zero_le _⟩ rfl rfl (Nat.le_of_ble_eq_true rfl) dX11_readMost_45 ?_
    have e9 := inj1 h
    subst e9
    exact aw_sub [1, 2] rfl kj26
  · rw [if_neg c8] at h
    refine aw_iload_n C 0 dX11_readMost_29 rfl rfl ?_
    refine aw_goto C 48 dX11_readMost_30 (by decide) ?_
    have e9 := inj1 h
    subst e9
    exact aw_sub [1, 2] rfl kj26
set_option maxRecDepth 100000 in
set_option maxHeartbeats 4000000 in
theorem mt_X11_readMost {G : GL} {l : Launch} {a0 : Nat} {x1 : Int32} {μ : Mem} {r : Int32} {μ' : Mem} (h : X11_readMost a0 x1 μ = some (r, μ')) : MtI G l yX11_readMost cX11_readMost 3 (some .int) rm_X11_readMost false [.ref (gZ G + a0), .int x1] μ r μ' := met_I (by decide) rfl rfl (Nat.le_of_ble_eq_true rfl) (fun X _ C _ _ hret => wk_X11_readMost C h hret)
set_option maxRecDepth 100000 in
set_option maxHeartbeats 4000000 in
theorem wk_X11_readAlways {G : GL} {X : CX} {a0 : Nat} {x1 : Int32} {μ : Mem} {r : Int32} {μ' : Mem} (C : Ctx G X cX11_readAlways 3 RX11 rm_X11_readAlways) (h : X11_readAlways a0 x1 μ = some (r, μ')) (hret : RtI G 3 X cX11_readAlways 0 0 r μ') : AW G 3 X 0 0 0 [(0, .ref (gZ G + a0)), (1, .int x1)] [] μ := by
  unfold X11_readAlways at h
  refine aw_aload_n C 0 dX11_readAlways_0 rfl rfl ?_
  refine aw_bipush C 102 dX11_readAlways_1 (by decide) ?_
  refine aw_bipush C 114 dX11_readAlways_3 (by decide) ?_
  refine aw_bipush C 111 dX11_readAlways_5 (by decide) ?_
  refine aw_bipush C 109 dX11_readAlways_7 (by decide) ?_
  refine aw_iconst C 0 dX11_readAlways_9 (by decide) ?_
  refine aw_iconst C 0 dX11_readAlways_10 (by decide) ?_
  refine aw_cS_J C [.int 102, .int 114, .int 111, .int 109, .int 0, .int 0] _ (mt_X11_code _ _ _ _ _ _) cs_X11_code ml_X11_275 st_X11_code ⟨by decide, by decide⟩ ⟨rfl, rfl⟩ ⟨Nat.zero_le _, Nat.zero_le _⟩ rfl rfl (Nat.le_of_ble_eq_true rfl) dX11_readAlways_11 ?_
  obtain ⟨g1, hg1, h⟩ := bindE h
  obtain ⟨z2, hz2, h⟩ := bindE h
  refine aw_cV_I C [.long (X11_code 102 114 111 109 0 0)] _ (mt_X11_needs hz2) cs_X11_needs ml_X11_279 im_X11_needs se_X11_needs (ci := 11) rfl rfl hg1 ⟨by decide, by decide⟩ ⟨rfl, rfl⟩ ⟨Nat.zero_le _, Nat.zero_le _⟩ rfl rfl (Nat.le_of_ble_eq_true rfl) dX11_readAlways_14 ?_
  refine aw_istore_n C [(2, .int z2.1), (0, .ref (gZ G + a0)), (1, .int x1)] dX11_readAlways_17 rfl (by decide) rfl ?_
  refine aw_iload_n C 0 dX11_readAlways_18 rfl rfl ?_
  obtain ⟨z6, hz6, h⟩ := bindE h
  have kj19 : AW G 3 X 0 0 33 [(0, .ref (gZ G + a0)), (1, .int x1)] [.int z6.1] z6.2 := by
    refine aw_istore_n C [(2, .int z6.1), (0, .ref (gZ G + a0)), (1, .int x1)] dX11_readAlways_33 rfl (by decide) rfl ?_
    refine aw_aload_n C 1 dX11_readAlways_34 rfl rfl ?_
    obtain ⟨v7, hv7, h⟩ := bindE h
    refine aw_gR C fl_X11_90 rfl hv7 dX11_readAlways_35 ?_
    refine aw_iload_n C 2 dX11_readAlways_38 rfl rfl ?_
    refine aw_iconst C 4 dX11_readAlways_39 (by decide) ?_
    obtain ⟨μ8, hμ8, h⟩ := bindE h
    refine aw_sI C hμ8 dX11_readAlways_40 ?_
    refine aw_aload_n C 1 dX11_readAlways_41 rfl rfl ?_
    obtain ⟨v9, hv9, h⟩ := bindE h
    refine aw_gR C fl_X11_93 rfl hv9 dX11_readAlways_42 ?_
    refine aw_iload_n C 2 dX11_readAlways_45 rfl rfl ?_
    refine aw_aload_n C 1 dX11_readAlways_46 rfl rfl ?_
    obtain ⟨v10, hv10, h⟩ := bindE h
    refine aw_gI C fl_X11_269 rfl hv10 dX11_readAlways_47 ?_
    obtain ⟨μ11, hμ11, h⟩ := bindE h
    refine aw_sI C hμ11 dX11_readAlways_50 ?_
    refine aw_iload_n C 0 dX11_readAlways_51 rfl rfl ?_
    obtain ⟨e8, e9⟩ := inj2 h
    subst e8
    subst e9
    exact hret _ _ dX11_readAlways_52
  replace h := hz6
  refine aw_if_le C 26 dX11_readAlways_19 (by decide) (fun c3 => ?_) (fun c3 => ?_)
  · rw [if_pos c3] at h
    refine aw_aload_n C 1 dX11_readAlways_26 rfl rfl ?_
    refine aw_iconst C 0 dX11_readAlways_27 (by decide) ?_
    refine aw_bipush C 9 dX11_readAlways_28 (by decide) ?_
    obtain ⟨g4, hg4, h⟩ := bindE h
    obtain ⟨z5, hz5, h⟩ := bindE h
    refine aw_cV_I C [.int 0, .int 9] _ (mt_X11_readNumber hz5) cs_X11_readNumber ml_X11_272 im_X11_readNumber se_X11_readNumber (ci := 11) rfl rfl hg4 ⟨by decide, by decide⟩ ⟨rfl, rfl⟩ ⟨Nat.zero_le _, Nat.zero_le _⟩ rfl rfl (Nat.le_of_ble_eq_true rfl) dX11_readAlways_30 ?_
    have e9 := inj1 h
    subst e9
    exact aw_sub [1, 2] rfl kj19
  · rw [if_neg c3] at h
    refine aw_iload_n C 0 dX11_readAlways_22 rfl rfl ?_
    refine aw_goto C 33 dX11_readAlways_23 (by decide) ?_
    have e9 := inj1 h
    subst e9
    exact aw_sub [1, 2] rfl kj19
set_option maxRecDepth 100000 in
set_option maxHeartbeats 4000000 in
theorem mt_X11_readAlways {G : GL} {l : Launch} {a0 : Nat} {x1 : Int32} {μ : Mem} {r : Int32} {μ' : Mem} (h : X11_readAlways a0 x1 μ = some (r, μ')) : MtI G l yX11_readAlways cX11_readAlways 3 (some .int) rm_X11_readAlways false [.ref (gZ G + a0), .int x1] μ r μ' := met_I (by decide) rfl rfl (Nat.le_of_ble_eq_true rfl) (fun X _ C _ _ hret => wk_X11_readAlways C h hret)
set_option maxRecDepth 100000 in
set_option maxHeartbeats 4000000 in
theorem wk_X11_readClause {G : GL} {X : CX} {a0 : Nat} {x1 : Int32} {μ : Mem} {r : Int32} {μ' : Mem} (C : Ctx G X cX11_readClause 4 RX11 rm_X11_readClause) (h : X11_readClause a0 x1 μ = some (r, μ')) (hret : RtI G 4 X cX11_readClause 0 0 r μ') : AW G 4 X 0 0 0 [(0, .ref (gZ G + a0)), (1, .int x1)] [] μ := by
  unfold X11_readClause at h
  refine aw_aload_n C 0 dX11_readClause_0 rfl rfl ?_
  obtain ⟨g1, hg1, h⟩ := bindE h
  obtain ⟨μ2, hμ2, h⟩ := bindE h
  refine aw_cV_V C [] _ (mt_X11_readWord hμ2) cs_X11_readWord ml_X11_258 im_X11_readWord se_X11_readWord (ci := 11) rfl rfl hg1 ⟨by decide, by decide⟩ ⟨rfl, rfl⟩ ⟨Nat.zero_le _, Nat.zero_le _⟩ rfl rfl (Nat.le_of_ble_eq_true rfl) dX11_readClause_1 ?_
  refine aw_aload_n C 0 dX11_readClause_4 rfl rfl ?_
  obtain ⟨v3, hv3, h⟩ := bindE h
  refine aw_gJ C fl_X11_239 rfl hv3 dX11_readClause_5 ?_
  refine aw_bipush C 110 dX11_readClause_8 (by decide) ?_
  refine aw_bipush C 101 dX11_readClause_10 (by decide) ?_
  refine aw_bipush C 118 dX11_readClause_12 (by decide) ?_
  refine aw_bipush C 101 dX11_readClause_14 (by decide) ?_
  refine aw_bipush C 114 dX11_readClause_16 (by decide) ?_
  refine aw_iconst C 0 dX11_readClause_18 (by decide) ?_
  refine aw_cS_J C [.int 110, .int 101, .int 118, .int 101, .int 114, .int 0] _ (mt_X11_code _ _ _ _ _ _) cs_X11_code ml_X11_275 st_X11_code ⟨by decide, by decide⟩ ⟨rfl, rfl⟩ ⟨Nat.zero_le _, Nat.zero_le _⟩ rfl rfl (Nat.le_of_ble_eq_true rfl) dX11_readClause_19 ?_
  refine aw_lcmp C dX11_readClause_22 ?_
  obtain ⟨z9, hz9, h⟩ := bindE h
  have kj23 : AW G 4 X 0 0 83 [(0, .ref (gZ G + a0)), (1, .int x1)] [.int z9] μ2 := by
    refine aw_istore_n C [(2, .int z9), (0, .ref (gZ G + a0)), (1, .int x1)] dX11_readClause_83 rfl (by decide) rfl ?_
    refine aw_iload_n C 0 dX11_readClause_84 rfl rfl ?_
    refine aw_if_lt C 94 dX11_readClause_85 (by decide) (fun c10 => ?_) (fun c10 => ?_)
    · rw [if_pos c10] at h
      refine aw_aload_n C 1 dX11_readClause_94 rfl rfl ?_
      refine aw_iload_n C 0 dX11_readClause_95 rfl rfl ?_
      obtain ⟨v12, ev12, h⟩ := bindS h
      have kj96 : AW G 4 X 0 0 104 [(0, .ref (gZ G + a0))] [.int v12, .ref (gZ G + a0)] μ2 := by
        refine aw_aload_n C 0 dX11_readClause_104 rfl rfl ?_
        obtain ⟨v13, hv13, h⟩ := bindE h
        refine aw_gI C fl_X11_232 rfl hv13 dX11_readClause_105 ?_
        obtain ⟨g14, hg14, h⟩ := bindE h
        obtain ⟨z15, hz15, h⟩ := bindE h
        refine aw_cV_I C [.int v12, .int v13] _ (mt_X11_fails hz15) cs_X11_fails ml_X11_261 im_X11_fails se_X11_fails (ci := 11) rfl rfl hg14 ⟨by decide, by decide⟩ ⟨rfl, rfl⟩ ⟨Nat.zero_le _, Nat.zero_le _⟩ rfl rfl (Nat.le_of_ble_eq_true rfl) dX11_readClause_108 ?_
        obtain ⟨e8, e9⟩ := inj2 h
        subst e8
        subst e9
        exact hret _ _ dX11_readClause_111
      clear h
      refine aw_if_ge C 103 dX11_readClause_96 (by decide) (fun c11 => ?_) (fun c11 => ?_)
      · refine aw_iconst C 3 dX11_readClause_103 (by decide) ?_
        rw [if_pos c11] at ev12
        subst ev12
        exact aw_sub [1] rfl kj96
      · refine aw_iconst C 1 dX11_readClause_99 (by decide) ?_
        refine aw_goto C 104 dX11_readClause_100 (by decide) ?_
        rw [if_neg c11] at ev12
        subst ev12
        exact aw_sub [1] rfl kj96
    · rw [if_neg c10] at h
      refine aw_iload_n C 2 dX11_readClause_88 rfl rfl ?_
      refine aw_bipush C 8 dX11_readClause_89 (by decide) ?_
      refine aw_icmp_ne C 112 dX11_readClause_91 (by decide) (fun c16 => ?_) (fun c16 => ?_)
      · rw [if_neg c16] at h
        refine aw_aload_n C 1 dX11_readClause_112 rfl rfl ?_
        refine aw_aload_n C 1 dX11_readClause_113 rfl rfl ?_
        obtain ⟨v17, hv17, h⟩ := bindE h
        refine aw_gI C fl_X11_243 rfl hv17 dX11_readClause_114 ?_
        obtain ⟨μ18, hμ18, h⟩ := bindE h
        refine aw_pI C fl_X11_232 rfl hμ18 dX11_readClause_117 ?_
        refine aw_iload_n C 0 dX11_readClause_120 rfl rfl ?_
        obtain ⟨z27, hz27, h⟩ := bindE h
        have kj121 : AW G 4 X 0 0 150 [(0, .ref (gZ G + a0))] [.int z27.1] z27.2 := by
          refine aw_istore_n C [(3, .int z27.1), (0, .ref (gZ G + a0))] dX11_readClause_150 rfl (by decide) rfl ?_
          refine aw_iload_n C 0 dX11_readClause_151 rfl rfl ?_
          refine aw_if_le C 157 dX11_readClause_152 (by decide) (fun c28 => ?_) (fun c28 => ?_)
          · rw [if_pos c28] at h
            refine aw_aload_n C 1 dX11_readClause_157 rfl rfl ?_
            obtain ⟨g29, hg29, h⟩ := bindE h
            obtain ⟨z30, hz30, h⟩ := bindE h
            refine aw_cV_I C [] _ (mt_X11_here hz30) cs_X11_here ml_X11_235 im_X11_here se_X11_here (ci := 11) rfl rfl hg29 ⟨by decide, by decide⟩ ⟨rfl, rfl⟩ ⟨Nat.zero_le _, Nat.zero_le _⟩ rfl rfl (Nat.le_of_ble_eq_true rfl) dX11_readClause_158 ?_
            refine aw_bipush C 59 dX11_readClause_161 (by decide) ?_
            refine aw_icmp_eq C 176 dX11_readClause_163 (by decide) (fun c31 => ?_) (fun c31 => ?_)
            · rw [if_pos c31] at h
              refine aw_aload_n C 1 dX11_readClause_176 rfl rfl ?_
              refine aw_dup C dX11_readClause_177 rfl ?_
              obtain ⟨v32, hv32, h⟩ := bindE h
              refine aw_gI C fl_X11_232 rfl hv32 dX11_readClause_178 ?_
              refine aw_iconst C 1 dX11_readClause_181 (by decide) ?_
              refine aw_iadd C dX11_readClause_182 ?_
              obtain ⟨μ33, hμ33, h⟩ := bindE h
              refine aw_pI C fl_X11_232 rfl hμ33 dX11_readClause_183 ?_
              refine aw_iconst C 0 dX11_readClause_186 (by decide) ?_
              obtain ⟨e8, e9⟩ := inj2 h
              subst e8
              subst e9
              exact hret _ _ dX11_readClause_187
            · rw [if_neg c31] at h
              refine aw_aload_n C 1 dX11_readClause_166 rfl rfl ?_
              refine aw_iconst C 1 dX11_readClause_167 (by decide) ?_
              refine aw_aload_n C 1 dX11_readClause_168 rfl rfl ?_
              obtain ⟨v34, hv34, h⟩ := bindE h
              refine aw_gI C fl_X11_232 rfl hv34 dX11_readClause_169 ?_
              obtain ⟨g35, hg35, h⟩ := bindE h
              obtain ⟨z36, hz36, h⟩ := bindE h
              refine aw_cV_I C [.int 1, .int v34] _ (mt_X11_fails hz36) cs_X11_fails ml_X11_261 im_X11_fails se_X11_fails (ci := 11) rfl rfl hg35 ⟨by decide, by decide⟩ ⟨rfl, rfl⟩ ⟨Nat.zero_le _, Nat.zero_le _⟩ rfl rfl (Nat.le_of_ble_eq_true rfl) dX11_readClause_172 ?_
              obtain ⟨e8, e9⟩ := inj2 h
              subst e8
              subst e9
              exact hret _ _ dX11_readClause_175
          · rw [if_neg c28] at h
            refine aw_iload_n C 0 dX11_readClause_155 rfl rfl ?_
            obtain ⟨e8, e9⟩ := inj2 h
            subst e8
            subst e9
            exact hret _ _ dX11_readClause_156
        replace h := hz27
        refine aw_if_ne C 132 dX11_readClause_121 (by decide) (fun c19 => ?_) (fun c19 => ?_)
        · rw [if_neg c19] at h
          refine aw_iload_n C 0 dX11_readClause_132 rfl rfl ?_
          refine aw_iconst C 1 dX11_readClause_133 (by decide) ?_
          refine aw_icmp_ne C 145 dX11_readClause_134 (by decide) (fun c20 => ?_) (fun c20 => ?_)
          · rw [if_neg c20] at h
            refine aw_aload_n C 1 dX11_readClause_145 rfl rfl ?_
            refine aw_iload_n C 2 dX11_readClause_146 rfl rfl ?_
            obtain ⟨g21, hg21, h⟩ := bindE h
            obtain ⟨z22, hz22, h⟩ := bindE h
            refine aw_cV_I C [.int x1] _ (mt_X11_readAlways hz22) cs_X11_readAlways ml_X11_292 im_X11_readAlways se_X11_readAlways (ci := 11) rfl rfl hg21 ⟨by decide, by decide⟩ ⟨rfl, rfl⟩ ⟨Nat.zero_le _, Nat.zero_le _⟩ rfl rfl (Nat.le_of_ble_eq_true rfl) dX11_readClause_147 ?_
            have e9 := inj1 h
            subst e9
            exact aw_sub [1] rfl kj121
          · rw [if_pos c20] at h
            refine aw_aload_n C 1 dX11_readClause_137 rfl rfl ?_
            refine aw_iload_n C 2 dX11_readClause_138 rfl rfl ?_
            obtain ⟨g23, hg23, h⟩ := bindE h
            obtain ⟨z24, hz24, h⟩ := bindE h
            refine aw_cV_I C [.int x1] _ (mt_X11_readMost hz24) cs_X11_readMost ml_X11_289 im_X11_readMost se_X11_readMost (ci := 11) rfl rfl hg23 ⟨by decide, by decide⟩ ⟨rfl, rfl⟩ ⟨Nat.zero_le _, Nat.zero_le _⟩ rfl rfl (Nat.le_of_ble_eq_true rfl) dX11_readClause_139 ?_
            refine aw_goto C 150 dX11_readClause_142 (by decide) ?_
            have e9 := inj1 h
            subst e9
            exact aw_sub [1] rfl kj121
        · rw [if_pos c19] at h
          refine aw_aload_n C 1 dX11_readClause_124 rfl rfl ?_
          refine aw_iload_n C 2 dX11_readClause_125 rfl rfl ?_
          obtain ⟨g25, hg25, h⟩ := bindE h
          obtain ⟨z26, hz26, h⟩ := bindE h
          refine aw_cV_I C [.int x1] _ (mt_X11_readNever hz26) cs_X11_readNever ml_X11_286 im_X11_readNever se_X11_readNever (ci := 11) rfl rfl hg25 ⟨by decide, by decide⟩ ⟨rfl, rfl⟩ ⟨Nat.zero_le _, Nat.zero_le _⟩ rfl rfl (Nat.le_of_ble_eq_true rfl) dX11_readClause_126 ?_
          refine aw_goto C 150 dX11_readClause_129 (by decide) ?_
          have e9 := inj1 h
          subst e9
          exact aw_sub [1] rfl kj121
      · rw [if_pos c16] at h
        refine aw_aload_n C 1 dX11_readClause_94 rfl rfl ?_
        refine aw_iload_n C 0 dX11_readClause_95 rfl rfl ?_
        obtain ⟨v38, ev38, h⟩ := bindS h
        have kj96 : AW G 4 X 0 0 104 [(0, .ref (gZ G + a0))] [.int v38, .ref (gZ G + a0)] μ2 := by
          refine aw_aload_n C 0 dX11_readClause_104 rfl rfl ?_
          obtain ⟨v39, hv39, h⟩ := bindE h
          refine aw_gI C fl_X11_232 rfl hv39 dX11_readClause_105 ?_
          obtain ⟨g40, hg40, h⟩ := bindE h
          obtain ⟨z41, hz41, h⟩ := bindE h
          refine aw_cV_I C [.int v38, .int v39] _ (mt_X11_fails hz41) cs_X11_fails ml_X11_261 im_X11_fails se_X11_fails (ci := 11) rfl rfl hg40 ⟨by decide, by decide⟩ ⟨rfl, rfl⟩ ⟨Nat.zero_le _, Nat.zero_le _⟩ rfl rfl (Nat.le_of_ble_eq_true rfl) dX11_readClause_108 ?_
          obtain ⟨e8, e9⟩ := inj2 h
          subst e8
          subst e9
          exact hret _ _ dX11_readClause_111
        clear h
        refine aw_if_ge C 103 dX11_readClause_96 (by decide) (fun c37 => ?_) (fun c37 => ?_)
        · refine aw_iconst C 3 dX11_readClause_103 (by decide) ?_
          rw [if_pos c37] at ev38
          subst ev38
          exact aw_sub [1] rfl kj96
        · refine aw_iconst C 1 dX11_readClause_99 (by decide) ?_
          refine aw_goto C 104 dX11_readClause_100 (by decide) ?_
          rw [if_neg c37] at ev38
          subst ev38
          exact aw_sub [1] rfl kj96
  replace h := hz9
  refine aw_if_ne C 30 dX11_readClause_23 (by decide) (fun c4 => ?_) (fun c4 => ?_)
  · rw [if_neg c4] at h
    refine aw_aload_n C 0 dX11_readClause_30 rfl rfl ?_
    obtain ⟨v5, hv5, h⟩ := bindE h
    refine aw_gJ C fl_X11_239 rfl hv5 dX11_readClause_31 ?_
    refine aw_bipush C 109 dX11_readClause_34 (by decide) ?_
    refine aw_bipush C 111 dX11_readClause_36 (by decide) ?_
    refine aw_bipush C 115 dX11_readClause_38 (by decide) ?_
    refine aw_bipush C 116 dX11_readClause_40 (by decide) ?_
    refine aw_iconst C 0 dX11_readClause_42 (by decide) ?_
    refine aw_iconst C 0 dX11_readClause_43 (by decide) ?_
    refine aw_cS_J C [.int 109, .int 111, .int 115, .int 116, .int 0, .int 0] _ (mt_X11_code _ _ _ _ _ _) cs_X11_code ml_X11_275 st_X11_code ⟨by decide, by decide⟩ ⟨rfl, rfl⟩ ⟨Nat.zero_le _, Nat.zero_le _⟩ rfl rfl (Nat.le_of_ble_eq_true rfl) dX11_readClause_44 ?_
    refine aw_lcmp C dX11_readClause_47 ?_
    refine aw_if_ne C 55 dX11_readClause_48 (by decide) (fun c6 => ?_) (fun c6 => ?_)
    · rw [if_neg c6] at h
      refine aw_aload_n C 0 dX11_readClause_55 rfl rfl ?_
      obtain ⟨v7, hv7, h⟩ := bindE h
      refine aw_gJ C fl_X11_239 rfl hv7 dX11_readClause_56 ?_
      refine aw_bipush C 97 dX11_readClause_59 (by decide) ?_
      refine aw_bipush C 108 dX11_readClause_61 (by decide) ?_
      refine aw_bipush C 119 dX11_readClause_63 (by decide) ?_
      refine aw_bipush C 97 dX11_readClause_65 (by decide) ?_
      refine aw_bipush C 121 dX11_readClause_67 (by decide) ?_
      refine aw_bipush C 115 dX11_readClause_69 (by decide) ?_
      refine aw_cS_J C [.int 97, .int 108, .int 119, .int 97, .int 121, .int 115] _ (mt_X11_code _ _ _ _ _ _) cs_X11_code ml_X11_275 st_X11_code ⟨by decide, by decide⟩ ⟨rfl, rfl⟩ ⟨Nat.zero_le _, Nat.zero_le _⟩ rfl rfl (Nat.le_of_ble_eq_true rfl) dX11_readClause_71 ?_
      refine aw_lcmp C dX11_readClause_74 ?_
      refine aw_if_ne C 82 dX11_readClause_75 (by decide) (fun c8 => ?_) (fun c8 => ?_)
      · rw [if_neg c8] at h
        refine aw_iconst C ((-1)) dX11_readClause_82 (by decide) ?_
        have e9 := inj1 h
        subst e9
        exact aw_sub [0, 1] rfl kj23
      · rw [if_pos c8] at h
        refine aw_iconst C 2 dX11_readClause_78 (by decide) ?_
        refine aw_goto C 83 dX11_readClause_79 (by decide) ?_
        have e9 := inj1 h
        subst e9
        exact aw_sub [0, 1] rfl kj23
    · rw [if_pos c6] at h
      refine aw_iconst C 1 dX11_readClause_51 (by decide) ?_
      refine aw_goto C 83 dX11_readClause_52 (by decide) ?_
      have e9 := inj1 h
      subst e9
      exact aw_sub [0, 1] rfl kj23
  · rw [if_pos c4] at h
    refine aw_iconst C 0 dX11_readClause_26 (by decide) ?_
    refine aw_goto C 83 dX11_readClause_27 (by decide) ?_
    have e9 := inj1 h
    subst e9
    exact aw_sub [0, 1] rfl kj23
set_option maxRecDepth 100000 in
set_option maxHeartbeats 4000000 in
theorem mt_X11_readClause {G : GL} {l : Launch} {a0 : Nat} {x1 : Int32} {μ : Mem} {r : Int32} {μ' : Mem} (h : X11_readClause a0 x1 μ = some (r, μ')) : MtI G l yX11_readClause cX11_readClause 4 (some .int) rm_X11_readClause false [.ref (gZ G + a0), .int x1] μ r μ' := met_I (by decide) rfl rfl (Nat.le_of_ble_eq_true rfl) (fun X _ C _ _ hret => wk_X11_readClause C h hret)
