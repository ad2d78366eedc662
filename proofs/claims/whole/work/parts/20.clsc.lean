def X4_nodeBehind (a0 : Nat) (x1 : Int32) (x2 : Int32) (μ : Mem) : Option Int32 :=
  ((if x2 = 0 then
  some 0
  else
  (gI 4 18 a0 μ).bind fun v2 =>
  if v2 = 0 then
  some 0
  else
  some 1) : Option (Int32)).bind fun z4 =>
  some ((x1 * 2) + z4)
set_option maxRecDepth 100000 in
set_option maxHeartbeats 4000000 in
theorem wk_X4_nodeBehind {G : GL} {X : CX} {a0 : Nat} {x1 : Int32} {x2 : Int32} {μ : Mem} {r : Int32} (C : Ctx G X cX4_nodeBehind 3 RX4 rm_X4_nodeBehind) (h : X4_nodeBehind a0 x1 x2 μ = some r) (hret : RtI G 3 X cX4_nodeBehind 0 0 r μ) : AW G 3 X 0 0 0 [(0, .ref (gZ G + a0)), (1, .int x1), (2, .int x2)] [] μ := by
  unfold X4_nodeBehind at h
  refine aw_iload_n C 1 dX4_nodeBehind_0 rfl rfl ?_
  refine aw_iconst C 2 dX4_nodeBehind_1 (by decide) ?_
  refine aw_imul C dX4_nodeBehind_2 ?_
  refine aw_iload_n C 2 dX4_nodeBehind_3 rfl rfl ?_
  obtain ⟨z4, hz4, h⟩ := bindE h
  have kj4 : AW G 3 X 0 0 19 [] [.int z4, .int (x1 * 2)] μ := by
    refine aw_iadd C dX4_nodeBehind_19 ?_
    have e9 := inj1 h
    subst e9
    exact hret _ _ dX4_nodeBehind_20
  replace h := hz4
  refine aw_if_eq C 18 dX4_nodeBehind_4 (by decide) (fun c1 => ?_) (fun c1 => ?_)
  · rw [if_pos c1] at h
    refine aw_iconst C 0 dX4_nodeBehind_18 (by decide) ?_
    have e9 := inj1 h
    subst e9
    exact aw_sub [] rfl kj4
  · rw [if_neg c1] at h
    refine aw_aload_n C 0 dX4_nodeBehind_7 rfl rfl ?_
    obtain ⟨v2, hv2, h⟩ := bindE h
    refine aw_gI C fl_X4_80 rfl hv2 dX4_nodeBehind_8 ?_
    refine aw_if_eq C 18 dX4_nodeBehind_11 (by decide) (fun c3 => ?_) (fun c3 => ?_)
    · rw [if_pos c3] at h
      refine aw_iconst C 0 dX4_nodeBehind_18 (by decide) ?_
      have e9 := inj1 h
      subst e9
      exact aw_sub [] rfl kj4
    · rw [if_neg c3] at h
      refine aw_iconst C 1 dX4_nodeBehind_14 (by decide) ?_
      refine aw_goto C 19 dX4_nodeBehind_15 (by decide) ?_
      have e9 := inj1 h
      subst e9
      exact aw_sub [] rfl kj4
set_option maxRecDepth 100000 in
set_option maxHeartbeats 4000000 in
theorem mt_X4_nodeBehind {G : GL} {l : Launch} {a0 : Nat} {x1 : Int32} {x2 : Int32} {μ : Mem} {r : Int32} (h : X4_nodeBehind a0 x1 x2 μ = some r) : MtI G l yX4_nodeBehind cX4_nodeBehind 3 (some .int) rm_X4_nodeBehind false [.ref (gZ G + a0), .int x1, .int x2] μ r μ := met_I (by decide) rfl rfl (Nat.le_of_ble_eq_true rfl) (fun X _ C _ _ hret => wk_X4_nodeBehind C h hret)
def X4_total (a0 : Nat) (x1 : Int32) (x2 : Int32) (μ : Mem) : Option Int32 :=
  (gI 4 17 a0 μ).bind fun v1 =>
  ((if x1 < (1 <<< (v1 &&& 31)) then
  (gR 4 14 a0 μ).bind fun v3 =>
  (aI v3 ((x1 * 64) + x2) μ).bind fun v4 =>
  some v4
  else
  some 0) : Option (Int32)).bind fun z5 =>
  some (z5)
set_option maxRecDepth 100000 in
set_option maxHeartbeats 4000000 in
theorem wk_X4_total {G : GL} {X : CX} {a0 : Nat} {x1 : Int32} {x2 : Int32} {μ : Mem} {r : Int32} (C : Ctx G X cX4_total 3 RX4 rm_X4_total) (h : X4_total a0 x1 x2 μ = some r) (hret : RtI G 3 X cX4_total 0 0 r μ) : AW G 3 X 0 0 0 [(0, .ref (gZ G + a0)), (1, .int x1), (2, .int x2)] [] μ := by
  unfold X4_total at h
  refine aw_iload_n C 1 dX4_total_0 rfl rfl ?_
  refine aw_iconst C 1 dX4_total_1 (by decide) ?_
  refine aw_aload_n C 0 dX4_total_2 rfl rfl ?_
  obtain ⟨v1, hv1, h⟩ := bindE h
  refine aw_gI C fl_X4_70 rfl hv1 dX4_total_3 ?_
  refine aw_ishl C dX4_total_6 ?_
  obtain ⟨z5, hz5, h⟩ := bindE h
  have kj7 : AW G 3 X 0 0 25 [] [.int z5] μ := by
    have e9 := inj1 h
    subst e9
    exact hret _ _ dX4_total_25
  replace h := hz5
  refine aw_icmp_lt C 14 dX4_total_7 (by decide) (fun c2 => ?_) (fun c2 => ?_)
  · rw [if_pos c2] at h
    refine aw_aload_n C 0 dX4_total_14 rfl rfl ?_
    obtain ⟨v3, hv3, h⟩ := bindE h
    refine aw_gR C fl_X4_46 rfl hv3 dX4_total_15 ?_
    refine aw_iload_n C 1 dX4_total_18 rfl rfl ?_
    refine aw_bipush C 64 dX4_total_19 (by decide) ?_
    refine aw_imul C dX4_total_21 ?_
    refine aw_iload_n C 2 dX4_total_22 rfl rfl ?_
    refine aw_iadd C dX4_total_23 ?_
    obtain ⟨v4, hv4, h⟩ := bindE h
    refine aw_aI C hv4 dX4_total_24 ?_
    have e9 := inj1 h
    subst e9
    exact aw_sub [] rfl kj7
  · rw [if_neg c2] at h
    refine aw_iconst C 0 dX4_total_10 (by decide) ?_
    refine aw_goto C 25 dX4_total_11 (by decide) ?_
    have e9 := inj1 h
    subst e9
    exact aw_sub [] rfl kj7
set_option maxRecDepth 100000 in
set_option maxHeartbeats 4000000 in
theorem mt_X4_total {G : GL} {l : Launch} {a0 : Nat} {x1 : Int32} {x2 : Int32} {μ : Mem} {r : Int32} (h : X4_total a0 x1 x2 μ = some r) : MtI G l yX4_total cX4_total 3 (some .int) rm_X4_total false [.ref (gZ G + a0), .int x1, .int x2] μ r μ := met_I (by decide) rfl rfl (Nat.le_of_ble_eq_true rfl) (fun X _ C _ _ hret => wk_X4_total C h hret)
def X4_decide_L45 (a0 : Nat) (x1 : Int32) (x2 : Int32) (x3 : Int32) (x4 : Int32) (x5 : Int32) (x9 : Int32) (μ : Mem) : Nat → Int32 → Int32 → Int32 → Int32 → Option (Int32 × Int32 × Int32 × Int32)
  | 0, _, _, _, _ => none
  | n + 1, x6, x7, x8, x10 =>
      if x9 ≤ x10 then
      some ((x6, x7, x8, x10))
      else
      (some ((x8 - x5) &&& x5 : Int32)).bind fun v2 =>
      (gR 4 12 a0 μ).bind fun v3 =>
      (aI v3 ((x2 * 64) + v2) μ).bind fun v4 =>
      ((if v4 ≤ 0 then
      some ((x6, x7))
      else
      if x4 = 0 then
      (vO 4 a0 μ).bind fun g7 =>
      (X4_nodeBehind a0 x1 1 μ).bind fun v8 =>
      (vO 4 a0 μ).bind fun g9 =>
      (X4_total a0 v8 (x3 ||| v2) μ).bind fun v10 =>
      if (v4 + v10) ≤ x7 then
      some ((x6, x7))
      else
      some ((v2, v4 + v10))
      else
      (gR 4 6 a0 μ).bind fun v12 =>
      (gR 4 8 a0 μ).bind fun v13 =>
      (aI v13 v2 μ).bind fun v14 =>
      (vO 1 v12 μ).bind fun g15 =>
      (X1_isAlways v12 v14 μ).bind fun v16 =>
      if v16 = 0 then
      some ((x6, x7))
      else
      (vO 4 a0 μ).bind fun g18 =>
      (X4_nodeBehind a0 x1 1 μ).bind fun v19 =>
      (vO 4 a0 μ).bind fun g20 =>
      (X4_total a0 v19 (x3 ||| v2) μ).bind fun v21 =>
      if (v4 + v21) ≤ x7 then
      some ((x6, x7))
      else
      some ((v2, v4 + v21))) : Option (Int32 × Int32)).bind fun z23 =>
      X4_decide_L45 a0 x1 x2 x3 x4 x5 x9 μ n z23.1 z23.2 v2 (x10 + 1)
set_option maxRecDepth 100000 in
set_option maxHeartbeats 4000000 in
theorem X4_decide_L45_ok {G : GL} {X : CX} (C : Ctx G X cX4_decide 13 RX4 rm_X4_decide) (a0 : Nat) (x1 : Int32) (x2 : Int32) (x3 : Int32) (x4 : Int32) (x5 : Int32) (x9 : Int32) (μ : Mem) : ∀ (n : Nat) (x6 : Int32) (x7 : Int32) (x8 : Int32) (x10 : Int32) (z : Int32 × Int32 × Int32 × Int32), X4_decide_L45 a0 x1 x2 x3 x4 x5 x9 μ n x6 x7 x8 x10 = some z → AW G 13 X 0 0 143 [(0, .ref (gZ G + a0)), (1, .int x1), (2, .int x2), (3, .int x3), (4, .int x4), (5, .int x5), (6, .int z.1), (7, .int z.2.1), (8, .int z.2.2.1), (9, .int x9), (10, .int z.2.2.2)] [] μ → AW G 13 X 0 0 45 [(0, .ref (gZ G + a0)), (1, .int x1), (2, .int x2), (3, .int x3), (4, .int x4), (5, .int x5), (6, .int x6), (7, .int x7), (8, .int x8), (9, .int x9), (10, .int x10)] [] μ := by
  intro n
  induction n with
  | zero =>
    intro x6 x7 x8 x10 z h kx
    rw [X4_decide_L45] at h
    cases h
  | succ n ih =>
    intro x6 x7 x8 x10 z h kx
    rw [X4_decide_L45] at h
    refine aw_iload C 10 dX4_decide_45 rfl ?_
    refine aw_iload C 9 dX4_decide_47 rfl ?_
    refine aw_icmp_ge C 143 dX4_decide_49 (by decide) (fun c1 => ?_) (fun c1 => ?_)
    · rw [if_pos c1] at h
      have e9 := inj1 h
      subst e9
      exact aw_sub [0, 1, 2, 3, 4, 5, 6, 7, 8, 9, 10] rfl kx
    · rw [if_neg c1] at h
      refine aw_iload C 8 dX4_decide_52 rfl ?_
      refine aw_iload C 5 dX4_decide_54 rfl ?_
      refine aw_isub C dX4_decide_56 ?_
      refine aw_iload C 5 dX4_decide_57 rfl ?_
      refine aw_iand C dX4_decide_59 ?_
      obtain ⟨v2, ev2, h⟩ := bindS h
      refine aw_topi ev2 ?_
      refine aw_istore C [(8, .int v2), (0, .ref (gZ G + a0)), (1, .int x1), (2, .int x2), (3, .int x3), (4, .int x4), (5, .int x5), (6, .int x6), (7, .int x7), (9, .int x9), (10, .int x10)] dX4_decide_60 (by decide) rfl ?_
      refine aw_aload_n C 1 dX4_decide_62 rfl rfl ?_
      obtain ⟨v3, hv3, h⟩ := bindE h
      refine aw_gR C fl_X4_40 rfl hv3 dX4_decide_63 ?_
      refine aw_iload_n C 3 dX4_decide_66 rfl rfl ?_
      refine aw_bipush C 64 dX4_decide_67 (by decide) ?_
      refine aw_imul C dX4_decide_69 ?_
      refine aw_iload C 0 dX4_decide_70 rfl ?_
      refine aw_iadd C dX4_decide_72 ?_
      obtain ⟨v4, hv4, h⟩ := bindE h
      refine aw_aI C hv4 dX4_decide_73 ?_
      refine aw_istore C [(11, .int v4), (8, .int v2), (0, .ref (gZ G + a0)), (1, .int x1), (2, .int x2), (3, .int x3), (4, .int x4), (5, .int x5), (6, .int x6), (7, .int x7), (9, .int x9), (10, .int x10)] dX4_decide_74 (by decide) rfl ?_
      refine aw_iload C 0 dX4_decide_76 rfl ?_
      obtain ⟨z23, hz23, h⟩ := bindE h
      have kj78 : AW G 13 X 0 0 137 [(0, .ref (gZ G + a0)), (1, .int x1), (2, .int x2), (3, .int x3), (4, .int x4), (5, .int x5), (6, .int z23.1), (7, .int z23.2), (8, .int v2), (9, .int x9), (10, .int x10)] [] μ := by
        refine aw_iinc C (x10 + 1) 10 [(10, .int (x10 + 1)), (0, .ref (gZ G + a0)), (1, .int x1), (2, .int x2), (3, .int x3), (4, .int x4), (5, .int x5), (6, .int z23.1), (7, .int z23.2), (8, .int v2), (9, .int x9)] dX4_decide_137 rfl rfl (by decide) rfl ?_
        refine aw_goto C 45 dX4_decide_140 (by decide) ?_
        exact aw_sub [1, 2, 3, 4, 5, 6, 7, 8, 9, 10, 0] rfl (ih _ _ _ _ _ h kx)
      replace h := hz23
      refine aw_if_le C 137 dX4_decide_78 (by decide) (fun c5 => ?_) (fun c5 => ?_)
      · rw [if_pos c5] at h
        have e9 := inj1 h
        subst e9
        exact aw_sub [2, 3, 4, 5, 6, 7, 8, 9, 1, 10, 11] rfl kj78
      · rw [if_neg c5] at h
        refine aw_iload C 6 dX4_decide_81 rfl ?_
        refine aw_if_eq C 103 dX4_decide_83 (by decide) (fun c6 => ?_) (fun c6 => ?_)
        · rw [if_pos c6] at h
          refine aw_iload C 0 dX4_decide_103 rfl ?_
          refine aw_aload_n C 2 dX4_decide_105 rfl rfl ?_
          refine aw_aload_n C 2 dX4_decide_106 rfl rfl ?_
          refine aw_iload_n C 3 dX4_decide_107 rfl rfl ?_
          refine aw_iconst C 1 dX4_decide_108 (by decide) ?_
          obtain ⟨g7, hg7, h⟩ := bindE h
          obtain ⟨v8, hv8, h⟩ := bindE h
          refine aw_cV_I C [.int x1, .int 1] _ (mt_X4_nodeBehind hv8) cs_X4_nodeBehind ml_X4_178 im_X4_nodeBehind se_X4_nodeBehind (ci := 4) rfl rfl hg7 ⟨by decide, by decide⟩ ⟨rfl, rfl⟩ ⟨Nat.zero_le _, Nat.zero_le _⟩ rfl rfl (Nat.le_of_ble_eq_true rfl) dX4_decide_109 ?_
          refine aw_iload_n C 5 dX4_decide_112 rfl rfl ?_
          refine aw_iload C 1 dX4_decide_113 rfl ?_
          refine aw_ior C dX4_decide_115 ?_
          obtain ⟨g9, hg9, h⟩ := bindE h
          obtain ⟨v10, hv10, h⟩ := bindE h
          refine aw_cV_I C [.int v8, .int (x3 ||| v2)] _ (mt_X4_total hv10) cs_X4_total ml_X4_182 im_X4_total se_X4_total (ci := 4) rfl rfl hg9 ⟨by decide, by decide⟩ ⟨rfl, rfl⟩ ⟨Nat.zero_le _, Nat.zero_le _⟩ rfl rfl (Nat.le_of_ble_eq_true rfl) dX4_decide_116 ?_
          refine aw_iadd C dX4_decide_119 ?_
          refine aw_istore C [(12, .int (v4 + v10)), (11, .int v4), (8, .int v2), (0, .ref (gZ G + a0)), (1, .int x1), (2, .int x2), (3, .int x3), (4, .int x4), (5, .int x5), (6, .int x6), (7, .int x7), (9, .int x9), (10, .int x10)] dX4_decide_120 (by decide) rfl ?_
          refine aw_iload C 0 dX4_decide_122 rfl ?_
          refine aw_iload C 10 dX4_decide_124 rfl ?_
          refine aw_icmp_le C 137 dX4_decide_126 (by decide) (fun c11 => ?_) (fun c11 => ?_)
          · rw [if_pos c11] at h
            have e9 := inj1 h
            subst e9
            exact aw_sub [3, 4, 5, 6, 7, 8, 9, 10, 2, 11, 12] rfl kj78
          · rw [if_neg c11] at h
            refine aw_iload C 0 dX4_decide_129 rfl ?_
            refine aw_istore C [(7, .int (v4 + v10)), (12, .int (v4 + v10)), (11, .int v4), (8, .int v2), (0, .ref (gZ G + a0)), (1, .int x1), (2, .int x2), (3, .int x3), (4, .int x4), (5, .int x5), (6, .int x6), (9, .int x9), (10, .int x10)] dX4_decide_131 (by decide) rfl ?_
            refine aw_iload C 3 dX4_decide_133 rfl ?_
            refine aw_istore C [(6, .int v2), (7, .int (v4 + v10)), (12, .int (v4 + v10)), (11, .int v4), (8, .int v2), (0, .ref (gZ G + a0)), (1, .int x1), (2, .int x2), (3, .int x3), (4, .int x4), (5, .int x5), (9, .int x9), (10, .int x10)] dX4_decide_135 (by decide) rfl ?_
            have e9 := inj1 h
            subst e9
            exact aw_sub [5, 6, 7, 8, 9, 10, 0, 1, 4, 11, 12] rfl kj78
        · rw [if_neg c6] at h
          refine aw_aload_n C 2 dX4_decide_86 rfl rfl ?_
          obtain ⟨v12, hv12, h⟩ := bindE h
          refine aw_gR C fl_X4_21 rfl hv12 dX4_decide_87 ?_
          refine aw_aload_n C 2 dX4_decide_90 rfl rfl ?_
          obtain ⟨v13, hv13, h⟩ := bindE h
          refine aw_gR C fl_X4_28 rfl hv13 dX4_decide_91 ?_
          refine aw_iload C 1 dX4_decide_94 rfl ?_
          obtain ⟨v14, hv14, h⟩ := bindE h
          refine aw_aI C hv14 dX4_decide_96 ?_
          obtain ⟨g15, hg15, h⟩ := bindE h
          obtain ⟨v16, hv16, h⟩ := bindE h
          refine aw_cV_I C [.int v14] _ (mt_X1_isAlways hv16) cs_X1_isAlways ml_X4_190 im_X1_isAlways se_X1_isAlways (ci := 1) rfl rfl hg15 ⟨by decide, by decide⟩ ⟨rfl, rfl⟩ ⟨Nat.zero_le _, Nat.zero_le _⟩ rfl rfl (Nat.le_of_ble_eq_true rfl) dX4_decide_97 ?_
          refine aw_if_eq C 137 dX4_decide_100 (by decide) (fun c17 => ?_) (fun c17 => ?_)
          · rw [if_pos c17] at h
            have e9 := inj1 h
            subst e9
            exact aw_sub [2, 3, 4, 5, 6, 7, 8, 9, 1, 10, 11] rfl kj78
          · rw [if_neg c17] at h
            refine aw_iload C 0 dX4_decide_103 rfl ?_
            refine aw_aload_n C 2 dX4_decide_105 rfl rfl ?_
            refine aw_aload_n C 2 dX4_decide_106 rfl rfl ?_
            refine aw_iload_n C 3 dX4_decide_107 rfl rfl ?_
            refine aw_iconst C 1 dX4_decide_108 (by decide) ?_
            obtain ⟨g18, hg18, h⟩ := bindE h
            obtain ⟨v19, hv19, h⟩ := bindE h
            refine aw_cV_I C [.int x1, .int 1] _ (mt_X4_nodeBehind hv19) cs_X4_nodeBehind ml_X4_178 im_X4_nodeBehind se_X4_nodeBehind (ci := 4) rfl rfl hg18 ⟨by decide, by decide⟩ ⟨rfl, rfl⟩ ⟨Nat.zero_le _, Nat.zero_le _⟩ rfl rfl (Nat.le_of_ble_eq_true rfl) dX4_decide_109 ?_
            refine aw_iload_n C 5 dX4_decide_112 rfl rfl ?_
            refine aw_iload C 1 dX4_decide_113 rfl ?_
            refine aw_ior C dX4_decide_115 ?_
            obtain ⟨g20, hg20, h⟩ := bindE h
            obtain ⟨v21, hv21, h⟩ := bindE h
            refine aw_cV_I C [.int v19, .int (x3 ||| v2)] _ (mt_X4_total hv21) cs_X4_total ml_X4_182 im_X4_total se_X4_total (ci := 4) rfl rfl hg20 ⟨by decide, by decide⟩ ⟨rfl, rfl⟩ ⟨Nat.zero_le _, Nat.zero_le _⟩ rfl rfl (Nat.le_of_ble_eq_true rfl) dX4_decide_116 ?_
            refine aw_iadd C dX4_decide_119 ?_
            refine aw_istore C [(12, .int (v4 + v21)), (11, .int v4), (8, .int v2), (0, .ref (gZ G + a0)), (1, .int x1), (2, .int x2), (3, .int x3), (4, .int x4), (5, .int x5), (6, .int x6), (7, .int x7), (9, .int x9), (10, .int x10)] dX4_decide_120 (by decide) rfl ?_
            refine aw_iload C 0 dX4_decide_122 rfl ?_
            refine aw_iload C 10 dX4_decide_124 rfl ?_
            refine aw_icmp_le C 137 dX4_decide_126 (by decide) (fun c22 => ?_) (fun c22 => ?_)
            · rw [if_pos c22] at h
              have e9 := inj1 h
              subst e9
              exact aw_sub [3, 4, 5, 6, 7, 8, 9, 10, 2, 11, 12] rfl kj78
            · rw [if_neg c22] at h
              refine aw_iload C 0 dX4_decide_129 rfl ?_
              refine aw_istore C [(7, .int (v4 + v21)), (12, .int (v4 + v21)), (11, .int v4), (8, .int v2), (0, .ref (gZ G + a0)), (1, .int x1), (2, .int x2), (3, .int x3), (4, .int x4), (5, .int x5), (6, .int x6), (9, .int x9), (10, .int x10)] dX4_decide_131 (by decide) rfl ?_
              refine aw_iload C 3 dX4_decide_133 rfl ?_
              refine aw_istore C [(6, .int v2), (7, .int (v4 + v21)), (12, .int (v4 + v21)), (11, .int v4), (8, .int v2), (0, .ref (gZ G + a0)), (1, .int x1), (2, .int x2), (3, .int x3), (4, .int x4), (5, .int x5), (9, .int x9), (10, .int x10)] dX4_decide_135 (by decide) rfl ?_
              have e9 := inj1 h
              subst e9
              exact aw_sub [5, 6, 7, 8, 9, 10, 0, 1, 4, 11, 12] rfl kj78
def X4_decide (a0 : Nat) (x1 : Int32) (x2 : Int32) (x3 : Int32) (x4 : Int32) (μ : Mem) : Option (Int32 × Mem) :=
  (gI 4 16 a0 μ).bind fun v1 =>
  (some (((1 <<< (v1 &&& 31)) - 1) &&& (x3 ^^^ ((-1))) : Int32)).bind fun v2 =>
  (vO 4 a0 μ).bind fun g3 =>
  (X4_nodeBehind a0 x1 0 μ).bind fun v4 =>
  (vO 4 a0 μ).bind fun g5 =>
  (X4_total a0 v4 x3 μ).bind fun v6 =>
  (some (1 <<< ((J6_bitCount_0f7a4 v2) &&& 31) : Int32)).bind fun v7 =>
  (X4_decide_L45 a0 x1 x2 x3 x4 v2 v7 μ FU 0 v6 0 1).bind fun z8 =>
  (gR 4 14 a0 μ).bind fun v9 =>
  (sI v9 ((x1 * 64) + x3) z8.2.1 μ).bind fun μ10 =>
  some (z8.1, μ10)
set_option maxRecDepth 100000 in
set_option maxHeartbeats 4000000 in
theorem wk_X4_decide {G : GL} {X : CX} {a0 : Nat} {x1 : Int32} {x2 : Int32} {x3 : Int32} {x4 : Int32} {μ : Mem} {r : Int32} {μ' : Mem} (C : Ctx G X cX4_decide 13 RX4 rm_X4_decide) (h : X4_decide a0 x1 x2 x3 x4 μ = some (r, μ')) (hret : RtI G 13 X cX4_decide 0 0 r μ') : AW G 13 X 0 0 0 [(0, .ref (gZ G + a0)), (1, .int x1), (2, .int x2), (3, .int x3), (4, .int x4)] [] μ := by
  unfold X4_decide at h
  refine aw_iconst C 1 dX4_decide_0 (by decide) ?_
  refine aw_aload_n C 0 dX4_decide_1 rfl rfl ?_
  obtain ⟨v1, hv1, h⟩ := bindE h
  refine aw_gI C fl_X4_108 rfl hv1 dX4_decide_2 ?_
  refine aw_ishl C dX4_decide_5 ?_
  refine aw_iconst C 1 dX4_decide_6 (by decide) ?_
  refine aw_isub C dX4_decide_7 ?_
  refine aw_iload_n C 3 dX4_decide_8 rfl rfl ?_
  refine aw_iconst C ((-1)) dX4_decide_9 (by decide) ?_
  refine aw_ixor C dX4_decide_10 ?_
  refine aw_iand C dX4_decide_11 ?_
  obtain ⟨v2, ev2, h⟩ := bindS h
  refine aw_topi ev2 ?_
  refine aw_istore C [(5, .int v2), (0, .ref (gZ G + a0)), (1, .int x1), (2, .int x2), (3, .int x3), (4, .int x4)] dX4_decide_12 (by decide) rfl ?_
  refine aw_iconst C 0 dX4_decide_14 (by decide) ?_
  refine aw_istore C [(6, .int 0), (5, .int v2), (0, .ref (gZ G + a0)), (1, .int x1), (2, .int x2), (3, .int x3), (4, .int x4)] dX4_decide_15 (by decide) rfl ?_
  refine aw_aload_n C 2 dX4_decide_17 rfl rfl ?_
  refine aw_aload_n C 2 dX4_decide_18 rfl rfl ?_
  refine aw_iload_n C 3 dX4_decide_19 rfl rfl ?_
  refine aw_iconst C 0 dX4_decide_20 (by decide) ?_
  obtain ⟨g3, hg3, h⟩ := bindE h
  obtain ⟨v4, hv4, h⟩ := bindE h
  refine aw_cV_I C [.int x1, .int 0] _ (mt_X4_nodeBehind hv4) cs_X4_nodeBehind ml_X4_178 im_X4_nodeBehind se_X4_nodeBehind (ci := 4) rfl rfl hg3 ⟨by decide, by decide⟩ ⟨rfl, rfl⟩ ⟨Nat.zero_le _, Nat.zero_le _⟩ rfl rfl (Nat.le_of_ble_eq_true rfl) dX4_decide_21 ?_
  refine aw_iload_n C 5 dX4_decide_24 rfl rfl ?_
  obtain ⟨g5, hg5, h⟩ := bindE h
  obtain ⟨v6, hv6, h⟩ := bindE h
  refine aw_cV_I C [.int v4, .int x3] _ (mt_X4_total hv6) cs_X4_total ml_X4_182 im_X4_total se_X4_total (ci := 4) rfl rfl hg5 ⟨by decide, by decide⟩ ⟨rfl, rfl⟩ ⟨Nat.zero_le _, Nat.zero_le _⟩ rfl rfl (Nat.le_of_ble_eq_true rfl) dX4_decide_25 ?_
  refine aw_istore C [(7, .int v6), (6, .int 0), (5, .int v2), (0, .ref (gZ G + a0)), (1, .int x1), (2, .int x2), (3, .int x3), (4, .int x4)] dX4_decide_28 (by decide) rfl ?_
  refine aw_iconst C 0 dX4_decide_30 (by decide) ?_
  refine aw_istore C [(8, .int 0), (7, .int v6), (6, .int 0), (5, .int v2), (0, .ref (gZ G + a0)), (1, .int x1), (2, .int x2), (3, .int x3), (4, .int x4)] dX4_decide_31 (by decide) rfl ?_
  refine aw_iconst C 1 dX4_decide_33 (by decide) ?_
  refine aw_iload C 3 dX4_decide_34 rfl ?_
  refine aw_cS_I C [.int v2] _ (mt_J6_bitCount_0f7a4 _) cs_J6_bitCount_0f7a4 ml_X4_185 st_J6_bitCount_0f7a4 ⟨by decide, by decide⟩ ⟨rfl, rfl⟩ ⟨Nat.zero_le _, Nat.zero_le _⟩ rfl rfl (Nat.le_of_ble_eq_true rfl) dX4_decide_36 ?_
  refine aw_ishl C dX4_decide_39 ?_
  obtain ⟨v7, ev7, h⟩ := bindS h
  refine aw_topi ev7 ?_
  refine aw_istore C [(9, .int v7), (8, .int 0), (7, .int v6), (6, .int 0), (5, .int v2), (0, .ref (gZ G + a0)), (1, .int x1), (2, .int x2), (3, .int x3), (4, .int x4)] dX4_decide_40 (by decide) rfl ?_
  refine aw_iconst C 1 dX4_decide_42 (by decide) ?_
  refine aw_istore C [(10, .int 1), (9, .int v7), (8, .int 0), (7, .int v6), (6, .int 0), (5, .int v2), (0, .ref (gZ G + a0)), (1, .int x1), (2, .int x2), (3, .int x3), (4, .int x4)] dX4_decide_43 (by decide) rfl ?_
  obtain ⟨z8, hz8, h⟩ := bindE h
  refine aw_sub [6, 7, 8, 9, 10, 5, 4, 3, 2, 1, 0] rfl ?_
  refine X4_decide_L45_ok C _ _ _ _ _ _ _ _ _ _ _ _ _ _ hz8 ?_
  refine aw_aload_n C 0 dX4_decide_143 rfl rfl ?_
  obtain ⟨v9, hv9, h⟩ := bindE h
  refine aw_gR C fl_X4_46 rfl hv9 dX4_decide_144 ?_
  refine aw_iload_n C 1 dX4_decide_147 rfl rfl ?_
  refine aw_bipush C 64 dX4_decide_148 (by decide) ?_
  refine aw_imul C dX4_decide_150 ?_
  refine aw_iload_n C 3 dX4_decide_151 rfl rfl ?_
  refine aw_iadd C dX4_decide_152 ?_
  refine aw_iload C 7 dX4_decide_153 rfl ?_
  obtain ⟨μ10, hμ10, h⟩ := bindE h
  refine aw_sI C hμ10 dX4_decide_155 ?_
  refine aw_iload C 6 dX4_decide_156 rfl ?_
  obtain ⟨e8, e9⟩ := inj2 h
  subst e8
  subst e9
  exact hret _ _ dX4_decide_158
set_option maxRecDepth 100000 in
set_option maxHeartbeats 4000000 in
theorem mt_X4_decide {G : GL} {l : Launch} {a0 : Nat} {x1 : Int32} {x2 : Int32} {x3 : Int32} {x4 : Int32} {μ : Mem} {r : Int32} {μ' : Mem} (h : X4_decide a0 x1 x2 x3 x4 μ = some (r, μ')) : MtI G l yX4_decide cX4_decide 13 (some .int) rm_X4_decide false [.ref (gZ G + a0), .int x1, .int x2, .int x3, .int x4] μ r μ' := met_I (by decide) rfl rfl (Nat.le_of_ble_eq_true rfl) (fun X _ C _ _ hret => wk_X4_decide C h hret)
def X4_tell_L9 (a0 : Nat) (x1 : Int32) (x2 : Int32) (a3 : Nat) : Nat → Int32 → Int32 → Int32 → Mem → Option (Int32 × Int32 × Int32 × Mem)
  | 0, _, _, _, _ => none
  | n + 1, x4, x5, x6, μ =>
      (gI 4 17 a0 μ).bind fun v1 =>
      if v1 ≤ x6 then
      some ((x4, x5, x6, μ))
      else
      (vO 4 a0 μ).bind fun g3 =>
      (X4_mostBarsAt a0 x4 x6 x1 x2 a3 μ).bind fun z4 =>
      (vO 4 a0 z4.2).bind fun g5 =>
      (X4_decide a0 x4 x6 x5 z4.1 z4.2).bind fun z6 =>
      (gR 4 1 a0 z6.2).bind fun v7 =>
      (gR 4 8 a0 z6.2).bind fun v8 =>
      (aI v8 z6.1 z6.2).bind fun v9 =>
      (sI v7 x6 v9 z6.2).bind fun μ10 =>
      (gR 4 2 a0 μ10).bind fun v11 =>
      ((if z6.1 = 0 then
      some ((-1))
      else
      (gR 4 13 a0 μ10).bind fun v13 =>
      (aI v13 ((x6 * 64) + z6.1) μ10).bind fun v14 =>
      some v14) : Option (Int32)).bind fun z15 =>
      (sI v11 x6 z15 μ10).bind fun μ16 =>
      (some (x5 ||| z6.1 : Int32)).bind fun v17 =>
      (some (if z6.1 = 0 then 0 else 1 : Int32)).bind fun v19 =>
      (vO 4 a0 μ16).bind fun g20 =>
      (X4_nodeBehind a0 x4 v19 μ16).bind fun v21 =>
      X4_tell_L9 a0 x1 x2 a3 n v21 v17 (x6 + 1) μ16
set_option maxRecDepth 100000 in
set_option maxHeartbeats 4000000 in
theorem X4_tell_L9_ok {G : GL} {X : CX} (C : Ctx G X cX4_tell 8 RX4 rm_X4_tell) (a0 : Nat) (x1 : Int32) (x2 : Int32) (a3 : Nat) : ∀ (n : Nat) (x4 : Int32) (x5 : Int32) (x6 : Int32) (μ : Mem) (z : Int32 × Int32 × Int32 × Mem), X4_tell_L9 a0 x1 x2 a3 n x4 x5 x6 μ = some z → AW G 8 X 0 0 115 [(0, .ref (gZ G + a0)), (1, .int x1), (2, .int x2), (3, .ref (gZ G + a3)), (4, .int z.1), (5, .int z.2.1), (6, .int z.2.2.1)] [] z.2.2.2 → AW G 8 X 0 0 9 [(0, .ref (gZ G + a0)), (1, .int x1), (2, .int x2), (3, .ref (gZ G + a3)), (4, .int x4), (5, .int x5), (6, .int x6)] [] μ := by
  intro n
  induction n with
  | zero =>
    intro x4 x5 x6 μ z h kx
    rw [X4_tell_L9] at h
    cases h
  | succ n ih =>
    intro x4 x5 x6 μ z h kx
    rw [X4_tell_L9] at h
    refine aw_iload C 6 dX4_tell_9 rfl ?_
    refine aw_aload_n C 0 dX4_tell_11 rfl rfl ?_
    obtain ⟨v1, hv1, h⟩ := bindE h
    refine aw_gI C fl_X4_70 rfl hv1 dX4_tell_12 ?_
    refine aw_icmp_ge C 115 dX4_tell_15 (by decide) (fun c2 => ?_) (fun c2 => ?_)
    · rw [if_pos c2] at h
      have e9 := inj1 h
      subst e9
      exact aw_sub [0, 1, 2, 3, 4, 5, 6] rfl kx
    · rw [if_neg c2] at h
      refine aw_aload_n C 0 dX4_tell_18 rfl rfl ?_
      refine aw_iload C 4 dX4_tell_19 rfl ?_
      refine aw_iload C 6 dX4_tell_21 rfl ?_
      refine aw_iload C 5 dX4_tell_23 rfl ?_
      refine aw_aload_n C 0 dX4_tell_25 rfl rfl ?_
      refine aw_iload C 4 dX4_tell_26 rfl ?_
      refine aw_iload C 6 dX4_tell_28 rfl ?_
      refine aw_iload_n C 1 dX4_tell_30 rfl rfl ?_
      refine aw_iload_n C 2 dX4_tell_31 rfl rfl ?_
      refine aw_aload_n C 3 dX4_tell_32 rfl rfl ?_
      obtain ⟨g3, hg3, h⟩ := bindE h
      obtain ⟨z4, hz4, h⟩ := bindE h
      refine aw_cV_I C [.int x4, .int x6, .int x1, .int x2, .ref (gZ G + a3)] _ (mt_X4_mostBarsAt hz4) cs_X4_mostBarsAt ml_X4_104 im_X4_mostBarsAt se_X4_mostBarsAt (ci := 4) rfl rfl hg3 ⟨by decide, by decide⟩ ⟨rfl, rfl⟩ ⟨Nat.zero_le _, Nat.zero_le _⟩ rfl rfl (Nat.le_of_ble_eq_true rfl) dX4_tell_33 ?_
      obtain ⟨g5, hg5, h⟩ := bindE h
      obtain ⟨z6, hz6, h⟩ := bindE h
      refine aw_cV_I C [.int x4, .int x6, .int x5, .int z4.1] _ (mt_X4_decide hz6) cs_X4_decide ml_X4_111 im_X4_decide se_X4_decide (ci := 4) rfl rfl hg5 ⟨by decide, by decide⟩ ⟨rfl, rfl⟩ ⟨Nat.zero_le _, Nat.zero_le _⟩ rfl rfl (Nat.le_of_ble_eq_true rfl) dX4_tell_36 ?_
      refine aw_istore C [(7, .int z6.1), (0, .ref (gZ G + a0)), (1, .int x1), (2, .int x2), (3, .ref (gZ G + a3)), (4, .int x4), (5, .int x5), (6, .int x6)] dX4_tell_39 (by decide) rfl ?_
      refine aw_aload_n C 1 dX4_tell_41 rfl rfl ?_
      obtain ⟨v7, hv7, h⟩ := bindE h
      refine aw_gR C fl_X4_9 rfl hv7 dX4_tell_42 ?_
      refine aw_iload C 7 dX4_tell_45 rfl ?_
      refine aw_aload_n C 1 dX4_tell_47 rfl rfl ?_
      obtain ⟨v8, hv8, h⟩ := bindE h
      refine aw_gR C fl_X4_28 rfl hv8 dX4_tell_48 ?_
      refine aw_iload C 0 dX4_tell_51 rfl ?_
      obtain ⟨v9, hv9, h⟩ := bindE h
      refine aw_aI C hv9 dX4_tell_53 ?_
      obtain ⟨μ10, hμ10, h⟩ := bindE h
      refine aw_sI C hμ10 dX4_tell_54 ?_
      refine aw_aload_n C 1 dX4_tell_55 rfl rfl ?_
      obtain ⟨v11, hv11, h⟩ := bindE h
      refine aw_gR C fl_X4_15 rfl hv11 dX4_tell_56 ?_
      refine aw_iload C 7 dX4_tell_59 rfl ?_
      refine aw_iload C 0 dX4_tell_61 rfl ?_
      obtain ⟨z15, hz15, h⟩ := bindE h
      have kj63 : AW G 8 X 0 0 83 [(0, .ref (gZ G + a0)), (1, .int x1), (2, .int x2), (3, .ref (gZ G + a3)), (4, .int x4), (5, .int x5), (6, .int x6), (7, .int z6.1)] [.int z15, .int x6, .ref (gZ G + v11)] μ10 := by
        obtain ⟨μ16, hμ16, h⟩ := bindE h
        refine aw_sI C hμ16 dX4_tell_83 ?_
        refine aw_iload C 5 dX4_tell_84 rfl ?_
        refine aw_iload C 7 dX4_tell_86 rfl ?_
        refine aw_ior C dX4_tell_88 ?_
        obtain ⟨v17, ev17, h⟩ := bindS h
        refine aw_topi ev17 ?_
        refine aw_istore C [(5, .int v17), (0, .ref (gZ G + a0)), (1, .int x1), (2, .int x2), (3, .ref (gZ G + a3)), (4, .int x4), (6, .int x6), (7, .int z6.1)] dX4_tell_89 (by decide) rfl ?_
        refine aw_aload_n C 1 dX4_tell_91 rfl rfl ?_
        refine aw_iload C 5 dX4_tell_92 rfl ?_
        refine aw_iload C 7 dX4_tell_94 rfl ?_
        obtain ⟨v19, ev19, h⟩ := bindS h
        have kj96 : AW G 8 X 0 0 104 [(0, .ref (gZ G + a0)), (1, .int x1), (2, .int x2), (3, .ref (gZ G + a3)), (5, .int v17), (6, .int x6)] [.int v19, .int x4, .ref (gZ G + a0)] μ16 := by
          obtain ⟨g20, hg20, h⟩ := bindE h
          obtain ⟨v21, hv21, h⟩ := bindE h
          refine aw_cV_I C [.int x4, .int v19] _ (mt_X4_nodeBehind hv21) cs_X4_nodeBehind ml_X4_178 im_X4_nodeBehind se_X4_nodeBehind (ci := 4) rfl rfl hg20 ⟨by decide, by decide⟩ ⟨rfl, rfl⟩ ⟨Nat.zero_le _, Nat.zero_le _⟩ rfl rfl (Nat.le_of_ble_eq_true rfl) dX4_tell_104 ?_
          refine aw_istore C [(4, .int v21), (0, .ref (gZ G + a0)), (1, .int x1), (2, .int x2), (3, .ref (gZ G + a3)), (5, .int v17), (6, .int x6)] dX4_tell_107 (by decide) rfl ?_
          refine aw_iinc C (x6 + 1) 6 [(6, .int (x6 + 1)), (4, .int v21), (0, .ref (gZ G + a0)), (1, .int x1), (2, .int x2), (3, .ref (gZ G + a3)), (5, .int v17)] dX4_tell_109 rfl rfl (by decide) rfl ?_
          refine aw_goto C 9 dX4_tell_112 (by decide) ?_
          exact aw_sub [2, 3, 4, 5, 1, 6, 0] rfl (ih _ _ _ _ _ h kx)
        clear h
        refine aw_if_eq C 103 dX4_tell_96 (by decide) (fun c18 => ?_) (fun c18 => ?_)
        · refine aw_iconst C 0 dX4_tell_103 (by decide) ?_
          rw [if_pos c18] at ev19
          subst ev19
          exact aw_sub [1, 2, 3, 4, 0, 6] rfl kj96
        · refine aw_iconst C 1 dX4_tell_99 (by decide) ?_
          refine aw_goto C 104 dX4_tell_100 (by decide) ?_
          rw [if_neg c18] at ev19
          subst ev19
          exact aw_sub [1, 2, 3, 4, 0, 6] rfl kj96
      replace h := hz15
      refine aw_if_ne C 70 dX4_tell_63 (by decide) (fun c12 => ?_) (fun c12 => ?_)
      · rw [if_neg c12] at h
        refine aw_aload_n C 1 dX4_tell_70 rfl rfl ?_
        obtain ⟨v13, hv13, h⟩ := bindE h
        refine aw_gR C fl_X4_43 rfl hv13 dX4_tell_71 ?_
        refine aw_iload C 7 dX4_tell_74 rfl ?_
        refine aw_bipush C 64 dX4_tell_76 (by decide) ?_
        refine aw_imul C dX4_tell_78 ?_
        refine aw_iload C 0 dX4_tell_79 rfl ?_
        refine aw_iadd C dX4_tell_81 ?_
        obtain ⟨v14, hv14, h⟩ := bindE h
        refine aw_aI C hv14 dX4_tell_82 ?_
        have e9 := inj1 h
        subst e9
        exact aw_sub [1, 2, 3, 4, 5, 6, 7, 0] rfl kj63
      · rw [if_pos c12] at h
        refine aw_iconst C ((-1)) dX4_tell_66 (by decide) ?_
        refine aw_goto C 83 dX4_tell_67 (by decide) ?_
        have e9 := inj1 h
        subst e9
        exact aw_sub [1, 2, 3, 4, 5, 6, 7, 0] rfl kj63
def X4_tell (a0 : Nat) (x1 : Int32) (x2 : Int32) (a3 : Nat) (μ : Mem) : Option Mem :=
  (X4_tell_L9 a0 x1 x2 a3 FU 1 0 0 μ).bind fun z1 =>
  some z1.2.2.2
set_option maxRecDepth 100000 in
set_option maxHeartbeats 4000000 in
theorem wk_X4_tell {G : GL} {X : CX} {a0 : Nat} {x1 : Int32} {x2 : Int32} {a3 : Nat} {μ : Mem} {μ' : Mem} (C : Ctx G X cX4_tell 8 RX4 rm_X4_tell) (h : X4_tell a0 x1 x2 a3 μ = some μ') (hret : RtV G 8 X cX4_tell 0 0 μ') : AW G 8 X 0 0 0 [(0, .ref (gZ G + a0)), (1, .int x1), (2, .int x2), (3, .ref (gZ G + a3))] [] μ := by
  unfold X4_tell at h
  refine aw_iconst C 1 dX4_tell_0 (by decide) ?_
  refine aw_istore C [(4, .int 1), (0, .ref (gZ G + a0)), (1, .int x1), (2, .int x2), (3, .ref (gZ G + a3))] dX4_tell_1 (by decide) rfl ?_
  refine aw_iconst C 0 dX4_tell_3 (by decide) ?_
  refine aw_istore C [(5, .int 0), (4, .int 1), (0, .ref (gZ G + a0)), (1, .int x1), (2, .int x2), (3, .ref (gZ G + a3))] dX4_tell_4 (by decide) rfl ?_
  refine aw_iconst C 0 dX4_tell_6 (by decide) ?_
  refine aw_istore C [(6, .int 0), (5, .int 0), (4, .int 1), (0, .ref (gZ G + a0)), (1, .int x1), (2, .int x2), (3, .ref (gZ G + a3))] dX4_tell_7 (by decide) rfl ?_
  obtain ⟨z1, hz1, h⟩ := bindE h
  refine aw_sub [3, 4, 5, 6, 2, 1, 0] rfl ?_
  refine X4_tell_L9_ok C _ _ _ _ _ _ _ _ _ _ hz1 ?_
  have e9 := inj1 h
  subst e9
  exact hret _ _ dX4_tell_115
set_option maxRecDepth 100000 in
set_option maxHeartbeats 4000000 in
theorem mt_X4_tell {G : GL} {l : Launch} {a0 : Nat} {x1 : Int32} {x2 : Int32} {a3 : Nat} {μ : Mem} {μ' : Mem} (h : X4_tell a0 x1 x2 a3 μ = some μ') : MtV G l yX4_tell cX4_tell 8 none rm_X4_tell false [.ref (gZ G + a0), .int x1, .int x2, .ref (gZ G + a3)] μ μ' := met_V (by decide) rfl (Nat.le_of_ble_eq_true rfl) (fun X _ C _ _ hret => wk_X4_tell C h hret)
def X4_make_L43 (a0 : Nat) (x1 : Int32) (x3 : Int32) (a4 : Nat) : Nat → Int32 → Mem → Option (Int32 × Mem)
  | 0, _, _ => none
  | n + 1, x5, μ =>
      (gI 4 17 a0 μ).bind fun v1 =>
      if v1 ≤ x5 then
      some ((x5, μ))
      else
      (vO 4 a0 μ).bind fun g3 =>
      (X4_price a0 x5 (x3 + x5) a4 μ).bind fun μ4 =>
      X4_make_L43 a0 x1 x3 a4 n (x5 + 1) μ4
set_option maxRecDepth 100000 in
set_option maxHeartbeats 4000000 in
theorem X4_make_L43_ok {G : GL} {X : CX} (C : Ctx G X cX4_make 11 RX4 rm_X4_make) (a0 : Nat) (x1 : Int32) (x3 : Int32) (a4 : Nat) : ∀ (n : Nat) (x5 : Int32) (μ : Mem) (z : Int32 × Mem), X4_make_L43 a0 x1 x3 a4 n x5 μ = some z → AW G 11 X 0 0 70 [(0, .ref (gZ G + a0)), (1, .int x1), (3, .int x3), (4, .ref (gZ G + a4)), (5, .int z.1)] [] z.2 → AW G 11 X 0 0 43 [(0, .ref (gZ G + a0)), (1, .int x1), (3, .int x3), (4, .ref (gZ G + a4)), (5, .int x5)] [] μ := by
  intro n
  induction n with
  | zero =>
    intro x5 μ z h kx
    rw [X4_make_L43] at h
    cases h
  | succ n ih =>
    intro x5 μ z h kx
    rw [X4_make_L43] at h
    refine aw_iload C 4 dX4_make_43 rfl ?_
    refine aw_aload_n C 0 dX4_make_45 rfl rfl ?_
    obtain ⟨v1, hv1, h⟩ := bindE h
    refine aw_gI C fl_X4_70 rfl hv1 dX4_make_46 ?_
    refine aw_icmp_ge C 70 dX4_make_49 (by decide) (fun c2 => ?_) (fun c2 => ?_)
    · rw [if_pos c2] at h
      have e9 := inj1 h
      subst e9
      exact aw_sub [0, 1, 2, 3, 4] rfl kx
    · rw [if_neg c2] at h
      refine aw_aload_n C 0 dX4_make_52 rfl rfl ?_
      refine aw_iload C 4 dX4_make_53 rfl ?_
      refine aw_iload_n C 2 dX4_make_55 rfl rfl ?_
      refine aw_iload C 4 dX4_make_56 rfl ?_
      refine aw_iadd C dX4_make_58 ?_
      refine aw_aload C 3 dX4_make_59 rfl ?_
      obtain ⟨g3, hg3, h⟩ := bindE h
      obtain ⟨μ4, hμ4, h⟩ := bindE h
      refine aw_cV_V C [.int x5, .int (x3 + x5), .ref (gZ G + a4)] _ (mt_X4_price hμ4) cs_X4_price ml_X4_94 im_X4_price se_X4_price (ci := 4) rfl rfl hg3 ⟨by decide, by decide⟩ ⟨rfl, rfl⟩ ⟨Nat.zero_le _, Nat.zero_le _⟩ rfl rfl (Nat.le_of_ble_eq_true rfl) dX4_make_61 ?_
      refine aw_iinc C (x5 + 1) 4 [(5, .int (x5 + 1)), (0, .ref (gZ G + a0)), (1, .int x1), (3, .int x3), (4, .ref (gZ G + a4))] dX4_make_64 rfl rfl (by decide) rfl ?_
      refine aw_goto C 43 dX4_make_67 (by decide) ?_
      exact aw_sub [1, 2, 3, 4, 0] rfl (ih _ _ _ h kx)
def X4_make_L156 (a0 : Nat) (x3 : Int32) (a4 : Nat) (x5 : Int32) (x6 : Int32) (x7 : Int32) (x8 : Int32) (x9 : Int32) : Nat → Int32 → Mem → Option (Int32 × Mem)
  | 0, _, _ => none
  | n + 1, x10, μ =>
      (gI 4 16 a0 μ).bind fun v1 =>
      if ((1 : Int32) <<< (v1 &&& 31)) ≤ x10 then
      some ((x10, μ))
      else
      (vO 4 a0 μ).bind fun g3 =>
      (X4_decide a0 x8 x6 x10 x9 μ).bind fun z4 =>
      X4_make_L156 a0 x3 a4 x5 x6 x7 x8 x9 n (x10 + 1) z4.2
set_option maxRecDepth 100000 in
set_option maxHeartbeats 4000000 in
theorem X4_make_L156_ok {G : GL} {X : CX} (C : Ctx G X cX4_make 11 RX4 rm_X4_make) (a0 : Nat) (x3 : Int32) (a4 : Nat) (x5 : Int32) (x6 : Int32) (x7 : Int32) (x8 : Int32) (x9 : Int32) : ∀ (n : Nat) (x10 : Int32) (μ : Mem) (z : Int32 × Mem), X4_make_L156 a0 x3 a4 x5 x6 x7 x8 x9 n x10 μ = some z → AW G 11 X 0 0 186 [(0, .ref (gZ G + a0)), (3, .int x3), (4, .ref (gZ G + a4)), (5, .int x5), (6, .int x6), (7, .int x7), (8, .int x8), (9, .int x9), (10, .int z.1)] [] z.2 → AW G 11 X 0 0 156 [(0, .ref (gZ G + a0)), (3, .int x3), (4, .ref (gZ G + a4)), (5, .int x5), (6, .int x6), (7, .int x7), (8, .int x8), (9, .int x9), (10, .int x10)] [] μ := by
  intro n
  induction n with
  | zero =>
    intro x10 μ z h kx
    rw [X4_make_L156] at h
    cases h
  | succ n ih =>
    intro x10 μ z h kx
    rw [X4_make_L156] at h
    refine aw_iload C 8 dX4_make_156 rfl ?_
    refine aw_iconst C 1 dX4_make_158 (by decide) ?_
    refine aw_aload_n C 0 dX4_make_159 rfl rfl ?_
    obtain ⟨v1, hv1, h⟩ := bindE h
    refine aw_gI C fl_X4_108 rfl hv1 dX4_make_160 ?_
    refine aw_ishl C dX4_make_163 ?_
    refine aw_icmp_ge C 186 dX4_make_164 (by decide) (fun c2 => ?_) (fun c2 => ?_)
    · rw [if_pos c2] at h
      have e9 := inj1 h
      subst e9
      exact aw_sub [0, 1, 2, 3, 4, 5, 6, 7, 8] rfl kx
    · rw [if_neg c2] at h
      refine aw_aload_n C 0 dX4_make_167 rfl rfl ?_
      refine aw_iload C 6 dX4_make_168 rfl ?_
      refine aw_iload C 4 dX4_make_170 rfl ?_
      refine aw_iload C 8 dX4_make_172 rfl ?_
      refine aw_iload C 7 dX4_make_174 rfl ?_
      obtain ⟨g3, hg3, h⟩ := bindE h
      obtain ⟨z4, hz4, h⟩ := bindE h
      refine aw_cV_I C [.int x8, .int x6, .int x10, .int x9] _ (mt_X4_decide hz4) cs_X4_decide ml_X4_111 im_X4_decide se_X4_decide (ci := 4) rfl rfl hg3 ⟨by decide, by decide⟩ ⟨rfl, rfl⟩ ⟨Nat.zero_le _, Nat.zero_le _⟩ rfl rfl (Nat.le_of_ble_eq_true rfl) dX4_make_176 ?_
      refine aw_pop C dX4_make_179 rfl ?_
      refine aw_iinc C (x10 + 1) 8 [(10, .int (x10 + 1)), (0, .ref (gZ G + a0)), (3, .int x3), (4, .ref (gZ G + a4)), (5, .int x5), (6, .int x6), (7, .int x7), (8, .int x8), (9, .int x9)] dX4_make_180 rfl rfl (by decide) rfl ?_
      refine aw_goto C 156 dX4_make_183 (by decide) ?_
      exact aw_sub [1, 2, 3, 4, 5, 6, 7, 8, 0] rfl (ih _ _ _ h kx)
def X4_make_L126 (a0 : Nat) (x3 : Int32) (a4 : Nat) (x5 : Int32) (x6 : Int32) (x7 : Int32) : Nat → Int32 → Mem → Option (Int32 × Mem)
  | 0, _, _ => none
  | n + 1, x8, μ =>
      if ((1 <<< (x6 &&& 31)) + x7) ≤ x8 then
      some ((x8, μ))
      else
      (vO 4 a0 μ).bind fun g2 =>
      (X4_mostBarsAt a0 x8 x6 x3 x5 a4 μ).bind fun z3 =>
      (X4_make_L156 a0 x3 a4 x5 x6 x7 x8 z3.1 FU 0 z3.2).bind fun z4 =>
      X4_make_L126 a0 x3 a4 x5 x6 x7 n (x8 + 1) z4.2
set_option maxRecDepth 100000 in
set_option maxHeartbeats 4000000 in
theorem X4_make_L126_ok {G : GL} {X : CX} (C : Ctx G X cX4_make 11 RX4 rm_X4_make) (a0 : Nat) (x3 : Int32) (a4 : Nat) (x5 : Int32) (x6 : Int32) (x7 : Int32) : ∀ (n : Nat) (x8 : Int32) (μ : Mem) (z : Int32 × Mem), X4_make_L126 a0 x3 a4 x5 x6 x7 n x8 μ = some z → AW G 11 X 0 0 192 [(0, .ref (gZ G + a0)), (3, .int x3), (4, .ref (gZ G + a4)), (5, .int x5), (6, .int x6), (7, .int x7), (8, .int z.1)] [] z.2 → AW G 11 X 0 0 126 [(0, .ref (gZ G + a0)), (3, .int x3), (4, .ref (gZ G + a4)), (5, .int x5), (6, .int x6), (7, .int x7), (8, .int x8)] [] μ := by
  intro n
  induction n with
  | zero =>
    intro x8 μ z h kx
    rw [X4_make_L126] at h
    cases h
  | succ n ih =>
    intro x8 μ z h kx
    rw [X4_make_L126] at h
    refine aw_iload C 6 dX4_make_126 rfl ?_
    refine aw_iconst C 1 dX4_make_128 (by decide) ?_
    refine aw_iload C 4 dX4_make_129 rfl ?_
    refine aw_ishl C dX4_make_131 ?_
    refine aw_iload C 5 dX4_make_132 rfl ?_
    refine aw_iadd C dX4_make_134 ?_
    refine aw_icmp_ge C 192 dX4_make_135 (by decide) (fun c1 => ?_) (fun c1 => ?_)
    · rw [if_pos c1] at h
      have e9 := inj1 h
      subst e9
      exact aw_sub [0, 1, 2, 3, 4, 5, 6] rfl kx
    · rw [if_neg c1] at h
      refine aw_aload_n C 0 dX4_make_138 rfl rfl ?_
      refine aw_iload C 6 dX4_make_139 rfl ?_
      refine aw_iload C 4 dX4_make_141 rfl ?_
      refine aw_iload_n C 1 dX4_make_143 rfl rfl ?_
      refine aw_iload C 3 dX4_make_144 rfl ?_
      refine aw_aload C 2 dX4_make_146 rfl ?_
      obtain ⟨g2, hg2, h⟩ := bindE h
      obtain ⟨z3, hz3, h⟩ := bindE h
      refine aw_cV_I C [.int x8, .int x6, .int x3, .int x5, .ref (gZ G + a4)] _ (mt_X4_mostBarsAt hz3) cs_X4_mostBarsAt ml_X4_104 im_X4_mostBarsAt se_X4_mostBarsAt (ci := 4) rfl rfl hg2 ⟨by decide, by decide⟩ ⟨rfl, rfl⟩ ⟨Nat.zero_le _, Nat.zero_le _⟩ rfl rfl (Nat.le_of_ble_eq_true rfl) dX4_make_148 ?_
      refine aw_istore C [(9, .int z3.1), (0, .ref (gZ G + a0)), (3, .int x3), (4, .ref (gZ G + a4)), (5, .int x5), (6, .int x6), (7, .int x7), (8, .int x8)] dX4_make_151 (by decide) rfl ?_
      refine aw_iconst C 0 dX4_make_153 (by decide) ?_
      refine aw_istore C [(10, .int 0), (9, .int z3.1), (0, .ref (gZ G + a0)), (3, .int x3), (4, .ref (gZ G + a4)), (5, .int x5), (6, .int x6), (7, .int x7), (8, .int x8)] dX4_make_154 (by decide) rfl ?_
      obtain ⟨z4, hz4, h⟩ := bindE h
      refine aw_sub [2, 3, 4, 5, 6, 7, 8, 1, 0] rfl ?_
      refine X4_make_L156_ok C _ _ _ _ _ _ _ _ _ _ _ _ hz4 ?_
      refine aw_iinc C (x8 + 1) 6 [(8, .int (x8 + 1)), (0, .ref (gZ G + a0)), (3, .int x3), (4, .ref (gZ G + a4)), (5, .int x5), (6, .int x6), (7, .int x7), (9, .int z3.1), (10, .int z4.1)] dX4_make_186 rfl rfl (by decide) rfl ?_
      refine aw_goto C 126 dX4_make_189 (by decide) ?_
      exact aw_sub [1, 2, 3, 4, 5, 6, 0] rfl (ih _ _ _ h kx)
def X4_make_L98 (a0 : Nat) (x3 : Int32) (a4 : Nat) (x5 : Int32) : Nat → Int32 → Mem → Option (Int32 × Mem)
  | 0, _, _ => none
  | n + 1, x6, μ =>
      if x6 < 0 then
      some ((x6, μ))
      else
      (gI 4 18 a0 μ).bind fun v2 =>
      (some (if v2 = 0 then 1 else 1 <<< (x6 &&& 31) : Int32)).bind fun v4 =>
      (some (1 <<< (x6 &&& 31) : Int32)).bind fun v5 =>
      (X4_make_L126 a0 x3 a4 x5 x6 v4 FU v5 μ).bind fun z6 =>
      X4_make_L98 a0 x3 a4 x5 n (x6 + (-1)) z6.2
set_option maxRecDepth 100000 in
set_option maxHeartbeats 4000000 in
theorem X4_make_L98_ok {G : GL} {X : CX} (C : Ctx G X cX4_make 11 RX4 rm_X4_make) (a0 : Nat) (x3 : Int32) (a4 : Nat) (x5 : Int32) : ∀ (n : Nat) (x6 : Int32) (μ : Mem) (z : Int32 × Mem), X4_make_L98 a0 x3 a4 x5 n x6 μ = some z → AW G 11 X 0 0 198 [(0, .ref (gZ G + a0)), (3, .int x3), (4, .ref (gZ G + a4)), (5, .int x5), (6, .int z.1)] [] z.2 → AW G 11 X 0 0 98 [(0, .ref (gZ G + a0)), (3, .int x3), (4, .ref (gZ G + a4)), (5, .int x5), (6, .int x6)] [] μ := by
  intro n
  induction n with
  | zero =>
    intro x6 μ z h kx
    rw [X4_make_L98] at h
    cases h
  | succ n ih =>
    intro x6 μ z h kx
    rw [X4_make_L98] at h
    refine aw_iload C 4 dX4_make_98 rfl ?_
    refine aw_if_lt C 198 dX4_make_100 (by decide) (fun c1 => ?_) (fun c1 => ?_)
    · rw [if_pos c1] at h
      have e9 := inj1 h
      subst e9
      exact aw_sub [0, 1, 2, 3, 4] rfl kx
    · rw [if_neg c1] at h
      refine aw_aload_n C 0 dX4_make_103 rfl rfl ?_
      obtain ⟨v2, hv2, h⟩ := bindE h
      refine aw_gI C fl_X4_80 rfl hv2 dX4_make_104 ?_
      obtain ⟨v4, ev4, h⟩ := bindS h
      have kj107 : AW G 11 X 0 0 118 [(0, .ref (gZ G + a0)), (3, .int x3), (4, .ref (gZ G + a4)), (5, .int x5), (6, .int x6)] [.int v4] μ := by
        refine aw_istore C [(7, .int v4), (0, .ref (gZ G + a0)), (3, .int x3), (4, .ref (gZ G + a4)), (5, .int x5), (6, .int x6)] dX4_make_118 (by decide) rfl ?_
        refine aw_iconst C 1 dX4_make_120 (by decide) ?_
        refine aw_iload C 5 dX4_make_121 rfl ?_
        refine aw_ishl C dX4_make_123 ?_
        obtain ⟨v5, ev5, h⟩ := bindS h
        refine aw_topi ev5 ?_
        refine aw_istore C [(8, .int v5), (7, .int v4), (0, .ref (gZ G + a0)), (3, .int x3), (4, .ref (gZ G + a4)), (5, .int x5), (6, .int x6)] dX4_make_124 (by decide) rfl ?_
        obtain ⟨z6, hz6, h⟩ := bindE h
        refine aw_sub [2, 3, 4, 5, 6, 1, 0] rfl ?_
        refine X4_make_L126_ok C _ _ _ _ _ _ _ _ _ _ hz6 ?_
        refine aw_iinc C (x6 + (-1)) 4 [(6, .int (x6 + (-1))), (0, .ref (gZ G + a0)), (3, .int x3), (4, .ref (gZ G + a4)), (5, .int x5), (7, .int v4), (8, .int z6.1)] dX4_make_192 rfl rfl (by decide) rfl ?_
        refine aw_goto C 98 dX4_make_195 (by decide) ?_
        exact aw_sub [1, 2, 3, 4, 0] rfl (ih _ _ _ h kx)
      clear h
      refine aw_if_eq C 117 dX4_make_107 (by decide) (fun c3 => ?_) (fun c3 => ?_)
      · refine aw_iconst C 1 dX4_make_117 (by decide) ?_
        rw [if_pos c3] at ev4
        subst ev4
        exact aw_sub [0, 1, 2, 3, 4] rfl kj107
      · refine aw_iconst C 1 dX4_make_110 (by decide) ?_
        refine aw_iload C 4 dX4_make_111 rfl ?_
        refine aw_ishl C dX4_make_113 ?_
        refine aw_goto C 118 dX4_make_114 (by decide) ?_
        rw [if_neg c3] at ev4
        subst ev4
        exact aw_sub [0, 1, 2, 3, 4] rfl kj107
def X4_make (a0 : Nat) (x1 : Int32) (x2 : Int32) (x3 : Int32) (a4 : Nat) (μ : Mem) : Option Mem :=
  (pI 4 17 a0 (if 6 < x2 then 6 else x2) μ).bind fun μ1 =>
  (vO 3 a4 μ1).bind fun g2 =>
  (X3_countsSayings a4 μ1).bind fun v3 =>
  (pZ 4 18 a0 v3 μ1).bind fun μ4 =>
  (vO 4 a0 μ4).bind fun g5 =>
  (X4_pick a0 x1 x3 μ4).bind fun μ6 =>
  (gR 4 3 a0 μ6).bind fun v7 =>
  (gI 4 17 a0 μ6).bind fun v8 =>
  (vO 9 v7 μ6).bind fun g9 =>
  (X9_lookAhead v7 x1 x3 (v8 - 1) μ6).bind fun μ10 =>
  (X4_make_L43 a0 x1 x3 a4 FU 0 μ10).bind fun z11 =>
  (gR 4 5 a0 z11.2).bind fun v12 =>
  (gR 4 15 a0 z11.2).bind fun v13 =>
  (vO 0 v12 z11.2).bind fun g14 =>
  (X0_countSaid v12 x1 v13 z11.2).bind fun μ15 =>
  (gR 4 15 a0 μ15).bind fun v16 =>
  (aI v16 x3 μ15).bind fun v17 =>
  (gI 4 17 a0 μ15).bind fun v18 =>
  (some (v18 - 1 : Int32)).bind fun v19 =>
  (X4_make_L98 a0 x3 a4 v17 FU v19 μ15).bind fun z20 =>
  (gR 4 14 a0 z20.2).bind fun v21 =>
  (aI v21 64 z20.2).bind fun v22 =>
  (pI 4 0 a0 v22 z20.2).bind fun μ23 =>
  (vO 4 a0 μ23).bind fun g24 =>
  (X4_tell a0 x3 v17 a4 μ23).bind fun μ25 =>
  some μ25
set_option maxRecDepth 100000 in
set_option maxHeartbeats 4000000 in
theorem wk_X4_make {G : GL} {X : CX} {a0 : Nat} {x1 : Int32} {x2 : Int32} {x3 : Int32} {a4 : Nat} {μ : Mem} {μ' : Mem} (C : Ctx G X cX4_make 11 RX4 rm_X4_make) (h : X4_make a0 x1 x2 x3 a4 μ = some μ') (hret : RtV G 11 X cX4_make 0 0 μ') : AW G 11 X 0 0 0 [(0, .ref (gZ G + a0)), (1, .int x1), (2, .int x2), (3, .int x3), (4, .ref (gZ G + a4))] [] μ := by
  unfold X4_make at h
  refine aw_aload_n C 0 dX4_make_0 rfl rfl ?_
  refine aw_iload_n C 2 dX4_make_1 rfl rfl ?_
  refine aw_bipush C 6 dX4_make_2 (by decide) ?_
  refine aw_mmin C ml_X4_64 (by decide) (by decide) ⟨Nat.zero_le _, Nat.zero_le _⟩ (Nat.le_of_ble_eq_true rfl) dX4_make_4 ?_
  obtain ⟨μ1, hμ1, h⟩ := bindE h
  refine aw_pI C fl_X4_70 rfl hμ1 dX4_make_7 ?_
  refine aw_aload_n C 0 dX4_make_10 rfl rfl ?_
  refine aw_aload C 4 dX4_make_11 rfl ?_
  obtain ⟨g2, hg2, h⟩ := bindE h
  obtain ⟨v3, hv3, h⟩ := bindE h
  refine aw_cV_I C [] _ (mt_X3_countsSayings hv3) cs_X3_countsSayings ml_X4_74 im_X3_countsSayings se_X3_countsSayings (ci := 3) rfl rfl hg2 ⟨by decide, by decide⟩ ⟨rfl, rfl⟩ ⟨Nat.zero_le _, Nat.zero_le _⟩ rfl rfl (Nat.le_of_ble_eq_true rfl) dX4_make_13 ?_
  obtain ⟨μ4, hμ4, h⟩ := bindE h
  refine aw_pZ C fl_X4_80 rfl hμ4 dX4_make_16 ?_
  refine aw_aload_n C 0 dX4_make_19 rfl rfl ?_
  refine aw_iload_n C 1 dX4_make_20 rfl rfl ?_
  refine aw_iload_n C 3 dX4_make_21 rfl rfl ?_
  obtain ⟨g5, hg5, h⟩ := bindE h
  obtain ⟨μ6, hμ6, h⟩ := bindE h
  refine aw_cV_V C [.int x1, .int x3] _ (mt_X4_pick hμ6) cs_X4_pick ml_X4_84 im_X4_pick se_X4_pick (ci := 4) rfl rfl hg5 ⟨by decide, by decide⟩ ⟨rfl, rfl⟩ ⟨Nat.zero_le _, Nat.zero_le _⟩ rfl rfl (Nat.le_of_ble_eq_true rfl) dX4_make_22 ?_
  refine aw_aload_n C 0 dX4_make_25 rfl rfl ?_
  obtain ⟨v7, hv7, h⟩ := bindE h
  refine aw_gR C fl_X4_52 rfl hv7 dX4_make_26 ?_
  refine aw_iload_n C 1 dX4_make_29 rfl rfl ?_
  refine aw_iload_n C 3 dX4_make_30 rfl rfl ?_
  refine aw_aload_n C 0 dX4_make_31 rfl rfl ?_
  obtain ⟨v8, hv8, h⟩ := bindE h
  refine aw_gI C fl_X4_70 rfl hv8 dX4_make_32 ?_
  refine aw_iconst C 1 dX4_make_35 (by decide) ?_
  refine aw_isub C dX4_make_36 ?_
  obtain ⟨g9, hg9, h⟩ := bindE h
  obtain ⟨μ10, hμ10, h⟩ := bindE h
  refine aw_cV_V C [.int x1, .int x3, .int (v8 - 1)] _ (mt_X9_lookAhead hμ10) cs_X9_lookAhead ml_X4_88 im_X9_lookAhead se_X9_lookAhead (ci := 9) rfl rfl hg9 ⟨by decide, by decide⟩ ⟨rfl, rfl⟩ ⟨Nat.zero_le _, Nat.zero_le _⟩ rfl rfl (Nat.le_of_ble_eq_true rfl) dX4_make_37 ?_
  refine aw_iconst C 0 dX4_make_40 (by decide) ?_
  refine aw_istore C [(5, .int 0), (0, .ref (gZ G + a0)), (1, .int x1), (2, .int x2), (3, .int x3), (4, .ref (gZ G + a4))] dX4_make_41 (by decide) rfl ?_
  obtain ⟨z11, hz11, h⟩ := bindE h
  refine aw_sub [1, 2, 4, 5, 0] rfl ?_
  refine X4_make_L43_ok C _ _ _ _ _ _ _ _ hz11 ?_
  refine aw_aload_n C 0 dX4_make_70 rfl rfl ?_
  obtain ⟨v12, hv12, h⟩ := bindE h
  refine aw_gR C fl_X4_60 rfl hv12 dX4_make_71 ?_
  refine aw_iload_n C 1 dX4_make_74 rfl rfl ?_
  refine aw_aload_n C 0 dX4_make_75 rfl rfl ?_
  obtain ⟨v13, hv13, h⟩ := bindE h
  refine aw_gR C fl_X4_49 rfl hv13 dX4_make_76 ?_
  obtain ⟨g14, hg14, h⟩ := bindE h
  obtain ⟨μ15, hμ15, h⟩ := bindE h
  refine aw_cV_V C [.int x1, .ref (gZ G + v13)] _ (mt_X0_countSaid hμ15) cs_X0_countSaid ml_X4_98 im_X0_countSaid se_X0_countSaid (ci := 0) rfl rfl hg14 ⟨by decide, by decide⟩ ⟨rfl, rfl⟩ ⟨Nat.zero_le _, Nat.zero_le _⟩ rfl rfl (Nat.le_of_ble_eq_true rfl) dX4_make_79 ?_
  refine aw_aload_n C 0 dX4_make_82 rfl rfl ?_
  obtain ⟨v16, hv16, h⟩ := bindE h
  refine aw_gR C fl_X4_49 rfl hv16 dX4_make_83 ?_
  refine aw_iload_n C 2 dX4_make_86 rfl rfl ?_
  obtain ⟨v17, hv17, h⟩ := bindE h
  refine aw_aI C hv17 dX4_make_87 ?_
  refine aw_istore C [(5, .int v17), (0, .ref (gZ G + a0)), (1, .int x1), (3, .int x3), (4, .ref (gZ G + a4))] dX4_make_88 (by decide) rfl ?_
  refine aw_aload_n C 1 dX4_make_90 rfl rfl ?_
  obtain ⟨v18, hv18, h⟩ := bindE h
  refine aw_gI C fl_X4_70 rfl hv18 dX4_make_91 ?_
  refine aw_iconst C 1 dX4_make_94 (by decide) ?_
  refine aw_isub C dX4_make_95 ?_
  obtain ⟨v19, ev19, h⟩ := bindS h
  refine aw_topi ev19 ?_
  refine aw_istore C [(6, .int v19), (5, .int v17), (0, .ref (gZ G + a0)), (1, .int x1), (3, .int x3), (4, .ref (gZ G + a4))] dX4_make_96 (by decide) rfl ?_
  obtain ⟨z20, hz20, h⟩ := bindE h
  refine aw_sub [2, 4, 5, 1, 0] rfl ?_
  refine X4_make_L98_ok C _ _ _ _ _ _ _ _ hz20 ?_
  refine aw_aload_n C 0 dX4_make_198 rfl rfl ?_
  refine aw_aload_n C 0 dX4_make_199 rfl rfl ?_
  obtain ⟨v21, hv21, h⟩ := bindE h
  refine aw_gR C fl_X4_46 rfl hv21 dX4_make_200 ?_
  refine aw_bipush C 64 dX4_make_203 (by decide) ?_
  obtain ⟨v22, hv22, h⟩ := bindE h
  refine aw_aI C hv22 dX4_make_205 ?_
  obtain ⟨μ23, hμ23, h⟩ := bindE h
  refine aw_pI C fl_X4_115 rfl hμ23 dX4_make_206 ?_
  refine aw_aload_n C 0 dX4_make_209 rfl rfl ?_
  refine aw_iload_n C 1 dX4_make_210 rfl rfl ?_
  refine aw_iload C 3 dX4_make_211 rfl ?_
  refine aw_aload C 2 dX4_make_213 rfl ?_
  obtain ⟨g24, hg24, h⟩ := bindE h
  obtain ⟨μ25, hμ25, h⟩ := bindE h
  refine aw_cV_V C [.int x3, .int v17, .ref (gZ G + a4)] _ (mt_X4_tell hμ25) cs_X4_tell ml_X4_118 im_X4_tell se_X4_tell (ci := 4) rfl rfl hg24 ⟨by decide, by decide⟩ ⟨rfl, rfl⟩ ⟨Nat.zero_le _, Nat.zero_le _⟩ rfl rfl (Nat.le_of_ble_eq_true rfl) dX4_make_215 ?_
  have e9 := inj1 h
  subst e9
  exact hret _ _ dX4_make_218
set_option maxRecDepth 100000 in
set_option maxHeartbeats 4000000 in
theorem mt_X4_make {G : GL} {l : Launch} {a0 : Nat} {x1 : Int32} {x2 : Int32} {x3 : Int32} {a4 : Nat} {μ : Mem} {μ' : Mem} (h : X4_make a0 x1 x2 x3 a4 μ = some μ') : MtV G l yX4_make cX4_make 11 none rm_X4_make false [.ref (gZ G + a0), .int x1, .int x2, .int x3, .ref (gZ G + a4)] μ μ' := met_V (by decide) rfl (Nat.le_of_ble_eq_true rfl) (fun X _ C _ _ hret => wk_X4_make C h hret)
def X7_isLeft (a0 : Nat) (x1 : Int32) (x2 : Int32) (μ : Mem) : Option Int32 :=
  (gR 7 6 a0 μ).bind fun v1 =>
  (gR 0 0 v1 μ).bind fun v2 =>
  (aR 6 v2 x1 μ).bind fun v3 =>
  (gI 6 0 v3 μ).bind fun v4 =>
  ((if (X10_contains v4 x2) = 0 then
  some 0
  else
  (gI 7 7 a0 μ).bind fun v6 =>
  if (X10_contains v6 x1) = 0 then
  some 1
  else
  some 0) : Option (Int32)).bind fun z8 =>
  (zz z8).bind fun v9 =>
  some v9
set_option maxRecDepth 100000 in
set_option maxHeartbeats 4000000 in
theorem wk_X7_isLeft {G : GL} {X : CX} {a0 : Nat} {x1 : Int32} {x2 : Int32} {μ : Mem} {r : Int32} (C : Ctx G X cX7_isLeft 3 RX7 rm_X7_isLeft) (h : X7_isLeft a0 x1 x2 μ = some r) (hret : RtZ G 3 X cX7_isLeft 0 0 r μ) : AW G 3 X 0 0 0 [(0, .ref (gZ G + a0)), (1, .int x1), (2, .int x2)] [] μ := by
  unfold X7_isLeft at h
  refine aw_aload_n C 0 dX7_isLeft_0 rfl rfl ?_
  obtain ⟨v1, hv1, h⟩ := bindE h
  refine aw_gR C fl_X7_17 rfl hv1 dX7_isLeft_1 ?_
  obtain ⟨v2, hv2, h⟩ := bindE h
  refine aw_gR C fl_X7_70 rfl hv2 dX7_isLeft_4 ?_
  refine aw_iload_n C 1 dX7_isLeft_7 rfl rfl ?_
  obtain ⟨v3, hv3, h⟩ := bindE h
  refine aw_aR C (by decide) (ty := .object RX6) rfl rfl hv3 dX7_isLeft_8 ?_
  obtain ⟨v4, hv4, h⟩ := bindE h
  refine aw_gI C fl_X7_86 rfl hv4 dX7_isLeft_9 ?_
  refine aw_iload_n C 2 dX7_isLeft_12 rfl rfl ?_
  refine aw_cSN_I C [.int v4, .int x2] _ (mt_X10_contains _ _) cs_X10_contains ml_X7_89 st_X10_contains ⟨by decide, by decide⟩ ⟨rfl, rfl⟩ ⟨Nat.zero_le _, Nat.zero_le _⟩ rfl rfl (Nat.le_of_ble_eq_true rfl) dX7_isLeft_13 ?_
  obtain ⟨z8, hz8, h⟩ := bindE h
  have kj16 : AW G 3 X 0 0 35 [] [.int z8] μ := by
    obtain ⟨v9, hv9, h⟩ := bindE h
    obtain ⟨ev9, zv9⟩ := zzE hv9
    refine aw_topi ev9 ?_
    have e9 := inj1 h
    subst e9
    exact hret _ _ dX7_isLeft_35 zv9
  replace h := hz8
  refine aw_if_eq C 34 dX7_isLeft_16 (by decide) (fun c5 => ?_) (fun c5 => ?_)
  · rw [if_pos c5] at h
    refine aw_iconst C 0 dX7_isLeft_34 (by decide) ?_
    have e9 := inj1 h
    subst e9
    exact aw_sub [] rfl kj16
  · rw [if_neg c5] at h
    refine aw_aload_n C 0 dX7_isLeft_19 rfl rfl ?_
    obtain ⟨v6, hv6, h⟩ := bindE h
    refine aw_gI C fl_X7_34 rfl hv6 dX7_isLeft_20 ?_
    refine aw_iload_n C 1 dX7_isLeft_23 rfl rfl ?_
    refine aw_cSN_I C [.int v6, .int x1] _ (mt_X10_contains _ _) cs_X10_contains ml_X7_89 st_X10_contains ⟨by decide, by decide⟩ ⟨rfl, rfl⟩ ⟨Nat.zero_le _, Nat.zero_le _⟩ rfl rfl (Nat.le_of_ble_eq_true rfl) dX7_isLeft_24 ?_
    refine aw_if_ne C 34 dX7_isLeft_27 (by decide) (fun c7 => ?_) (fun c7 => ?_)
    · rw [if_neg c7] at h
      refine aw_iconst C 0 dX7_isLeft_34 (by decide) ?_
      have e9 := inj1 h
      subst e9
      exact aw_sub [] rfl kj16
    · rw [if_pos c7] at h
      refine aw_iconst C 1 dX7_isLeft_30 (by decide) ?_
      refine aw_goto C 35 dX7_isLeft_31 (by decide) ?_
      have e9 := inj1 h
      subst e9
      exact aw_sub [] rfl kj16
set_option maxRecDepth 100000 in
set_option maxHeartbeats 4000000 in
theorem mt_X7_isLeft {G : GL} {l : Launch} {a0 : Nat} {x1 : Int32} {x2 : Int32} {μ : Mem} {r : Int32} (h : X7_isLeft a0 x1 x2 μ = some r) : MtI G l yX7_isLeft cX7_isLeft 3 (some .boolean) rm_X7_isLeft false [.ref (gZ G + a0), .int x1, .int x2] μ r μ := met_Z (by decide) rfl (Nat.le_of_ble_eq_true rfl) (fun X _ C _ _ hret => wk_X7_isLeft C h hret)
def X7_sayIn_L3 (a0 : Nat) (x1 : Int32) (x2 : Int32) (x3 : Int32) : Nat → Int32 → Mem → Option (Int32 × Mem)
  | 0, _, _ => none
  | n + 1, x4, μ =>
      (gR 7 6 a0 μ).bind fun v1 =>
      (gI 0 2 v1 μ).bind fun v2 =>
      if v2 ≤ x4 then
      some ((x4, μ))
      else
      (gR 7 6 a0 μ).bind fun v4 =>
      (gR 0 0 v4 μ).bind fun v5 =>
      (aR 6 v5 x4 μ).bind fun v6 =>
      (vO 6 v6 μ).bind fun g7 =>
      (X6_isMust v6 μ).bind fun v8 =>
      ((if v8 = 0 then
      some 0
      else
      (gI 6 6 v6 μ).bind fun v10 =>
      if x1 = v10 then
      some 1
      else
      some 0) : Option (Int32)).bind fun z12 =>
      (vO 7 a0 μ).bind fun g13 =>
      (X7_isLeft a0 x4 x2 μ).bind fun v14 =>
      ((if v14 = 0 then
      some μ
      else
      (gI 6 7 v6 μ).bind fun v16 =>
      if x1 < v16 then
      some μ
      else
      if x3 = 0 then
      if z12 = 0 then
      some μ
      else
      (gI 7 7 a0 μ).bind fun v31 =>
      (pI 7 7 a0 (v31 ||| (1 <<< (x4 &&& 31))) μ).bind fun μ32 =>
      (gI 7 3 a0 μ32).bind fun v33 =>
      (pI 7 3 a0 (v33 + 1) μ32).bind fun μ34 =>
      (gI 7 1 a0 μ34).bind fun v35 =>
      (gI 6 7 v6 μ34).bind fun v36 =>
      (pI 7 1 a0 (v35 + (x1 - v36)) μ34).bind fun μ37 =>
      (gI 6 6 v6 μ37).bind fun v38 =>
      if x1 ≤ v38 then
      some μ37
      else
      (gI 7 0 a0 μ37).bind fun v40 =>
      (pI 7 0 a0 (v40 + 1) μ37).bind fun μ41 =>
      some μ41
      else
      (gI 7 7 a0 μ).bind fun v19 =>
      (pI 7 7 a0 (v19 ||| (1 <<< (x4 &&& 31))) μ).bind fun μ20 =>
      (gI 7 3 a0 μ20).bind fun v21 =>
      (pI 7 3 a0 (v21 + 1) μ20).bind fun μ22 =>
      (gI 7 1 a0 μ22).bind fun v23 =>
      (gI 6 7 v6 μ22).bind fun v24 =>
      (pI 7 1 a0 (v23 + (x1 - v24)) μ22).bind fun μ25 =>
      (gI 6 6 v6 μ25).bind fun v26 =>
      if x1 ≤ v26 then
      some μ25
      else
      (gI 7 0 a0 μ25).bind fun v28 =>
      (pI 7 0 a0 (v28 + 1) μ25).bind fun μ29 =>
      some μ29) : Option (Mem)).bind fun z42 =>
      X7_sayIn_L3 a0 x1 x2 x3 n (x4 + 1) z42
set_option maxRecDepth 100000 in
set_option maxHeartbeats 4000000 in
theorem X7_sayIn_L3_ok {G : GL} {X : CX} (C : Ctx G X cX7_sayIn 7 RX7 rm_X7_sayIn) (a0 : Nat) (x1 : Int32) (x2 : Int32) (x3 : Int32) : ∀ (n : Nat) (x4 : Int32) (μ : Mem) (z : Int32 × Mem), X7_sayIn_L3 a0 x1 x2 x3 n x4 μ = some z → AW G 7 X 0 0 143 [(0, .ref (gZ G + a0)), (1, .int x1), (2, .int x2), (3, .int x3), (4, .int z.1)] [] z.2 → AW G 7 X 0 0 3 [(0, .ref (gZ G + a0)), (1, .int x1), (2, .int x2), (3, .int x3), (4, .int x4)] [] μ := by
  intro n
  induction n with
  | zero =>
    intro x4 μ z h kx
    rw [X7_sayIn_L3] at h
    cases h
  | succ n ih =>
    intro x4 μ z h kx
    rw [X7_sayIn_L3] at h
    refine aw_iload C 4 dX7_sayIn_3 rfl ?_
    refine aw_aload_n C 0 dX7_sayIn_5 rfl rfl ?_
    obtain ⟨v1, hv1, h⟩ := bindE h
    refine aw_gR C fl_X7_17 rfl hv1 dX7_sayIn_6 ?_
    obtain ⟨v2, hv2, h⟩ := bindE h
    refine aw_gI C fl_X7_61 rfl hv2 dX7_sayIn_9 ?_
    refine aw_icmp_ge C 143 dX7_sayIn_12 (by decide) (fun c3 => ?_) (fun c3 => ?_)
    · rw [if_pos c3] at h
      have e9 := inj1 h
      subst e9
      exact aw_sub [0, 1, 2, 3, 4] rfl kx
    · rw [if_neg c3] at h
      refine aw_aload_n C 0 dX7_sayIn_15 rfl rfl ?_
      obtain ⟨v4, hv4, h⟩ := bindE h
      refine aw_gR C fl_X7_17 rfl hv4 dX7_sayIn_16 ?_
      obtain ⟨v5, hv5, h⟩ := bindE h
      refine aw_gR C fl_X7_70 rfl hv5 dX7_sayIn_19 ?_
      refine aw_iload C 4 dX7_sayIn_22 rfl ?_
      obtain ⟨v6, hv6, h⟩ := bindE h
      refine aw_aR C (by decide) (ty := .object RX6) rfl rfl hv6 dX7_sayIn_24 ?_
      refine aw_astore C [(5, .ref (gZ G + v6)), (0, .ref (gZ G + a0)), (1, .int x1), (2, .int x2), (3, .int x3), (4, .int x4)] dX7_sayIn_25 (by decide) rfl ?_
      refine aw_aload C 0 dX7_sayIn_27 rfl ?_
      obtain ⟨g7, hg7, h⟩ := bindE h
      obtain ⟨v8, hv8, h⟩ := bindE h
      refine aw_cV_I C [] _ (mt_X6_isMust hv8) cs_X6_isMust ml_X7_79 im_X6_isMust se_X6_isMust (ci := 6) rfl rfl hg7 ⟨by decide, by decide⟩ ⟨rfl, rfl⟩ ⟨Nat.zero_le _, Nat.zero_le _⟩ rfl rfl (Nat.le_of_ble_eq_true rfl) dX7_sayIn_29 ?_
      obtain ⟨z12, hz12, h⟩ := bindE h
      have kj32 : AW G 7 X 0 0 49 [(0, .ref (gZ G + a0)), (1, .int x1), (2, .int x2), (3, .int x3), (4, .int x4), (5, .ref (gZ G + v6))] [.int z12] μ := by
        refine aw_istore C [(6, .int z12), (0, .ref (gZ G + a0)), (1, .int x1), (2, .int x2), (3, .int x3), (4, .int x4), (5, .ref (gZ G + v6))] dX7_sayIn_49 (by decide) rfl ?_
        refine aw_aload_n C 1 dX7_sayIn_51 rfl rfl ?_
        refine aw_iload C 5 dX7_sayIn_52 rfl ?_
        refine aw_iload_n C 3 dX7_sayIn_54 rfl rfl ?_
        obtain ⟨g13, hg13, h⟩ := bindE h
        obtain ⟨v14, hv14, h⟩ := bindE h
        refine aw_cV_I C [.int x4, .int x2] _ (mt_X7_isLeft hv14) cs_X7_isLeft ml_X7_66 im_X7_isLeft se_X7_isLeft (ci := 7) rfl rfl hg13 ⟨by decide, by decide⟩ ⟨rfl, rfl⟩ ⟨Nat.zero_le _, Nat.zero_le _⟩ rfl rfl (Nat.le_of_ble_eq_true rfl) dX7_sayIn_55 ?_
        obtain ⟨z42, hz42, h⟩ := bindE h
        have kj58 : AW G 7 X 0 0 137 [(0, .ref (gZ G + a0)), (1, .int x1), (2, .int x2), (3, .int x3), (4, .int x4)] [] z42 := by
          refine aw_iinc C (x4 + 1) 4 [(4, .int (x4 + 1)), (0, .ref (gZ G + a0)), (1, .int x1), (2, .int x2), (3, .int x3)] dX7_sayIn_137 rfl rfl (by decide) rfl ?_
          refine aw_goto C 3 dX7_sayIn_140 (by decide) ?_
          exact aw_sub [1, 2, 3, 4, 0] rfl (ih _ _ _ h kx)
        replace h := hz42
        refine aw_if_eq C 137 dX7_sayIn_58 (by decide) (fun c15 => ?_) (fun c15 => ?_)
        · rw [if_pos c15] at h
          have e9 := inj1 h
          subst e9
          exact aw_sub [1, 2, 3, 4, 5] rfl kj58
        · rw [if_neg c15] at h
          refine aw_aload C 6 dX7_sayIn_61 rfl ?_
          obtain ⟨v16, hv16, h⟩ := bindE h
          refine aw_gI C fl_X7_83 rfl hv16 dX7_sayIn_63 ?_
          refine aw_iload_n C 2 dX7_sayIn_66 rfl rfl ?_
          refine aw_icmp_gt C 137 dX7_sayIn_67 (by decide) (fun c17 => ?_) (fun c17 => ?_)
          · rw [if_pos c17] at h
            have e9 := inj1 h
            subst e9
            exact aw_sub [1, 2, 3, 4, 5] rfl kj58
          · rw [if_neg c17] at h
            refine aw_iload_n C 4 dX7_sayIn_70 rfl rfl ?_
            refine aw_if_ne C 79 dX7_sayIn_71 (by decide) (fun c18 => ?_) (fun c18 => ?_)
            · rw [if_neg c18] at h
              refine aw_aload_n C 1 dX7_sayIn_79 rfl rfl ?_
              refine aw_dup C dX7_sayIn_80 rfl ?_
              obtain ⟨v19, hv19, h⟩ := bindE h
              refine aw_gI C fl_X7_34 rfl hv19 dX7_sayIn_81 ?_
              refine aw_iconst C 1 dX7_sayIn_84 (by decide) ?_
              refine aw_iload C 5 dX7_sayIn_85 rfl ?_
              refine aw_ishl C dX7_sayIn_87 ?_
              refine aw_ior C dX7_sayIn_88 ?_
              obtain ⟨μ20, hμ20, h⟩ := bindE h
              refine aw_pI C fl_X7_34 rfl hμ20 dX7_sayIn_89 ?_
              refine aw_aload_n C 1 dX7_sayIn_92 rfl rfl ?_
              refine aw_dup C dX7_sayIn_93 rfl ?_
              obtain ⟨v21, hv21, h⟩ := bindE h
              refine aw_gI C fl_X7_31 rfl hv21 dX7_sayIn_94 ?_
              refine aw_iconst C 1 dX7_sayIn_97 (by decide) ?_
              refine aw_iadd C dX7_sayIn_98 ?_
              obtain ⟨μ22, hμ22, h⟩ := bindE h
              refine aw_pI C fl_X7_31 rfl hμ22 dX7_sayIn_99 ?_
              refine aw_aload_n C 1 dX7_sayIn_102 rfl rfl ?_
              refine aw_dup C dX7_sayIn_103 rfl ?_
              obtain ⟨v23, hv23, h⟩ := bindE h
              refine aw_gI C fl_X7_25 rfl hv23 dX7_sayIn_104 ?_
              refine aw_iload_n C 2 dX7_sayIn_107 rfl rfl ?_
              refine aw_aload C 6 dX7_sayIn_108 rfl ?_
              obtain ⟨v24, hv24, h⟩ := bindE h
              refine aw_gI C fl_X7_83 rfl hv24 dX7_sayIn_110 ?_
              refine aw_isub C dX7_sayIn_113 ?_
              refine aw_iadd C dX7_sayIn_114 ?_
              obtain ⟨μ25, hμ25, h⟩ := bindE h
              refine aw_pI C fl_X7_25 rfl hμ25 dX7_sayIn_115 ?_
              refine aw_iload_n C 2 dX7_sayIn_118 rfl rfl ?_
              refine aw_aload C 6 dX7_sayIn_119 rfl ?_
              obtain ⟨v26, hv26, h⟩ := bindE h
              refine aw_gI C fl_X7_74 rfl hv26 dX7_sayIn_121 ?_
              refine aw_icmp_le C 137 dX7_sayIn_124 (by decide) (fun c27 => ?_) (fun c27 => ?_)
              · rw [if_pos c27] at h
                have e9 := inj1 h
                subst e9
                exact aw_sub [1, 2, 3, 4, 5] rfl kj58
              · rw [if_neg c27] at h
                refine aw_aload_n C 1 dX7_sayIn_127 rfl rfl ?_
                refine aw_dup C dX7_sayIn_128 rfl ?_
                obtain ⟨v28, hv28, h⟩ := bindE h
                refine aw_gI C fl_X7_21 rfl hv28 dX7_sayIn_129 ?_
                refine aw_iconst C 1 dX7_sayIn_132 (by decide) ?_
                refine aw_iadd C dX7_sayIn_133 ?_
                obtain ⟨μ29, hμ29, h⟩ := bindE h
                refine aw_pI C fl_X7_21 rfl hμ29 dX7_sayIn_134 ?_
                have e9 := inj1 h
                subst e9
                exact aw_sub [1, 2, 3, 4, 5] rfl kj58
            · rw [if_pos c18] at h
              refine aw_iload C 0 dX7_sayIn_74 rfl ?_
              refine aw_if_eq C 137 dX7_sayIn_76 (by decide) (fun c30 => ?_) (fun c30 => ?_)
              · rw [if_pos c30] at h
                have e9 := inj1 h
                subst e9
                exact aw_sub [1, 2, 3, 4, 5] rfl kj58
              · rw [if_neg c30] at h
                refine aw_aload_n C 1 dX7_sayIn_79 rfl rfl ?_
                refine aw_dup C dX7_sayIn_80 rfl ?_
                obtain ⟨v31, hv31, h⟩ := bindE h
                refine aw_gI C fl_X7_34 rfl hv31 dX7_sayIn_81 ?_
                refine aw_iconst C 1 dX7_sayIn_84 (by decide) ?_
                refine aw_iload C 5 dX7_sayIn_85 rfl ?_
                refine aw_ishl C dX7_sayIn_87 ?_
                refine aw_ior C dX7_sayIn_88 ?_
                obtain ⟨μ32, hμ32, h⟩ := bindE h
                refine aw_pI C fl_X7_34 rfl hμ32 dX7_sayIn_89 ?_
                refine aw_aload_n C 1 dX7_sayIn_92 rfl rfl ?_
                refine aw_dup C dX7_sayIn_93 rfl ?_
                obtain ⟨v33, hv33, h⟩ := bindE h
                refine aw_gI C fl_X7_31 rfl hv33 dX7_sayIn_94 ?_
                refine aw_iconst C 1 dX7_sayIn_97 (by decide) ?_
                refine aw_iadd C dX7_sayIn_98 ?_
                obtain ⟨μ34, hμ34, h⟩ := bindE h
                refine aw_pI C fl_X7_31 rfl hμ34 dX7_sayIn_99 ?_
                refine aw_aload_n C 1 dX7_sayIn_102 rfl rfl ?_
                refine aw_dup C dX7_sayIn_103 rfl ?_
                obtain ⟨v35, hv35, h⟩ := bindE h
                refine aw_gI C fl_X7_25 rfl hv35 dX7_sayIn_104 ?_
                refine aw_iload_n C 2 dX7_sayIn_107 rfl rfl ?_
                refine aw_aload C 6 dX7_sayIn_108 rfl ?_
                obtain ⟨v36, hv36, h⟩ := bindE h
                refine aw_gI C fl_X7_83 rfl hv36 dX7_sayIn_110 ?_
                refine aw_isub C dX7_sayIn_113 ?_
                refine aw_iadd C dX7_sayIn_114 ?_
                obtain ⟨μ37, hμ37, h⟩ := bindE h
                refine aw_pI C fl_X7_25 rfl hμ37 dX7_sayIn_115 ?_
                refine aw_iload_n C 2 dX7_sayIn_118 rfl rfl ?_
                refine aw_aload C 6 dX7_sayIn_119 rfl ?_
                obtain ⟨v38, hv38, h⟩ := bindE h
                refine aw_gI C fl_X7_74 rfl hv38 dX7_sayIn_121 ?_
                refine aw_icmp_le C 137 dX7_sayIn_124 (by decide) (fun c39 => ?_) (fun c39 => ?_)
                · rw [if_pos c39] at h
                  have e9 := inj1 h
                  subst e9
                  exact aw_sub [1, 2, 3, 4, 5] rfl kj58
                · rw [if_neg c39] at h
                  refine aw_aload_n C 1 dX7_sayIn_127 rfl rfl ?_
                  refine aw_dup C dX7_sayIn_128 rfl ?_
                  obtain ⟨v40, hv40, h⟩ := bindE h
                  refine aw_gI C fl_X7_21 rfl hv40 dX7_sayIn_129 ?_
                  refine aw_iconst C 1 dX7_sayIn_132 (by decide) ?_
                  refine aw_iadd C dX7_sayIn_133 ?_
                  obtain ⟨μ41, hμ41, h⟩ := bindE h
                  refine aw_pI C fl_X7_21 rfl hμ41 dX7_sayIn_134 ?_
                  have e9 := inj1 h
                  subst e9
                  exact aw_sub [1, 2, 3, 4, 5] rfl kj58
      replace h := hz12
      refine aw_if_eq C 48 dX7_sayIn_32 (by decide) (fun c9 => ?_) (fun c9 => ?_)
      · rw [if_pos c9] at h
        refine aw_iconst C 0 dX7_sayIn_48 (by decide) ?_
        have e9 := inj1 h
        subst e9
        exact aw_sub [1, 2, 3, 4, 5, 0] rfl kj32
      · rw [if_neg c9] at h
        refine aw_iload_n C 2 dX7_sayIn_35 rfl rfl ?_
        refine aw_aload C 0 dX7_sayIn_36 rfl ?_
        obtain ⟨v10, hv10, h⟩ := bindE h
        refine aw_gI C fl_X7_74 rfl hv10 dX7_sayIn_38 ?_
        refine aw_icmp_ne C 48 dX7_sayIn_41 (by decide) (fun c11 => ?_) (fun c11 => ?_)
        · rw [if_neg c11] at h
          refine aw_iconst C 0 dX7_sayIn_48 (by decide) ?_
          have e9 := inj1 h
          subst e9
          exact aw_sub [1, 2, 3, 4, 5, 0] rfl kj32
        · rw [if_pos c11] at h
          refine aw_iconst C 1 dX7_sayIn_44 (by decide) ?_
          refine aw_goto C 49 dX7_sayIn_45 (by decide) ?_
          have e9 := inj1 h
          subst e9
          exact aw_sub [1, 2, 3, 4, 5, 0] rfl kj32
def X7_sayIn (a0 : Nat) (x1 : Int32) (x2 : Int32) (x3 : Int32) (μ : Mem) : Option Mem :=
  (X7_sayIn_L3 a0 x1 x2 x3 FU 0 μ).bind fun z1 =>
  some z1.2
set_option maxRecDepth 100000 in
set_option maxHeartbeats 4000000 in
theorem wk_X7_sayIn {G : GL} {X : CX} {a0 : Nat} {x1 : Int32} {x2 : Int32} {x3 : Int32} {μ : Mem} {μ' : Mem} (C : Ctx G X cX7_sayIn 7 RX7 rm_X7_sayIn) (h : X7_sayIn a0 x1 x2 x3 μ = some μ') (hret : RtV G 7 X cX7_sayIn 0 0 μ') : AW G 7 X 0 0 0 [(0, .ref (gZ G + a0)), (1, .int x1), (2, .int x2), (3, .int x3)] [] μ := by
  unfold X7_sayIn at h
  refine aw_iconst C 0 dX7_sayIn_0 (by decide) ?_
  refine aw_istore C [(4, .int 0), (0, .ref (gZ G + a0)), (1, .int x1), (2, .int x2), (3, .int x3)] dX7_sayIn_1 (by decide) rfl ?_
  obtain ⟨z1, hz1, h⟩ := bindE h
  refine aw_sub [1, 2, 3, 4, 0] rfl ?_
  refine X7_sayIn_L3_ok C _ _ _ _ _ _ _ _ hz1 ?_
  have e9 := inj1 h
  subst e9
  exact hret _ _ dX7_sayIn_143
set_option maxRecDepth 100000 in
set_option maxHeartbeats 4000000 in
theorem mt_X7_sayIn {G : GL} {l : Launch} {a0 : Nat} {x1 : Int32} {x2 : Int32} {x3 : Int32} {μ : Mem} {μ' : Mem} (h : X7_sayIn a0 x1 x2 x3 μ = some μ') : MtV G l yX7_sayIn cX7_sayIn 7 none rm_X7_sayIn false [.ref (gZ G + a0), .int x1, .int x2, .int x3] μ μ' := met_V (by decide) rfl (Nat.le_of_ble_eq_true rfl) (fun X _ C _ _ hret => wk_X7_sayIn C h hret)
def X7_run_L28 (a0 : Nat) (x1 : Int32) (x2 : Int32) (x3 : Int32) (x4 : Int32) : Nat → Int32 → Mem → Option (Int32 × Mem)
  | 0, _, _ => none
  | n + 1, x5, μ =>
      if x4 ≤ x5 then
      some ((x5, μ))
      else
      (gR 7 4 a0 μ).bind fun v2 =>
      (vO 9 v2 μ).bind fun g3 =>
      (X9_lookAhead v2 x1 x5 0 μ).bind fun μ4 =>
      (gI 7 3 a0 μ4).bind fun v5 =>
      (gR 7 4 a0 μ4).bind fun v6 =>
      (vO 9 v6 μ4).bind fun g7 =>
      (X9_seamOdds v6 0 μ4).bind fun v8 =>
      (some (if v8 < x2 then 0 else 1 : Int32)).bind fun v10 =>
      (vO 7 a0 μ4).bind fun g11 =>
      (X7_sayIn a0 x5 x1 v10 μ4).bind fun μ12 =>
      (gI 7 3 a0 μ12).bind fun v13 =>
      ((if v13 ≤ v5 then
      some μ12
      else
      (gI 7 2 a0 μ12).bind fun v15 =>
      (gR 7 5 a0 μ12).bind fun v16 =>
      (gR 7 4 a0 μ12).bind fun v17 =>
      (gR 9 4 v17 μ12).bind fun v18 =>
      (aR 7 v18 0 μ12).bind fun v19 =>
      (vO 8 v16 μ12).bind fun g20 =>
      (X8_lossBy v16 x3 v19 μ12).bind fun v21 =>
      (pI 7 2 a0 (v15 + v21) μ12).bind fun μ22 =>
      some μ22) : Option (Mem)).bind fun z23 =>
      X7_run_L28 a0 x1 x2 x3 x4 n (x5 + 1) z23
set_option maxRecDepth 100000 in
set_option maxHeartbeats 4000000 in
theorem X7_run_L28_ok {G : GL} {X : CX} (C : Ctx G X cX7_run 7 RX7 rm_X7_run) (a0 : Nat) (x1 : Int32) (x2 : Int32) (x3 : Int32) (x4 : Int32) : ∀ (n : Nat) (x5 : Int32) (μ : Mem) (z : Int32 × Mem), X7_run_L28 a0 x1 x2 x3 x4 n x5 μ = some z → AW G 7 X 0 0 117 [(0, .ref (gZ G + a0)), (1, .int x1), (2, .int x2), (3, .int x3), (4, .int x4), (5, .int z.1)] [] z.2 → AW G 7 X 0 0 28 [(0, .ref (gZ G + a0)), (1, .int x1), (2, .int x2), (3, .int x3), (4, .int x4), (5, .int x5)] [] μ := by
  intro n
  induction n with
  | zero =>
    intro x5 μ z h kx
    rw [X7_run_L28] at h
    cases h
  | succ n ih =>
    intro x5 μ z h kx
    rw [X7_run_L28] at h
    refine aw_iload C 5 dX7_run_28 rfl ?_
    refine aw_iload C 4 dX7_run_30 rfl ?_
    refine aw_icmp_ge C 117 dX7_run_32 (by decide) (fun c1 => ?_) (fun c1 => ?_)
    · rw [if_pos c1] at h
      have e9 := inj1 h
      subst e9
      exact aw_sub [0, 1, 2, 3, 4, 5] rfl kx
    · rw [if_neg c1] at h
      refine aw_aload_n C 0 dX7_run_35 rfl rfl ?_
      obtain ⟨v2, hv2, h⟩ := bindE h
      refine aw_gR C fl_X7_7 rfl hv2 dX7_run_36 ?_
      refine aw_iload_n C 1 dX7_run_39 rfl rfl ?_
      refine aw_iload C 5 dX7_run_40 rfl ?_
      refine aw_iconst C 0 dX7_run_42 (by decide) ?_
      obtain ⟨g3, hg3, h⟩ := bindE h
      obtain ⟨μ4, hμ4, h⟩ := bindE h
      refine aw_cV_V C [.int x1, .int x5, .int 0] _ (mt_X9_lookAhead hμ4) cs_X9_lookAhead ml_X7_37 im_X9_lookAhead se_X9_lookAhead (ci := 9) rfl rfl hg3 ⟨by decide, by decide⟩ ⟨rfl, rfl⟩ ⟨Nat.zero_le _, Nat.zero_le _⟩ rfl rfl (Nat.le_of_ble_eq_true rfl) dX7_run_43 ?_
      refine aw_aload_n C 0 dX7_run_46 rfl rfl ?_
      obtain ⟨v5, hv5, h⟩ := bindE h
      refine aw_gI C fl_X7_31 rfl hv5 dX7_run_47 ?_
      refine aw_istore C [(6, .int v5), (0, .ref (gZ G + a0)), (1, .int x1), (2, .int x2), (3, .int x3), (4, .int x4), (5, .int x5)] dX7_run_50 (by decide) rfl ?_
      refine aw_aload_n C 1 dX7_run_52 rfl rfl ?_
      refine aw_iload C 6 dX7_run_53 rfl ?_
      refine aw_iload_n C 2 dX7_run_55 rfl rfl ?_
      refine aw_aload_n C 1 dX7_run_56 rfl rfl ?_
      obtain ⟨v6, hv6, h⟩ := bindE h
      refine aw_gR C fl_X7_7 rfl hv6 dX7_run_57 ?_
      refine aw_iconst C 0 dX7_run_60 (by decide) ?_
      obtain ⟨g7, hg7, h⟩ := bindE h
      obtain ⟨v8, hv8, h⟩ := bindE h
      refine aw_cV_I C [.int 0] _ (mt_X9_seamOdds hv8) cs_X9_seamOdds ml_X7_43 im_X9_seamOdds se_X9_seamOdds (ci := 9) rfl rfl hg7 ⟨by decide, by decide⟩ ⟨rfl, rfl⟩ ⟨Nat.zero_le _, Nat.zero_le _⟩ rfl rfl (Nat.le_of_ble_eq_true rfl) dX7_run_61 ?_
      refine aw_iload_n C 3 dX7_run_64 rfl rfl ?_
      obtain ⟨v10, ev10, h⟩ := bindS h
      have kj65 : AW G 7 X 0 0 73 [(0, .ref (gZ G + a0)), (1, .int x1), (2, .int x2), (3, .int x3), (4, .int x4), (5, .int x5), (6, .int v5)] [.int v10, .int x1, .int x5, .ref (gZ G + a0)] μ4 := by
        obtain ⟨g11, hg11, h⟩ := bindE h
        obtain ⟨μ12, hμ12, h⟩ := bindE h
        refine aw_cV_V C [.int x5, .int x1, .int v10] _ (mt_X7_sayIn hμ12) cs_X7_sayIn ml_X7_47 im_X7_sayIn se_X7_sayIn (ci := 7) rfl rfl hg11 ⟨by decide, by decide⟩ ⟨rfl, rfl⟩ ⟨Nat.zero_le _, Nat.zero_le _⟩ rfl rfl (Nat.le_of_ble_eq_true rfl) dX7_run_73 ?_
        refine aw_aload_n C 0 dX7_run_76 rfl rfl ?_
        obtain ⟨v13, hv13, h⟩ := bindE h
        refine aw_gI C fl_X7_31 rfl hv13 dX7_run_77 ?_
        refine aw_iload C 6 dX7_run_80 rfl ?_
        obtain ⟨z23, hz23, h⟩ := bindE h
        have kj82 : AW G 7 X 0 0 111 [(0, .ref (gZ G + a0)), (1, .int x1), (2, .int x2), (3, .int x3), (4, .int x4), (5, .int x5)] [] z23 := by
          refine aw_iinc C (x5 + 1) 5 [(5, .int (x5 + 1)), (0, .ref (gZ G + a0)), (1, .int x1), (2, .int x2), (3, .int x3), (4, .int x4)] dX7_run_111 rfl rfl (by decide) rfl ?_
          refine aw_goto C 28 dX7_run_114 (by decide) ?_
          exact aw_sub [1, 2, 3, 4, 5, 0] rfl (ih _ _ _ h kx)
        replace h := hz23
        refine aw_icmp_le C 111 dX7_run_82 (by decide) (fun c14 => ?_) (fun c14 => ?_)
        · rw [if_pos c14] at h
          have e9 := inj1 h
          subst e9
          exact aw_sub [0, 1, 2, 3, 4, 5] rfl kj82
        · rw [if_neg c14] at h
          refine aw_aload_n C 0 dX7_run_85 rfl rfl ?_
          refine aw_dup C dX7_run_86 rfl ?_
          obtain ⟨v15, hv15, h⟩ := bindE h
          refine aw_gI C fl_X7_28 rfl hv15 dX7_run_87 ?_
          refine aw_aload_n C 0 dX7_run_90 rfl rfl ?_
          obtain ⟨v16, hv16, h⟩ := bindE h
          refine aw_gR C fl_X7_13 rfl hv16 dX7_run_91 ?_
          refine aw_iload_n C 3 dX7_run_94 rfl rfl ?_
          refine aw_aload_n C 0 dX7_run_95 rfl rfl ?_
          obtain ⟨v17, hv17, h⟩ := bindE h
          refine aw_gR C fl_X7_7 rfl hv17 dX7_run_96 ?_
          obtain ⟨v18, hv18, h⟩ := bindE h
          refine aw_gR C fl_X7_51 rfl hv18 dX7_run_99 ?_
          refine aw_iconst C 0 dX7_run_102 (by decide) ?_
          obtain ⟨v19, hv19, h⟩ := bindE h
          refine aw_aR C (by decide) (ty := .array .int) rfl rfl hv19 dX7_run_103 ?_
          obtain ⟨g20, hg20, h⟩ := bindE h
          obtain ⟨v21, hv21, h⟩ := bindE h
          refine aw_cV_I C [.int x3, .ref (gZ G + v19)] _ (mt_X8_lossBy hv21) cs_X8_lossBy ml_X7_55 im_X8_lossBy se_X8_lossBy (ci := 8) rfl rfl hg20 ⟨by decide, by decide⟩ ⟨rfl, rfl⟩ ⟨Nat.zero_le _, Nat.zero_le _⟩ rfl rfl (Nat.le_of_ble_eq_true rfl) dX7_run_104 ?_
          refine aw_iadd C dX7_run_107 ?_
          obtain ⟨μ22, hμ22, h⟩ := bindE h
          refine aw_pI C fl_X7_28 rfl hμ22 dX7_run_108 ?_
          have e9 := inj1 h
          subst e9
          exact aw_sub [0, 1, 2, 3, 4, 5] rfl kj82
      clear h
      refine aw_icmp_lt C 72 dX7_run_65 (by decide) (fun c9 => ?_) (fun c9 => ?_)
      · refine aw_iconst C 0 dX7_run_72 (by decide) ?_
        rw [if_pos c9] at ev10
        subst ev10
        exact aw_sub [1, 2, 3, 4, 5, 6, 0] rfl kj65
      · refine aw_iconst C 1 dX7_run_68 (by decide) ?_
        refine aw_goto C 73 dX7_run_69 (by decide) ?_
        rw [if_neg c9] at ev10
        subst ev10
        exact aw_sub [1, 2, 3, 4, 5, 6, 0] rfl kj65
def X7_run_L120 (a0 : Nat) (x1 : Int32) (x4 : Int32) : Nat → Int32 → Mem → Option (Int32 × Mem)
  | 0, _, _ => none
  | n + 1, x5, μ =>
      (gR 7 6 a0 μ).bind fun v1 =>
      (gI 0 2 v1 μ).bind fun v2 =>
      if v2 ≤ x5 then
      some ((x5, μ))
      else
      (vO 7 a0 μ).bind fun g4 =>
      (X7_isLeft a0 x5 x1 μ).bind fun v5 =>
      ((if v5 = 0 then
      some μ
      else
      (gR 7 6 a0 μ).bind fun v7 =>
      (gR 0 0 v7 μ).bind fun v8 =>
      (aR 6 v8 x5 μ).bind fun v9 =>
      (gI 6 6 v9 μ).bind fun v10 =>
      if x4 ≤ v10 then
      some μ
      else
      (gI 7 0 a0 μ).bind fun v12 =>
      (pI 7 0 a0 (v12 + 1) μ).bind fun μ13 =>
      some μ13) : Option (Mem)).bind fun z14 =>
      X7_run_L120 a0 x1 x4 n (x5 + 1) z14
set_option maxRecDepth 100000 in
set_option maxHeartbeats 4000000 in
theorem X7_run_L120_ok {G : GL} {X : CX} (C : Ctx G X cX7_run 7 RX7 rm_X7_run) (a0 : Nat) (x1 : Int32) (x4 : Int32) : ∀ (n : Nat) (x5 : Int32) (μ : Mem) (z : Int32 × Mem), X7_run_L120 a0 x1 x4 n x5 μ = some z → AW G 7 X 0 0 176 [(0, .ref (gZ G + a0)), (1, .int x1), (4, .int x4), (5, .int z.1)] [] z.2 → AW G 7 X 0 0 120 [(0, .ref (gZ G + a0)), (1, .int x1), (4, .int x4), (5, .int x5)] [] μ := by
  intro n
  induction n with
  | zero =>
    intro x5 μ z h kx
    rw [X7_run_L120] at h
    cases h
  | succ n ih =>
    intro x5 μ z h kx
    rw [X7_run_L120] at h
    refine aw_iload C 3 dX7_run_120 rfl ?_
    refine aw_aload_n C 0 dX7_run_122 rfl rfl ?_
    obtain ⟨v1, hv1, h⟩ := bindE h
    refine aw_gR C fl_X7_17 rfl hv1 dX7_run_123 ?_
    obtain ⟨v2, hv2, h⟩ := bindE h
    refine aw_gI C fl_X7_61 rfl hv2 dX7_run_126 ?_
    refine aw_icmp_ge C 176 dX7_run_129 (by decide) (fun c3 => ?_) (fun c3 => ?_)
    · rw [if_pos c3] at h
      have e9 := inj1 h
      subst e9
      exact aw_sub [0, 1, 2, 3] rfl kx
    · rw [if_neg c3] at h
      refine aw_aload_n C 0 dX7_run_132 rfl rfl ?_
      refine aw_iload C 3 dX7_run_133 rfl ?_
      refine aw_iload_n C 1 dX7_run_135 rfl rfl ?_
      obtain ⟨g4, hg4, h⟩ := bindE h
      obtain ⟨v5, hv5, h⟩ := bindE h
      refine aw_cV_I C [.int x5, .int x1] _ (mt_X7_isLeft hv5) cs_X7_isLeft ml_X7_66 im_X7_isLeft se_X7_isLeft (ci := 7) rfl rfl hg4 ⟨by decide, by decide⟩ ⟨rfl, rfl⟩ ⟨Nat.zero_le _, Nat.zero_le _⟩ rfl rfl (Nat.le_of_ble_eq_true rfl) dX7_run_136 ?_
      obtain ⟨z14, hz14, h⟩ := bindE h
      have kj139 : AW G 7 X 0 0 170 [(0, .ref (gZ G + a0)), (1, .int x1), (4, .int x4), (5, .int x5)] [] z14 := by
        refine aw_iinc C (x5 + 1) 3 [(5, .int (x5 + 1)), (0, .ref (gZ G + a0)), (1, .int x1), (4, .int x4)] dX7_run_170 rfl rfl (by decide) rfl ?_
        refine aw_goto C 120 dX7_run_173 (by decide) ?_
        exact aw_sub [1, 2, 3, 0] rfl (ih _ _ _ h kx)
      replace h := hz14
      refine aw_if_eq C 170 dX7_run_139 (by decide) (fun c6 => ?_) (fun c6 => ?_)
      · rw [if_pos c6] at h
        have e9 := inj1 h
        subst e9
        exact aw_sub [0, 1, 2, 3] rfl kj139
      · rw [if_neg c6] at h
        refine aw_aload_n C 0 dX7_run_142 rfl rfl ?_
        obtain ⟨v7, hv7, h⟩ := bindE h
        refine aw_gR C fl_X7_17 rfl hv7 dX7_run_143 ?_
        obtain ⟨v8, hv8, h⟩ := bindE h
        refine aw_gR C fl_X7_70 rfl hv8 dX7_run_146 ?_
        refine aw_iload C 3 dX7_run_149 rfl ?_
        obtain ⟨v9, hv9, h⟩ := bindE h
        refine aw_aR C (by decide) (ty := .object RX6) rfl rfl hv9 dX7_run_151 ?_
        obtain ⟨v10, hv10, h⟩ := bindE h
        refine aw_gI C fl_X7_74 rfl hv10 dX7_run_152 ?_
        refine aw_iload C 2 dX7_run_155 rfl ?_
        refine aw_icmp_ge C 170 dX7_run_157 (by decide) (fun c11 => ?_) (fun c11 => ?_)
        · rw [if_pos c11] at h
          have e9 := inj1 h
          subst e9
          exact aw_sub [0, 1, 2, 3] rfl kj139
        · rw [if_neg c11] at h
          refine aw_aload_n C 0 dX7_run_160 rfl rfl ?_
          refine aw_dup C dX7_run_161 rfl ?_
          obtain ⟨v12, hv12, h⟩ := bindE h
          refine aw_gI C fl_X7_21 rfl hv12 dX7_run_162 ?_
          refine aw_iconst C 1 dX7_run_165 (by decide) ?_
          refine aw_iadd C dX7_run_166 ?_
          obtain ⟨μ13, hμ13, h⟩ := bindE h
          refine aw_pI C fl_X7_21 rfl hμ13 dX7_run_167 ?_
          have e9 := inj1 h
          subst e9
          exact aw_sub [0, 1, 2, 3] rfl kj139
def X7_run (a0 : Nat) (x1 : Int32) (x2 : Int32) (x3 : Int32) (x4 : Int32) (μ : Mem) : Option Mem :=
  (pI 7 0 a0 0 μ).bind fun μ1 =>
  (pI 7 1 a0 0 μ1).bind fun μ2 =>
  (pI 7 2 a0 0 μ2).bind fun μ3 =>
  (pI 7 3 a0 0 μ3).bind fun μ4 =>
  (pI 7 7 a0 0 μ4).bind fun μ5 =>
  (X7_run_L28 a0 x1 x2 x3 x4 FU 0 μ5).bind fun z6 =>
  (X7_run_L120 a0 x1 x4 FU 0 z6.2).bind fun z7 =>
  some z7.2
set_option maxRecDepth 100000 in
set_option maxHeartbeats 4000000 in
theorem wk_X7_run {G : GL} {X : CX} {a0 : Nat} {x1 : Int32} {x2 : Int32} {x3 : Int32} {x4 : Int32} {μ : Mem} {μ' : Mem} (C : Ctx G X cX7_run 7 RX7 rm_X7_run) (h : X7_run a0 x1 x2 x3 x4 μ = some μ') (hret : RtV G 7 X cX7_run 0 0 μ') : AW G 7 X 0 0 0 [(0, .ref (gZ G + a0)), (1, .int x1), (2, .int x2), (3, .int x3), (4, .int x4)] [] μ := by
  unfold X7_run at h
  refine aw_aload_n C 0 dX7_run_0 rfl rfl ?_
  refine aw_iconst C 0 dX7_run_1 (by decide) ?_
  obtain ⟨μ1, hμ1, h⟩ := bindE h
  refine aw_pI C fl_X7_21 rfl hμ1 dX7_run_2 ?_
  refine aw_aload_n C 0 dX7_run_5 rfl rfl ?_
  refine aw_iconst C 0 dX7_run_6 (by decide) ?_
  obtain ⟨μ2, hμ2, h⟩ := bindE h
  refine aw_pI C fl_X7_25 rfl hμ2 dX7_run_7 ?_
  refine aw_aload_n C 0 dX7_run_10 rfl rfl ?_
  refine aw_iconst C 0 dX7_run_11 (by decide) ?_
  obtain ⟨μ3, hμ3, h⟩ := bindE h
  refine aw_pI C fl_X7_28 rfl hμ3 dX7_run_12 ?_
  refine aw_aload_n C 0 dX7_run_15 rfl rfl ?_
  refine aw_iconst C 0 dX7_run_16 (by decide) ?_
  obtain ⟨μ4, hμ4, h⟩ := bindE h
  refine aw_pI C fl_X7_31 rfl hμ4 dX7_run_17 ?_
  refine aw_aload_n C 0 dX7_run_20 rfl rfl ?_
  refine aw_iconst C 0 dX7_run_21 (by decide) ?_
  obtain ⟨μ5, hμ5, h⟩ := bindE h
  refine aw_pI C fl_X7_34 rfl hμ5 dX7_run_22 ?_
  refine aw_iconst C 0 dX7_run_25 (by decide) ?_
  refine aw_istore C [(5, .int 0), (0, .ref (gZ G + a0)), (1, .int x1), (2, .int x2), (3, .int x3), (4, .int x4)] dX7_run_26 (by decide) rfl ?_
  obtain ⟨z6, hz6, h⟩ := bindE h
  refine aw_sub [1, 2, 3, 4, 5, 0] rfl ?_
  refine X7_run_L28_ok C _ _ _ _ _ _ _ _ _ hz6 ?_
  refine aw_iconst C 0 dX7_run_117 (by decide) ?_
  refine aw_istore C [(5, .int 0), (0, .ref (gZ G + a0)), (1, .int x1), (2, .int x2), (3, .int x3), (4, .int x4)] dX7_run_118 (by decide) rfl ?_
  obtain ⟨z7, hz7, h⟩ := bindE h
  refine aw_sub [1, 2, 5, 0] rfl ?_
  refine X7_run_L120_ok C _ _ _ _ _ _ _ hz7 ?_
  have e9 := inj1 h
  subst e9
  exact hret _ _ dX7_run_176
set_option maxRecDepth 100000 in
set_option maxHeartbeats 4000000 in
theorem mt_X7_run {G : GL} {l : Launch} {a0 : Nat} {x1 : Int32} {x2 : Int32} {x3 : Int32} {x4 : Int32} {μ : Mem} {μ' : Mem} (h : X7_run a0 x1 x2 x3 x4 μ = some μ') : MtV G l yX7_run cX7_run 7 none rm_X7_run false [.ref (gZ G + a0), .int x1, .int x2, .int x3, .int x4] μ μ' := met_V (by decide) rfl (Nat.le_of_ble_eq_true rfl) (fun X _ C _ _ hret => wk_X7_run C h hret)
def X9_fittingRows (a0 : Nat) (x1 : Int32) (x2 : Int32) (μ : Mem) : Option (Int32 × Mem) :=
  (vO 9 a0 μ).bind fun g1 =>
  (X9_weigh a0 x1 x2 1 μ).bind fun μ2 =>
  (vO 9 a0 μ2).bind fun g3 =>
  (X9_allWeights a0 μ2).bind fun v4 =>
  some (v4.toInt32, μ2)
set_option maxRecDepth 100000 in
set_option maxHeartbeats 4000000 in
theorem wk_X9_fittingRows {G : GL} {X : CX} {a0 : Nat} {x1 : Int32} {x2 : Int32} {μ : Mem} {r : Int32} {μ' : Mem} (C : Ctx G X cX9_fittingRows 3 RX9 rm_X9_fittingRows) (h : X9_fittingRows a0 x1 x2 μ = some (r, μ')) (hret : RtI G 3 X cX9_fittingRows 0 0 r μ') : AW G 3 X 0 0 0 [(0, .ref (gZ G + a0)), (1, .int x1), (2, .int x2)] [] μ := by
  unfold X9_fittingRows at h
  refine aw_aload_n C 0 dX9_fittingRows_0 rfl rfl ?_
  refine aw_iload_n C 1 dX9_fittingRows_1 rfl rfl ?_
  refine aw_iload_n C 2 dX9_fittingRows_2 rfl rfl ?_
  refine aw_iconst C 1 dX9_fittingRows_3 (by decide) ?_
  obtain ⟨g1, hg1, h⟩ := bindE h
  obtain ⟨μ2, hμ2, h⟩ := bindE h
  refine aw_cV_V C [.int x1, .int x2, .int 1] _ (mt_X9_weigh hμ2) cs_X9_weigh ml_X9_36 im_X9_weigh se_X9_weigh (ci := 9) rfl rfl hg1 ⟨by decide, by decide⟩ ⟨rfl, rfl⟩ ⟨Nat.zero_le _, Nat.zero_le _⟩ rfl rfl (Nat.le_of_ble_eq_true rfl) dX9_fittingRows_4 ?_
  refine aw_aload_n C 0 dX9_fittingRows_7 rfl rfl ?_
  obtain ⟨g3, hg3, h⟩ := bindE h
  obtain ⟨v4, hv4, h⟩ := bindE h
  refine aw_cV_J C [] _ (mt_X9_allWeights hv4) cs_X9_allWeights ml_X9_40 im_X9_allWeights se_X9_allWeights (ci := 9) rfl rfl hg3 ⟨by decide, by decide⟩ ⟨rfl, rfl⟩ ⟨Nat.zero_le _, Nat.zero_le _⟩ rfl rfl (Nat.le_of_ble_eq_true rfl) dX9_fittingRows_8 ?_
  refine aw_l2i C dX9_fittingRows_11 ?_
  obtain ⟨e8, e9⟩ := inj2 h
  subst e8
  subst e9
  exact hret _ _ dX9_fittingRows_12
set_option maxRecDepth 100000 in
set_option maxHeartbeats 4000000 in
theorem mt_X9_fittingRows {G : GL} {l : Launch} {a0 : Nat} {x1 : Int32} {x2 : Int32} {μ : Mem} {r : Int32} {μ' : Mem} (h : X9_fittingRows a0 x1 x2 μ = some (r, μ')) : MtI G l yX9_fittingRows cX9_fittingRows 3 (some .int) rm_X9_fittingRows false [.ref (gZ G + a0), .int x1, .int x2] μ r μ' := met_I (by decide) rfl rfl (Nat.le_of_ble_eq_true rfl) (fun X _ C _ _ hret => wk_X9_fittingRows C h hret)
def X10_isState (x0 : Int32) : Int32 :=
  X10_within x0 0 3
set_option maxRecDepth 100000 in
set_option maxHeartbeats 4000000 in
theorem wk_X10_isState {G : GL} {X : CX} {x0 : Int32} {μ : Mem} (C : Ctx G X cX10_isState 1 RX10 rm_X10_isState) (hret : RtZ G 1 X cX10_isState 0 0 (X10_isState x0) μ) : AW G 1 X 0 0 0 [(0, .int x0)] [] μ := by
  unfold X10_isState at hret
  refine aw_iload_n C 0 dX10_isState_0 rfl rfl ?_
  refine aw_iconst C 0 dX10_isState_1 (by decide) ?_
  refine aw_iconst C 3 dX10_isState_2 (by decide) ?_
  refine aw_cS_I C [.int x0, .int 0, .int 3] _ (mt_X10_within _ _ _) cs_X10_within ml_X10_90 st_X10_within ⟨by decide, by decide⟩ ⟨rfl, rfl⟩ ⟨Nat.zero_le _, Nat.zero_le _⟩ rfl rfl (Nat.le_of_ble_eq_true rfl) dX10_isState_3 ?_
  exact hret _ _ dX10_isState_6 (z_X10_within _ _ _)
set_option maxRecDepth 100000 in
set_option maxHeartbeats 4000000 in
theorem mt_X10_isState {G : GL} {l : Launch} (x0 : Int32) {μ : Mem} : MtI G l yX10_isState cX10_isState 1 (some .boolean) rm_X10_isState false [.int x0] μ (X10_isState x0) μ := met_Z (by decide) rfl (Nat.le_of_ble_eq_true rfl) (fun X _ C _ _ hret => wk_X10_isState C hret)
theorem z_X10_isState (x0 : Int32) : X10_isState x0 = 0 ∨ X10_isState x0 = 1 := by
  unfold X10_isState
  exact z_X10_within _ _ _
def X10_isOften (x0 : Int32) : Int32 :=
  X10_within x0 0 4
set_option maxRecDepth 100000 in
set_option maxHeartbeats 4000000 in
theorem wk_X10_isOften {G : GL} {X : CX} {x0 : Int32} {μ : Mem} (C : Ctx G X cX10_isOften 1 RX10 rm_X10_isOften) (hret : RtZ G 1 X cX10_isOften 0 0 (X10_isOften x0) μ) : AW G 1 X 0 0 0 [(0, .int x0)] [] μ := by
  unfold X10_isOften at hret
  refine aw_iload_n C 0 dX10_isOften_0 rfl rfl ?_
  refine aw_iconst C 0 dX10_isOften_1 (by decide) ?_
  refine aw_iconst C 4 dX10_isOften_2 (by decide) ?_
  refine aw_cS_I C [.int x0, .int 0, .int 4] _ (mt_X10_within _ _ _) cs_X10_within ml_X10_90 st_X10_within ⟨by decide, by decide⟩ ⟨rfl, rfl⟩ ⟨Nat.zero_le _, Nat.zero_le _⟩ rfl rfl (Nat.le_of_ble_eq_true rfl) dX10_isOften_3 ?_
  exact hret _ _ dX10_isOften_6 (z_X10_within _ _ _)
set_option maxRecDepth 100000 in
set_option maxHeartbeats 4000000 in
theorem mt_X10_isOften {G : GL} {l : Launch} (x0 : Int32) {μ : Mem} : MtI G l yX10_isOften cX10_isOften 1 (some .boolean) rm_X10_isOften false [.int x0] μ (X10_isOften x0) μ := met_Z (by decide) rfl (Nat.le_of_ble_eq_true rfl) (fun X _ C _ _ hret => wk_X10_isOften C hret)
theorem z_X10_isOften (x0 : Int32) : X10_isOften x0 = 0 ∨ X10_isOften x0 = 1 := by
  unfold X10_isOften
  exact z_X10_within _ _ _
def X10_exchange (a0 : Nat) (x1 : Int32) (x2 : Int32) (μ : Mem) : Option (Int32 × Mem) :=
  if x1 < 0 then
  some ((-1002), μ)
  else
  (aL a0 μ).bind fun v2 =>
  if x1 < v2 then
  (aI a0 x1 μ).bind fun v4 =>
  (sI a0 x1 x2 μ).bind fun μ5 =>
  some (v4, μ5)
  else
  some ((-1002), μ)
set_option maxRecDepth 100000 in
set_option maxHeartbeats 4000000 in
theorem wk_X10_exchange {G : GL} {X : CX} {a0 : Nat} {x1 : Int32} {x2 : Int32} {μ : Mem} {r : Int32} {μ' : Mem} (C : Ctx G X cX10_exchange 4 RX10 rm_X10_exchange) (h : X10_exchange a0 x1 x2 μ = some (r, μ')) (hret : RtI G 4 X cX10_exchange 0 0 r μ') : AW G 4 X 0 0 0 [(0, .ref (gZ G + a0)), (1, .int x1), (2, .int x2)] [] μ := by
  unfold X10_exchange at h
  refine aw_iload_n C 1 dX10_exchange_0 rfl rfl ?_
  refine aw_if_lt C 10 dX10_exchange_1 (by decide) (fun c1 => ?_) (fun c1 => ?_)
  · rw [if_pos c1] at h
    refine aw_sipush C ((-1002)) dX10_exchange_10 (by decide) ?_
    obtain ⟨e8, e9⟩ := inj2 h
    subst e8
    subst e9
    exact hret _ _ dX10_exchange_13
  · rw [if_neg c1] at h
    refine aw_iload_n C 1 dX10_exchange_4 rfl rfl ?_
    refine aw_aload_n C 0 dX10_exchange_5 rfl rfl ?_
    obtain ⟨v2, hv2, h⟩ := bindE h
    refine aw_aL C hv2 dX10_exchange_6 ?_
    refine aw_icmp_lt C 14 dX10_exchange_7 (by decide) (fun c3 => ?_) (fun c3 => ?_)
    · rw [if_pos c3] at h
      refine aw_aload_n C 0 dX10_exchange_14 rfl rfl ?_
      refine aw_iload_n C 1 dX10_exchange_15 rfl rfl ?_
      obtain ⟨v4, hv4, h⟩ := bindE h
      refine aw_aI C hv4 dX10_exchange_16 ?_
      refine aw_istore_n C [(3, .int v4), (0, .ref (gZ G + a0)), (1, .int x1), (2, .int x2)] dX10_exchange_17 rfl (by decide) rfl ?_
      refine aw_aload_n C 1 dX10_exchange_18 rfl rfl ?_
      refine aw_iload_n C 2 dX10_exchange_19 rfl rfl ?_
      refine aw_iload_n C 3 dX10_exchange_20 rfl rfl ?_
      obtain ⟨μ5, hμ5, h⟩ := bindE h
      refine aw_sI C hμ5 dX10_exchange_21 ?_
      refine aw_iload_n C 0 dX10_exchange_22 rfl rfl ?_
      obtain ⟨e8, e9⟩ := inj2 h
      subst e8
      subst e9
      exact hret _ _ dX10_exchange_23
    · rw [if_neg c3] at h
      refine aw_sipush C ((-1002)) dX10_exchange_10 (by decide) ?_
      obtain ⟨e8, e9⟩ := inj2 h
      subst e8
      subst e9
      exact hret _ _ dX10_exchange_13
set_option maxRecDepth 100000 in
set_option maxHeartbeats 4000000 in
theorem mt_X10_exchange {G : GL} {l : Launch} {a0 : Nat} {x1 : Int32} {x2 : Int32} {μ : Mem} {r : Int32} {μ' : Mem} (h : X10_exchange a0 x1 x2 μ = some (r, μ')) : MtI G l yX10_exchange cX10_exchange 4 (some .int) rm_X10_exchange false [.ref (gZ G + a0), .int x1, .int x2] μ r μ' := met_I (by decide) rfl rfl (Nat.le_of_ble_eq_true rfl) (fun X _ C _ _ hret => wk_X10_exchange C h hret)
def X10_move (a0 : Nat) (x1 : Int32) (x2 : Int32) (x3 : Int32) (μ : Mem) : Option (Int32 × Mem) :=
  if (X10_isState x1) = 0 then
  some ((-1002), μ)
  else
  if (X10_isState x2) = 0 then
  some ((-1002), μ)
  else
  if (X10_isOften x3) = 0 then
  some ((-1002), μ)
  else
  (gR 10 0 a0 μ).bind fun v4 =>
  (gR 9 0 v4 μ).bind fun v5 =>
  (aR 7 v5 x1 μ).bind fun v6 =>
  (X10_exchange v6 x2 x3 μ).bind fun z7 =>
  some (z7.1, z7.2)
set_option maxRecDepth 100000 in
set_option maxHeartbeats 4000000 in
theorem wk_X10_move {G : GL} {X : CX} {a0 : Nat} {x1 : Int32} {x2 : Int32} {x3 : Int32} {μ : Mem} {r : Int32} {μ' : Mem} (C : Ctx G X cX10_move 4 RX10 rm_X10_move) (h : X10_move a0 x1 x2 x3 μ = some (r, μ')) (hret : RtI G 4 X cX10_move 0 0 r μ') : AW G 4 X 0 0 0 [(0, .ref (gZ G + a0)), (1, .int x1), (2, .int x2), (3, .int x3)] [] μ := by
  unfold X10_move at h
  refine aw_iload_n C 1 dX10_move_0 rfl rfl ?_
  refine aw_cS_I C [.int x1] _ (mt_X10_isState _) cs_X10_isState ml_X10_75 st_X10_isState ⟨by decide, by decide⟩ ⟨rfl, rfl⟩ ⟨Nat.zero_le _, Nat.zero_le _⟩ rfl rfl (Nat.le_of_ble_eq_true rfl) dX10_move_1 ?_
  refine aw_if_eq C 21 dX10_move_4 (by decide) (fun c1 => ?_) (fun c1 => ?_)
  · rw [if_pos c1] at h
    refine aw_sipush C ((-1002)) dX10_move_21 (by decide) ?_
    obtain ⟨e8, e9⟩ := inj2 h
    subst e8
    subst e9
    exact hret _ _ dX10_move_24
  · rw [if_neg c1] at h
    refine aw_iload_n C 2 dX10_move_7 rfl rfl ?_
    refine aw_cS_I C [.int x2] _ (mt_X10_isState _) cs_X10_isState ml_X10_75 st_X10_isState ⟨by decide, by decide⟩ ⟨rfl, rfl⟩ ⟨Nat.zero_le _, Nat.zero_le _⟩ rfl rfl (Nat.le_of_ble_eq_true rfl) dX10_move_8 ?_
    refine aw_if_eq C 21 dX10_move_11 (by decide) (fun c2 => ?_) (fun c2 => ?_)
    · rw [if_pos c2] at h
      refine aw_sipush C ((-1002)) dX10_move_21 (by decide) ?_
      obtain ⟨e8, e9⟩ := inj2 h
      subst e8
      subst e9
      exact hret _ _ dX10_move_24
    · rw [if_neg c2] at h
      refine aw_iload_n C 3 dX10_move_14 rfl rfl ?_
      refine aw_cS_I C [.int x3] _ (mt_X10_isOften _) cs_X10_isOften ml_X10_79 st_X10_isOften ⟨by decide, by decide⟩ ⟨rfl, rfl⟩ ⟨Nat.zero_le _, Nat.zero_le _⟩ rfl rfl (Nat.le_of_ble_eq_true rfl) dX10_move_15 ?_
      refine aw_if_ne C 25 dX10_move_18 (by decide) (fun c3 => ?_) (fun c3 => ?_)
      · rw [if_neg c3] at h
        refine aw_aload_n C 0 dX10_move_25 rfl rfl ?_
        obtain ⟨v4, hv4, h⟩ := bindE h
        refine aw_gR C fl_X10_12 rfl hv4 dX10_move_26 ?_
        obtain ⟨v5, hv5, h⟩ := bindE h
        refine aw_gR C fl_X10_82 rfl hv5 dX10_move_29 ?_
        refine aw_iload_n C 1 dX10_move_32 rfl rfl ?_
        obtain ⟨v6, hv6, h⟩ := bindE h
        refine aw_aR C (by decide) (ty := .array .int) rfl rfl hv6 dX10_move_33 ?_
        refine aw_iload_n C 2 dX10_move_34 rfl rfl ?_
        refine aw_iload_n C 3 dX10_move_35 rfl rfl ?_
        obtain ⟨z7, hz7, h⟩ := bindE h
        refine aw_cS_I C [.ref (gZ G + v6), .int x2, .int x3] _ (mt_X10_exchange hz7) cs_X10_exchange ml_X10_86 st_X10_exchange ⟨by decide, by decide⟩ ⟨rfl, rfl⟩ ⟨Nat.zero_le _, Nat.zero_le _⟩ rfl rfl (Nat.le_of_ble_eq_true rfl) dX10_move_36 ?_
        obtain ⟨e8, e9⟩ := inj2 h
        subst e8
        subst e9
        exact hret _ _ dX10_move_39
      · rw [if_pos c3] at h
        refine aw_sipush C ((-1002)) dX10_move_21 (by decide) ?_
        obtain ⟨e8, e9⟩ := inj2 h
        subst e8
        subst e9
        exact hret _ _ dX10_move_24
set_option maxRecDepth 100000 in
set_option maxHeartbeats 4000000 in
theorem mt_X10_move {G : GL} {l : Launch} {a0 : Nat} {x1 : Int32} {x2 : Int32} {x3 : Int32} {μ : Mem} {r : Int32} {μ' : Mem} (h : X10_move a0 x1 x2 x3 μ = some (r, μ')) : MtI G l yX10_move cX10_move 4 (some .int) rm_X10_move false [.ref (gZ G + a0), .int x1, .int x2, .int x3] μ r μ' := met_I (by decide) rfl rfl (Nat.le_of_ble_eq_true rfl) (fun X _ C _ _ hret => wk_X10_move C h hret)
def X10_shows (a0 : Nat) (x1 : Int32) (x2 : Int32) (x3 : Int32) (μ : Mem) : Option (Int32 × Mem) :=
  if (X10_isState x1) = 0 then
  some ((-1002), μ)
  else
  if (X10_within x2 0 3) = 0 then
  some ((-1002), μ)
  else
  if (X10_isOften x3) = 0 then
  some ((-1002), μ)
  else
  (gR 10 0 a0 μ).bind fun v4 =>
  (gR 9 1 v4 μ).bind fun v5 =>
  (aR 7 v5 x1 μ).bind fun v6 =>
  (X10_exchange v6 x2 x3 μ).bind fun z7 =>
  some (z7.1, z7.2)
set_option maxRecDepth 100000 in
set_option maxHeartbeats 4000000 in
theorem wk_X10_shows {G : GL} {X : CX} {a0 : Nat} {x1 : Int32} {x2 : Int32} {x3 : Int32} {μ : Mem} {r : Int32} {μ' : Mem} (C : Ctx G X cX10_shows 4 RX10 rm_X10_shows) (h : X10_shows a0 x1 x2 x3 μ = some (r, μ')) (hret : RtI G 4 X cX10_shows 0 0 r μ') : AW G 4 X 0 0 0 [(0, .ref (gZ G + a0)), (1, .int x1), (2, .int x2), (3, .int x3)] [] μ := by
  unfold X10_shows at h
  refine aw_iload_n C 1 dX10_shows_0 rfl rfl ?_
  refine aw_cS_I C [.int x1] _ (mt_X10_isState _) cs_X10_isState ml_X10_75 st_X10_isState ⟨by decide, by decide⟩ ⟨rfl, rfl⟩ ⟨Nat.zero_le _, Nat.zero_le _⟩ rfl rfl (Nat.le_of_ble_eq_true rfl) dX10_shows_1 ?_
  refine aw_if_eq C 23 dX10_shows_4 (by decide) (fun c1 => ?_) (fun c1 => ?_)
  · rw [if_pos c1] at h
    refine aw_sipush C ((-1002)) dX10_shows_23 (by decide) ?_
    obtain ⟨e8, e9⟩ := inj2 h
    subst e8
    subst e9
    exact hret _ _ dX10_shows_26
  · rw [if_neg c1] at h
    refine aw_iload_n C 2 dX10_shows_7 rfl rfl ?_
    refine aw_iconst C 0 dX10_shows_8 (by decide) ?_
    refine aw_iconst C 3 dX10_shows_9 (by decide) ?_
    refine aw_cS_I C [.int x2, .int 0, .int 3] _ (mt_X10_within _ _ _) cs_X10_within ml_X10_90 st_X10_within ⟨by decide, by decide⟩ ⟨rfl, rfl⟩ ⟨Nat.zero_le _, Nat.zero_le _⟩ rfl rfl (Nat.le_of_ble_eq_true rfl) dX10_shows_10 ?_
    refine aw_if_eq C 23 dX10_shows_13 (by decide) (fun c2 => ?_) (fun c2 => ?_)
    · rw [if_pos c2] at h
      refine aw_sipush C ((-1002)) dX10_shows_23 (by decide) ?_
      obtain ⟨e8, e9⟩ := inj2 h
      subst e8
      subst e9
      exact hret _ _ dX10_shows_26
    · rw [if_neg c2] at h
      refine aw_iload_n C 3 dX10_shows_16 rfl rfl ?_
      refine aw_cS_I C [.int x3] _ (mt_X10_isOften _) cs_X10_isOften ml_X10_79 st_X10_isOften ⟨by decide, by decide⟩ ⟨rfl, rfl⟩ ⟨Nat.zero_le _, Nat.zero_le _⟩ rfl rfl (Nat.le_of_ble_eq_true rfl) dX10_shows_17 ?_
      refine aw_if_ne C 27 dX10_shows_20 (by decide) (fun c3 => ?_) (fun c3 => ?_)
      · rw [if_neg c3] at h
        refine aw_aload_n C 0 dX10_shows_27 rfl rfl ?_
        obtain ⟨v4, hv4, h⟩ := bindE h
        refine aw_gR C fl_X10_12 rfl hv4 dX10_shows_28 ?_
        obtain ⟨v5, hv5, h⟩ := bindE h
        refine aw_gR C fl_X10_94 rfl hv5 dX10_shows_31 ?_
        refine aw_iload_n C 1 dX10_shows_34 rfl rfl ?_
        obtain ⟨v6, hv6, h⟩ := bindE h
        refine aw_aR C (by decide) (ty := .array .int) rfl rfl hv6 dX10_shows_35 ?_
        refine aw_iload_n C 2 dX10_shows_36 rfl rfl ?_
        refine aw_iload_n C 3 dX10_shows_37 rfl rfl ?_
        obtain ⟨z7, hz7, h⟩ := bindE h
        refine aw_cS_I C [.ref (gZ G + v6), .int x2, .int x3] _ (mt_X10_exchange hz7) cs_X10_exchange ml_X10_86 st_X10_exchange ⟨by decide, by decide⟩ ⟨rfl, rfl⟩ ⟨Nat.zero_le _, Nat.zero_le _⟩ rfl rfl (Nat.le_of_ble_eq_true rfl) dX10_shows_38 ?_
        obtain ⟨e8, e9⟩ := inj2 h
        subst e8
        subst e9
        exact hret _ _ dX10_shows_41
      · rw [if_pos c3] at h
        refine aw_sipush C ((-1002)) dX10_shows_23 (by decide) ?_
        obtain ⟨e8, e9⟩ := inj2 h
        subst e8
        subst e9
        exact hret _ _ dX10_shows_26
set_option maxRecDepth 100000 in
set_option maxHeartbeats 4000000 in
theorem mt_X10_shows {G : GL} {l : Launch} {a0 : Nat} {x1 : Int32} {x2 : Int32} {x3 : Int32} {μ : Mem} {r : Int32} {μ' : Mem} (h : X10_shows a0 x1 x2 x3 μ = some (r, μ')) : MtI G l yX10_shows cX10_shows 4 (some .int) rm_X10_shows false [.ref (gZ G + a0), .int x1, .int x2, .int x3] μ r μ' := met_I (by decide) rfl rfl (Nat.le_of_ble_eq_true rfl) (fun X _ C _ _ hret => wk_X10_shows C h hret)
def X10_begins (a0 : Nat) (x1 : Int32) (x2 : Int32) (μ : Mem) : Option (Int32 × Mem) :=
  if (X10_isState x1) = 0 then
  some ((-1002), μ)
  else
  if (X10_isOften x2) = 0 then
  some ((-1002), μ)
  else
  (gR 10 0 a0 μ).bind fun v3 =>
  (gR 9 2 v3 μ).bind fun v4 =>
  (X10_exchange v4 x1 x2 μ).bind fun z5 =>
  some (z5.1, z5.2)
set_option maxRecDepth 100000 in
set_option maxHeartbeats 4000000 in
theorem wk_X10_begins {G : GL} {X : CX} {a0 : Nat} {x1 : Int32} {x2 : Int32} {μ : Mem} {r : Int32} {μ' : Mem} (C : Ctx G X cX10_begins 3 RX10 rm_X10_begins) (h : X10_begins a0 x1 x2 μ = some (r, μ')) (hret : RtI G 3 X cX10_begins 0 0 r μ') : AW G 3 X 0 0 0 [(0, .ref (gZ G + a0)), (1, .int x1), (2, .int x2)] [] μ := by
  unfold X10_begins at h
  refine aw_iload_n C 1 dX10_begins_0 rfl rfl ?_
  refine aw_cS_I C [.int x1] _ (mt_X10_isState _) cs_X10_isState ml_X10_75 st_X10_isState ⟨by decide, by decide⟩ ⟨rfl, rfl⟩ ⟨Nat.zero_le _, Nat.zero_le _⟩ rfl rfl (Nat.le_of_ble_eq_true rfl) dX10_begins_1 ?_
  refine aw_if_eq C 14 dX10_begins_4 (by decide) (fun c1 => ?_) (fun c1 => ?_)
  · rw [if_pos c1] at h
    refine aw_sipush C ((-1002)) dX10_begins_14 (by decide) ?_
    obtain ⟨e8, e9⟩ := inj2 h
    subst e8
    subst e9
    exact hret _ _ dX10_begins_17
  · rw [if_neg c1] at h
    refine aw_iload_n C 2 dX10_begins_7 rfl rfl ?_
    refine aw_cS_I C [.int x2] _ (mt_X10_isOften _) cs_X10_isOften ml_X10_79 st_X10_isOften ⟨by decide, by decide⟩ ⟨rfl, rfl⟩ ⟨Nat.zero_le _, Nat.zero_le _⟩ rfl rfl (Nat.le_of_ble_eq_true rfl) dX10_begins_8 ?_
    refine aw_if_ne C 18 dX10_begins_11 (by decide) (fun c2 => ?_) (fun c2 => ?_)
    · rw [if_neg c2] at h
      refine aw_aload_n C 0 dX10_begins_18 rfl rfl ?_
      obtain ⟨v3, hv3, h⟩ := bindE h
      refine aw_gR C fl_X10_12 rfl hv3 dX10_begins_19 ?_
      obtain ⟨v4, hv4, h⟩ := bindE h
      refine aw_gR C fl_X10_97 rfl hv4 dX10_begins_22 ?_
      refine aw_iload_n C 1 dX10_begins_25 rfl rfl ?_
      refine aw_iload_n C 2 dX10_begins_26 rfl rfl ?_
      obtain ⟨z5, hz5, h⟩ := bindE h
      refine aw_cS_I C [.ref (gZ G + v4), .int x1, .int x2] _ (mt_X10_exchange hz5) cs_X10_exchange ml_X10_86 st_X10_exchange ⟨by decide, by decide⟩ ⟨rfl, rfl⟩ ⟨Nat.zero_le _, Nat.zero_le _⟩ rfl rfl (Nat.le_of_ble_eq_true rfl) dX10_begins_27 ?_
      obtain ⟨e8, e9⟩ := inj2 h
      subst e8
      subst e9
      exact hret _ _ dX10_begins_30
    · rw [if_pos c2] at h
      refine aw_sipush C ((-1002)) dX10_begins_14 (by decide) ?_
      obtain ⟨e8, e9⟩ := inj2 h
      subst e8
      subst e9
      exact hret _ _ dX10_begins_17
set_option maxRecDepth 100000 in
set_option maxHeartbeats 4000000 in
theorem mt_X10_begins {G : GL} {l : Launch} {a0 : Nat} {x1 : Int32} {x2 : Int32} {μ : Mem} {r : Int32} {μ' : Mem} (h : X10_begins a0 x1 x2 μ = some (r, μ')) : MtI G l yX10_begins cX10_begins 3 (some .int) rm_X10_begins false [.ref (gZ G + a0), .int x1, .int x2] μ r μ' := met_I (by decide) rfl rfl (Nat.le_of_ble_eq_true rfl) (fun X _ C _ _ hret => wk_X10_begins C h hret)
def X10_seams (a0 : Nat) (x1 : Int32) (μ : Mem) : Option (Int32 × Mem) :=
  if (X10_within x1 0 15) = 0 then
  some ((-1002), μ)
  else
  (gR 10 0 a0 μ).bind fun v2 =>
  (gI 9 5 v2 μ).bind fun v3 =>
  (gR 10 0 a0 μ).bind fun v4 =>
  (pI 9 5 v4 x1 μ).bind fun μ5 =>
  some (v3, μ5)
set_option maxRecDepth 100000 in
set_option maxHeartbeats 4000000 in
theorem wk_X10_seams {G : GL} {X : CX} {a0 : Nat} {x1 : Int32} {μ : Mem} {r : Int32} {μ' : Mem} (C : Ctx G X cX10_seams 3 RX10 rm_X10_seams) (h : X10_seams a0 x1 μ = some (r, μ')) (hret : RtI G 3 X cX10_seams 0 0 r μ') : AW G 3 X 0 0 0 [(0, .ref (gZ G + a0)), (1, .int x1)] [] μ := by
  unfold X10_seams at h
  refine aw_iload_n C 1 dX10_seams_0 rfl rfl ?_
  refine aw_iconst C 0 dX10_seams_1 (by decide) ?_
  refine aw_bipush C 15 dX10_seams_2 (by decide) ?_
  refine aw_cS_I C [.int x1, .int 0, .int 15] _ (mt_X10_within _ _ _) cs_X10_within ml_X10_90 st_X10_within ⟨by decide, by decide⟩ ⟨rfl, rfl⟩ ⟨Nat.zero_le _, Nat.zero_le _⟩ rfl rfl (Nat.le_of_ble_eq_true rfl) dX10_seams_4 ?_
  refine aw_if_ne C 14 dX10_seams_7 (by decide) (fun c1 => ?_) (fun c1 => ?_)
  · rw [if_neg c1] at h
    refine aw_aload_n C 0 dX10_seams_14 rfl rfl ?_
    obtain ⟨v2, hv2, h⟩ := bindE h
    refine aw_gR C fl_X10_12 rfl hv2 dX10_seams_15 ?_
    obtain ⟨v3, hv3, h⟩ := bindE h
    refine aw_gI C fl_X10_100 rfl hv3 dX10_seams_18 ?_
    refine aw_istore_n C [(2, .int v3), (0, .ref (gZ G + a0)), (1, .int x1)] dX10_seams_21 rfl (by decide) rfl ?_
    refine aw_aload_n C 1 dX10_seams_22 rfl rfl ?_
    obtain ⟨v4, hv4, h⟩ := bindE h
    refine aw_gR C fl_X10_12 rfl hv4 dX10_seams_23 ?_
    refine aw_iload_n C 2 dX10_seams_26 rfl rfl ?_
    obtain ⟨μ5, hμ5, h⟩ := bindE h
    refine aw_pI C fl_X10_100 rfl hμ5 dX10_seams_27 ?_
    refine aw_iload_n C 0 dX10_seams_30 rfl rfl ?_
    obtain ⟨e8, e9⟩ := inj2 h
    subst e8
    subst e9
    exact hret _ _ dX10_seams_31
  · rw [if_pos c1] at h
    refine aw_sipush C ((-1002)) dX10_seams_10 (by decide) ?_
    obtain ⟨e8, e9⟩ := inj2 h
    subst e8
    subst e9
    exact hret _ _ dX10_seams_13
set_option maxRecDepth 100000 in
set_option maxHeartbeats 4000000 in
theorem mt_X10_seams {G : GL} {l : Launch} {a0 : Nat} {x1 : Int32} {μ : Mem} {r : Int32} {μ' : Mem} (h : X10_seams a0 x1 μ = some (r, μ')) : MtI G l yX10_seams cX10_seams 3 (some .int) rm_X10_seams false [.ref (gZ G + a0), .int x1] μ r μ' := met_I (by decide) rfl rfl (Nat.le_of_ble_eq_true rfl) (fun X _ C _ _ hret => wk_X10_seams C h hret)
def X10_isPerson (x0 : Int32) : Int32 :=
  X10_within x0 0 3
set_option maxRecDepth 100000 in
set_option maxHeartbeats 4000000 in
theorem wk_X10_isPerson {G : GL} {X : CX} {x0 : Int32} {μ : Mem} (C : Ctx G X cX10_isPerson 1 RX10 rm_X10_isPerson) (hret : RtZ G 1 X cX10_isPerson 0 0 (X10_isPerson x0) μ) : AW G 1 X 0 0 0 [(0, .int x0)] [] μ := by
  unfold X10_isPerson at hret
  refine aw_iload_n C 0 dX10_isPerson_0 rfl rfl ?_
  refine aw_iconst C 0 dX10_isPerson_1 (by decide) ?_
  refine aw_iconst C 3 dX10_isPerson_2 (by decide) ?_
  refine aw_cS_I C [.int x0, .int 0, .int 3] _ (mt_X10_within _ _ _) cs_X10_within ml_X10_90 st_X10_within ⟨by decide, by decide⟩ ⟨rfl, rfl⟩ ⟨Nat.zero_le _, Nat.zero_le _⟩ rfl rfl (Nat.le_of_ble_eq_true rfl) dX10_isPerson_3 ?_
  exact hret _ _ dX10_isPerson_6 (z_X10_within _ _ _)
set_option maxRecDepth 100000 in
set_option maxHeartbeats 4000000 in
theorem mt_X10_isPerson {G : GL} {l : Launch} (x0 : Int32) {μ : Mem} : MtI G l yX10_isPerson cX10_isPerson 1 (some .boolean) rm_X10_isPerson false [.int x0] μ (X10_isPerson x0) μ := met_Z (by decide) rfl (Nat.le_of_ble_eq_true rfl) (fun X _ C _ _ hret => wk_X10_isPerson C hret)
theorem z_X10_isPerson (x0 : Int32) : X10_isPerson x0 = 0 ∨ X10_isPerson x0 = 1 := by
  unfold X10_isPerson
  exact z_X10_within _ _ _
def X10_sign (a0 : Nat) (x1 : Int32) (x2 : Int32) (μ : Mem) : Option (Int32 × Mem) :=
  if (X10_isPerson x1) = 0 then
  some ((-1001), μ)
  else
  if (X10_within x2 ((-1)) 3) = 0 then
  some ((-1002), μ)
  else
  (gR 10 0 a0 μ).bind fun v3 =>
  (gR 9 3 v3 μ).bind fun v4 =>
  (aR 7 v4 x1 μ).bind fun v5 =>
  (gI 10 10 a0 μ).bind fun v6 =>
  (X10_exchange v5 v6 x2 μ).bind fun z7 =>
  some (1, z7.2)
set_option maxRecDepth 100000 in
set_option maxHeartbeats 4000000 in
theorem wk_X10_sign {G : GL} {X : CX} {a0 : Nat} {x1 : Int32} {x2 : Int32} {μ : Mem} {r : Int32} {μ' : Mem} (C : Ctx G X cX10_sign 3 RX10 rm_X10_sign) (h : X10_sign a0 x1 x2 μ = some (r, μ')) (hret : RtI G 3 X cX10_sign 0 0 r μ') : AW G 3 X 0 0 0 [(0, .ref (gZ G + a0)), (1, .int x1), (2, .int x2)] [] μ := by
  unfold X10_sign at h
  refine aw_iload_n C 1 dX10_sign_0 rfl rfl ?_
  refine aw_cS_I C [.int x1] _ (mt_X10_isPerson _) cs_X10_isPerson ml_X10_104 st_X10_isPerson ⟨by decide, by decide⟩ ⟨rfl, rfl⟩ ⟨Nat.zero_le _, Nat.zero_le _⟩ rfl rfl (Nat.le_of_ble_eq_true rfl) dX10_sign_1 ?_
  refine aw_if_ne C 11 dX10_sign_4 (by decide) (fun c1 => ?_) (fun c1 => ?_)
  · rw [if_neg c1] at h
    refine aw_iload_n C 2 dX10_sign_11 rfl rfl ?_
    refine aw_iconst C ((-1)) dX10_sign_12 (by decide) ?_
    refine aw_iconst C 3 dX10_sign_13 (by decide) ?_
    refine aw_cS_I C [.int x2, .int ((-1)), .int 3] _ (mt_X10_within _ _ _) cs_X10_within ml_X10_90 st_X10_within ⟨by decide, by decide⟩ ⟨rfl, rfl⟩ ⟨Nat.zero_le _, Nat.zero_le _⟩ rfl rfl (Nat.le_of_ble_eq_true rfl) dX10_sign_14 ?_
    refine aw_if_ne C 24 dX10_sign_17 (by decide) (fun c2 => ?_) (fun c2 => ?_)
    · rw [if_neg c2] at h
      refine aw_aload_n C 0 dX10_sign_24 rfl rfl ?_
      obtain ⟨v3, hv3, h⟩ := bindE h
      refine aw_gR C fl_X10_12 rfl hv3 dX10_sign_25 ?_
      obtain ⟨v4, hv4, h⟩ := bindE h
      refine aw_gR C fl_X10_107 rfl hv4 dX10_sign_28 ?_
      refine aw_iload_n C 1 dX10_sign_31 rfl rfl ?_
      obtain ⟨v5, hv5, h⟩ := bindE h
      refine aw_aR C (by decide) (ty := .array .int) rfl rfl hv5 dX10_sign_32 ?_
      refine aw_aload_n C 0 dX10_sign_33 rfl rfl ?_
      obtain ⟨v6, hv6, h⟩ := bindE h
      refine aw_gI C fl_X10_110 rfl hv6 dX10_sign_34 ?_
      refine aw_iload_n C 2 dX10_sign_37 rfl rfl ?_
      obtain ⟨z7, hz7, h⟩ := bindE h
      refine aw_cS_I C [.ref (gZ G + v5), .int v6, .int x2] _ (mt_X10_exchange hz7) cs_X10_exchange ml_X10_86 st_X10_exchange ⟨by decide, by decide⟩ ⟨rfl, rfl⟩ ⟨Nat.zero_le _, Nat.zero_le _⟩ rfl rfl (Nat.le_of_ble_eq_true rfl) dX10_sign_38 ?_
      refine aw_pop C dX10_sign_41 rfl ?_
      refine aw_iconst C 1 dX10_sign_42 (by decide) ?_
      obtain ⟨e8, e9⟩ := inj2 h
      subst e8
      subst e9
      exact hret _ _ dX10_sign_43
    · rw [if_pos c2] at h
      refine aw_sipush C ((-1002)) dX10_sign_20 (by decide) ?_
      obtain ⟨e8, e9⟩ := inj2 h
      subst e8
      subst e9
      exact hret _ _ dX10_sign_23
  · rw [if_pos c1] at h
    refine aw_sipush C ((-1001)) dX10_sign_7 (by decide) ?_
    obtain ⟨e8, e9⟩ := inj2 h
    subst e8
    subst e9
    exact hret _ _ dX10_sign_10
set_option maxRecDepth 100000 in
set_option maxHeartbeats 4000000 in
theorem mt_X10_sign {G : GL} {l : Launch} {a0 : Nat} {x1 : Int32} {x2 : Int32} {μ : Mem} {r : Int32} {μ' : Mem} (h : X10_sign a0 x1 x2 μ = some (r, μ')) : MtI G l yX10_sign cX10_sign 3 (some .int) rm_X10_sign false [.ref (gZ G + a0), .int x1, .int x2] μ r μ' := met_I (by decide) rfl rfl (Nat.le_of_ble_eq_true rfl) (fun X _ C _ _ hret => wk_X10_sign C h hret)
def X10_go (a0 : Nat) (x1 : Int32) (μ : Mem) : Option (Int32 × Mem) :=
  if (X10_within x1 0 20) = 0 then
  some ((-1002), μ)
  else
  (gI 10 10 a0 μ).bind fun v2 =>
  if (v2 + x1) ≤ 60 then
  (gI 10 10 a0 μ).bind fun v4 =>
  (pI 10 10 a0 (v4 + x1) μ).bind fun μ5 =>
  (gI 10 10 a0 μ5).bind fun v6 =>
  some (v6, μ5)
  else
  some ((-1003), μ)
set_option maxRecDepth 100000 in
set_option maxHeartbeats 4000000 in
theorem wk_X10_go {G : GL} {X : CX} {a0 : Nat} {x1 : Int32} {μ : Mem} {r : Int32} {μ' : Mem} (C : Ctx G X cX10_go 2 RX10 rm_X10_go) (h : X10_go a0 x1 μ = some (r, μ')) (hret : RtI G 2 X cX10_go 0 0 r μ') : AW G 2 X 0 0 0 [(0, .ref (gZ G + a0)), (1, .int x1)] [] μ := by
  unfold X10_go at h
  refine aw_iload_n C 1 dX10_go_0 rfl rfl ?_
  refine aw_iconst C 0 dX10_go_1 (by decide) ?_
  refine aw_bipush C 20 dX10_go_2 (by decide) ?_
  refine aw_cS_I C [.int x1, .int 0, .int 20] _ (mt_X10_within _ _ _) cs_X10_within ml_X10_90 st_X10_within ⟨by decide, by decide⟩ ⟨rfl, rfl⟩ ⟨Nat.zero_le _, Nat.zero_le _⟩ rfl rfl (Nat.le_of_ble_eq_true rfl) dX10_go_4 ?_
  refine aw_if_ne C 14 dX10_go_7 (by decide) (fun c1 => ?_) (fun c1 => ?_)
  · rw [if_neg c1] at h
    refine aw_aload_n C 0 dX10_go_14 rfl rfl ?_
    obtain ⟨v2, hv2, h⟩ := bindE h
    refine aw_gI C fl_X10_110 rfl hv2 dX10_go_15 ?_
    refine aw_iload_n C 1 dX10_go_18 rfl rfl ?_
    refine aw_iadd C dX10_go_19 ?_
    refine aw_bipush C 60 dX10_go_20 (by decide) ?_
    refine aw_icmp_le C 29 dX10_go_22 (by decide) (fun c3 => ?_) (fun c3 => ?_)
    · rw [if_pos c3] at h
      refine aw_aload_n C 0 dX10_go_29 rfl rfl ?_
      refine aw_dup C dX10_go_30 rfl ?_
      obtain ⟨v4, hv4, h⟩ := bindE h
      refine aw_gI C fl_X10_110 rfl hv4 dX10_go_31 ?_
      refine aw_iload_n C 1 dX10_go_34 rfl rfl ?_
      refine aw_iadd C dX10_go_35 ?_
      obtain ⟨μ5, hμ5, h⟩ := bindE h
      refine aw_pI C fl_X10_110 rfl hμ5 dX10_go_36 ?_
      refine aw_aload_n C 0 dX10_go_39 rfl rfl ?_
      obtain ⟨v6, hv6, h⟩ := bindE h
      refine aw_gI C fl_X10_110 rfl hv6 dX10_go_40 ?_
      obtain ⟨e8, e9⟩ := inj2 h
      subst e8
      subst e9
      exact hret _ _ dX10_go_43
    · rw [if_neg c3] at h
      refine aw_sipush C ((-1003)) dX10_go_25 (by decide) ?_
      obtain ⟨e8, e9⟩ := inj2 h
      subst e8
      subst e9
      exact hret _ _ dX10_go_28
  · rw [if_pos c1] at h
    refine aw_sipush C ((-1002)) dX10_go_10 (by decide) ?_
    obtain ⟨e8, e9⟩ := inj2 h
    subst e8
    subst e9
    exact hret _ _ dX10_go_13
set_option maxRecDepth 100000 in
set_option maxHeartbeats 4000000 in
theorem mt_X10_go {G : GL} {l : Launch} {a0 : Nat} {x1 : Int32} {μ : Mem} {r : Int32} {μ' : Mem} (h : X10_go a0 x1 μ = some (r, μ')) : MtI G l yX10_go cX10_go 2 (some .int) rm_X10_go false [.ref (gZ G + a0), .int x1] μ r μ' := met_I (by decide) rfl rfl (Nat.le_of_ble_eq_true rfl) (fun X _ C _ _ hret => wk_X10_go C h hret)
def X10_fits (a0 : Nat) (x1 : Int32) (x2 : Int32) (μ : Mem) : Option (Int32 × Mem) :=
  if (X10_isPerson x1) = 0 then
  some ((-1001), μ)
  else
  (gI 10 10 a0 μ).bind fun v2 =>
  if (X10_within x2 0 v2) = 0 then
  some ((-1002), μ)
  else
  (gR 10 0 a0 μ).bind fun v4 =>
  (vO 9 v4 μ).bind fun g5 =>
  (X9_fittingRows v4 x1 x2 μ).bind fun z6 =>
  some (z6.1, z6.2)
set_option maxRecDepth 100000 in
set_option maxHeartbeats 4000000 in
theorem wk_X10_fits {G : GL} {X : CX} {a0 : Nat} {x1 : Int32} {x2 : Int32} {μ : Mem} {r : Int32} {μ' : Mem} (C : Ctx G X cX10_fits 3 RX10 rm_X10_fits) (h : X10_fits a0 x1 x2 μ = some (r, μ')) (hret : RtI G 3 X cX10_fits 0 0 r μ') : AW G 3 X 0 0 0 [(0, .ref (gZ G + a0)), (1, .int x1), (2, .int x2)] [] μ := by
  unfold X10_fits at h
  refine aw_iload_n C 1 dX10_fits_0 rfl rfl ?_
  refine aw_cS_I C [.int x1] _ (mt_X10_isPerson _) cs_X10_isPerson ml_X10_104 st_X10_isPerson ⟨by decide, by decide⟩ ⟨rfl, rfl⟩ ⟨Nat.zero_le _, Nat.zero_le _⟩ rfl rfl (Nat.le_of_ble_eq_true rfl) dX10_fits_1 ?_
  refine aw_if_ne C 11 dX10_fits_4 (by decide) (fun c1 => ?_) (fun c1 => ?_)
  · rw [if_neg c1] at h
    refine aw_iload_n C 2 dX10_fits_11 rfl rfl ?_
    refine aw_iconst C 0 dX10_fits_12 (by decide) ?_
    refine aw_aload_n C 0 dX10_fits_13 rfl rfl ?_
    obtain ⟨v2, hv2, h⟩ := bindE h
    refine aw_gI C fl_X10_110 rfl hv2 dX10_fits_14 ?_
    refine aw_cS_I C [.int x2, .int 0, .int v2] _ (mt_X10_within _ _ _) cs_X10_within ml_X10_90 st_X10_within ⟨by decide, by decide⟩ ⟨rfl, rfl⟩ ⟨Nat.zero_le _, Nat.zero_le _⟩ rfl rfl (Nat.le_of_ble_eq_true rfl) dX10_fits_17 ?_
    refine aw_if_ne C 27 dX10_fits_20 (by decide) (fun c3 => ?_) (fun c3 => ?_)
    · rw [if_neg c3] at h
      refine aw_aload_n C 0 dX10_fits_27 rfl rfl ?_
      obtain ⟨v4, hv4, h⟩ := bindE h
      refine aw_gR C fl_X10_12 rfl hv4 dX10_fits_28 ?_
      refine aw_iload_n C 1 dX10_fits_31 rfl rfl ?_
      refine aw_iload_n C 2 dX10_fits_32 rfl rfl ?_
      obtain ⟨g5, hg5, h⟩ := bindE h
      obtain ⟨z6, hz6, h⟩ := bindE h
      refine aw_cV_I C [.int x1, .int x2] _ (mt_X9_fittingRows hz6) cs_X9_fittingRows ml_X10_113 im_X9_fittingRows se_X9_fittingRows (ci := 9) rfl rfl hg5 ⟨by decide, by decide⟩ ⟨rfl, rfl⟩ ⟨Nat.zero_le _, Nat.zero_le _⟩ rfl rfl (Nat.le_of_ble_eq_true rfl) dX10_fits_33 ?_
      obtain ⟨e8, e9⟩ := inj2 h
      subst e8
      subst e9
      exact hret _ _ dX10_fits_36
    · rw [if_pos c3] at h
      refine aw_sipush C ((-1002)) dX10_fits_23 (by decide) ?_
      obtain ⟨e8, e9⟩ := inj2 h
      subst e8
      subst e9
      exact hret _ _ dX10_fits_26
  · rw [if_pos c1] at h
    refine aw_sipush C ((-1001)) dX10_fits_7 (by decide) ?_
    obtain ⟨e8, e9⟩ := inj2 h
    subst e8
    subst e9
    exact hret _ _ dX10_fits_10
set_option maxRecDepth 100000 in
set_option maxHeartbeats 4000000 in
theorem mt_X10_fits {G : GL} {l : Launch} {a0 : Nat} {x1 : Int32} {x2 : Int32} {μ : Mem} {r : Int32} {μ' : Mem} (h : X10_fits a0 x1 x2 μ = some (r, μ')) : MtI G l yX10_fits cX10_fits 3 (some .int) rm_X10_fits false [.ref (gZ G + a0), .int x1, .int x2] μ r μ' := met_I (by decide) rfl rfl (Nat.le_of_ble_eq_true rfl) (fun X _ C _ _ hret => wk_X10_fits C h hret)
def X10_isAhead (x0 : Int32) : Int32 :=
  X10_within x0 0 8
set_option maxRecDepth 100000 in
set_option maxHeartbeats 4000000 in
theorem wk_X10_isAhead {G : GL} {X : CX} {x0 : Int32} {μ : Mem} (C : Ctx G X cX10_isAhead 1 RX10 rm_X10_isAhead) (hret : RtZ G 1 X cX10_isAhead 0 0 (X10_isAhead x0) μ) : AW G 1 X 0 0 0 [(0, .int x0)] [] μ := by
  unfold X10_isAhead at hret
  refine aw_iload_n C 0 dX10_isAhead_0 rfl rfl ?_
  refine aw_iconst C 0 dX10_isAhead_1 (by decide) ?_
  refine aw_bipush C 8 dX10_isAhead_2 (by decide) ?_
  refine aw_cS_I C [.int x0, .int 0, .int 8] _ (mt_X10_within _ _ _) cs_X10_within ml_X10_90 st_X10_within ⟨by decide, by decide⟩ ⟨rfl, rfl⟩ ⟨Nat.zero_le _, Nat.zero_le _⟩ rfl rfl (Nat.le_of_ble_eq_true rfl) dX10_isAhead_4 ?_
  exact hret _ _ dX10_isAhead_7 (z_X10_within _ _ _)
set_option maxRecDepth 100000 in
set_option maxHeartbeats 4000000 in
theorem mt_X10_isAhead {G : GL} {l : Launch} (x0 : Int32) {μ : Mem} : MtI G l yX10_isAhead cX10_isAhead 1 (some .boolean) rm_X10_isAhead false [.int x0] μ (X10_isAhead x0) μ := met_Z (by decide) rfl (Nat.le_of_ble_eq_true rfl) (fun X _ C _ _ hret => wk_X10_isAhead C hret)
theorem z_X10_isAhead (x0 : Int32) : X10_isAhead x0 = 0 ∨ X10_isAhead x0 = 1 := by
  unfold X10_isAhead
  exact z_X10_within _ _ _
def X10_odds (a0 : Nat) (x1 : Int32) (x2 : Int32) (x3 : Int32) (μ : Mem) : Option (Int32 × Mem) :=
  if (X10_isPerson x1) = 0 then
  some ((-1001), μ)
  else
  if (X10_isState x2) = 0 then
  some ((-1002), μ)
  else
  if (X10_isAhead x3) = 0 then
  some ((-1002), μ)
  else
  (gR 10 0 a0 μ).bind fun v4 =>
  (gI 10 10 a0 μ).bind fun v5 =>
  (vO 9 v4 μ).bind fun g6 =>
  (X9_lookAhead v4 x1 v5 x3 μ).bind fun μ7 =>
  (gR 10 0 a0 μ7).bind fun v8 =>
  (gR 9 4 v8 μ7).bind fun v9 =>
  (aR 7 v9 x3 μ7).bind fun v10 =>
  (aI v10 x2 μ7).bind fun v11 =>
  some (v11, μ7)
set_option maxRecDepth 100000 in
set_option maxHeartbeats 4000000 in
theorem wk_X10_odds {G : GL} {X : CX} {a0 : Nat} {x1 : Int32} {x2 : Int32} {x3 : Int32} {μ : Mem} {r : Int32} {μ' : Mem} (C : Ctx G X cX10_odds 4 RX10 rm_X10_odds) (h : X10_odds a0 x1 x2 x3 μ = some (r, μ')) (hret : RtI G 4 X cX10_odds 0 0 r μ') : AW G 4 X 0 0 0 [(0, .ref (gZ G + a0)), (1, .int x1), (2, .int x2), (3, .int x3)] [] μ := by
  unfold X10_odds at h
  refine aw_iload_n C 1 dX10_odds_0 rfl rfl ?_
  refine aw_cS_I C [.int x1] _ (mt_X10_isPerson _) cs_X10_isPerson ml_X10_104 st_X10_isPerson ⟨by decide, by decide⟩ ⟨rfl, rfl⟩ ⟨Nat.zero_le _, Nat.zero_le _⟩ rfl rfl (Nat.le_of_ble_eq_true rfl) dX10_odds_1 ?_
  refine aw_if_ne C 11 dX10_odds_4 (by decide) (fun c1 => ?_) (fun c1 => ?_)
  · rw [if_neg c1] at h
    refine aw_iload_n C 2 dX10_odds_11 rfl rfl ?_
    refine aw_cS_I C [.int x2] _ (mt_X10_isState _) cs_X10_isState ml_X10_75 st_X10_isState ⟨by decide, by decide⟩ ⟨rfl, rfl⟩ ⟨Nat.zero_le _, Nat.zero_le _⟩ rfl rfl (Nat.le_of_ble_eq_true rfl) dX10_odds_12 ?_
    refine aw_if_eq C 25 dX10_odds_15 (by decide) (fun c2 => ?_) (fun c2 => ?_)
    · rw [if_pos c2] at h
      refine aw_sipush C ((-1002)) dX10_odds_25 (by decide) ?_
      obtain ⟨e8, e9⟩ := inj2 h
      subst e8
      subst e9
      exact hret _ _ dX10_odds_28
    · rw [if_neg c2] at h
      refine aw_iload_n C 3 dX10_odds_18 rfl rfl ?_
      refine aw_cS_I C [.int x3] _ (mt_X10_isAhead _) cs_X10_isAhead ml_X10_117 st_X10_isAhead ⟨by decide, by decide⟩ ⟨rfl, rfl⟩ ⟨Nat.zero_le _, Nat.zero_le _⟩ rfl rfl (Nat.le_of_ble_eq_true rfl) dX10_odds_19 ?_
      refine aw_if_ne C 29 dX10_odds_22 (by decide) (fun c3 => ?_) (fun c3 => ?_)
      · rw [if_neg c3] at h
        refine aw_aload_n C 0 dX10_odds_29 rfl rfl ?_
        obtain ⟨v4, hv4, h⟩ := bindE h
        refine aw_gR C fl_X10_12 rfl hv4 dX10_odds_30 ?_
        refine aw_iload_n C 1 dX10_odds_33 rfl rfl ?_
        refine aw_aload_n C 0 dX10_odds_34 rfl rfl ?_
        obtain ⟨v5, hv5, h⟩ := bindE h
        refine aw_gI C fl_X10_110 rfl hv5 dX10_odds_35 ?_
        refine aw_iload_n C 3 dX10_odds_38 rfl rfl ?_
        obtain ⟨g6, hg6, h⟩ := bindE h
        obtain ⟨μ7, hμ7, h⟩ := bindE h
        refine aw_cV_V C [.int x1, .int v5, .int x3] _ (mt_X9_lookAhead hμ7) cs_X9_lookAhead ml_X10_120 im_X9_lookAhead se_X9_lookAhead (ci := 9) rfl rfl hg6 ⟨by decide, by decide⟩ ⟨rfl, rfl⟩ ⟨Nat.zero_le _, Nat.zero_le _⟩ rfl rfl (Nat.le_of_ble_eq_true rfl) dX10_odds_39 ?_
        refine aw_aload_n C 0 dX10_odds_42 rfl rfl ?_
        obtain ⟨v8, hv8, h⟩ := bindE h
        refine aw_gR C fl_X10_12 rfl hv8 dX10_odds_43 ?_
        obtain ⟨v9, hv9, h⟩ := bindE h
        refine aw_gR C fl_X10_124 rfl hv9 dX10_odds_46 ?_
        refine aw_iload_n C 3 dX10_odds_49 rfl rfl ?_
        obtain ⟨v10, hv10, h⟩ := bindE h
        refine aw_aR C (by decide) (ty := .array .int) rfl rfl hv10 dX10_odds_50 ?_
        refine aw_iload_n C 2 dX10_odds_51 rfl rfl ?_
        obtain ⟨v11, hv11, h⟩ := bindE h
        refine aw_aI C hv11 dX10_odds_52 ?_
        obtain ⟨e8, e9⟩ := inj2 h
        subst e8
        subst e9
        exact hret _ _ dX10_odds_53
      · rw [if_pos c3] at h
        refine aw_sipush C ((-1002)) dX10_odds_25 (by decide) ?_
        obtain ⟨e8, e9⟩ := inj2 h
        subst e8
        subst e9
        exact hret _ _ dX10_odds_28
  · rw [if_pos c1] at h
    refine aw_sipush C ((-1001)) dX10_odds_7 (by decide) ?_
    obtain ⟨e8, e9⟩ := inj2 h
    subst e8
    subst e9
    exact hret _ _ dX10_odds_10
set_option maxRecDepth 100000 in
set_option maxHeartbeats 4000000 in
theorem mt_X10_odds {G : GL} {l : Launch} {a0 : Nat} {x1 : Int32} {x2 : Int32} {x3 : Int32} {μ : Mem} {r : Int32} {μ' : Mem} (h : X10_odds a0 x1 x2 x3 μ = some (r, μ')) : MtI G l yX10_odds cX10_odds 4 (some .int) rm_X10_odds false [.ref (gZ G + a0), .int x1, .int x2, .int x3] μ r μ' := met_I (by decide) rfl rfl (Nat.le_of_ble_eq_true rfl) (fun X _ C _ _ hret => wk_X10_odds C h hret)
def X10_seam (a0 : Nat) (x1 : Int32) (x2 : Int32) (μ : Mem) : Option (Int32 × Mem) :=
  if (X10_isPerson x1) = 0 then
  some ((-1001), μ)
  else
  if (X10_isAhead x2) = 0 then
  some ((-1002), μ)
  else
  (gR 10 0 a0 μ).bind fun v3 =>
  (gI 10 10 a0 μ).bind fun v4 =>
  (vO 9 v3 μ).bind fun g5 =>
  (X9_lookAhead v3 x1 v4 x2 μ).bind fun μ6 =>
  (gR 10 0 a0 μ6).bind fun v7 =>
  (vO 9 v7 μ6).bind fun g8 =>
  (X9_seamOdds v7 x2 μ6).bind fun v9 =>
  some (v9, μ6)
set_option maxRecDepth 100000 in
set_option maxHeartbeats 4000000 in
theorem wk_X10_seam {G : GL} {X : CX} {a0 : Nat} {x1 : Int32} {x2 : Int32} {μ : Mem} {r : Int32} {μ' : Mem} (C : Ctx G X cX10_seam 3 RX10 rm_X10_seam) (h : X10_seam a0 x1 x2 μ = some (r, μ')) (hret : RtI G 3 X cX10_seam 0 0 r μ') : AW G 3 X 0 0 0 [(0, .ref (gZ G + a0)), (1, .int x1), (2, .int x2)] [] μ := by
  unfold X10_seam at h
  refine aw_iload_n C 1 dX10_seam_0 rfl rfl ?_
  refine aw_cS_I C [.int x1] _ (mt_X10_isPerson _) cs_X10_isPerson ml_X10_104 st_X10_isPerson ⟨by decide, by decide⟩ ⟨rfl, rfl⟩ ⟨Nat.zero_le _, Nat.zero_le _⟩ rfl rfl (Nat.le_of_ble_eq_true rfl) dX10_seam_1 ?_
  refine aw_if_ne C 11 dX10_seam_4 (by decide) (fun c1 => ?_) (fun c1 => ?_)
  · rw [if_neg c1] at h
    refine aw_iload_n C 2 dX10_seam_11 rfl rfl ?_
    refine aw_cS_I C [.int x2] _ (mt_X10_isAhead _) cs_X10_isAhead ml_X10_117 st_X10_isAhead ⟨by decide, by decide⟩ ⟨rfl, rfl⟩ ⟨Nat.zero_le _, Nat.zero_le _⟩ rfl rfl (Nat.le_of_ble_eq_true rfl) dX10_seam_12 ?_
    refine aw_if_ne C 22 dX10_seam_15 (by decide) (fun c2 => ?_) (fun c2 => ?_)
    · rw [if_neg c2] at h
      refine aw_aload_n C 0 dX10_seam_22 rfl rfl ?_
      obtain ⟨v3, hv3, h⟩ := bindE h
      refine aw_gR C fl_X10_12 rfl hv3 dX10_seam_23 ?_
      refine aw_iload_n C 1 dX10_seam_26 rfl rfl ?_
      refine aw_aload_n C 0 dX10_seam_27 rfl rfl ?_
      obtain ⟨v4, hv4, h⟩ := bindE h
      refine aw_gI C fl_X10_110 rfl hv4 dX10_seam_28 ?_
      refine aw_iload_n C 2 dX10_seam_31 rfl rfl ?_
      obtain ⟨g5, hg5, h⟩ := bindE h
      obtain ⟨μ6, hμ6, h⟩ := bindE h
      refine aw_cV_V C [.int x1, .int v4, .int x2] _ (mt_X9_lookAhead hμ6) cs_X9_lookAhead ml_X10_120 im_X9_lookAhead se_X9_lookAhead (ci := 9) rfl rfl hg5 ⟨by decide, by decide⟩ ⟨rfl, rfl⟩ ⟨Nat.zero_le _, Nat.zero_le _⟩ rfl rfl (Nat.le_of_ble_eq_true rfl) dX10_seam_32 ?_
      refine aw_aload_n C 0 dX10_seam_35 rfl rfl ?_
      obtain ⟨v7, hv7, h⟩ := bindE h
      refine aw_gR C fl_X10_12 rfl hv7 dX10_seam_36 ?_
      refine aw_iload_n C 2 dX10_seam_39 rfl rfl ?_
      obtain ⟨g8, hg8, h⟩ := bindE h
      obtain ⟨v9, hv9, h⟩ := bindE h
      refine aw_cV_I C [.int x2] _ (mt_X9_seamOdds hv9) cs_X9_seamOdds ml_X10_127 im_X9_seamOdds se_X9_seamOdds (ci := 9) rfl rfl hg8 ⟨by decide, by decide⟩ ⟨rfl, rfl⟩ ⟨Nat.zero_le _, Nat.zero_le _⟩ rfl rfl (Nat.le_of_ble_eq_true rfl) dX10_seam_40 ?_
      obtain ⟨e8, e9⟩ := inj2 h
      subst e8
      subst e9
      exact hret _ _ dX10_seam_43
    · rw [if_pos c2] at h
      refine aw_sipush C ((-1002)) dX10_seam_18 (by decide) ?_
      obtain ⟨e8, e9⟩ := inj2 h
      subst e8
      subst e9
      exact hret _ _ dX10_seam_21
  · rw [if_pos c1] at h
    refine aw_sipush C ((-1001)) dX10_seam_7 (by decide) ?_
    obtain ⟨e8, e9⟩ := inj2 h
    subst e8
    subst e9
    exact hret _ _ dX10_seam_10
set_option maxRecDepth 100000 in
set_option maxHeartbeats 4000000 in
theorem mt_X10_seam {G : GL} {l : Launch} {a0 : Nat} {x1 : Int32} {x2 : Int32} {μ : Mem} {r : Int32} {μ' : Mem} (h : X10_seam a0 x1 x2 μ = some (r, μ')) : MtI G l yX10_seam cX10_seam 3 (some .int) rm_X10_seam false [.ref (gZ G + a0), .int x1, .int x2] μ r μ' := met_I (by decide) rfl rfl (Nat.le_of_ble_eq_true rfl) (fun X _ C _ _ hret => wk_X10_seam C h hret)
def X10_until_L41 (a0 : Nat) (x2 : Int32) (μ : Mem) : Nat → Int32 → Option (Int32 × Mem)
  | 0, _ => none
  | n + 1, x3 =>
      if (8 : Int32) < x3 then
      some ((-1), μ)
      else
      (gR 10 0 a0 μ).bind fun v2 =>
      (vO 9 v2 μ).bind fun g3 =>
      (X9_seamOdds v2 x3 μ).bind fun v4 =>
      if v4 < x2 then
      X10_until_L41 a0 x2 μ n (x3 + 1)
      else
      some (x3, μ)
set_option maxRecDepth 100000 in
set_option maxHeartbeats 4000000 in
theorem X10_until_L41_ok {G : GL} {X : CX} (C : Ctx G X cX10_until 4 RX10 rm_X10_until) {r : Int32} {μ' : Mem} {μ : Mem} (hret : RtI G 4 X cX10_until 0 0 r μ') (a0 : Nat) (x2 : Int32) : ∀ (n : Nat) (x3 : Int32), X10_until_L41 a0 x2 μ n x3 = some (r, μ') → AW G 4 X 0 0 41 [(0, .ref (gZ G + a0)), (2, .int x2), (3, .int x3)] [] μ := by
  intro n
  induction n with
  | zero =>
    intro x3 h
    rw [X10_until_L41] at h
    cases h
  | succ n ih =>
    intro x3 h
    rw [X10_until_L41] at h
    refine aw_iload_n C 2 dX10_until_41 rfl rfl ?_
    refine aw_bipush C 8 dX10_until_42 (by decide) ?_
    refine aw_icmp_gt C 67 dX10_until_44 (by decide) (fun c1 => ?_) (fun c1 => ?_)
    · rw [if_pos c1] at h
      refine aw_iconst C ((-1)) dX10_until_67 (by decide) ?_
      obtain ⟨e8, e9⟩ := inj2 h
      subst e8
      subst e9
      exact hret _ _ dX10_until_68
    · rw [if_neg c1] at h
      refine aw_aload_n C 0 dX10_until_47 rfl rfl ?_
      obtain ⟨v2, hv2, h⟩ := bindE h
      refine aw_gR C fl_X10_12 rfl hv2 dX10_until_48 ?_
      refine aw_iload_n C 2 dX10_until_51 rfl rfl ?_
      obtain ⟨g3, hg3, h⟩ := bindE h
      obtain ⟨v4, hv4, h⟩ := bindE h
      refine aw_cV_I C [.int x3] _ (mt_X9_seamOdds hv4) cs_X9_seamOdds ml_X10_127 im_X9_seamOdds se_X9_seamOdds (ci := 9) rfl rfl hg3 ⟨by decide, by decide⟩ ⟨rfl, rfl⟩ ⟨Nat.zero_le _, Nat.zero_le _⟩ rfl rfl (Nat.le_of_ble_eq_true rfl) dX10_until_52 ?_
      refine aw_iload_n C 1 dX10_until_55 rfl rfl ?_
      refine aw_icmp_lt C 61 dX10_until_56 (by decide) (fun c5 => ?_) (fun c5 => ?_)
      · rw [if_pos c5] at h
        refine aw_iinc C (x3 + 1) 2 [(3, .int (x3 + 1)), (0, .ref (gZ G + a0)), (2, .int x2)] dX10_until_61 rfl rfl (by decide) rfl ?_
        refine aw_goto C 41 dX10_until_64 (by decide) ?_
        exact aw_sub [1, 2, 0] rfl (ih _ h)
      · rw [if_neg c5] at h
        refine aw_iload_n C 2 dX10_until_59 rfl rfl ?_
        obtain ⟨e8, e9⟩ := inj2 h
        subst e8
        subst e9
        exact hret _ _ dX10_until_60
def X10_until (a0 : Nat) (x1 : Int32) (x2 : Int32) (μ : Mem) : Option (Int32 × Mem) :=
  if (X10_isPerson x1) = 0 then
  some ((-1001), μ)
  else
  if (X10_within x2 0 1000000) = 0 then
  some ((-1002), μ)
  else
  (gR 10 0 a0 μ).bind fun v3 =>
  (gI 10 10 a0 μ).bind fun v4 =>
  (vO 9 v3 μ).bind fun g5 =>
  (X9_lookAhead v3 x1 v4 8 μ).bind fun μ6 =>
  X10_until_L41 a0 x2 μ6 FU 0
set_option maxRecDepth 100000 in
set_option maxHeartbeats 4000000 in
theorem wk_X10_until {G : GL} {X : CX} {a0 : Nat} {x1 : Int32} {x2 : Int32} {μ : Mem} {r : Int32} {μ' : Mem} (C : Ctx G X cX10_until 4 RX10 rm_X10_until) (h : X10_until a0 x1 x2 μ = some (r, μ')) (hret : RtI G 4 X cX10_until 0 0 r μ') : AW G 4 X 0 0 0 [(0, .ref (gZ G + a0)), (1, .int x1), (2, .int x2)] [] μ := by
  unfold X10_until at h
  refine aw_iload_n C 1 dX10_until_0 rfl rfl ?_
  refine aw_cS_I C [.int x1] _ (mt_X10_isPerson _) cs_X10_isPerson ml_X10_104 st_X10_isPerson ⟨by decide, by decide⟩ ⟨rfl, rfl⟩ ⟨Nat.zero_le _, Nat.zero_le _⟩ rfl rfl (Nat.le_of_ble_eq_true rfl) dX10_until_1 ?_
  refine aw_if_ne C 11 dX10_until_4 (by decide) (fun c1 => ?_) (fun c1 => ?_)
  · rw [if_neg c1] at h
    refine aw_iload_n C 2 dX10_until_11 rfl rfl ?_
    refine aw_iconst C 0 dX10_until_12 (by decide) ?_
    refine aw_ldc C kc_X10_131 dX10_until_13 ?_
    refine aw_cS_I C [.int x2, .int 0, .int 1000000] _ (mt_X10_within _ _ _) cs_X10_within ml_X10_90 st_X10_within ⟨by decide, by decide⟩ ⟨rfl, rfl⟩ ⟨Nat.zero_le _, Nat.zero_le _⟩ rfl rfl (Nat.le_of_ble_eq_true rfl) dX10_until_15 ?_
    refine aw_if_ne C 25 dX10_until_18 (by decide) (fun c2 => ?_) (fun c2 => ?_)
    · rw [if_neg c2] at h
      refine aw_aload_n C 0 dX10_until_25 rfl rfl ?_
      obtain ⟨v3, hv3, h⟩ := bindE h
      refine aw_gR C fl_X10_12 rfl hv3 dX10_until_26 ?_
      refine aw_iload_n C 1 dX10_until_29 rfl rfl ?_
      refine aw_aload_n C 0 dX10_until_30 rfl rfl ?_
      obtain ⟨v4, hv4, h⟩ := bindE h
      refine aw_gI C fl_X10_110 rfl hv4 dX10_until_31 ?_
      refine aw_bipush C 8 dX10_until_34 (by decide) ?_
      obtain ⟨g5, hg5, h⟩ := bindE h
      obtain ⟨μ6, hμ6, h⟩ := bindE h
      refine aw_cV_V C [.int x1, .int v4, .int 8] _ (mt_X9_lookAhead hμ6) cs_X9_lookAhead ml_X10_120 im_X9_lookAhead se_X9_lookAhead (ci := 9) rfl rfl hg5 ⟨by decide, by decide⟩ ⟨rfl, rfl⟩ ⟨Nat.zero_le _, Nat.zero_le _⟩ rfl rfl (Nat.le_of_ble_eq_true rfl) dX10_until_36 ?_
      refine aw_iconst C 0 dX10_until_39 (by decide) ?_
      refine aw_istore_n C [(3, .int 0), (0, .ref (gZ G + a0)), (1, .int x1), (2, .int x2)] dX10_until_40 rfl (by decide) rfl ?_
      refine aw_sub [1, 3, 0] rfl ?_
      exact X10_until_L41_ok C hret _ _ _ _ h
    · rw [if_pos c2] at h
      refine aw_sipush C ((-1002)) dX10_until_21 (by decide) ?_
      obtain ⟨e8, e9⟩ := inj2 h
      subst e8
      subst e9
      exact hret _ _ dX10_until_24
  · rw [if_pos c1] at h
    refine aw_sipush C ((-1001)) dX10_until_7 (by decide) ?_
    obtain ⟨e8, e9⟩ := inj2 h
    subst e8
    subst e9
    exact hret _ _ dX10_until_10
set_option maxRecDepth 100000 in
set_option maxHeartbeats 4000000 in
theorem mt_X10_until {G : GL} {l : Launch} {a0 : Nat} {x1 : Int32} {x2 : Int32} {μ : Mem} {r : Int32} {μ' : Mem} (h : X10_until a0 x1 x2 μ = some (r, μ')) : MtI G l yX10_until cX10_until 4 (some .int) rm_X10_until false [.ref (gZ G + a0), .int x1, .int x2] μ r μ' := met_I (by decide) rfl rfl (Nat.le_of_ble_eq_true rfl) (fun X _ C _ _ hret => wk_X10_until C h hret)
def X10_thing (a0 : Nat) (x1 : Int32) (x2 : Int32) (x3 : Int32) (x4 : Int32) (x5 : Int32) (x6 : Int32) (x7 : Int32) (μ : Mem) : Option (Int32 × Mem) :=
  if (X10_within x1 1 15) = 0 then
  some ((-1001), μ)
  else
  if (X10_within x2 0 3) = 0 then
  some ((-1002), μ)
  else
  if (X10_within x3 0 5) = 0 then
  some ((-1002), μ)
  else
  if (X10_within x4 0 9) = 0 then
  some ((-1002), μ)
  else
  if (X10_within x5 0 999) = 0 then
  some ((-1002), μ)
  else
  if (X10_within x6 0 99) = 0 then
  some ((-1002), μ)
  else
  (gI 10 10 a0 μ).bind fun v7 =>
  if (X10_within x7 v7 60) = 0 then
  some ((-1002), μ)
  else
  (gR 10 2 a0 μ).bind fun v9 =>
  (gI 0 2 v9 μ).bind fun v10 =>
  if v10 < 10 then
  (gR 10 2 a0 μ).bind fun v12 =>
  (gR 0 0 v12 μ).bind fun v13 =>
  (gR 10 2 a0 μ).bind fun v14 =>
  (gI 0 2 v14 μ).bind fun v15 =>
  (aR 6 v13 v15 μ).bind fun v16 =>
  (pI 6 0 v16 x1 μ).bind fun μ17 =>
  (pI 6 1 v16 x2 μ17).bind fun μ18 =>
  (pI 6 2 v16 x3 μ18).bind fun μ19 =>
  (pI 6 3 v16 x4 μ19).bind fun μ20 =>
  (pI 6 4 v16 x5 μ20).bind fun μ21 =>
  (pI 6 5 v16 x6 μ21).bind fun μ22 =>
  (pI 6 6 v16 x7 μ22).bind fun μ23 =>
  (gI 10 10 a0 μ23).bind fun v24 =>
  (pI 6 7 v16 v24 μ23).bind fun μ25 =>
  (gR 10 2 a0 μ25).bind fun v26 =>
  (gI 0 2 v26 μ25).bind fun v27 =>
  (pI 0 2 v26 (v27 + 1) μ25).bind fun μ28 =>
  (gR 10 2 a0 μ28).bind fun v29 =>
  (gI 0 2 v29 μ28).bind fun v30 =>
  some (v30 - 1, μ28)
  else
  some ((-1004), μ)
set_option maxRecDepth 100000 in
set_option maxHeartbeats 4000000 in
theorem wk_X10_thing {G : GL} {X : CX} {a0 : Nat} {x1 : Int32} {x2 : Int32} {x3 : Int32} {x4 : Int32} {x5 : Int32} {x6 : Int32} {x7 : Int32} {μ : Mem} {r : Int32} {μ' : Mem} (C : Ctx G X cX10_thing 9 RX10 rm_X10_thing) (h : X10_thing a0 x1 x2 x3 x4 x5 x6 x7 μ = some (r, μ')) (hret : RtI G 9 X cX10_thing 0 0 r μ') : AW G 9 X 0 0 0 [(0, .ref (gZ G + a0)), (1, .int x1), (2, .int x2), (3, .int x3), (4, .int x4), (5, .int x5), (6, .int x6), (7, .int x7)] [] μ := by
  unfold X10_thing at h
  refine aw_iload_n C 1 dX10_thing_0 rfl rfl ?_
  refine aw_iconst C 1 dX10_thing_1 (by decide) ?_
  refine aw_bipush C 15 dX10_thing_2 (by decide) ?_
  refine aw_cS_I C [.int x1, .int 1, .int 15] _ (mt_X10_within _ _ _) cs_X10_within ml_X10_90 st_X10_within ⟨by decide, by decide⟩ ⟨rfl, rfl⟩ ⟨Nat.zero_le _, Nat.zero_le _⟩ rfl rfl (Nat.le_of_ble_eq_true rfl) dX10_thing_4 ?_
  refine aw_if_ne C 14 dX10_thing_7 (by decide) (fun c1 => ?_) (fun c1 => ?_)
  · rw [if_neg c1] at h
    refine aw_iload_n C 2 dX10_thing_14 rfl rfl ?_
    refine aw_iconst C 0 dX10_thing_15 (by decide) ?_
    refine aw_iconst C 3 dX10_thing_16 (by decide) ?_
    refine aw_cS_I C [.int x2, .int 0, .int 3] _ (mt_X10_within _ _ _) cs_X10_within ml_X10_90 st_X10_within ⟨by decide, by decide⟩ ⟨rfl, rfl⟩ ⟨Nat.zero_le _, Nat.zero_le _⟩ rfl rfl (Nat.le_of_ble_eq_true rfl) dX10_thing_17 ?_
    refine aw_if_eq C 43 dX10_thing_20 (by decide) (fun c2 => ?_) (fun c2 => ?_)
    · rw [if_pos c2] at h
      refine aw_sipush C ((-1002)) dX10_thing_43 (by decide) ?_
      obtain ⟨e8, e9⟩ := inj2 h
      subst e8
      subst e9
      exact hret _ _ dX10_thing_46
    · rw [if_neg c2] at h
      refine aw_iload_n C 3 dX10_thing_23 rfl rfl ?_
      refine aw_iconst C 0 dX10_thing_24 (by decide) ?_
      refine aw_iconst C 5 dX10_thing_25 (by decide) ?_
      refine aw_cS_I C [.int x3, .int 0, .int 5] _ (mt_X10_within _ _ _) cs_X10_within ml_X10_90 st_X10_within ⟨by decide, by decide⟩ ⟨rfl, rfl⟩ ⟨Nat.zero_le _, Nat.zero_le _⟩ rfl rfl (Nat.le_of_ble_eq_true rfl) dX10_thing_26 ?_
      refine aw_if_eq C 43 dX10_thing_29 (by decide) (fun c3 => ?_) (fun c3 => ?_)
      · rw [if_pos c3] at h
        refine aw_sipush C ((-1002)) dX10_thing_43 (by decide) ?_
        obtain ⟨e8, e9⟩ := inj2 h
        subst e8
        subst e9
        exact hret _ _ dX10_thing_46
      · rw [if_neg c3] at h
        refine aw_iload C 4 dX10_thing_32 rfl ?_
        refine aw_iconst C 0 dX10_thing_34 (by decide) ?_
        refine aw_bipush C 9 dX10_thing_35 (by decide) ?_
        refine aw_cS_I C [.int x4, .int 0, .int 9] _ (mt_X10_within _ _ _) cs_X10_within ml_X10_90 st_X10_within ⟨by decide, by decide⟩ ⟨rfl, rfl⟩ ⟨Nat.zero_le _, Nat.zero_le _⟩ rfl rfl (Nat.le_of_ble_eq_true rfl) dX10_thing_37 ?_
        refine aw_if_ne C 47 dX10_thing_40 (by decide) (fun c4 => ?_) (fun c4 => ?_)
        · rw [if_neg c4] at h
          refine aw_iload C 5 dX10_thing_47 rfl ?_
          refine aw_iconst C 0 dX10_thing_49 (by decide) ?_
          refine aw_sipush C 999 dX10_thing_50 (by decide) ?_
          refine aw_cS_I C [.int x5, .int 0, .int 999] _ (mt_X10_within _ _ _) cs_X10_within ml_X10_90 st_X10_within ⟨by decide, by decide⟩ ⟨rfl, rfl⟩ ⟨Nat.zero_le _, Nat.zero_le _⟩ rfl rfl (Nat.le_of_ble_eq_true rfl) dX10_thing_53 ?_
          refine aw_if_eq C 84 dX10_thing_56 (by decide) (fun c5 => ?_) (fun c5 => ?_)
          · rw [if_pos c5] at h
            refine aw_sipush C ((-1002)) dX10_thing_84 (by decide) ?_
            obtain ⟨e8, e9⟩ := inj2 h
            subst e8
            subst e9
            exact hret _ _ dX10_thing_87
          · rw [if_neg c5] at h
            refine aw_iload C 6 dX10_thing_59 rfl ?_
            refine aw_iconst C 0 dX10_thing_61 (by decide) ?_
            refine aw_bipush C 99 dX10_thing_62 (by decide) ?_
            refine aw_cS_I C [.int x6, .int 0, .int 99] _ (mt_X10_within _ _ _) cs_X10_within ml_X10_90 st_X10_within ⟨by decide, by decide⟩ ⟨rfl, rfl⟩ ⟨Nat.zero_le _, Nat.zero_le _⟩ rfl rfl (Nat.le_of_ble_eq_true rfl) dX10_thing_64 ?_
            refine aw_if_eq C 84 dX10_thing_67 (by decide) (fun c6 => ?_) (fun c6 => ?_)
            · rw [if_pos c6] at h
              refine aw_sipush C ((-1002)) dX10_thing_84 (by decide) ?_
              obtain ⟨e8, e9⟩ := inj2 h
              subst e8
              subst e9
              exact hret _ _ dX10_thing_87
            · rw [if_neg c6] at h
              refine aw_iload C 7 dX10_thing_70 rfl ?_
              refine aw_aload_n C 0 dX10_thing_72 rfl rfl ?_
              obtain ⟨v7, hv7, h⟩ := bindE h
              refine aw_gI C fl_X10_110 rfl hv7 dX10_thing_73 ?_
              refine aw_bipush C 60 dX10_thing_76 (by decide) ?_
              refine aw_cS_I C [.int x7, .int v7, .int 60] _ (mt_X10_within _ _ _) cs_X10_within ml_X10_90 st_X10_within ⟨by decide, by decide⟩ ⟨rfl, rfl⟩ ⟨Nat.zero_le _, Nat.zero_le _⟩ rfl rfl (Nat.le_of_ble_eq_true rfl) dX10_thing_78 ?_
              refine aw_if_ne C 88 dX10_thing_81 (by decide) (fun c8 => ?_) (fun c8 => ?_)
              · rw [if_neg c8] at h
                refine aw_aload_n C 0 dX10_thing_88 rfl rfl ?_
                obtain ⟨v9, hv9, h⟩ := bindE h
                refine aw_gR C fl_X10_26 rfl hv9 dX10_thing_89 ?_
                obtain ⟨v10, hv10, h⟩ := bindE h
                refine aw_gI C fl_X10_132 rfl hv10 dX10_thing_92 ?_
                refine aw_bipush C 10 dX10_thing_95 (by decide) ?_
                refine aw_icmp_lt C 104 dX10_thing_97 (by decide) (fun c11 => ?_) (fun c11 => ?_)
                · rw [if_pos c11] at h
                  refine aw_aload_n C 0 dX10_thing_104 rfl rfl ?_
                  obtain ⟨v12, hv12, h⟩ := bindE h
                  refine aw_gR C fl_X10_26 rfl hv12 dX10_thing_105 ?_
                  obtain ⟨v13, hv13, h⟩ := bindE h
                  refine aw_gR C fl_X10_135 rfl hv13 dX10_thing_108 ?_
                  refine aw_aload_n C 0 dX10_thing_111 rfl rfl ?_
                  obtain ⟨v14, hv14, h⟩ := bindE h
                  refine aw_gR C fl_X10_26 rfl hv14 dX10_thing_112 ?_
                  obtain ⟨v15, hv15, h⟩ := bindE h
                  refine aw_gI C fl_X10_132 rfl hv15 dX10_thing_115 ?_
                  obtain ⟨v16, hv16, h⟩ := bindE h
                  refine aw_aR C (by decide) (ty := .object RX6) rfl rfl hv16 dX10_thing_118 ?_
                  refine aw_astore C [(8, .ref (gZ G + v16)), (0, .ref (gZ G + a0)), (1, .int x1), (2, .int x2), (3, .int x3), (4, .int x4), (5, .int x5), (6, .int x6), (7, .int x7)] dX10_thing_119 (by decide) rfl ?_
                  refine aw_aload C 0 dX10_thing_121 rfl ?_
                  refine aw_iload_n C 2 dX10_thing_123 rfl rfl ?_
                  obtain ⟨μ17, hμ17, h⟩ := bindE h
                  refine aw_pI C fl_X10_139 rfl hμ17 dX10_thing_124 ?_
                  refine aw_aload C 0 dX10_thing_127 rfl ?_
                  refine aw_iload_n C 3 dX10_thing_129 rfl rfl ?_
                  obtain ⟨μ18, hμ18, h⟩ := bindE h
                  refine aw_pI C fl_X10_144 rfl hμ18 dX10_thing_130 ?_
                  refine aw_aload C 0 dX10_thing_133 rfl ?_
                  refine aw_iload_n C 4 dX10_thing_135 rfl rfl ?_
                  obtain ⟨μ19, hμ19, h⟩ := bindE h
                  refine aw_pI C fl_X10_147 rfl hμ19 dX10_thing_136 ?_
                  refine aw_aload C 0 dX10_thing_139 rfl ?_
                  refine aw_iload C 5 dX10_thing_141 rfl ?_
                  obtain ⟨μ20, hμ20, h⟩ := bindE h
                  refine aw_pI C fl_X10_150 rfl hμ20 dX10_thing_143 ?_
                  refine aw_aload C 0 dX10_thing_146 rfl ?_
                  refine aw_iload C 6 dX10_thing_148 rfl ?_
                  obtain ⟨μ21, hμ21, h⟩ := bindE h
                  refine aw_pI C fl_X10_153 rfl hμ21 dX10_thing_150 ?_
                  refine aw_aload C 0 dX10_thing_153 rfl ?_
                  refine aw_iload C 7 dX10_thing_155 rfl ?_
                  obtain ⟨μ22, hμ22, h⟩ := bindE h
                  refine aw_pI C fl_X10_156 rfl hμ22 dX10_thing_157 ?_
                  refine aw_aload C 0 dX10_thing_160 rfl ?_
                  refine aw_iload C 8 dX10_thing_162 rfl ?_
                  obtain ⟨μ23, hμ23, h⟩ := bindE h
                  refine aw_pI C fl_X10_159 rfl hμ23 dX10_thing_164 ?_
                  refine aw_aload C 0 dX10_thing_167 rfl ?_
                  refine aw_aload_n C 1 dX10_thing_169 rfl rfl ?_
                  obtain ⟨v24, hv24, h⟩ := bindE h
                  refine aw_gI C fl_X10_110 rfl hv24 dX10_thing_170 ?_
                  obtain ⟨μ25, hμ25, h⟩ := bindE h
                  refine aw_pI C fl_X10_162 rfl hμ25 dX10_thing_173 ?_
                  refine aw_aload_n C 1 dX10_thing_176 rfl rfl ?_
                  obtain ⟨v26, hv26, h⟩ := bindE h
                  refine aw_gR C fl_X10_26 rfl hv26 dX10_thing_177 ?_
                  refine aw_dup C dX10_thing_180 rfl ?_
                  obtain ⟨v27, hv27, h⟩ := bindE h
                  refine aw_gI C fl_X10_132 rfl hv27 dX10_thing_181 ?_
                  refine aw_iconst C 1 dX10_thing_184 (by decide) ?_
                  refine aw_iadd C dX10_thing_185 ?_
                  obtain ⟨μ28, hμ28, h⟩ := bindE h
                  refine aw_pI C fl_X10_132 rfl hμ28 dX10_thing_186 ?_
                  refine aw_aload_n C 1 dX10_thing_189 rfl rfl ?_
                  obtain ⟨v29, hv29, h⟩ := bindE h
                  refine aw_gR C fl_X10_26 rfl hv29 dX10_thing_190 ?_
                  obtain ⟨v30, hv30, h⟩ := bindE h
                  refine aw_gI C fl_X10_132 rfl hv30 dX10_thing_193 ?_
                  refine aw_iconst C 1 dX10_thing_196 (by decide) ?_
                  refine aw_isub C dX10_thing_197 ?_
                  obtain ⟨e8, e9⟩ := inj2 h
                  subst e8
                  subst e9
                  exact hret _ _ dX10_thing_198
                · rw [if_neg c11] at h
                  refine aw_sipush C ((-1004)) dX10_thing_100 (by decide) ?_
                  obtain ⟨e8, e9⟩ := inj2 h
                  subst e8
                  subst e9
                  exact hret _ _ dX10_thing_103
              · rw [if_pos c8] at h
                refine aw_sipush C ((-1002)) dX10_thing_84 (by decide) ?_
                obtain ⟨e8, e9⟩ := inj2 h
                subst e8
                subst e9
                exact hret _ _ dX10_thing_87
        · rw [if_pos c4] at h
          refine aw_sipush C ((-1002)) dX10_thing_43 (by decide) ?_
          obtain ⟨e8, e9⟩ := inj2 h
          subst e8
          subst e9
          exact hret _ _ dX10_thing_46
  · rw [if_pos c1] at h
    refine aw_sipush C ((-1001)) dX10_thing_10 (by decide) ?_
    obtain ⟨e8, e9⟩ := inj2 h
    subst e8
    subst e9
    exact hret _ _ dX10_thing_13
set_option maxRecDepth 100000 in
set_option maxHeartbeats 4000000 in
theorem mt_X10_thing {G : GL} {l : Launch} {a0 : Nat} {x1 : Int32} {x2 : Int32} {x3 : Int32} {x4 : Int32} {x5 : Int32} {x6 : Int32} {x7 : Int32} {μ : Mem} {r : Int32} {μ' : Mem} (h : X10_thing a0 x1 x2 x3 x4 x5 x6 x7 μ = some (r, μ')) : MtI G l yX10_thing cX10_thing 9 (some .int) rm_X10_thing false [.ref (gZ G + a0), .int x1, .int x2, .int x3, .int x4, .int x5, .int x6, .int x7] μ r μ' := met_I (by decide) rfl rfl (Nat.le_of_ble_eq_true rfl) (fun X _ C _ _ hret => wk_X10_thing C h hret)
