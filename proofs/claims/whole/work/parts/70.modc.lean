set_option maxRecDepth 100000 in
set_option maxHeartbeats 4000000 in
theorem X11_read_L25_ok {G : GL} {X : CX} (C : Ctx G X cX11_read 5 RX11 rm_X11_read) (a0 : Nat) (x1 : Int32) : ∀ (n : Nat) (x2 : Int32) (x3 : Int32) (μ : Mem) (z : Int32 × Int32 × Mem), X11_read_L25 a0 x1 n x2 x3 μ = some z → AW G 5 X 0 0 48 [(0, .ref (gZ G + a0)), (1, .int x1), (2, .int z.1), (3, .int z.2.1)] [] z.2.2 → AW G 5 X 0 0 25 [(0, .ref (gZ G + a0)), (1, .int x1), (2, .int x2), (3, .int x3)] [] μ := by
  intro n
  induction n with
  | zero =>
    intro x2 x3 μ z h kx
    rw [X11_read_L25] at h
    cases h
  | succ n ih =>
    intro x2 x3 μ z h kx
    rw [X11_read_L25] at h
    refine aw_iload_n C 3 dX11_read_25 rfl rfl ?_
    refine aw_if_ne C 48 dX11_read_26 (by decide) (fun c1 => ?_) (fun c1 => ?_)
    · rw [if_neg c1] at h
      have e9 := inj1 h
      subst e9
      exact aw_sub [0, 1, 2, 3] rfl kx
    · rw [if_pos c1] at h
      refine aw_aload_n C 0 dX11_read_29 rfl rfl ?_
      obtain ⟨g2, hg2, h⟩ := bindE h
      obtain ⟨z3, hz3, h⟩ := bindE h
      refine aw_cV_I C [] _ (mt_X11_here hz3) cs_X11_here ml_X11_235 im_X11_here se_X11_here (ci := 11) rfl rfl hg2 ⟨by decide, by decide⟩ ⟨rfl, rfl⟩ ⟨Nat.zero_le _, Nat.zero_le _⟩ rfl rfl (Nat.le_of_ble_eq_true rfl) dX11_read_30 ?_
      refine aw_if_lt C 48 dX11_read_33 (by decide) (fun c4 => ?_) (fun c4 => ?_)
      · rw [if_pos c4] at h
        have e9 := inj1 h
        subst e9
        exact aw_sub [0, 1, 2, 3] rfl kx
      · rw [if_neg c4] at h
        refine aw_aload_n C 0 dX11_read_36 rfl rfl ?_
        refine aw_iload_n C 2 dX11_read_37 rfl rfl ?_
        obtain ⟨g5, hg5, h⟩ := bindE h
        obtain ⟨z6, hz6, h⟩ := bindE h
        refine aw_cV_I C [.int x2] _ (mt_X11_readClause hz6) cs_X11_readClause ml_X11_295 im_X11_readClause se_X11_readClause (ci := 11) rfl rfl hg5 ⟨by decide, by decide⟩ ⟨rfl, rfl⟩ ⟨Nat.zero_le _, Nat.zero_le _⟩ rfl rfl (Nat.le_of_ble_eq_true rfl) dX11_read_38 ?_
        refine aw_istore_n C [(3, .int z6.1), (0, .ref (gZ G + a0)), (1, .int x1), (2, .int x2)] dX11_read_41 rfl (by decide) rfl ?_
        refine aw_iinc C (x2 + 1) 3 [(2, .int (x2 + 1)), (3, .int z6.1), (0, .ref (gZ G + a0)), (1, .int x1)] dX11_read_42 rfl rfl (by decide) rfl ?_
        refine aw_goto C 25 dX11_read_45 (by decide) ?_
        exact aw_sub [2, 3, 0, 1] rfl (ih _ _ _ _ h kx)
set_option maxRecDepth 100000 in
set_option maxHeartbeats 4000000 in
theorem X11_read_L72_ok {G : GL} {X : CX} (C : Ctx G X cX11_read 5 RX11 rm_X11_read) (a0 : Nat) (x1 : Int32) (x2 : Int32) : ∀ (n : Nat) (x4 : Int32) (μ : Mem) (z : Int32 × Mem), X11_read_L72 a0 x1 x2 n x4 μ = some z → AW G 5 X 0 0 160 [(0, .ref (gZ G + a0)), (1, .int x1), (2, .int x2), (4, .int z.1)] [] z.2 → AW G 5 X 0 0 72 [(0, .ref (gZ G + a0)), (1, .int x1), (2, .int x2), (4, .int x4)] [] μ := by
  intro n
  induction n with
  | zero =>
    intro x4 μ z h kx
    rw [X11_read_L72] at h
    cases h
  | succ n ih =>
    intro x4 μ z h kx
    rw [X11_read_L72] at h
    refine aw_iload C 3 dX11_read_72 rfl ?_
    refine aw_iload_n C 2 dX11_read_74 rfl rfl ?_
    refine aw_icmp_ge C 160 dX11_read_75 (by decide) (fun c1 => ?_) (fun c1 => ?_)
    · rw [if_pos c1] at h
      have e9 := inj1 h
      subst e9
      exact aw_sub [0, 1, 2, 3] rfl kx
    · rw [if_neg c1] at h
      refine aw_aload_n C 0 dX11_read_78 rfl rfl ?_
      obtain ⟨v2, hv2, h⟩ := bindE h
      refine aw_gR C fl_X11_78 rfl hv2 dX11_read_79 ?_
      refine aw_bipush C 8 dX11_read_82 (by decide) ?_
      refine aw_iload_n C 1 dX11_read_84 rfl rfl ?_
      refine aw_imul C dX11_read_85 ?_
      refine aw_iload C 3 dX11_read_86 rfl ?_
      refine aw_iadd C dX11_read_88 ?_
      refine aw_aload_n C 0 dX11_read_89 rfl rfl ?_
      obtain ⟨v3, hv3, h⟩ := bindE h
      refine aw_gR C fl_X11_90 rfl hv3 dX11_read_90 ?_
      refine aw_iload C 3 dX11_read_93 rfl ?_
      obtain ⟨v4, hv4, h⟩ := bindE h
      refine aw_aI C hv4 dX11_read_95 ?_
      obtain ⟨μ5, hμ5, h⟩ := bindE h
      refine aw_sI C hμ5 dX11_read_96 ?_
      refine aw_aload_n C 0 dX11_read_97 rfl rfl ?_
      obtain ⟨v6, hv6, h⟩ := bindE h
      refine aw_gR C fl_X11_81 rfl hv6 dX11_read_98 ?_
      refine aw_bipush C 8 dX11_read_101 (by decide) ?_
      refine aw_iload_n C 1 dX11_read_103 rfl rfl ?_
      refine aw_imul C dX11_read_104 ?_
      refine aw_iload C 3 dX11_read_105 rfl ?_
      refine aw_iadd C dX11_read_107 ?_
      refine aw_aload_n C 0 dX11_read_108 rfl rfl ?_
      obtain ⟨v7, hv7, h⟩ := bindE h
      refine aw_gR C fl_X11_93 rfl hv7 dX11_read_109 ?_
      refine aw_iload C 3 dX11_read_112 rfl ?_
      obtain ⟨v8, hv8, h⟩ := bindE h
      refine aw_aI C hv8 dX11_read_114 ?_
      obtain ⟨μ9, hμ9, h⟩ := bindE h
      refine aw_sI C hμ9 dX11_read_115 ?_
      refine aw_aload_n C 0 dX11_read_116 rfl rfl ?_
      obtain ⟨v10, hv10, h⟩ := bindE h
      refine aw_gR C fl_X11_84 rfl hv10 dX11_read_117 ?_
      refine aw_bipush C 8 dX11_read_120 (by decide) ?_
      refine aw_iload_n C 1 dX11_read_122 rfl rfl ?_
      refine aw_imul C dX11_read_123 ?_
      refine aw_iload C 3 dX11_read_124 rfl ?_
      refine aw_iadd C dX11_read_126 ?_
      refine aw_aload_n C 0 dX11_read_127 rfl rfl ?_
      obtain ⟨v11, hv11, h⟩ := bindE h
      refine aw_gR C fl_X11_96 rfl hv11 dX11_read_128 ?_
      refine aw_iload C 3 dX11_read_131 rfl ?_
      obtain ⟨v12, hv12, h⟩ := bindE h
      refine aw_aI C hv12 dX11_read_133 ?_
      obtain ⟨μ13, hμ13, h⟩ := bindE h
      refine aw_sI C hμ13 dX11_read_134 ?_
      refine aw_aload_n C 0 dX11_read_135 rfl rfl ?_
      obtain ⟨v14, hv14, h⟩ := bindE h
      refine aw_gR C fl_X11_87 rfl hv14 dX11_read_136 ?_
      refine aw_bipush C 8 dX11_read_139 (by decide) ?_
      refine aw_iload_n C 1 dX11_read_141 rfl rfl ?_
      refine aw_imul C dX11_read_142 ?_
      refine aw_iload C 3 dX11_read_143 rfl ?_
      refine aw_iadd C dX11_read_145 ?_
      refine aw_aload_n C 0 dX11_read_146 rfl rfl ?_
      obtain ⟨v15, hv15, h⟩ := bindE h
      refine aw_gR C fl_X11_99 rfl hv15 dX11_read_147 ?_
      refine aw_iload C 3 dX11_read_150 rfl ?_
      obtain ⟨v16, hv16, h⟩ := bindE h
      refine aw_aI C hv16 dX11_read_152 ?_
      obtain ⟨μ17, hμ17, h⟩ := bindE h
      refine aw_sI C hμ17 dX11_read_153 ?_
      refine aw_iinc C (x4 + 1) 3 [(4, .int (x4 + 1)), (0, .ref (gZ G + a0)), (1, .int x1), (2, .int x2)] dX11_read_154 rfl rfl (by decide) rfl ?_
      refine aw_goto C 72 dX11_read_157 (by decide) ?_
      exact aw_sub [1, 2, 3, 0] rfl (ih _ _ _ h kx)
set_option maxRecDepth 100000 in
set_option maxHeartbeats 4000000 in
theorem wk_X11_read {G : GL} {X : CX} {a0 : Nat} {x1 : Int32} {μ : Mem} {r : Int32} {μ' : Mem} (C : Ctx G X cX11_read 5 RX11 rm_X11_read) (h : X11_read a0 x1 μ = some (r, μ')) (hret : RtI G 5 X cX11_read 0 0 r μ') : AW G 5 X 0 0 0 [(0, .ref (gZ G + a0)), (1, .int x1)] [] μ := by
  unfold X11_read at h
  refine aw_iload_n C 1 dX11_read_0 rfl rfl ?_
  refine aw_cS_I C [.int x1] _ (mt_X11_isPerson _) cs_X11_isPerson ml_X11_153 st_X11_isPerson ⟨by decide, by decide⟩ ⟨rfl, rfl⟩ ⟨Nat.zero_le _, Nat.zero_le _⟩ rfl rfl (Nat.le_of_ble_eq_true rfl) dX11_read_1 ?_
  refine aw_if_ne C 11 dX11_read_4 (by decide) (fun c1 => ?_) (fun c1 => ?_)
  · rw [if_neg c1] at h
    refine aw_aload_n C 0 dX11_read_11 rfl rfl ?_
    refine aw_iconst C ((-1)) dX11_read_12 (by decide) ?_
    obtain ⟨μ2, hμ2, h⟩ := bindE h
    refine aw_pI C fl_X11_105 rfl hμ2 dX11_read_13 ?_
    refine aw_aload_n C 0 dX11_read_16 rfl rfl ?_
    refine aw_iconst C 0 dX11_read_17 (by decide) ?_
    obtain ⟨μ3, hμ3, h⟩ := bindE h
    refine aw_pI C fl_X11_232 rfl hμ3 dX11_read_18 ?_
    refine aw_iconst C 0 dX11_read_21 (by decide) ?_
    refine aw_istore_n C [(2, .int 0), (0, .ref (gZ G + a0)), (1, .int x1)] dX11_read_22 rfl (by decide) rfl ?_
    refine aw_iconst C 0 dX11_read_23 (by decide) ?_
    refine aw_istore_n C [(3, .int 0), (2, .int 0), (0, .ref (gZ G + a0)), (1, .int x1)] dX11_read_24 rfl (by decide) rfl ?_
    obtain ⟨z4, hz4, h⟩ := bindE h
    refine aw_sub [2, 3, 1, 0] rfl ?_
    refine X11_read_L25_ok C _ _ _ _ _ _ _ hz4 ?_
    refine aw_aload_n C 0 dX11_read_48 rfl rfl ?_
    refine aw_iconst C 0 dX11_read_49 (by decide) ?_
    obtain ⟨μ5, hμ5, h⟩ := bindE h
    refine aw_pI C fl_X11_227 rfl hμ5 dX11_read_50 ?_
    refine aw_iload_n C 3 dX11_read_53 rfl rfl ?_
    refine aw_if_le C 62 dX11_read_54 (by decide) (fun c6 => ?_) (fun c6 => ?_)
    · rw [if_pos c6] at h
      refine aw_aload_n C 0 dX11_read_62 rfl rfl ?_
      obtain ⟨v7, hv7, h⟩ := bindE h
      refine aw_gR C fl_X11_75 rfl hv7 dX11_read_63 ?_
      refine aw_iload_n C 1 dX11_read_66 rfl rfl ?_
      refine aw_iload_n C 2 dX11_read_67 rfl rfl ?_
      obtain ⟨μ8, hμ8, h⟩ := bindE h
      refine aw_sI C hμ8 dX11_read_68 ?_
      refine aw_iconst C 0 dX11_read_69 (by decide) ?_
      refine aw_istore C [(4, .int 0), (0, .ref (gZ G + a0)), (1, .int x1), (2, .int z4.1), (3, .int z4.2.1)] dX11_read_70 (by decide) rfl ?_
      obtain ⟨z9, hz9, h⟩ := bindE h
      refine aw_sub [1, 2, 3, 0] rfl ?_
      refine X11_read_L72_ok C _ _ _ _ _ _ _ hz9 ?_
      refine aw_iload_n C 2 dX11_read_160 rfl rfl ?_
      obtain ⟨e8, e9⟩ := inj2 h
      subst e8
      subst e9
      exact hret _ _ dX11_read_161
    · rw [if_neg c6] at h
      refine aw_bipush C ((-10)) dX11_read_57 (by decide) ?_
      refine aw_iload_n C 3 dX11_read_59 rfl rfl ?_
      refine aw_isub C dX11_read_60 ?_
      obtain ⟨e8, e9⟩ := inj2 h
      subst e8
      subst e9
      exact hret _ _ dX11_read_61
  · rw [if_pos c1] at h
    refine aw_sipush C ((-1001)) dX11_read_7 (by decide) ?_
    obtain ⟨e8, e9⟩ := inj2 h
    subst e8
    subst e9
    exact hret _ _ dX11_read_10
set_option maxRecDepth 100000 in
set_option maxHeartbeats 4000000 in
theorem mt_X11_read {G : GL} {l : Launch} {a0 : Nat} {x1 : Int32} {μ : Mem} {r : Int32} {μ' : Mem} (h : X11_read a0 x1 μ = some (r, μ')) : MtI G l yX11_read cX11_read 5 (some .int) rm_X11_read false [.ref (gZ G + a0), .int x1] μ r μ' := met_I (by decide) rfl rfl (Nat.le_of_ble_eq_true rfl) (fun X _ C _ _ hret => wk_X11_read C h hret)
set_option maxRecDepth 100000 in
set_option maxHeartbeats 4000000 in
theorem wk_X11_fault {G : GL} {X : CX} {a0 : Nat} {μ : Mem} {r : Int32} (C : Ctx G X cX11_fault 1 RX11 rm_X11_fault) (h : X11_fault a0 μ = some r) (hret : RtI G 1 X cX11_fault 0 0 r μ) : AW G 1 X 0 0 0 [(0, .ref (gZ G + a0))] [] μ := by
  unfold X11_fault at h
  refine aw_aload_n C 0 dX11_fault_0 rfl rfl ?_
  obtain ⟨v1, hv1, h⟩ := bindE h
  refine aw_gI C fl_X11_105 rfl hv1 dX11_fault_1 ?_
  have e9 := inj1 h
  subst e9
  exact hret _ _ dX11_fault_4
set_option maxRecDepth 100000 in
set_option maxHeartbeats 4000000 in
theorem mt_X11_fault {G : GL} {l : Launch} {a0 : Nat} {μ : Mem} {r : Int32} (h : X11_fault a0 μ = some r) : MtI G l yX11_fault cX11_fault 1 (some .int) rm_X11_fault false [.ref (gZ G + a0)] μ r μ := met_I (by decide) rfl rfl (Nat.le_of_ble_eq_true rfl) (fun X _ C _ _ hret => wk_X11_fault C h hret)
set_option maxRecDepth 100000 in
set_option maxHeartbeats 4000000 in
theorem X11_isAlways_L5_ok {G : GL} {X : CX} (C : Ctx G X cX11_isAlways 5 RX11 rm_X11_isAlways) (a0 : Nat) (x1 : Int32) (x2 : Int32) (μ : Mem) : ∀ (n : Nat) (x3 : Int32) (x4 : Int32) (z : Int32 × Int32), X11_isAlways_L5 a0 x1 x2 μ n x3 x4 = some z → AW G 5 X 0 0 69 [(0, .ref (gZ G + a0)), (1, .int x1), (2, .int x2), (3, .int z.1), (4, .int z.2)] [] μ → AW G 5 X 0 0 5 [(0, .ref (gZ G + a0)), (1, .int x1), (2, .int x2), (3, .int x3), (4, .int x4)] [] μ := by
  intro n
  induction n with
  | zero =>
    intro x3 x4 z h kx
    rw [X11_isAlways_L5] at h
    cases h
  | succ n ih =>
    intro x3 x4 z h kx
    rw [X11_isAlways_L5] at h
    refine aw_iload C 4 dX11_isAlways_5 rfl ?_
    refine aw_aload_n C 0 dX11_isAlways_7 rfl rfl ?_
    obtain ⟨v1, hv1, h⟩ := bindE h
    refine aw_gR C fl_X11_75 rfl hv1 dX11_isAlways_8 ?_
    refine aw_iload_n C 1 dX11_isAlways_11 rfl rfl ?_
    obtain ⟨v2, hv2, h⟩ := bindE h
    refine aw_aI C hv2 dX11_isAlways_12 ?_
    refine aw_icmp_ge C 69 dX11_isAlways_13 (by decide) (fun c3 => ?_) (fun c3 => ?_)
    · rw [if_pos c3] at h
      have e9 := inj1 h
      subst e9
      exact aw_sub [0, 1, 2, 3, 4] rfl kx
    · rw [if_neg c3] at h
      refine aw_iload_n C 3 dX11_isAlways_16 rfl rfl ?_
      obtain ⟨z13, hz13, h⟩ := bindE h
      have kj17 : AW G 5 X 0 0 62 [(0, .ref (gZ G + a0)), (1, .int x1), (2, .int x2), (4, .int x4)] [.int z13] μ := by
        refine aw_istore_n C [(3, .int z13), (0, .ref (gZ G + a0)), (1, .int x1), (2, .int x2), (4, .int x4)] dX11_isAlways_62 rfl (by decide) rfl ?_
        refine aw_iinc C (x4 + 1) 4 [(4, .int (x4 + 1)), (3, .int z13), (0, .ref (gZ G + a0)), (1, .int x1), (2, .int x2)] dX11_isAlways_63 rfl rfl (by decide) rfl ?_
        refine aw_goto C 5 dX11_isAlways_66 (by decide) ?_
        exact aw_sub [2, 3, 4, 1, 0] rfl (ih _ _ _ h kx)
      replace h := hz13
      refine aw_if_ne C 57 dX11_isAlways_17 (by decide) (fun c4 => ?_) (fun c4 => ?_)
      · rw [if_neg c4] at h
        refine aw_iconst C 1 dX11_isAlways_57 (by decide) ?_
        refine aw_goto C 62 dX11_isAlways_58 (by decide) ?_
        have e9 := inj1 h
        subst e9
        exact aw_sub [0, 1, 2, 4] rfl kj17
      · rw [if_pos c4] at h
        refine aw_aload_n C 0 dX11_isAlways_20 rfl rfl ?_
        obtain ⟨v5, hv5, h⟩ := bindE h
        refine aw_gR C fl_X11_78 rfl hv5 dX11_isAlways_21 ?_
        refine aw_bipush C 8 dX11_isAlways_24 (by decide) ?_
        refine aw_iload_n C 1 dX11_isAlways_26 rfl rfl ?_
        refine aw_imul C dX11_isAlways_27 ?_
        refine aw_iload C 4 dX11_isAlways_28 rfl ?_
        refine aw_iadd C dX11_isAlways_30 ?_
        obtain ⟨v6, hv6, h⟩ := bindE h
        refine aw_aI C hv6 dX11_isAlways_31 ?_
        refine aw_iconst C 4 dX11_isAlways_32 (by decide) ?_
        refine aw_icmp_ne C 61 dX11_isAlways_33 (by decide) (fun c7 => ?_) (fun c7 => ?_)
        · rw [if_neg c7] at h
          refine aw_iconst C 0 dX11_isAlways_61 (by decide) ?_
          have e9 := inj1 h
          subst e9
          exact aw_sub [0, 1, 2, 4] rfl kj17
        · rw [if_pos c7] at h
          refine aw_aload_n C 0 dX11_isAlways_36 rfl rfl ?_
          obtain ⟨v8, hv8, h⟩ := bindE h
          refine aw_gR C fl_X11_81 rfl hv8 dX11_isAlways_37 ?_
          refine aw_bipush C 8 dX11_isAlways_40 (by decide) ?_
          refine aw_iload_n C 1 dX11_isAlways_42 rfl rfl ?_
          refine aw_imul C dX11_isAlways_43 ?_
          refine aw_iload C 4 dX11_isAlways_44 rfl ?_
          refine aw_iadd C dX11_isAlways_46 ?_
          obtain ⟨v9, hv9, h⟩ := bindE h
          refine aw_aI C hv9 dX11_isAlways_47 ?_
          refine aw_aload_n C 0 dX11_isAlways_48 rfl rfl ?_
          obtain ⟨v10, hv10, h⟩ := bindE h
          refine aw_gR C fl_X11_50 rfl hv10 dX11_isAlways_49 ?_
          refine aw_iload_n C 2 dX11_isAlways_52 rfl rfl ?_
          obtain ⟨v11, hv11, h⟩ := bindE h
          refine aw_aI C hv11 dX11_isAlways_53 ?_
          refine aw_icmp_ne C 61 dX11_isAlways_54 (by decide) (fun c12 => ?_) (fun c12 => ?_)
          · rw [if_neg c12] at h
            refine aw_iconst C 0 dX11_isAlways_61 (by decide) ?_
            have e9 := inj1 h
            subst e9
            exact aw_sub [0, 1, 2, 4] rfl kj17
          · rw [if_pos c12] at h
            refine aw_iconst C 1 dX11_isAlways_57 (by decide) ?_
            refine aw_goto C 62 dX11_isAlways_58 (by decide) ?_
            have e9 := inj1 h
            subst e9
            exact aw_sub [0, 1, 2, 4] rfl kj17
set_option maxRecDepth 100000 in
set_option maxHeartbeats 4000000 in
theorem wk_X11_isAlways {G : GL} {X : CX} {a0 : Nat} {x1 : Int32} {x2 : Int32} {μ : Mem} {r : Int32} (C : Ctx G X cX11_isAlways 5 RX11 rm_X11_isAlways) (h : X11_isAlways a0 x1 x2 μ = some r) (hret : RtZ G 5 X cX11_isAlways 0 0 r μ) : AW G 5 X 0 0 0 [(0, .ref (gZ G + a0)), (1, .int x1), (2, .int x2)] [] μ := by
  unfold X11_isAlways at h
  refine aw_iconst C 0 dX11_isAlways_0 (by decide) ?_
  refine aw_istore_n C [(3, .int 0), (0, .ref (gZ G + a0)), (1, .int x1), (2, .int x2)] dX11_isAlways_1 rfl (by decide) rfl ?_
  refine aw_iconst C 0 dX11_isAlways_2 (by decide) ?_
  refine aw_istore C [(4, .int 0), (3, .int 0), (0, .ref (gZ G + a0)), (1, .int x1), (2, .int x2)] dX11_isAlways_3 (by decide) rfl ?_
  obtain ⟨z1, hz1, h⟩ := bindE h
  refine aw_sub [2, 3, 4, 1, 0] rfl ?_
  refine X11_isAlways_L5_ok C _ _ _ _ _ _ _ _ hz1 ?_
  refine aw_iload_n C 3 dX11_isAlways_69 rfl rfl ?_
  obtain ⟨v2, hv2, h⟩ := bindE h
  obtain ⟨ev2, zv2⟩ := zzE hv2
  refine aw_topi ev2 ?_
  have e9 := inj1 h
  subst e9
  exact hret _ _ dX11_isAlways_70 zv2
set_option maxRecDepth 100000 in
set_option maxHeartbeats 4000000 in
theorem mt_X11_isAlways {G : GL} {l : Launch} {a0 : Nat} {x1 : Int32} {x2 : Int32} {μ : Mem} {r : Int32} (h : X11_isAlways a0 x1 x2 μ = some r) : MtI G l yX11_isAlways cX11_isAlways 5 (some .boolean) rm_X11_isAlways false [.ref (gZ G + a0), .int x1, .int x2] μ r μ := met_Z (by decide) rfl (Nat.le_of_ble_eq_true rfl) (fun X _ C _ _ hret => wk_X11_isAlways C h hret)
set_option maxRecDepth 100000 in
set_option maxHeartbeats 4000000 in
theorem X11_areAlways_L5_ok {G : GL} {X : CX} (C : Ctx G X cX11_areAlways 5 RX11 rm_X11_areAlways) (a0 : Nat) (x1 : Int32) (x2 : Int32) (μ : Mem) : ∀ (n : Nat) (x3 : Int32) (x4 : Int32) (z : Int32 × Int32), X11_areAlways_L5 a0 x1 x2 μ n x3 x4 = some z → AW G 5 X 0 0 49 [(0, .ref (gZ G + a0)), (1, .int x1), (2, .int x2), (3, .int z.1), (4, .int z.2)] [] μ → AW G 5 X 0 0 5 [(0, .ref (gZ G + a0)), (1, .int x1), (2, .int x2), (3, .int x3), (4, .int x4)] [] μ := by
  intro n
  induction n with
  | zero =>
    intro x3 x4 z h kx
    rw [X11_areAlways_L5] at h
    cases h
  | succ n ih =>
    intro x3 x4 z h kx
    rw [X11_areAlways_L5] at h
    refine aw_iload C 4 dX11_areAlways_5 rfl ?_
    refine aw_aload_n C 0 dX11_areAlways_7 rfl rfl ?_
    obtain ⟨v1, hv1, h⟩ := bindE h
    refine aw_gI C fl_X11_182 rfl hv1 dX11_areAlways_8 ?_
    refine aw_icmp_ge C 49 dX11_areAlways_11 (by decide) (fun c2 => ?_) (fun c2 => ?_)
    · rw [if_pos c2] at h
      have e9 := inj1 h
      subst e9
      exact aw_sub [0, 1, 2, 3, 4] rfl kx
    · rw [if_neg c2] at h
      refine aw_iload_n C 3 dX11_areAlways_14 rfl rfl ?_
      obtain ⟨z8, hz8, h⟩ := bindE h
      have kj15 : AW G 5 X 0 0 42 [(0, .ref (gZ G + a0)), (1, .int x1), (2, .int x2), (4, .int x4)] [.int z8] μ := by
        refine aw_istore_n C [(3, .int z8), (0, .ref (gZ G + a0)), (1, .int x1), (2, .int x2), (4, .int x4)] dX11_areAlways_42 rfl (by decide) rfl ?_
        refine aw_iinc C (x4 + 1) 4 [(4, .int (x4 + 1)), (3, .int z8), (0, .ref (gZ G + a0)), (1, .int x1), (2, .int x2)] dX11_areAlways_43 rfl rfl (by decide) rfl ?_
        refine aw_goto C 5 dX11_areAlways_46 (by decide) ?_
        exact aw_sub [2, 3, 4, 1, 0] rfl (ih _ _ _ h kx)
      replace h := hz8
      refine aw_if_eq C 41 dX11_areAlways_15 (by decide) (fun c3 => ?_) (fun c3 => ?_)
      · rw [if_pos c3] at h
        refine aw_iconst C 0 dX11_areAlways_41 (by decide) ?_
        have e9 := inj1 h
        subst e9
        exact aw_sub [0, 1, 2, 4] rfl kj15
      · rw [if_neg c3] at h
        refine aw_iload_n C 2 dX11_areAlways_18 rfl rfl ?_
        refine aw_iload C 4 dX11_areAlways_19 rfl ?_
        refine aw_ishr C dX11_areAlways_21 ?_
        refine aw_iconst C 1 dX11_areAlways_22 (by decide) ?_
        refine aw_iand C dX11_areAlways_23 ?_
        refine aw_if_eq C 37 dX11_areAlways_24 (by decide) (fun c4 => ?_) (fun c4 => ?_)
        · rw [if_pos c4] at h
          refine aw_iconst C 1 dX11_areAlways_37 (by decide) ?_
          refine aw_goto C 42 dX11_areAlways_38 (by decide) ?_
          have e9 := inj1 h
          subst e9
          exact aw_sub [0, 1, 2, 4] rfl kj15
        · rw [if_neg c4] at h
          refine aw_aload_n C 0 dX11_areAlways_27 rfl rfl ?_
          refine aw_iload_n C 1 dX11_areAlways_28 rfl rfl ?_
          refine aw_iload C 4 dX11_areAlways_29 rfl ?_
          obtain ⟨g5, hg5, h⟩ := bindE h
          obtain ⟨v6, hv6, h⟩ := bindE h
          refine aw_cV_I C [.int x1, .int x4] _ (mt_X11_isAlways hv6) cs_X11_isAlways ml_X11_298 im_X11_isAlways se_X11_isAlways (ci := 11) rfl rfl hg5 ⟨by decide, by decide⟩ ⟨rfl, rfl⟩ ⟨Nat.zero_le _, Nat.zero_le _⟩ rfl rfl (Nat.le_of_ble_eq_true rfl) dX11_areAlways_31 ?_
          refine aw_if_eq C 41 dX11_areAlways_34 (by decide) (fun c7 => ?_) (fun c7 => ?_)
          · rw [if_pos c7] at h
            refine aw_iconst C 0 dX11_areAlways_41 (by decide) ?_
            have e9 := inj1 h
            subst e9
            exact aw_sub [0, 1, 2, 4] rfl kj15
          · rw [if_neg c7] at h
            refine aw_iconst C 1 dX11_areAlways_37 (by decide) ?_
            refine aw_goto C 42 dX11_areAlways_38 (by decide) ?_
            have e9 := inj1 h
            subst e9
            exact aw_sub [0, 1, 2, 4] rfl kj15
set_option maxRecDepth 100000 in
set_option maxHeartbeats 4000000 in
theorem wk_X11_areAlways {G : GL} {X : CX} {a0 : Nat} {x1 : Int32} {x2 : Int32} {μ : Mem} {r : Int32} (C : Ctx G X cX11_areAlways 5 RX11 rm_X11_areAlways) (h : X11_areAlways a0 x1 x2 μ = some r) (hret : RtZ G 5 X cX11_areAlways 0 0 r μ) : AW G 5 X 0 0 0 [(0, .ref (gZ G + a0)), (1, .int x1), (2, .int x2)] [] μ := by
  unfold X11_areAlways at h
  refine aw_iconst C 1 dX11_areAlways_0 (by decide) ?_
  refine aw_istore_n C [(3, .int 1), (0, .ref (gZ G + a0)), (1, .int x1), (2, .int x2)] dX11_areAlways_1 rfl (by decide) rfl ?_
  refine aw_iconst C 0 dX11_areAlways_2 (by decide) ?_
  refine aw_istore C [(4, .int 0), (3, .int 1), (0, .ref (gZ G + a0)), (1, .int x1), (2, .int x2)] dX11_areAlways_3 (by decide) rfl ?_
  obtain ⟨z1, hz1, h⟩ := bindE h
  refine aw_sub [2, 3, 4, 1, 0] rfl ?_
  refine X11_areAlways_L5_ok C _ _ _ _ _ _ _ _ hz1 ?_
  refine aw_iload_n C 3 dX11_areAlways_49 rfl rfl ?_
  obtain ⟨v2, hv2, h⟩ := bindE h
  obtain ⟨ev2, zv2⟩ := zzE hv2
  refine aw_topi ev2 ?_
  have e9 := inj1 h
  subst e9
  exact hret _ _ dX11_areAlways_50 zv2
set_option maxRecDepth 100000 in
set_option maxHeartbeats 4000000 in
theorem mt_X11_areAlways {G : GL} {l : Launch} {a0 : Nat} {x1 : Int32} {x2 : Int32} {μ : Mem} {r : Int32} (h : X11_areAlways a0 x1 x2 μ = some r) : MtI G l yX11_areAlways cX11_areAlways 5 (some .boolean) rm_X11_areAlways false [.ref (gZ G + a0), .int x1, .int x2] μ r μ := met_Z (by decide) rfl (Nat.le_of_ble_eq_true rfl) (fun X _ C _ _ hret => wk_X11_areAlways C h hret)
set_option maxRecDepth 100000 in
set_option maxHeartbeats 4000000 in
theorem X11_isWayBarred_L19_ok {G : GL} {X : CX} (C : Ctx G X cX11_isWayBarred 7 RX11 rm_X11_isWayBarred) (a0 : Nat) (x1 : Int32) (x2 : Int32) (μ : Mem) : ∀ (n : Nat) (x4 : Int32) (x5 : Int32) (z : Int32 × Int32), X11_isWayBarred_L19 a0 x1 x2 μ n x4 x5 = some z → AW G 7 X 0 0 130 [(0, .ref (gZ G + a0)), (1, .int x1), (2, .int x2), (4, .int z.1), (5, .int z.2)] [] μ → AW G 7 X 0 0 19 [(0, .ref (gZ G + a0)), (1, .int x1), (2, .int x2), (4, .int x4), (5, .int x5)] [] μ := by
  intro n
  induction n with
  | zero =>
    intro x4 x5 z h kx
    rw [X11_isWayBarred_L19] at h
    cases h
  | succ n ih =>
    intro x4 x5 z h kx
    rw [X11_isWayBarred_L19] at h
    refine aw_iload C 4 dX11_isWayBarred_19 rfl ?_
    refine aw_bipush C 8 dX11_isWayBarred_21 (by decide) ?_
    refine aw_iload_n C 1 dX11_isWayBarred_23 rfl rfl ?_
    refine aw_imul C dX11_isWayBarred_24 ?_
    refine aw_aload_n C 0 dX11_isWayBarred_25 rfl rfl ?_
    obtain ⟨v1, hv1, h⟩ := bindE h
    refine aw_gR C fl_X11_75 rfl hv1 dX11_isWayBarred_26 ?_
    refine aw_iload_n C 1 dX11_isWayBarred_29 rfl rfl ?_
    obtain ⟨v2, hv2, h⟩ := bindE h
    refine aw_aI C hv2 dX11_isWayBarred_30 ?_
    refine aw_iadd C dX11_isWayBarred_31 ?_
    refine aw_icmp_ge C 130 dX11_isWayBarred_32 (by decide) (fun c3 => ?_) (fun c3 => ?_)
    · rw [if_pos c3] at h
      have e9 := inj1 h
      subst e9
      exact aw_sub [0, 1, 2, 3, 4] rfl kx
    · rw [if_neg c3] at h
      refine aw_aload_n C 0 dX11_isWayBarred_35 rfl rfl ?_
      obtain ⟨v4, hv4, h⟩ := bindE h
      refine aw_gR C fl_X11_78 rfl hv4 dX11_isWayBarred_36 ?_
      refine aw_iload C 4 dX11_isWayBarred_39 rfl ?_
      obtain ⟨v5, hv5, h⟩ := bindE h
      refine aw_aI C hv5 dX11_isWayBarred_41 ?_
      refine aw_iconst C 2 dX11_isWayBarred_42 (by decide) ?_
      obtain ⟨z10, hz10, h⟩ := bindE h
      have kj43 : AW G 7 X 0 0 62 [(0, .ref (gZ G + a0)), (1, .int x1), (2, .int x2), (4, .int x4), (5, .int x5)] [.int z10] μ := by
        refine aw_istore C [(6, .int z10), (0, .ref (gZ G + a0)), (1, .int x1), (2, .int x2), (4, .int x4), (5, .int x5)] dX11_isWayBarred_62 (by decide) rfl ?_
        refine aw_iload C 4 dX11_isWayBarred_64 rfl ?_
        obtain ⟨z23, hz23, h⟩ := bindE h
        have kj66 : AW G 7 X 0 0 122 [(0, .ref (gZ G + a0)), (1, .int x1), (2, .int x2), (5, .int x5)] [.int z23] μ := by
          refine aw_istore C [(4, .int z23), (0, .ref (gZ G + a0)), (1, .int x1), (2, .int x2), (5, .int x5)] dX11_isWayBarred_122 (by decide) rfl ?_
          refine aw_iinc C (x5 + 1) 4 [(5, .int (x5 + 1)), (4, .int z23), (0, .ref (gZ G + a0)), (1, .int x1), (2, .int x2)] dX11_isWayBarred_124 rfl rfl (by decide) rfl ?_
          refine aw_goto C 19 dX11_isWayBarred_127 (by decide) ?_
          exact aw_sub [2, 3, 4, 1, 0] rfl (ih _ _ _ h kx)
        replace h := hz23
        refine aw_if_ne C 117 dX11_isWayBarred_66 (by decide) (fun c11 => ?_) (fun c11 => ?_)
        · rw [if_neg c11] at h
          refine aw_iconst C 1 dX11_isWayBarred_117 (by decide) ?_
          refine aw_goto C 122 dX11_isWayBarred_118 (by decide) ?_
          have e9 := inj1 h
          subst e9
          exact aw_sub [1, 2, 3, 5] rfl kj66
        · rw [if_pos c11] at h
          refine aw_iload C 0 dX11_isWayBarred_69 rfl ?_
          refine aw_if_eq C 121 dX11_isWayBarred_71 (by decide) (fun c12 => ?_) (fun c12 => ?_)
          · rw [if_pos c12] at h
            refine aw_iconst C 0 dX11_isWayBarred_121 (by decide) ?_
            have e9 := inj1 h
            subst e9
            exact aw_sub [1, 2, 3, 5] rfl kj66
          · rw [if_neg c12] at h
            refine aw_aload_n C 1 dX11_isWayBarred_74 rfl rfl ?_
            obtain ⟨v13, hv13, h⟩ := bindE h
            refine aw_gR C fl_X11_78 rfl hv13 dX11_isWayBarred_75 ?_
            refine aw_iload C 5 dX11_isWayBarred_78 rfl ?_
            obtain ⟨v14, hv14, h⟩ := bindE h
            refine aw_aI C hv14 dX11_isWayBarred_80 ?_
            refine aw_if_eq C 117 dX11_isWayBarred_81 (by decide) (fun c15 => ?_) (fun c15 => ?_)
            · rw [if_pos c15] at h
              refine aw_iconst C 1 dX11_isWayBarred_117 (by decide) ?_
              refine aw_goto C 122 dX11_isWayBarred_118 (by decide) ?_
              have e9 := inj1 h
              subst e9
              exact aw_sub [1, 2, 3, 5] rfl kj66
            · rw [if_neg c15] at h
              refine aw_ldc2 C kl_X11_217 dX11_isWayBarred_84 ?_
              refine aw_aload_n C 1 dX11_isWayBarred_87 rfl rfl ?_
              obtain ⟨v16, hv16, h⟩ := bindE h
              refine aw_gR C fl_X11_35 rfl hv16 dX11_isWayBarred_88 ?_
              refine aw_aload_n C 1 dX11_isWayBarred_91 rfl rfl ?_
              obtain ⟨v17, hv17, h⟩ := bindE h
              refine aw_gR C fl_X11_84 rfl hv17 dX11_isWayBarred_92 ?_
              refine aw_iload C 5 dX11_isWayBarred_95 rfl ?_
              obtain ⟨v18, hv18, h⟩ := bindE h
              refine aw_aI C hv18 dX11_isWayBarred_97 ?_
              obtain ⟨v19, hv19, h⟩ := bindE h
              refine aw_aI C hv19 dX11_isWayBarred_98 ?_
              refine aw_i2l C dX11_isWayBarred_99 ?_
              refine aw_lmul C dX11_isWayBarred_100 ?_
              refine aw_ldc2 C kl_X11_171 dX11_isWayBarred_101 ?_
              refine aw_aload_n C 1 dX11_isWayBarred_104 rfl rfl ?_
              obtain ⟨v20, hv20, h⟩ := bindE h
              refine aw_gR C fl_X11_87 rfl hv20 dX11_isWayBarred_105 ?_
              refine aw_iload C 5 dX11_isWayBarred_108 rfl ?_
              obtain ⟨v21, hv21, h⟩ := bindE h
              refine aw_aI C hv21 dX11_isWayBarred_110 ?_
              refine aw_i2l C dX11_isWayBarred_111 ?_
              refine aw_lmul C dX11_isWayBarred_112 ?_
              refine aw_lcmp C dX11_isWayBarred_113 ?_
              refine aw_if_lt C 121 dX11_isWayBarred_114 (by decide) (fun c22 => ?_) (fun c22 => ?_)
              · rw [if_pos c22] at h
                refine aw_iconst C 0 dX11_isWayBarred_121 (by decide) ?_
                have e9 := inj1 h
                subst e9
                exact aw_sub [1, 2, 3, 5] rfl kj66
              · rw [if_neg c22] at h
                refine aw_iconst C 1 dX11_isWayBarred_117 (by decide) ?_
                refine aw_goto C 122 dX11_isWayBarred_118 (by decide) ?_
                have e9 := inj1 h
                subst e9
                exact aw_sub [1, 2, 3, 5] rfl kj66
      replace h := hz10
      refine aw_icmp_ge C 61 dX11_isWayBarred_43 (by decide) (fun c6 => ?_) (fun c6 => ?_)
      · rw [if_pos c6] at h
        refine aw_iconst C 0 dX11_isWayBarred_61 (by decide) ?_
        have e9 := inj1 h
        subst e9
        exact aw_sub [0, 1, 2, 3, 4] rfl kj43
      · rw [if_neg c6] at h
        refine aw_aload_n C 0 dX11_isWayBarred_46 rfl rfl ?_
        obtain ⟨v7, hv7, h⟩ := bindE h
        refine aw_gR C fl_X11_81 rfl hv7 dX11_isWayBarred_47 ?_
        refine aw_iload C 4 dX11_isWayBarred_50 rfl ?_
        obtain ⟨v8, hv8, h⟩ := bindE h
        refine aw_aI C hv8 dX11_isWayBarred_52 ?_
        refine aw_iload_n C 2 dX11_isWayBarred_53 rfl rfl ?_
        refine aw_icmp_ne C 61 dX11_isWayBarred_54 (by decide) (fun c9 => ?_) (fun c9 => ?_)
        · rw [if_neg c9] at h
          refine aw_iconst C 0 dX11_isWayBarred_61 (by decide) ?_
          have e9 := inj1 h
          subst e9
          exact aw_sub [0, 1, 2, 3, 4] rfl kj43
        · rw [if_pos c9] at h
          refine aw_iconst C 1 dX11_isWayBarred_57 (by decide) ?_
          refine aw_goto C 62 dX11_isWayBarred_58 (by decide) ?_
          have e9 := inj1 h
          subst e9
          exact aw_sub [0, 1, 2, 3, 4] rfl kj43
set_option maxRecDepth 100000 in
set_option maxHeartbeats 4000000 in
theorem wk_X11_isWayBarred {G : GL} {X : CX} {a0 : Nat} {x1 : Int32} {x2 : Int32} {x3 : Int32} {μ : Mem} {r : Int32} {μ' : Mem} (C : Ctx G X cX11_isWayBarred 7 RX11 rm_X11_isWayBarred) (h : X11_isWayBarred a0 x1 x2 x3 μ = some (r, μ')) (hret : RtZ G 7 X cX11_isWayBarred 0 0 r μ') : AW G 7 X 0 0 0 [(0, .ref (gZ G + a0)), (1, .int x1), (2, .int x2), (3, .int x3)] [] μ := by
  unfold X11_isWayBarred at h
  refine aw_aload_n C 0 dX11_isWayBarred_0 rfl rfl ?_
  refine aw_iload_n C 1 dX11_isWayBarred_1 rfl rfl ?_
  refine aw_aload_n C 0 dX11_isWayBarred_2 rfl rfl ?_
  obtain ⟨v1, hv1, h⟩ := bindE h
  refine aw_gI C fl_X11_158 rfl hv1 dX11_isWayBarred_3 ?_
  refine aw_iload_n C 3 dX11_isWayBarred_6 rfl rfl ?_
  obtain ⟨g2, hg2, h⟩ := bindE h
  obtain ⟨μ3, hμ3, h⟩ := bindE h
  refine aw_cV_V C [.int x1, .int v1, .int x3] _ (mt_X11_findOdds hμ3) cs_X11_findOdds ml_X11_173 im_X11_findOdds se_X11_findOdds (ci := 11) rfl rfl hg2 ⟨by decide, by decide⟩ ⟨rfl, rfl⟩ ⟨Nat.zero_le _, Nat.zero_le _⟩ rfl rfl (Nat.le_of_ble_eq_true rfl) dX11_isWayBarred_7 ?_
  refine aw_iconst C 0 dX11_isWayBarred_10 (by decide) ?_
  refine aw_istore C [(4, .int 0), (0, .ref (gZ G + a0)), (1, .int x1), (2, .int x2), (3, .int x3)] dX11_isWayBarred_11 (by decide) rfl ?_
  refine aw_bipush C 8 dX11_isWayBarred_13 (by decide) ?_
  refine aw_iload_n C 2 dX11_isWayBarred_15 rfl rfl ?_
  refine aw_imul C dX11_isWayBarred_16 ?_
  obtain ⟨v4, ev4, h⟩ := bindS h
  refine aw_topi ev4 ?_
  refine aw_istore C [(5, .int v4), (4, .int 0), (0, .ref (gZ G + a0)), (1, .int x1), (2, .int x2), (3, .int x3)] dX11_isWayBarred_17 (by decide) rfl ?_
  obtain ⟨z5, hz5, h⟩ := bindE h
  refine aw_sub [2, 3, 4, 1, 0] rfl ?_
  refine X11_isWayBarred_L19_ok C _ _ _ _ _ _ _ _ hz5 ?_
  refine aw_iload C 3 dX11_isWayBarred_130 rfl ?_
  obtain ⟨v6, hv6, h⟩ := bindE h
  obtain ⟨ev6, zv6⟩ := zzE hv6
  refine aw_topi ev6 ?_
  obtain ⟨e8, e9⟩ := inj2 h
  subst e8
  subst e9
  exact hret _ _ dX11_isWayBarred_132 zv6
set_option maxRecDepth 100000 in
set_option maxHeartbeats 4000000 in
theorem mt_X11_isWayBarred {G : GL} {l : Launch} {a0 : Nat} {x1 : Int32} {x2 : Int32} {x3 : Int32} {μ : Mem} {r : Int32} {μ' : Mem} (h : X11_isWayBarred a0 x1 x2 x3 μ = some (r, μ')) : MtI G l yX11_isWayBarred cX11_isWayBarred 7 (some .boolean) rm_X11_isWayBarred false [.ref (gZ G + a0), .int x1, .int x2, .int x3] μ r μ' := met_Z (by decide) rfl (Nat.le_of_ble_eq_true rfl) (fun X _ C _ _ hret => wk_X11_isWayBarred C h hret)
set_option maxRecDepth 100000 in
set_option maxHeartbeats 4000000 in
theorem X11_isKindBarred_L48_ok {G : GL} {X : CX} (C : Ctx G X cX11_isKindBarred 8 RX11 rm_X11_isKindBarred) (a0 : Nat) (x1 : Int32) (x2 : Int32) (x3 : Int32) (x5 : Int32) (x6 : Int32) (μ : Mem) : ∀ (n : Nat) (x4 : Int32) (x7 : Int32) (z : Int32 × Int32), X11_isKindBarred_L48 a0 x1 x2 x3 x5 x6 μ n x4 x7 = some z → AW G 8 X 0 0 131 [(0, .ref (gZ G + a0)), (1, .int x1), (2, .int x2), (3, .int x3), (4, .int z.1), (5, .int x5), (6, .int x6), (7, .int z.2)] [] μ → AW G 8 X 0 0 48 [(0, .ref (gZ G + a0)), (1, .int x1), (2, .int x2), (3, .int x3), (4, .int x4), (5, .int x5), (6, .int x6), (7, .int x7)] [] μ := by
  intro n
  induction n with
  | zero =>
    intro x4 x7 z h kx
    rw [X11_isKindBarred_L48] at h
    cases h
  | succ n ih =>
    intro x4 x7 z h kx
    rw [X11_isKindBarred_L48] at h
    refine aw_iload C 7 dX11_isKindBarred_48 rfl ?_
    refine aw_bipush C 8 dX11_isKindBarred_50 (by decide) ?_
    refine aw_iload_n C 1 dX11_isKindBarred_52 rfl rfl ?_
    refine aw_imul C dX11_isKindBarred_53 ?_
    refine aw_aload_n C 0 dX11_isKindBarred_54 rfl rfl ?_
    obtain ⟨v1, hv1, h⟩ := bindE h
    refine aw_gR C fl_X11_75 rfl hv1 dX11_isKindBarred_55 ?_
    refine aw_iload_n C 1 dX11_isKindBarred_58 rfl rfl ?_
    obtain ⟨v2, hv2, h⟩ := bindE h
    refine aw_aI C hv2 dX11_isKindBarred_59 ?_
    refine aw_iadd C dX11_isKindBarred_60 ?_
    refine aw_icmp_ge C 131 dX11_isKindBarred_61 (by decide) (fun c3 => ?_) (fun c3 => ?_)
    · rw [if_pos c3] at h
      have e9 := inj1 h
      subst e9
      exact aw_sub [0, 1, 2, 3, 4, 5, 6, 7] rfl kx
    · rw [if_neg c3] at h
      refine aw_iload C 6 dX11_isKindBarred_64 rfl ?_
      refine aw_if_eq C 131 dX11_isKindBarred_66 (by decide) (fun c4 => ?_) (fun c4 => ?_)
      · rw [if_pos c4] at h
        have e9 := inj1 h
        subst e9
        exact aw_sub [0, 1, 2, 3, 4, 5, 6, 7] rfl kx
      · rw [if_neg c4] at h
        refine aw_iload C 4 dX11_isKindBarred_69 rfl ?_
        obtain ⟨z18, hz18, h⟩ := bindE h
        have kj71 : AW G 8 X 0 0 123 [(0, .ref (gZ G + a0)), (1, .int x1), (2, .int x2), (3, .int x3), (5, .int x5), (6, .int x6), (7, .int x7)] [.int z18] μ := by
          refine aw_istore C [(4, .int z18), (0, .ref (gZ G + a0)), (1, .int x1), (2, .int x2), (3, .int x3), (5, .int x5), (6, .int x6), (7, .int x7)] dX11_isKindBarred_123 (by decide) rfl ?_
          refine aw_iinc C (x7 + 1) 7 [(7, .int (x7 + 1)), (4, .int z18), (0, .ref (gZ G + a0)), (1, .int x1), (2, .int x2), (3, .int x3), (5, .int x5), (6, .int x6)] dX11_isKindBarred_125 rfl rfl (by decide) rfl ?_
          refine aw_goto C 48 dX11_isKindBarred_128 (by decide) ?_
          exact aw_sub [2, 3, 4, 5, 1, 6, 7, 0] rfl (ih _ _ _ h kx)
        replace h := hz18
        refine aw_if_ne C 118 dX11_isKindBarred_71 (by decide) (fun c5 => ?_) (fun c5 => ?_)
        · rw [if_neg c5] at h
          refine aw_iconst C 1 dX11_isKindBarred_118 (by decide) ?_
          refine aw_goto C 123 dX11_isKindBarred_119 (by decide) ?_
          have e9 := inj1 h
          subst e9
          exact aw_sub [0, 1, 2, 3, 5, 6, 7] rfl kj71
        · rw [if_pos c5] at h
          refine aw_aload_n C 0 dX11_isKindBarred_74 rfl rfl ?_
          obtain ⟨v6, hv6, h⟩ := bindE h
          refine aw_gR C fl_X11_78 rfl hv6 dX11_isKindBarred_75 ?_
          refine aw_iload C 7 dX11_isKindBarred_78 rfl ?_
          obtain ⟨v7, hv7, h⟩ := bindE h
          refine aw_aI C hv7 dX11_isKindBarred_80 ?_
          refine aw_iconst C 2 dX11_isKindBarred_81 (by decide) ?_
          refine aw_icmp_ne C 122 dX11_isKindBarred_82 (by decide) (fun c8 => ?_) (fun c8 => ?_)
          · rw [if_neg c8] at h
            refine aw_iconst C 0 dX11_isKindBarred_122 (by decide) ?_
            have e9 := inj1 h
            subst e9
            exact aw_sub [0, 1, 2, 3, 5, 6, 7] rfl kj71
          · rw [if_pos c8] at h
            refine aw_aload_n C 0 dX11_isKindBarred_85 rfl rfl ?_
            obtain ⟨v9, hv9, h⟩ := bindE h
            refine aw_gR C fl_X11_81 rfl hv9 dX11_isKindBarred_86 ?_
            refine aw_iload C 7 dX11_isKindBarred_89 rfl ?_
            obtain ⟨v10, hv10, h⟩ := bindE h
            refine aw_aI C hv10 dX11_isKindBarred_91 ?_
            refine aw_aload_n C 0 dX11_isKindBarred_92 rfl rfl ?_
            obtain ⟨v11, hv11, h⟩ := bindE h
            refine aw_gR C fl_X11_44 rfl hv11 dX11_isKindBarred_93 ?_
            refine aw_iload C 5 dX11_isKindBarred_96 rfl ?_
            obtain ⟨v12, hv12, h⟩ := bindE h
            refine aw_aI C hv12 dX11_isKindBarred_98 ?_
            refine aw_icmp_ne C 122 dX11_isKindBarred_99 (by decide) (fun c13 => ?_) (fun c13 => ?_)
            · rw [if_neg c13] at h
              refine aw_iconst C 0 dX11_isKindBarred_122 (by decide) ?_
              have e9 := inj1 h
              subst e9
              exact aw_sub [0, 1, 2, 3, 5, 6, 7] rfl kj71
            · rw [if_pos c13] at h
              refine aw_aload_n C 0 dX11_isKindBarred_102 rfl rfl ?_
              obtain ⟨v14, hv14, h⟩ := bindE h
              refine aw_gI C fl_X11_158 rfl hv14 dX11_isKindBarred_103 ?_
              refine aw_iload_n C 3 dX11_isKindBarred_106 rfl rfl ?_
              refine aw_iadd C dX11_isKindBarred_107 ?_
              refine aw_aload_n C 0 dX11_isKindBarred_108 rfl rfl ?_
              obtain ⟨v15, hv15, h⟩ := bindE h
              refine aw_gR C fl_X11_84 rfl hv15 dX11_isKindBarred_109 ?_
              refine aw_iload C 7 dX11_isKindBarred_112 rfl ?_
              obtain ⟨v16, hv16, h⟩ := bindE h
              refine aw_aI C hv16 dX11_isKindBarred_114 ?_
              refine aw_icmp_le C 122 dX11_isKindBarred_115 (by decide) (fun c17 => ?_) (fun c17 => ?_)
              · rw [if_pos c17] at h
                refine aw_iconst C 0 dX11_isKindBarred_122 (by decide) ?_
                have e9 := inj1 h
                subst e9
                exact aw_sub [0, 1, 2, 3, 5, 6, 7] rfl kj71
              · rw [if_neg c17] at h
                refine aw_iconst C 1 dX11_isKindBarred_118 (by decide) ?_
                refine aw_goto C 123 dX11_isKindBarred_119 (by decide) ?_
                have e9 := inj1 h
                subst e9
                exact aw_sub [0, 1, 2, 3, 5, 6, 7] rfl kj71
set_option maxRecDepth 100000 in
set_option maxHeartbeats 4000000 in
theorem X11_isKindBarred_L6_ok {G : GL} {X : CX} (C : Ctx G X cX11_isKindBarred 8 RX11 rm_X11_isKindBarred) (a0 : Nat) (x1 : Int32) (x2 : Int32) (x3 : Int32) (μ : Mem) : ∀ (n : Nat) (x4 : Int32) (x5 : Int32) (z : Int32 × Int32), X11_isKindBarred_L6 a0 x1 x2 x3 μ n x4 x5 = some z → AW G 8 X 0 0 137 [(0, .ref (gZ G + a0)), (1, .int x1), (2, .int x2), (3, .int x3), (4, .int z.1), (5, .int z.2)] [] μ → AW G 8 X 0 0 6 [(0, .ref (gZ G + a0)), (1, .int x1), (2, .int x2), (3, .int x3), (4, .int x4), (5, .int x5)] [] μ := by
  intro n
  induction n with
  | zero =>
    intro x4 x5 z h kx
    rw [X11_isKindBarred_L6] at h
    cases h
  | succ n ih =>
    intro x4 x5 z h kx
    rw [X11_isKindBarred_L6] at h
    refine aw_iload C 5 dX11_isKindBarred_6 rfl ?_
    refine aw_aload_n C 0 dX11_isKindBarred_8 rfl rfl ?_
    obtain ⟨v1, hv1, h⟩ := bindE h
    refine aw_gI C fl_X11_182 rfl hv1 dX11_isKindBarred_9 ?_
    refine aw_icmp_ge C 137 dX11_isKindBarred_12 (by decide) (fun c2 => ?_) (fun c2 => ?_)
    · rw [if_pos c2] at h
      have e9 := inj1 h
      subst e9
      exact aw_sub [0, 1, 2, 3, 4, 5] rfl kx
    · rw [if_neg c2] at h
      refine aw_iload_n C 2 dX11_isKindBarred_15 rfl rfl ?_
      refine aw_iload C 5 dX11_isKindBarred_16 rfl ?_
      refine aw_ishr C dX11_isKindBarred_18 ?_
      refine aw_iconst C 1 dX11_isKindBarred_19 (by decide) ?_
      refine aw_iand C dX11_isKindBarred_20 ?_
      refine aw_iconst C 1 dX11_isKindBarred_21 (by decide) ?_
      obtain ⟨z7, hz7, h⟩ := bindE h
      have kj22 : AW G 8 X 0 0 40 [(0, .ref (gZ G + a0)), (1, .int x1), (2, .int x2), (3, .int x3), (4, .int x4), (5, .int x5)] [.int z7] μ := by
        refine aw_istore C [(6, .int z7), (0, .ref (gZ G + a0)), (1, .int x1), (2, .int x2), (3, .int x3), (4, .int x4), (5, .int x5)] dX11_isKindBarred_40 (by decide) rfl ?_
        refine aw_bipush C 8 dX11_isKindBarred_42 (by decide) ?_
        refine aw_iload_n C 2 dX11_isKindBarred_44 rfl rfl ?_
        refine aw_imul C dX11_isKindBarred_45 ?_
        obtain ⟨v8, ev8, h⟩ := bindS h
        refine aw_topi ev8 ?_
        refine aw_istore C [(7, .int v8), (6, .int z7), (0, .ref (gZ G + a0)), (1, .int x1), (2, .int x2), (3, .int x3), (4, .int x4), (5, .int x5)] dX11_isKindBarred_46 (by decide) rfl ?_
        obtain ⟨z9, hz9, h⟩ := bindE h
        refine aw_sub [2, 3, 4, 5, 6, 7, 1, 0] rfl ?_
        refine X11_isKindBarred_L48_ok C _ _ _ _ _ _ _ _ _ _ _ hz9 ?_
        refine aw_iinc C (x5 + 1) 5 [(5, .int (x5 + 1)), (0, .ref (gZ G + a0)), (1, .int x1), (2, .int x2), (3, .int x3), (4, .int z9.1), (6, .int z7), (7, .int z9.2)] dX11_isKindBarred_131 rfl rfl (by decide) rfl ?_
        refine aw_goto C 6 dX11_isKindBarred_134 (by decide) ?_
        exact aw_sub [1, 2, 3, 4, 5, 0] rfl (ih _ _ _ h kx)
      replace h := hz7
      refine aw_icmp_ne C 39 dX11_isKindBarred_22 (by decide) (fun c3 => ?_) (fun c3 => ?_)
      · rw [if_neg c3] at h
        refine aw_iconst C 0 dX11_isKindBarred_39 (by decide) ?_
        have e9 := inj1 h
        subst e9
        exact aw_sub [0, 1, 2, 3, 4, 5] rfl kj22
      · rw [if_pos c3] at h
        refine aw_aload_n C 0 dX11_isKindBarred_25 rfl rfl ?_
        refine aw_iload_n C 1 dX11_isKindBarred_26 rfl rfl ?_
        refine aw_iload C 5 dX11_isKindBarred_27 rfl ?_
        obtain ⟨g4, hg4, h⟩ := bindE h
        obtain ⟨v5, hv5, h⟩ := bindE h
        refine aw_cV_I C [.int x1, .int x5] _ (mt_X11_isAlways hv5) cs_X11_isAlways ml_X11_298 im_X11_isAlways se_X11_isAlways (ci := 11) rfl rfl hg4 ⟨by decide, by decide⟩ ⟨rfl, rfl⟩ ⟨Nat.zero_le _, Nat.zero_le _⟩ rfl rfl (Nat.le_of_ble_eq_true rfl) dX11_isKindBarred_29 ?_
        refine aw_if_ne C 39 dX11_isKindBarred_32 (by decide) (fun c6 => ?_) (fun c6 => ?_)
        · rw [if_neg c6] at h
          refine aw_iconst C 0 dX11_isKindBarred_39 (by decide) ?_
          have e9 := inj1 h
          subst e9
          exact aw_sub [0, 1, 2, 3, 4, 5] rfl kj22
        · rw [if_pos c6] at h
          refine aw_iconst C 1 dX11_isKindBarred_35 (by decide) ?_
          refine aw_goto C 40 dX11_isKindBarred_36 (by decide) ?_
          have e9 := inj1 h
          subst e9
          exact aw_sub [0, 1, 2, 3, 4, 5] rfl kj22
set_option maxRecDepth 100000 in
set_option maxHeartbeats 4000000 in
theorem wk_X11_isKindBarred {G : GL} {X : CX} {a0 : Nat} {x1 : Int32} {x2 : Int32} {x3 : Int32} {μ : Mem} {r : Int32} (C : Ctx G X cX11_isKindBarred 8 RX11 rm_X11_isKindBarred) (h : X11_isKindBarred a0 x1 x2 x3 μ = some r) (hret : RtZ G 8 X cX11_isKindBarred 0 0 r μ) : AW G 8 X 0 0 0 [(0, .ref (gZ G + a0)), (1, .int x1), (2, .int x2), (3, .int x3)] [] μ := by
  unfold X11_isKindBarred at h
  refine aw_iconst C 0 dX11_isKindBarred_0 (by decide) ?_
  refine aw_istore C [(4, .int 0), (0, .ref (gZ G + a0)), (1, .int x1), (2, .int x2), (3, .int x3)] dX11_isKindBarred_1 (by decide) rfl ?_
  refine aw_iconst C 0 dX11_isKindBarred_3 (by decide) ?_
  refine aw_istore C [(5, .int 0), (4, .int 0), (0, .ref (gZ G + a0)), (1, .int x1), (2, .int x2), (3, .int x3)] dX11_isKindBarred_4 (by decide) rfl ?_
  obtain ⟨z1, hz1, h⟩ := bindE h
  refine aw_sub [2, 3, 4, 5, 1, 0] rfl ?_
  refine X11_isKindBarred_L6_ok C _ _ _ _ _ _ _ _ _ hz1 ?_
  refine aw_iload C 4 dX11_isKindBarred_137 rfl ?_
  obtain ⟨v2, hv2, h⟩ := bindE h
  obtain ⟨ev2, zv2⟩ := zzE hv2
  refine aw_topi ev2 ?_
  have e9 := inj1 h
  subst e9
  exact hret _ _ dX11_isKindBarred_139 zv2
set_option maxRecDepth 100000 in
set_option maxHeartbeats 4000000 in
theorem mt_X11_isKindBarred {G : GL} {l : Launch} {a0 : Nat} {x1 : Int32} {x2 : Int32} {x3 : Int32} {μ : Mem} {r : Int32} (h : X11_isKindBarred a0 x1 x2 x3 μ = some r) : MtI G l yX11_isKindBarred cX11_isKindBarred 8 (some .boolean) rm_X11_isKindBarred false [.ref (gZ G + a0), .int x1, .int x2, .int x3] μ r μ := met_Z (by decide) rfl (Nat.le_of_ble_eq_true rfl) (fun X _ C _ _ hret => wk_X11_isKindBarred C h hret)
set_option maxRecDepth 100000 in
set_option maxHeartbeats 4000000 in
theorem X11_areMost_L50_ok {G : GL} {X : CX} (C : Ctx G X cX11_areMost 9 RX11 rm_X11_areMost) (a0 : Nat) (x1 : Int32) (x2 : Int32) (x3 : Int32) (x4 : Int32) (x5 : Int32) (x6 : Int32) (μ : Mem) : ∀ (n : Nat) (x7 : Int32) (x8 : Int32) (z : Int32 × Int32), X11_areMost_L50 a0 x1 x2 x3 x4 x5 x6 μ n x7 x8 = some z → AW G 9 X 0 0 116 [(0, .ref (gZ G + a0)), (1, .int x1), (2, .int x2), (3, .int x3), (4, .int x4), (5, .int x5), (6, .int x6), (7, .int z.1), (8, .int z.2)] [] μ → AW G 9 X 0 0 50 [(0, .ref (gZ G + a0)), (1, .int x1), (2, .int x2), (3, .int x3), (4, .int x4), (5, .int x5), (6, .int x6), (7, .int x7), (8, .int x8)] [] μ := by
  intro n
  induction n with
  | zero =>
    intro x7 x8 z h kx
    rw [X11_areMost_L50] at h
    cases h
  | succ n ih =>
    intro x7 x8 z h kx
    rw [X11_areMost_L50] at h
    refine aw_iload C 8 dX11_areMost_50 rfl ?_
    refine aw_aload_n C 0 dX11_areMost_52 rfl rfl ?_
    obtain ⟨v1, hv1, h⟩ := bindE h
    refine aw_gI C fl_X11_195 rfl hv1 dX11_areMost_53 ?_
    refine aw_icmp_ge C 116 dX11_areMost_56 (by decide) (fun c2 => ?_) (fun c2 => ?_)
    · rw [if_pos c2] at h
      have e9 := inj1 h
      subst e9
      exact aw_sub [0, 1, 2, 3, 4, 5, 6, 7, 8] rfl kx
    · rw [if_neg c2] at h
      refine aw_iload C 7 dX11_areMost_59 rfl ?_
      refine aw_aload_n C 0 dX11_areMost_61 rfl rfl ?_
      obtain ⟨v3, hv3, h⟩ := bindE h
      refine aw_gR C fl_X11_121 rfl hv3 dX11_areMost_62 ?_
      refine aw_iload C 8 dX11_areMost_65 rfl ?_
      obtain ⟨v4, hv4, h⟩ := bindE h
      refine aw_aI C hv4 dX11_areMost_67 ?_
      refine aw_iload_n C 1 dX11_areMost_68 rfl rfl ?_
      obtain ⟨z11, hz11, h⟩ := bindE h
      have kj69 : AW G 9 X 0 0 107 [(0, .ref (gZ G + a0)), (1, .int x1), (2, .int x2), (3, .int x3), (4, .int x4), (5, .int x5), (6, .int x6), (8, .int x8)] [.int z11, .int x7] μ := by
        refine aw_iadd C dX11_areMost_107 ?_
        obtain ⟨v12, ev12, h⟩ := bindS h
        refine aw_topi ev12 ?_
        refine aw_istore C [(7, .int v12), (0, .ref (gZ G + a0)), (1, .int x1), (2, .int x2), (3, .int x3), (4, .int x4), (5, .int x5), (6, .int x6), (8, .int x8)] dX11_areMost_108 (by decide) rfl ?_
        refine aw_iinc C (x8 + 1) 8 [(8, .int (x8 + 1)), (7, .int v12), (0, .ref (gZ G + a0)), (1, .int x1), (2, .int x2), (3, .int x3), (4, .int x4), (5, .int x5), (6, .int x6)] dX11_areMost_110 rfl rfl (by decide) rfl ?_
        refine aw_goto C 50 dX11_areMost_113 (by decide) ?_
        exact aw_sub [2, 3, 4, 5, 6, 7, 8, 1, 0] rfl (ih _ _ _ h kx)
      replace h := hz11
      refine aw_icmp_ne C 106 dX11_areMost_69 (by decide) (fun c5 => ?_) (fun c5 => ?_)
      · rw [if_neg c5] at h
        refine aw_iconst C 0 dX11_areMost_106 (by decide) ?_
        have e9 := inj1 h
        subst e9
        exact aw_sub [0, 1, 2, 3, 4, 5, 6, 8] rfl kj69
      · rw [if_pos c5] at h
        refine aw_aload_n C 0 dX11_areMost_72 rfl rfl ?_
        obtain ⟨v6, hv6, h⟩ := bindE h
        refine aw_gR C fl_X11_130 rfl hv6 dX11_areMost_73 ?_
        refine aw_iload C 8 dX11_areMost_76 rfl ?_
        obtain ⟨v7, hv7, h⟩ := bindE h
        refine aw_aI C hv7 dX11_areMost_78 ?_
        refine aw_i2l C dX11_areMost_79 ?_
        refine aw_iload C 5 dX11_areMost_80 rfl ?_
        refine aw_aload_n C 0 dX11_areMost_82 rfl rfl ?_
        obtain ⟨v8, hv8, h⟩ := bindE h
        refine aw_gR C fl_X11_84 rfl hv8 dX11_areMost_83 ?_
        refine aw_iload C 6 dX11_areMost_86 rfl ?_
        obtain ⟨v9, hv9, h⟩ := bindE h
        refine aw_aI C hv9 dX11_areMost_88 ?_
        refine aw_isub C dX11_areMost_89 ?_
        refine aw_iconst C 1 dX11_areMost_90 (by decide) ?_
        refine aw_iadd C dX11_areMost_91 ?_
        refine aw_i2l C dX11_areMost_92 ?_
        refine aw_iload C 5 dX11_areMost_93 rfl ?_
        refine aw_i2l C dX11_areMost_95 ?_
        refine aw_cS_I C [.long v7.toInt64, .long (((x5 - v9) + 1).toInt64), .long x5.toInt64] _ (mt_X11_in _ _ _) cs_X11_in ml_X11_138 st_X11_in ⟨by decide, by decide⟩ ⟨rfl, rfl⟩ ⟨Nat.zero_le _, Nat.zero_le _⟩ rfl rfl (Nat.le_of_ble_eq_true rfl) dX11_areMost_96 ?_
        refine aw_if_eq C 106 dX11_areMost_99 (by decide) (fun c10 => ?_) (fun c10 => ?_)
        · rw [if_pos c10] at h
          refine aw_iconst C 0 dX11_areMost_106 (by decide) ?_
          have e9 := inj1 h
          subst e9
          exact aw_sub [0, 1, 2, 3, 4, 5, 6, 8] rfl kj69
        · rw [if_neg c10] at h
          refine aw_iconst C 1 dX11_areMost_102 (by decide) ?_
          refine aw_goto C 107 dX11_areMost_103 (by decide) ?_
          have e9 := inj1 h
          subst e9
          exact aw_sub [0, 1, 2, 3, 4, 5, 6, 8] rfl kj69
set_option maxRecDepth 100000 in
set_option maxHeartbeats 4000000 in
theorem X11_areMost_L119_ok {G : GL} {X : CX} (C : Ctx G X cX11_areMost 9 RX11 rm_X11_areMost) (a0 : Nat) (x1 : Int32) (x2 : Int32) (x3 : Int32) (x4 : Int32) (x5 : Int32) (x6 : Int32) (μ : Mem) : ∀ (n : Nat) (x7 : Int32) (x8 : Int32) (z : Int32 × Int32), X11_areMost_L119 a0 x1 x2 x3 x4 x5 x6 μ n x7 x8 = some z → AW G 9 X 0 0 171 [(0, .ref (gZ G + a0)), (1, .int x1), (2, .int x2), (3, .int x3), (4, .int x4), (5, .int x5), (6, .int x6), (7, .int z.1), (8, .int z.2)] [] μ → AW G 9 X 0 0 119 [(0, .ref (gZ G + a0)), (1, .int x1), (2, .int x2), (3, .int x3), (4, .int x4), (5, .int x5), (6, .int x6), (7, .int x7), (8, .int x8)] [] μ := by
  intro n
  induction n with
  | zero =>
    intro x7 x8 z h kx
    rw [X11_areMost_L119] at h
    cases h
  | succ n ih =>
    intro x7 x8 z h kx
    rw [X11_areMost_L119] at h
    refine aw_iload C 8 dX11_areMost_119 rfl ?_
    refine aw_iload_n C 2 dX11_areMost_121 rfl rfl ?_
    refine aw_icmp_ge C 171 dX11_areMost_122 (by decide) (fun c1 => ?_) (fun c1 => ?_)
    · rw [if_pos c1] at h
      have e9 := inj1 h
      subst e9
      exact aw_sub [0, 1, 2, 3, 4, 5, 6, 7, 8] rfl kx
    · rw [if_neg c1] at h
      refine aw_iload C 7 dX11_areMost_125 rfl ?_
      refine aw_iload_n C 3 dX11_areMost_127 rfl rfl ?_
      refine aw_iload C 8 dX11_areMost_128 rfl ?_
      refine aw_ishr C dX11_areMost_130 ?_
      refine aw_iconst C 1 dX11_areMost_131 (by decide) ?_
      refine aw_iand C dX11_areMost_132 ?_
      refine aw_iconst C 1 dX11_areMost_133 (by decide) ?_
      obtain ⟨z7, hz7, h⟩ := bindE h
      have kj134 : AW G 9 X 0 0 162 [(0, .ref (gZ G + a0)), (1, .int x1), (2, .int x2), (3, .int x3), (4, .int x4), (5, .int x5), (6, .int x6), (8, .int x8)] [.int z7, .int x7] μ := by
        refine aw_iadd C dX11_areMost_162 ?_
        obtain ⟨v8, ev8, h⟩ := bindS h
        refine aw_topi ev8 ?_
        refine aw_istore C [(7, .int v8), (0, .ref (gZ G + a0)), (1, .int x1), (2, .int x2), (3, .int x3), (4, .int x4), (5, .int x5), (6, .int x6), (8, .int x8)] dX11_areMost_163 (by decide) rfl ?_
        refine aw_iinc C (x8 + 1) 8 [(8, .int (x8 + 1)), (7, .int v8), (0, .ref (gZ G + a0)), (1, .int x1), (2, .int x2), (3, .int x3), (4, .int x4), (5, .int x5), (6, .int x6)] dX11_areMost_165 rfl rfl (by decide) rfl ?_
        refine aw_goto C 119 dX11_areMost_168 (by decide) ?_
        exact aw_sub [2, 3, 4, 5, 6, 7, 8, 1, 0] rfl (ih _ _ _ h kx)
      replace h := hz7
      refine aw_icmp_ne C 161 dX11_areMost_134 (by decide) (fun c2 => ?_) (fun c2 => ?_)
      · rw [if_neg c2] at h
        refine aw_iconst C 0 dX11_areMost_161 (by decide) ?_
        have e9 := inj1 h
        subst e9
        exact aw_sub [0, 1, 2, 3, 4, 5, 6, 8] rfl kj134
      · rw [if_pos c2] at h
        refine aw_aload_n C 0 dX11_areMost_137 rfl rfl ?_
        obtain ⟨v3, hv3, h⟩ := bindE h
        refine aw_gI C fl_X11_158 rfl hv3 dX11_areMost_138 ?_
        refine aw_iload C 8 dX11_areMost_141 rfl ?_
        refine aw_iadd C dX11_areMost_143 ?_
        refine aw_iload C 5 dX11_areMost_144 rfl ?_
        refine aw_aload_n C 0 dX11_areMost_146 rfl rfl ?_
        obtain ⟨v4, hv4, h⟩ := bindE h
        refine aw_gR C fl_X11_84 rfl hv4 dX11_areMost_147 ?_
        refine aw_iload C 6 dX11_areMost_150 rfl ?_
        obtain ⟨v5, hv5, h⟩ := bindE h
        refine aw_aI C hv5 dX11_areMost_152 ?_
        refine aw_isub C dX11_areMost_153 ?_
        refine aw_icmp_le C 161 dX11_areMost_154 (by decide) (fun c6 => ?_) (fun c6 => ?_)
        · rw [if_pos c6] at h
          refine aw_iconst C 0 dX11_areMost_161 (by decide) ?_
          have e9 := inj1 h
          subst e9
          exact aw_sub [0, 1, 2, 3, 4, 5, 6, 8] rfl kj134
        · rw [if_neg c6] at h
          refine aw_iconst C 1 dX11_areMost_157 (by decide) ?_
          refine aw_goto C 162 dX11_areMost_158 (by decide) ?_
          have e9 := inj1 h
          subst e9
          exact aw_sub [0, 1, 2, 3, 4, 5, 6, 8] rfl kj134
set_option maxRecDepth 100000 in
set_option maxHeartbeats 4000000 in
theorem X11_areMost_L17_ok {G : GL} {X : CX} (C : Ctx G X cX11_areMost 9 RX11 rm_X11_areMost) (a0 : Nat) (x1 : Int32) (x2 : Int32) (x3 : Int32) (x5 : Int32) (μ : Mem) : ∀ (n : Nat) (x4 : Int32) (x6 : Int32) (z : Int32 × Int32), X11_areMost_L17 a0 x1 x2 x3 x5 μ n x4 x6 = some z → AW G 9 X 0 0 201 [(0, .ref (gZ G + a0)), (1, .int x1), (2, .int x2), (3, .int x3), (4, .int z.1), (5, .int x5), (6, .int z.2)] [] μ → AW G 9 X 0 0 17 [(0, .ref (gZ G + a0)), (1, .int x1), (2, .int x2), (3, .int x3), (4, .int x4), (5, .int x5), (6, .int x6)] [] μ := by
  intro n
  induction n with
  | zero =>
    intro x4 x6 z h kx
    rw [X11_areMost_L17] at h
    cases h
  | succ n ih =>
    intro x4 x6 z h kx
    rw [X11_areMost_L17] at h
    refine aw_iload C 6 dX11_areMost_17 rfl ?_
    refine aw_bipush C 8 dX11_areMost_19 (by decide) ?_
    refine aw_iload_n C 1 dX11_areMost_21 rfl rfl ?_
    refine aw_imul C dX11_areMost_22 ?_
    refine aw_aload_n C 0 dX11_areMost_23 rfl rfl ?_
    obtain ⟨v1, hv1, h⟩ := bindE h
    refine aw_gR C fl_X11_75 rfl hv1 dX11_areMost_24 ?_
    refine aw_iload_n C 1 dX11_areMost_27 rfl rfl ?_
    obtain ⟨v2, hv2, h⟩ := bindE h
    refine aw_aI C hv2 dX11_areMost_28 ?_
    refine aw_iadd C dX11_areMost_29 ?_
    refine aw_icmp_ge C 201 dX11_areMost_30 (by decide) (fun c3 => ?_) (fun c3 => ?_)
    · rw [if_pos c3] at h
      have e9 := inj1 h
      subst e9
      exact aw_sub [0, 1, 2, 3, 4, 5, 6] rfl kx
    · rw [if_neg c3] at h
      refine aw_aload_n C 0 dX11_areMost_33 rfl rfl ?_
      obtain ⟨v4, hv4, h⟩ := bindE h
      refine aw_gR C fl_X11_78 rfl hv4 dX11_areMost_34 ?_
      refine aw_iload C 6 dX11_areMost_37 rfl ?_
      obtain ⟨v5, hv5, h⟩ := bindE h
      refine aw_aI C hv5 dX11_areMost_39 ?_
      refine aw_iconst C 3 dX11_areMost_40 (by decide) ?_
      obtain ⟨z14, hz14, h⟩ := bindE h
      have kj41 : AW G 9 X 0 0 195 [(0, .ref (gZ G + a0)), (1, .int x1), (2, .int x2), (3, .int x3), (4, .int z14), (5, .int x5), (6, .int x6)] [] μ := by
        refine aw_iinc C (x6 + 1) 6 [(6, .int (x6 + 1)), (0, .ref (gZ G + a0)), (1, .int x1), (2, .int x2), (3, .int x3), (4, .int z14), (5, .int x5)] dX11_areMost_195 rfl rfl (by decide) rfl ?_
        refine aw_goto C 17 dX11_areMost_198 (by decide) ?_
        exact aw_sub [1, 2, 3, 4, 5, 6, 0] rfl (ih _ _ _ h kx)
      replace h := hz14
      refine aw_icmp_ne C 195 dX11_areMost_41 (by decide) (fun c6 => ?_) (fun c6 => ?_)
      · rw [if_neg c6] at h
        have e9 := inj1 h
        subst e9
        exact aw_sub [0, 1, 2, 3, 4, 5, 6] rfl kj41
      · rw [if_pos c6] at h
        refine aw_iconst C 0 dX11_areMost_44 (by decide) ?_
        refine aw_istore C [(7, .int 0), (0, .ref (gZ G + a0)), (1, .int x1), (2, .int x2), (3, .int x3), (4, .int x4), (5, .int x5), (6, .int x6)] dX11_areMost_45 (by decide) rfl ?_
        refine aw_iconst C 0 dX11_areMost_47 (by decide) ?_
        refine aw_istore C [(8, .int 0), (7, .int 0), (0, .ref (gZ G + a0)), (1, .int x1), (2, .int x2), (3, .int x3), (4, .int x4), (5, .int x5), (6, .int x6)] dX11_areMost_48 (by decide) rfl ?_
        obtain ⟨z7, hz7, h⟩ := bindE h
        refine aw_sub [2, 3, 4, 5, 6, 7, 8, 1, 0] rfl ?_
        refine X11_areMost_L50_ok C _ _ _ _ _ _ _ _ _ _ _ _ hz7 ?_
        refine aw_iconst C 0 dX11_areMost_116 (by decide) ?_
        refine aw_istore C [(8, .int 0), (0, .ref (gZ G + a0)), (1, .int x1), (2, .int x2), (3, .int x3), (4, .int x4), (5, .int x5), (6, .int x6), (7, .int z7.1)] dX11_areMost_117 (by decide) rfl ?_
        obtain ⟨z8, hz8, h⟩ := bindE h
        refine aw_sub [1, 2, 3, 4, 5, 6, 7, 8, 0] rfl ?_
        refine X11_areMost_L119_ok C _ _ _ _ _ _ _ _ _ _ _ _ hz8 ?_
        refine aw_iload C 4 dX11_areMost_171 rfl ?_
        obtain ⟨z13, hz13, h⟩ := bindE h
        have kj173 : AW G 9 X 0 0 193 [(0, .ref (gZ G + a0)), (1, .int x1), (2, .int x2), (3, .int x3), (5, .int x5), (6, .int x6)] [.int z13] μ := by
          refine aw_istore C [(4, .int z13), (0, .ref (gZ G + a0)), (1, .int x1), (2, .int x2), (3, .int x3), (5, .int x5), (6, .int x6)] dX11_areMost_193 (by decide) rfl ?_
          have e9 := inj1 h
          subst e9
          exact aw_sub [1, 2, 3, 4, 0, 5, 6] rfl kj41
        replace h := hz13
        refine aw_if_ne C 188 dX11_areMost_173 (by decide) (fun c9 => ?_) (fun c9 => ?_)
        · rw [if_neg c9] at h
          refine aw_iconst C 1 dX11_areMost_188 (by decide) ?_
          refine aw_goto C 193 dX11_areMost_189 (by decide) ?_
          have e9 := inj1 h
          subst e9
          exact aw_sub [0, 1, 2, 3, 5, 6] rfl kj173
        · rw [if_pos c9] at h
          refine aw_iload C 7 dX11_areMost_176 rfl ?_
          refine aw_aload_n C 0 dX11_areMost_178 rfl rfl ?_
          obtain ⟨v10, hv10, h⟩ := bindE h
          refine aw_gR C fl_X11_81 rfl hv10 dX11_areMost_179 ?_
          refine aw_iload C 6 dX11_areMost_182 rfl ?_
          obtain ⟨v11, hv11, h⟩ := bindE h
          refine aw_aI C hv11 dX11_areMost_184 ?_
          refine aw_icmp_lt C 192 dX11_areMost_185 (by decide) (fun c12 => ?_) (fun c12 => ?_)
          · rw [if_pos c12] at h
            refine aw_iconst C 0 dX11_areMost_192 (by decide) ?_
            have e9 := inj1 h
            subst e9
            exact aw_sub [0, 1, 2, 3, 5, 6] rfl kj173
          · rw [if_neg c12] at h
            refine aw_iconst C 1 dX11_areMost_188 (by decide) ?_
            refine aw_goto C 193 dX11_areMost_189 (by decide) ?_
            have e9 := inj1 h
            subst e9
            exact aw_sub [0, 1, 2, 3, 5, 6] rfl kj173
set_option maxRecDepth 100000 in
set_option maxHeartbeats 4000000 in
theorem wk_X11_areMost {G : GL} {X : CX} {a0 : Nat} {x1 : Int32} {x2 : Int32} {x3 : Int32} {μ : Mem} {r : Int32} (C : Ctx G X cX11_areMost 9 RX11 rm_X11_areMost) (h : X11_areMost a0 x1 x2 x3 μ = some r) (hret : RtZ G 9 X cX11_areMost 0 0 r μ) : AW G 9 X 0 0 0 [(0, .ref (gZ G + a0)), (1, .int x1), (2, .int x2), (3, .int x3)] [] μ := by
  unfold X11_areMost at h
  refine aw_iconst C 0 dX11_areMost_0 (by decide) ?_
  refine aw_istore C [(4, .int 0), (0, .ref (gZ G + a0)), (1, .int x1), (2, .int x2), (3, .int x3)] dX11_areMost_1 (by decide) rfl ?_
  refine aw_aload_n C 1 dX11_areMost_3 rfl rfl ?_
  obtain ⟨v1, hv1, h⟩ := bindE h
  refine aw_gI C fl_X11_158 rfl hv1 dX11_areMost_4 ?_
  refine aw_iload_n C 3 dX11_areMost_7 rfl rfl ?_
  refine aw_iadd C dX11_areMost_8 ?_
  obtain ⟨v2, ev2, h⟩ := bindS h
  refine aw_topi ev2 ?_
  refine aw_istore C [(5, .int v2), (4, .int 0), (0, .ref (gZ G + a0)), (1, .int x1), (2, .int x2), (3, .int x3)] dX11_areMost_9 (by decide) rfl ?_
  refine aw_bipush C 8 dX11_areMost_11 (by decide) ?_
  refine aw_iload_n C 3 dX11_areMost_13 rfl rfl ?_
  refine aw_imul C dX11_areMost_14 ?_
  obtain ⟨v3, ev3, h⟩ := bindS h
  refine aw_topi ev3 ?_
  refine aw_istore C [(6, .int v3), (5, .int v2), (4, .int 0), (0, .ref (gZ G + a0)), (1, .int x1), (2, .int x2), (3, .int x3)] dX11_areMost_15 (by decide) rfl ?_
  obtain ⟨z4, hz4, h⟩ := bindE h
  refine aw_sub [3, 4, 5, 6, 2, 1, 0] rfl ?_
  refine X11_areMost_L17_ok C _ _ _ _ _ _ _ _ _ _ hz4 ?_
  refine aw_iload C 4 dX11_areMost_201 rfl ?_
  obtain ⟨v5, hv5, h⟩ := bindE h
  obtain ⟨ev5, zv5⟩ := zzE hv5
  refine aw_topi ev5 ?_
  have e9 := inj1 h
  subst e9
  exact hret _ _ dX11_areMost_203 zv5
set_option maxRecDepth 100000 in
set_option maxHeartbeats 4000000 in
theorem mt_X11_areMost {G : GL} {l : Launch} {a0 : Nat} {x1 : Int32} {x2 : Int32} {x3 : Int32} {μ : Mem} {r : Int32} (h : X11_areMost a0 x1 x2 x3 μ = some r) : MtI G l yX11_areMost cX11_areMost 9 (some .boolean) rm_X11_areMost false [.ref (gZ G + a0), .int x1, .int x2, .int x3] μ r μ := met_Z (by decide) rfl (Nat.le_of_ble_eq_true rfl) (fun X _ C _ _ hret => wk_X11_areMost C h hret)
set_option maxRecDepth 100000 in
set_option maxHeartbeats 4000000 in
theorem wk_X11_barring {G : GL} {X : CX} {a0 : Nat} {x1 : Int32} {x2 : Int32} {x3 : Int32} {x4 : Int32} {x5 : Int32} {μ : Mem} {r : Int32} {μ' : Mem} (C : Ctx G X cX11_barring 7 RX11 rm_X11_barring) (h : X11_barring a0 x1 x2 x3 x4 x5 μ = some (r, μ')) (hret : RtI G 7 X cX11_barring 0 0 r μ') : AW G 7 X 0 0 0 [(0, .ref (gZ G + a0)), (1, .int x1), (2, .int x2), (3, .int x3), (4, .int x4), (5, .int x5)] [] μ := by
  unfold X11_barring at h
  refine aw_aload_n C 0 dX11_barring_0 rfl rfl ?_
  refine aw_iload_n C 1 dX11_barring_1 rfl rfl ?_
  refine aw_iload_n C 2 dX11_barring_2 rfl rfl ?_
  obtain ⟨g1, hg1, h⟩ := bindE h
  obtain ⟨v2, hv2, h⟩ := bindE h
  refine aw_cV_I C [.int x1, .int x2] _ (mt_X11_areAlways hv2) cs_X11_areAlways ml_X11_302 im_X11_areAlways se_X11_areAlways (ci := 11) rfl rfl hg1 ⟨by decide, by decide⟩ ⟨rfl, rfl⟩ ⟨Nat.zero_le _, Nat.zero_le _⟩ rfl rfl (Nat.le_of_ble_eq_true rfl) dX11_barring_3 ?_
  refine aw_istore C [(6, .int v2), (0, .ref (gZ G + a0)), (1, .int x1), (2, .int x2), (3, .int x3), (4, .int x4), (5, .int x5)] dX11_barring_6 (by decide) rfl ?_
  refine aw_iload C 0 dX11_barring_8 rfl ?_
  refine aw_if_ne C 26 dX11_barring_10 (by decide) (fun c3 => ?_) (fun c3 => ?_)
  · rw [if_neg c3] at h
    refine aw_aload_n C 1 dX11_barring_26 rfl rfl ?_
    refine aw_iload_n C 2 dX11_barring_27 rfl rfl ?_
    refine aw_iload_n C 3 dX11_barring_28 rfl rfl ?_
    refine aw_iload C 5 dX11_barring_29 rfl ?_
    obtain ⟨g4, hg4, h⟩ := bindE h
    obtain ⟨v5, hv5, h⟩ := bindE h
    refine aw_cV_I C [.int x1, .int x2, .int x4] _ (mt_X11_isKindBarred hv5) cs_X11_isKindBarred ml_X11_309 im_X11_isKindBarred se_X11_isKindBarred (ci := 11) rfl rfl hg4 ⟨by decide, by decide⟩ ⟨rfl, rfl⟩ ⟨Nat.zero_le _, Nat.zero_le _⟩ rfl rfl (Nat.le_of_ble_eq_true rfl) dX11_barring_31 ?_
    refine aw_if_eq C 39 dX11_barring_34 (by decide) (fun c6 => ?_) (fun c6 => ?_)
    · rw [if_pos c6] at h
      refine aw_iload C 0 dX11_barring_39 rfl ?_
      obtain ⟨z11, hz11, h⟩ := bindE h
      have kj41 : AW G 7 X 0 0 61 [] [.int z11] μ := by
        obtain ⟨e8, e9⟩ := inj2 h
        subst e8
        subst e9
        exact hret _ _ dX11_barring_61
      replace h := hz11
      refine aw_if_ne C 60 dX11_barring_41 (by decide) (fun c7 => ?_) (fun c7 => ?_)
      · rw [if_neg c7] at h
        refine aw_iconst C 0 dX11_barring_60 (by decide) ?_
        have e9 := inj1 h
        subst e9
        exact aw_sub [] rfl kj41
      · rw [if_pos c7] at h
        refine aw_aload_n C 1 dX11_barring_44 rfl rfl ?_
        refine aw_iload_n C 2 dX11_barring_45 rfl rfl ?_
        refine aw_iload C 5 dX11_barring_46 rfl ?_
        refine aw_iload C 6 dX11_barring_48 rfl ?_
        obtain ⟨g8, hg8, h⟩ := bindE h
        obtain ⟨v9, hv9, h⟩ := bindE h
        refine aw_cV_I C [.int x1, .int x4, .int x5] _ (mt_X11_areMost hv9) cs_X11_areMost ml_X11_312 im_X11_areMost se_X11_areMost (ci := 11) rfl rfl hg8 ⟨by decide, by decide⟩ ⟨rfl, rfl⟩ ⟨Nat.zero_le _, Nat.zero_le _⟩ rfl rfl (Nat.le_of_ble_eq_true rfl) dX11_barring_50 ?_
        refine aw_if_eq C 60 dX11_barring_53 (by decide) (fun c10 => ?_) (fun c10 => ?_)
        · rw [if_pos c10] at h
          refine aw_iconst C 0 dX11_barring_60 (by decide) ?_
          have e9 := inj1 h
          subst e9
          exact aw_sub [] rfl kj41
        · rw [if_neg c10] at h
          refine aw_iconst C 3 dX11_barring_56 (by decide) ?_
          refine aw_goto C 61 dX11_barring_57 (by decide) ?_
          have e9 := inj1 h
          subst e9
          exact aw_sub [] rfl kj41
    · rw [if_neg c6] at h
      refine aw_iconst C 2 dX11_barring_37 (by decide) ?_
      obtain ⟨e8, e9⟩ := inj2 h
      subst e8
      subst e9
      exact hret _ _ dX11_barring_38
  · rw [if_pos c3] at h
    refine aw_aload_n C 1 dX11_barring_13 rfl rfl ?_
    refine aw_iload_n C 2 dX11_barring_14 rfl rfl ?_
    refine aw_iload_n C 4 dX11_barring_15 rfl rfl ?_
    refine aw_iload C 5 dX11_barring_16 rfl ?_
    obtain ⟨g12, hg12, h⟩ := bindE h
    obtain ⟨z13, hz13, h⟩ := bindE h
    refine aw_cV_I C [.int x1, .int x3, .int x4] _ (mt_X11_isWayBarred hz13) cs_X11_isWayBarred ml_X11_305 im_X11_isWayBarred se_X11_isWayBarred (ci := 11) rfl rfl hg12 ⟨by decide, by decide⟩ ⟨rfl, rfl⟩ ⟨Nat.zero_le _, Nat.zero_le _⟩ rfl rfl (Nat.le_of_ble_eq_true rfl) dX11_barring_18 ?_
    refine aw_if_eq C 26 dX11_barring_21 (by decide) (fun c14 => ?_) (fun c14 => ?_)
    · rw [if_pos c14] at h
      refine aw_aload_n C 1 dX11_barring_26 rfl rfl ?_
      refine aw_iload_n C 2 dX11_barring_27 rfl rfl ?_
      refine aw_iload_n C 3 dX11_barring_28 rfl rfl ?_
      refine aw_iload C 5 dX11_barring_29 rfl ?_
      obtain ⟨g15, hg15, h⟩ := bindE h
      obtain ⟨v16, hv16, h⟩ := bindE h
      refine aw_cV_I C [.int x1, .int x2, .int x4] _ (mt_X11_isKindBarred hv16) cs_X11_isKindBarred ml_X11_309 im_X11_isKindBarred se_X11_isKindBarred (ci := 11) rfl rfl hg15 ⟨by decide, by decide⟩ ⟨rfl, rfl⟩ ⟨Nat.zero_le _, Nat.zero_le _⟩ rfl rfl (Nat.le_of_ble_eq_true rfl) dX11_barring_31 ?_
      refine aw_if_eq C 39 dX11_barring_34 (by decide) (fun c17 => ?_) (fun c17 => ?_)
      · rw [if_pos c17] at h
        refine aw_iload C 0 dX11_barring_39 rfl ?_
        obtain ⟨z22, hz22, h⟩ := bindE h
        have kj41 : AW G 7 X 0 0 61 [] [.int z22] z13.2 := by
          obtain ⟨e8, e9⟩ := inj2 h
          subst e8
          subst e9
          exact hret _ _ dX11_barring_61
        replace h := hz22
        refine aw_if_ne C 60 dX11_barring_41 (by decide) (fun c18 => ?_) (fun c18 => ?_)
        · rw [if_neg c18] at h
          refine aw_iconst C 0 dX11_barring_60 (by decide) ?_
          have e9 := inj1 h
          subst e9
          exact aw_sub [] rfl kj41
        · rw [if_pos c18] at h
          refine aw_aload_n C 1 dX11_barring_44 rfl rfl ?_
          refine aw_iload_n C 2 dX11_barring_45 rfl rfl ?_
          refine aw_iload C 5 dX11_barring_46 rfl ?_
          refine aw_iload C 6 dX11_barring_48 rfl ?_
          obtain ⟨g19, hg19, h⟩ := bindE h
          obtain ⟨v20, hv20, h⟩ := bindE h
          refine aw_cV_I C [.int x1, .int x4, .int x5] _ (mt_X11_areMost hv20) cs_X11_areMost ml_X11_312 im_X11_areMost se_X11_areMost (ci := 11) rfl rfl hg19 ⟨by decide, by decide⟩ ⟨rfl, rfl⟩ ⟨Nat.zero_le _, Nat.zero_le _⟩ rfl rfl (Nat.le_of_ble_eq_true rfl) dX11_barring_50 ?_
          refine aw_if_eq C 60 dX11_barring_53 (by decide) (fun c21 => ?_) (fun c21 => ?_)
          · rw [if_pos c21] at h
            refine aw_iconst C 0 dX11_barring_60 (by decide) ?_
            have e9 := inj1 h
            subst e9
            exact aw_sub [] rfl kj41
          · rw [if_neg c21] at h
            refine aw_iconst C 3 dX11_barring_56 (by decide) ?_
            refine aw_goto C 61 dX11_barring_57 (by decide) ?_
            have e9 := inj1 h
            subst e9
            exact aw_sub [] rfl kj41
      · rw [if_neg c17] at h
        refine aw_iconst C 2 dX11_barring_37 (by decide) ?_
        obtain ⟨e8, e9⟩ := inj2 h
        subst e8
        subst e9
        exact hret _ _ dX11_barring_38
    · rw [if_neg c14] at h
      refine aw_iconst C 1 dX11_barring_24 (by decide) ?_
      obtain ⟨e8, e9⟩ := inj2 h
      subst e8
      subst e9
      exact hret _ _ dX11_barring_25
set_option maxRecDepth 100000 in
set_option maxHeartbeats 4000000 in
theorem mt_X11_barring {G : GL} {l : Launch} {a0 : Nat} {x1 : Int32} {x2 : Int32} {x3 : Int32} {x4 : Int32} {x5 : Int32} {μ : Mem} {r : Int32} {μ' : Mem} (h : X11_barring a0 x1 x2 x3 x4 x5 μ = some (r, μ')) : MtI G l yX11_barring cX11_barring 7 (some .int) rm_X11_barring false [.ref (gZ G + a0), .int x1, .int x2, .int x3, .int x4, .int x5] μ r μ' := met_I (by decide) rfl rfl (Nat.le_of_ble_eq_true rfl) (fun X _ C _ _ hret => wk_X11_barring C h hret)
set_option maxRecDepth 100000 in
set_option maxHeartbeats 4000000 in
theorem wk_X11_areThings {G : GL} {X : CX} {a0 : Nat} {x1 : Int32} {μ : Mem} {r : Int32} (C : Ctx G X cX11_areThings 2 RX11 rm_X11_areThings) (h : X11_areThings a0 x1 μ = some r) (hret : RtZ G 2 X cX11_areThings 0 0 r μ) : AW G 2 X 0 0 0 [(0, .ref (gZ G + a0)), (1, .int x1)] [] μ := by
  unfold X11_areThings at h
  refine aw_iload_n C 1 dX11_areThings_0 rfl rfl ?_
  refine aw_i2l C dX11_areThings_1 ?_
  refine aw_lconst C 1 dX11_areThings_2 (by decide) ?_
  refine aw_iconst C 1 dX11_areThings_3 (by decide) ?_
  refine aw_aload_n C 0 dX11_areThings_4 rfl rfl ?_
  obtain ⟨v1, hv1, h⟩ := bindE h
  refine aw_gI C fl_X11_182 rfl hv1 dX11_areThings_5 ?_
  refine aw_ishl C dX11_areThings_8 ?_
  refine aw_iconst C 1 dX11_areThings_9 (by decide) ?_
  refine aw_isub C dX11_areThings_10 ?_
  refine aw_i2l C dX11_areThings_11 ?_
  refine aw_cS_I C [.long x1.toInt64, .long 1, .long (((1 <<< (v1 &&& 31)) - 1).toInt64)] _ (mt_X11_in _ _ _) cs_X11_in ml_X11_138 st_X11_in ⟨by decide, by decide⟩ ⟨rfl, rfl⟩ ⟨Nat.zero_le _, Nat.zero_le _⟩ rfl rfl (Nat.le_of_ble_eq_true rfl) dX11_areThings_12 ?_
  obtain ⟨v2, hv2, h⟩ := bindE h
  obtain ⟨ev2, zv2⟩ := zzE hv2
  refine aw_topi ev2 ?_
  have e9 := inj1 h
  subst e9
  exact hret _ _ dX11_areThings_15 zv2
set_option maxRecDepth 100000 in
set_option maxHeartbeats 4000000 in
theorem mt_X11_areThings {G : GL} {l : Launch} {a0 : Nat} {x1 : Int32} {μ : Mem} {r : Int32} (h : X11_areThings a0 x1 μ = some r) : MtI G l yX11_areThings cX11_areThings 2 (some .boolean) rm_X11_areThings false [.ref (gZ G + a0), .int x1] μ r μ := met_Z (by decide) rfl (Nat.le_of_ble_eq_true rfl) (fun X _ C _ _ hret => wk_X11_areThings C h hret)
set_option maxRecDepth 100000 in
set_option maxHeartbeats 4000000 in
theorem wk_X11_barred {G : GL} {X : CX} {a0 : Nat} {x1 : Int32} {x2 : Int32} {x3 : Int32} {μ : Mem} {r : Int32} {μ' : Mem} (C : Ctx G X cX11_barred 4 RX11 rm_X11_barred) (h : X11_barred a0 x1 x2 x3 μ = some (r, μ')) (hret : RtI G 4 X cX11_barred 0 0 r μ') : AW G 4 X 0 0 0 [(0, .ref (gZ G + a0)), (1, .int x1), (2, .int x2), (3, .int x3)] [] μ := by
  unfold X11_barred at h
  refine aw_iload_n C 1 dX11_barred_0 rfl rfl ?_
  refine aw_cS_I C [.int x1] _ (mt_X11_isPerson _) cs_X11_isPerson ml_X11_153 st_X11_isPerson ⟨by decide, by decide⟩ ⟨rfl, rfl⟩ ⟨Nat.zero_le _, Nat.zero_le _⟩ rfl rfl (Nat.le_of_ble_eq_true rfl) dX11_barred_1 ?_
  refine aw_if_eq C 15 dX11_barred_4 (by decide) (fun c1 => ?_) (fun c1 => ?_)
  · rw [if_pos c1] at h
    refine aw_sipush C ((-1001)) dX11_barred_15 (by decide) ?_
    obtain ⟨e8, e9⟩ := inj2 h
    subst e8
    subst e9
    exact hret _ _ dX11_barred_18
  · rw [if_neg c1] at h
    refine aw_aload_n C 0 dX11_barred_7 rfl rfl ?_
    refine aw_iload_n C 2 dX11_barred_8 rfl rfl ?_
    obtain ⟨g2, hg2, h⟩ := bindE h
    obtain ⟨v3, hv3, h⟩ := bindE h
    refine aw_cV_I C [.int x2] _ (mt_X11_areThings hv3) cs_X11_areThings ml_X11_315 im_X11_areThings se_X11_areThings (ci := 11) rfl rfl hg2 ⟨by decide, by decide⟩ ⟨rfl, rfl⟩ ⟨Nat.zero_le _, Nat.zero_le _⟩ rfl rfl (Nat.le_of_ble_eq_true rfl) dX11_barred_9 ?_
    refine aw_if_ne C 19 dX11_barred_12 (by decide) (fun c4 => ?_) (fun c4 => ?_)
    · rw [if_neg c4] at h
      refine aw_iload_n C 3 dX11_barred_19 rfl rfl ?_
      refine aw_cS_I C [.int x3] _ (mt_X11_isWay _) cs_X11_isWay ml_X11_214 st_X11_isWay ⟨by decide, by decide⟩ ⟨rfl, rfl⟩ ⟨Nat.zero_le _, Nat.zero_le _⟩ rfl rfl (Nat.le_of_ble_eq_true rfl) dX11_barred_20 ?_
      obtain ⟨z8, hz8, h⟩ := bindE h
      have kj23 : AW G 4 X 0 0 41 [] [.int z8.1] z8.2 := by
        obtain ⟨e8, e9⟩ := inj2 h
        subst e8
        subst e9
        exact hret _ _ dX11_barred_41
      replace h := hz8
      refine aw_if_eq C 38 dX11_barred_23 (by decide) (fun c5 => ?_) (fun c5 => ?_)
      · rw [if_pos c5] at h
        refine aw_sipush C ((-1002)) dX11_barred_38 (by decide) ?_
        have e9 := inj1 h
        subst e9
        exact aw_sub [] rfl kj23
      · rw [if_neg c5] at h
        refine aw_aload_n C 0 dX11_barred_26 rfl rfl ?_
        refine aw_iload_n C 1 dX11_barred_27 rfl rfl ?_
        refine aw_iload_n C 2 dX11_barred_28 rfl rfl ?_
        refine aw_iload_n C 3 dX11_barred_29 rfl rfl ?_
        refine aw_iconst C 0 dX11_barred_30 (by decide) ?_
        refine aw_iconst C 0 dX11_barred_31 (by decide) ?_
        obtain ⟨g6, hg6, h⟩ := bindE h
        obtain ⟨z7, hz7, h⟩ := bindE h
        refine aw_cV_I C [.int x1, .int x2, .int x3, .int 0, .int 0] _ (mt_X11_barring hz7) cs_X11_barring ml_X11_318 im_X11_barring se_X11_barring (ci := 11) rfl rfl hg6 ⟨by decide, by decide⟩ ⟨rfl, rfl⟩ ⟨Nat.zero_le _, Nat.zero_le _⟩ rfl rfl (Nat.le_of_ble_eq_true rfl) dX11_barred_32 ?_
        refine aw_goto C 41 dX11_barred_35 (by decide) ?_
        have e9 := inj1 h
        subst e9
        exact aw_sub [] rfl kj23
    · rw [if_pos c4] at h
      refine aw_sipush C ((-1001)) dX11_barred_15 (by decide) ?_
      obtain ⟨e8, e9⟩ := inj2 h
      subst e8
      subst e9
      exact hret _ _ dX11_barred_18
set_option maxRecDepth 100000 in
set_option maxHeartbeats 4000000 in
theorem mt_X11_barred {G : GL} {l : Launch} {a0 : Nat} {x1 : Int32} {x2 : Int32} {x3 : Int32} {μ : Mem} {r : Int32} {μ' : Mem} (h : X11_barred a0 x1 x2 x3 μ = some (r, μ')) : MtI G l yX11_barred cX11_barred 4 (some .int) rm_X11_barred false [.ref (gZ G + a0), .int x1, .int x2, .int x3] μ r μ' := met_I (by decide) rfl rfl (Nat.le_of_ble_eq_true rfl) (fun X _ C _ _ hret => wk_X11_barred C h hret)
set_option maxRecDepth 100000 in
set_option maxHeartbeats 4000000 in
theorem X11_setOf_L4_ok {G : GL} {X : CX} (C : Ctx G X cX11_setOf 4 RX11 rm_X11_setOf) (a0 : Nat) (x1 : Int32) (μ : Mem) : ∀ (n : Nat) (x2 : Int32) (x3 : Int32) (z : Int32 × Int32), X11_setOf_L4 a0 x1 μ n x2 x3 = some z → AW G 4 X 0 0 33 [(0, .ref (gZ G + a0)), (1, .int x1), (2, .int z.1), (3, .int z.2)] [] μ → AW G 4 X 0 0 4 [(0, .ref (gZ G + a0)), (1, .int x1), (2, .int x2), (3, .int x3)] [] μ := by
  intro n
  induction n with
  | zero =>
    intro x2 x3 z h kx
    rw [X11_setOf_L4] at h
    cases h
  | succ n ih =>
    intro x2 x3 z h kx
    rw [X11_setOf_L4] at h
    refine aw_iload_n C 3 dX11_setOf_4 rfl rfl ?_
    refine aw_aload_n C 0 dX11_setOf_5 rfl rfl ?_
    obtain ⟨v1, hv1, h⟩ := bindE h
    refine aw_gI C fl_X11_322 rfl hv1 dX11_setOf_6 ?_
    refine aw_icmp_ge C 33 dX11_setOf_9 (by decide) (fun c2 => ?_) (fun c2 => ?_)
    · rw [if_pos c2] at h
      have e9 := inj1 h
      subst e9
      exact aw_sub [0, 1, 2, 3] rfl kx
    · rw [if_neg c2] at h
      refine aw_iload_n C 2 dX11_setOf_12 rfl rfl ?_
      refine aw_iload_n C 1 dX11_setOf_13 rfl rfl ?_
      refine aw_iload_n C 3 dX11_setOf_14 rfl rfl ?_
      refine aw_ishr C dX11_setOf_15 ?_
      refine aw_iconst C 1 dX11_setOf_16 (by decide) ?_
      refine aw_iand C dX11_setOf_17 ?_
      refine aw_aload_n C 0 dX11_setOf_18 rfl rfl ?_
      obtain ⟨v3, hv3, h⟩ := bindE h
      refine aw_gR C fl_X11_109 rfl hv3 dX11_setOf_19 ?_
      refine aw_iload_n C 3 dX11_setOf_22 rfl rfl ?_
      obtain ⟨v4, hv4, h⟩ := bindE h
      refine aw_aI C hv4 dX11_setOf_23 ?_
      refine aw_ishl C dX11_setOf_24 ?_
      refine aw_ior C dX11_setOf_25 ?_
      obtain ⟨v5, ev5, h⟩ := bindS h
      refine aw_topi ev5 ?_
      refine aw_istore_n C [(2, .int v5), (0, .ref (gZ G + a0)), (1, .int x1), (3, .int x3)] dX11_setOf_26 rfl (by decide) rfl ?_
      refine aw_iinc C (x3 + 1) 3 [(3, .int (x3 + 1)), (2, .int v5), (0, .ref (gZ G + a0)), (1, .int x1)] dX11_setOf_27 rfl rfl (by decide) rfl ?_
      refine aw_goto C 4 dX11_setOf_30 (by decide) ?_
      exact aw_sub [2, 3, 1, 0] rfl (ih _ _ _ h kx)
set_option maxRecDepth 100000 in
set_option maxHeartbeats 4000000 in
theorem wk_X11_setOf {G : GL} {X : CX} {a0 : Nat} {x1 : Int32} {μ : Mem} {r : Int32} (C : Ctx G X cX11_setOf 4 RX11 rm_X11_setOf) (h : X11_setOf a0 x1 μ = some r) (hret : RtI G 4 X cX11_setOf 0 0 r μ) : AW G 4 X 0 0 0 [(0, .ref (gZ G + a0)), (1, .int x1)] [] μ := by
  unfold X11_setOf at h
  refine aw_iconst C 0 dX11_setOf_0 (by decide) ?_
  refine aw_istore_n C [(2, .int 0), (0, .ref (gZ G + a0)), (1, .int x1)] dX11_setOf_1 rfl (by decide) rfl ?_
  refine aw_iconst C 0 dX11_setOf_2 (by decide) ?_
  refine aw_istore_n C [(3, .int 0), (2, .int 0), (0, .ref (gZ G + a0)), (1, .int x1)] dX11_setOf_3 rfl (by decide) rfl ?_
  obtain ⟨z1, hz1, h⟩ := bindE h
  refine aw_sub [2, 3, 1, 0] rfl ?_
  refine X11_setOf_L4_ok C _ _ _ _ _ _ _ hz1 ?_
  refine aw_iload_n C 2 dX11_setOf_33 rfl rfl ?_
  have e9 := inj1 h
  subst e9
  exact hret _ _ dX11_setOf_34
set_option maxRecDepth 100000 in
set_option maxHeartbeats 4000000 in
theorem mt_X11_setOf {G : GL} {l : Launch} {a0 : Nat} {x1 : Int32} {μ : Mem} {r : Int32} (h : X11_setOf a0 x1 μ = some r) : MtI G l yX11_setOf cX11_setOf 4 (some .int) rm_X11_setOf false [.ref (gZ G + a0), .int x1] μ r μ := met_I (by decide) rfl rfl (Nat.le_of_ble_eq_true rfl) (fun X _ C _ _ hret => wk_X11_setOf C h hret)
set_option maxRecDepth 100000 in
set_option maxHeartbeats 4000000 in
theorem X11_isOneMatter_L7_ok {G : GL} {X : CX} (C : Ctx G X cX11_isOneMatter 5 RX11 rm_X11_isOneMatter) (a0 : Nat) (x1 : Int32) (μ : Mem) : ∀ (n : Nat) (x2 : Int32) (x3 : Int32) (x4 : Int32) (z : Int32 × Int32 × Int32), X11_isOneMatter_L7 a0 x1 μ n x2 x3 x4 = some z → AW G 5 X 0 0 65 [(0, .ref (gZ G + a0)), (1, .int x1), (2, .int z.1), (3, .int z.2.1), (4, .int z.2.2)] [] μ → AW G 5 X 0 0 7 [(0, .ref (gZ G + a0)), (1, .int x1), (2, .int x2), (3, .int x3), (4, .int x4)] [] μ := by
  intro n
  induction n with
  | zero =>
    intro x2 x3 x4 z h kx
    rw [X11_isOneMatter_L7] at h
    cases h
  | succ n ih =>
    intro x2 x3 x4 z h kx
    rw [X11_isOneMatter_L7] at h
    refine aw_iload C 4 dX11_isOneMatter_7 rfl ?_
    refine aw_aload_n C 0 dX11_isOneMatter_9 rfl rfl ?_
    obtain ⟨v1, hv1, h⟩ := bindE h
    refine aw_gI C fl_X11_182 rfl hv1 dX11_isOneMatter_10 ?_
    refine aw_icmp_ge C 65 dX11_isOneMatter_13 (by decide) (fun c2 => ?_) (fun c2 => ?_)
    · rw [if_pos c2] at h
      have e9 := inj1 h
      subst e9
      exact aw_sub [0, 1, 2, 3, 4] rfl kx
    · rw [if_neg c2] at h
      refine aw_iload_n C 1 dX11_isOneMatter_16 rfl rfl ?_
      refine aw_iload C 4 dX11_isOneMatter_17 rfl ?_
      refine aw_ishr C dX11_isOneMatter_19 ?_
      refine aw_iconst C 1 dX11_isOneMatter_20 (by decide) ?_
      refine aw_iand C dX11_isOneMatter_21 ?_
      refine aw_iconst C 1 dX11_isOneMatter_22 (by decide) ?_
      obtain ⟨z12, hz12, h⟩ := bindE h
      have kj23 : AW G 5 X 0 0 59 [(0, .ref (gZ G + a0)), (1, .int x1), (2, .int z12.1), (3, .int z12.2), (4, .int x4)] [] μ := by
        refine aw_iinc C (x4 + 1) 4 [(4, .int (x4 + 1)), (0, .ref (gZ G + a0)), (1, .int x1), (2, .int z12.1), (3, .int z12.2)] dX11_isOneMatter_59 rfl rfl (by decide) rfl ?_
        refine aw_goto C 7 dX11_isOneMatter_62 (by decide) ?_
        exact aw_sub [1, 2, 3, 4, 0] rfl (ih _ _ _ _ h kx)
      replace h := hz12
      refine aw_icmp_ne C 59 dX11_isOneMatter_23 (by decide) (fun c3 => ?_) (fun c3 => ?_)
      · rw [if_neg c3] at h
        have e9 := inj1 h
        subst e9
        exact aw_sub [0, 1, 2, 3, 4] rfl kj23
      · rw [if_pos c3] at h
        refine aw_iload_n C 3 dX11_isOneMatter_26 rfl rfl ?_
        obtain ⟨z9, hz9, h⟩ := bindE h
        have kj27 : AW G 5 X 0 0 50 [(0, .ref (gZ G + a0)), (1, .int x1), (4, .int x4)] [.int z9] μ := by
          refine aw_istore_n C [(3, .int z9), (0, .ref (gZ G + a0)), (1, .int x1), (4, .int x4)] dX11_isOneMatter_50 rfl (by decide) rfl ?_
          refine aw_aload_n C 1 dX11_isOneMatter_51 rfl rfl ?_
          obtain ⟨v10, hv10, h⟩ := bindE h
          refine aw_gR C fl_X11_47 rfl hv10 dX11_isOneMatter_52 ?_
          refine aw_iload C 3 dX11_isOneMatter_55 rfl ?_
          obtain ⟨v11, hv11, h⟩ := bindE h
          refine aw_aI C hv11 dX11_isOneMatter_57 ?_
          refine aw_istore_n C [(2, .int v11), (3, .int z9), (0, .ref (gZ G + a0)), (1, .int x1), (4, .int x4)] dX11_isOneMatter_58 rfl (by decide) rfl ?_
          have e9 := inj1 h
          subst e9
          exact aw_sub [2, 3, 0, 1, 4] rfl kj23
        replace h := hz9
        refine aw_if_eq C 49 dX11_isOneMatter_27 (by decide) (fun c4 => ?_) (fun c4 => ?_)
        · rw [if_pos c4] at h
          refine aw_iconst C 0 dX11_isOneMatter_49 (by decide) ?_
          have e9 := inj1 h
          subst e9
          exact aw_sub [0, 1, 4] rfl kj27
        · rw [if_neg c4] at h
          refine aw_iload_n C 2 dX11_isOneMatter_30 rfl rfl ?_
          refine aw_if_lt C 45 dX11_isOneMatter_31 (by decide) (fun c5 => ?_) (fun c5 => ?_)
          · rw [if_pos c5] at h
            refine aw_iconst C 1 dX11_isOneMatter_45 (by decide) ?_
            refine aw_goto C 50 dX11_isOneMatter_46 (by decide) ?_
            have e9 := inj1 h
            subst e9
            exact aw_sub [0, 1, 4] rfl kj27
          · rw [if_neg c5] at h
            refine aw_aload_n C 0 dX11_isOneMatter_34 rfl rfl ?_
            obtain ⟨v6, hv6, h⟩ := bindE h
            refine aw_gR C fl_X11_47 rfl hv6 dX11_isOneMatter_35 ?_
            refine aw_iload C 4 dX11_isOneMatter_38 rfl ?_
            obtain ⟨v7, hv7, h⟩ := bindE h
            refine aw_aI C hv7 dX11_isOneMatter_40 ?_
            refine aw_iload_n C 2 dX11_isOneMatter_41 rfl rfl ?_
            refine aw_icmp_ne C 49 dX11_isOneMatter_42 (by decide) (fun c8 => ?_) (fun c8 => ?_)
            · rw [if_neg c8] at h
              refine aw_iconst C 0 dX11_isOneMatter_49 (by decide) ?_
              have e9 := inj1 h
              subst e9
              exact aw_sub [0, 1, 4] rfl kj27
            · rw [if_pos c8] at h
              refine aw_iconst C 1 dX11_isOneMatter_45 (by decide) ?_
              refine aw_goto C 50 dX11_isOneMatter_46 (by decide) ?_
              have e9 := inj1 h
              subst e9
              exact aw_sub [0, 1, 4] rfl kj27
set_option maxRecDepth 100000 in
set_option maxHeartbeats 4000000 in
theorem wk_X11_isOneMatter {G : GL} {X : CX} {a0 : Nat} {x1 : Int32} {μ : Mem} {r : Int32} (C : Ctx G X cX11_isOneMatter 5 RX11 rm_X11_isOneMatter) (h : X11_isOneMatter a0 x1 μ = some r) (hret : RtZ G 5 X cX11_isOneMatter 0 0 r μ) : AW G 5 X 0 0 0 [(0, .ref (gZ G + a0)), (1, .int x1)] [] μ := by
  unfold X11_isOneMatter at h
  refine aw_iconst C ((-1)) dX11_isOneMatter_0 (by decide) ?_
  refine aw_istore_n C [(2, .int ((-1))), (0, .ref (gZ G + a0)), (1, .int x1)] dX11_isOneMatter_1 rfl (by decide) rfl ?_
  refine aw_iconst C 1 dX11_isOneMatter_2 (by decide) ?_
  refine aw_istore_n C [(3, .int 1), (2, .int ((-1))), (0, .ref (gZ G + a0)), (1, .int x1)] dX11_isOneMatter_3 rfl (by decide) rfl ?_
  refine aw_iconst C 0 dX11_isOneMatter_4 (by decide) ?_
  refine aw_istore C [(4, .int 0), (3, .int 1), (2, .int ((-1))), (0, .ref (gZ G + a0)), (1, .int x1)] dX11_isOneMatter_5 (by decide) rfl ?_
  obtain ⟨z1, hz1, h⟩ := bindE h
  refine aw_sub [3, 4, 2, 1, 0] rfl ?_
  refine X11_isOneMatter_L7_ok C _ _ _ _ _ _ _ _ hz1 ?_
  refine aw_iload_n C 3 dX11_isOneMatter_65 rfl rfl ?_
  obtain ⟨v2, hv2, h⟩ := bindE h
  obtain ⟨ev2, zv2⟩ := zzE hv2
  refine aw_topi ev2 ?_
  have e9 := inj1 h
  subst e9
  exact hret _ _ dX11_isOneMatter_66 zv2
set_option maxRecDepth 100000 in
set_option maxHeartbeats 4000000 in
theorem mt_X11_isOneMatter {G : GL} {l : Launch} {a0 : Nat} {x1 : Int32} {μ : Mem} {r : Int32} (h : X11_isOneMatter a0 x1 μ = some r) : MtI G l yX11_isOneMatter cX11_isOneMatter 5 (some .boolean) rm_X11_isOneMatter false [.ref (gZ G + a0), .int x1] μ r μ := met_Z (by decide) rfl (Nat.le_of_ble_eq_true rfl) (fun X _ C _ _ hret => wk_X11_isOneMatter C h hret)
set_option maxRecDepth 100000 in
set_option maxHeartbeats 4000000 in
theorem X11_findGain_L60_ok {G : GL} {X : CX} (C : Ctx G X cX11_findGain 10 RX11 rm_X11_findGain) (a0 : Nat) (x1 : Int32) (x2 : Int32) (x3 : Int32) (x4 : Int32) (x5 : Int32) : ∀ (n : Nat) (x6 : Int32) (x7 : Int32) (μ : Mem) (z : Int32 × Int32 × Mem), X11_findGain_L60 a0 x1 x2 x3 x4 x5 n x6 x7 μ = some z → AW G 10 X 0 0 148 [(0, .ref (gZ G + a0)), (1, .int x1), (2, .int x2), (3, .int x3), (4, .int x4), (5, .int x5), (6, .int z.1), (7, .int z.2.1)] [] z.2.2 → AW G 10 X 0 0 60 [(0, .ref (gZ G + a0)), (1, .int x1), (2, .int x2), (3, .int x3), (4, .int x4), (5, .int x5), (6, .int x6), (7, .int x7)] [] μ := by
  intro n
  induction n with
  | zero =>
    intro x6 x7 μ z h kx
    rw [X11_findGain_L60] at h
    cases h
  | succ n ih =>
    intro x6 x7 μ z h kx
    rw [X11_findGain_L60] at h
    refine aw_iload C 7 dX11_findGain_60 rfl ?_
    refine aw_aload_n C 0 dX11_findGain_62 rfl rfl ?_
    obtain ⟨v1, hv1, h⟩ := bindE h
    refine aw_gI C fl_X11_322 rfl hv1 dX11_findGain_63 ?_
    refine aw_icmp_ge C 148 dX11_findGain_66 (by decide) (fun c2 => ?_) (fun c2 => ?_)
    · rw [if_pos c2] at h
      have e9 := inj1 h
      subst e9
      exact aw_sub [0, 1, 2, 3, 4, 5, 6, 7] rfl kx
    · rw [if_neg c2] at h
      refine aw_aload_n C 0 dX11_findGain_69 rfl rfl ?_
      obtain ⟨v3, hv3, h⟩ := bindE h
      refine aw_gR C fl_X11_109 rfl hv3 dX11_findGain_70 ?_
      refine aw_iload C 7 dX11_findGain_73 rfl ?_
      obtain ⟨v4, hv4, h⟩ := bindE h
      refine aw_aI C hv4 dX11_findGain_75 ?_
      refine aw_istore C [(8, .int v4), (0, .ref (gZ G + a0)), (1, .int x1), (2, .int x2), (3, .int x3), (4, .int x4), (5, .int x5), (6, .int x6), (7, .int x7)] dX11_findGain_76 (by decide) rfl ?_
      refine aw_aload_n C 1 dX11_findGain_78 rfl rfl ?_
      refine aw_iload C 0 dX11_findGain_79 rfl ?_
      refine aw_iload_n C 2 dX11_findGain_81 rfl rfl ?_
      refine aw_iload_n C 3 dX11_findGain_82 rfl rfl ?_
      obtain ⟨g5, hg5, h⟩ := bindE h
      obtain ⟨z6, hz6, h⟩ := bindE h
      refine aw_cV_I C [.int v4, .int x1, .int x2] _ (mt_X11_valueOf hz6) cs_X11_valueOf ml_X11_211 im_X11_valueOf se_X11_valueOf (ci := 11) rfl rfl hg5 ⟨by decide, by decide⟩ ⟨rfl, rfl⟩ ⟨Nat.zero_le _, Nat.zero_le _⟩ rfl rfl (Nat.le_of_ble_eq_true rfl) dX11_findGain_83 ?_
      refine aw_aload_n C 1 dX11_findGain_86 rfl rfl ?_
      refine aw_iload C 0 dX11_findGain_87 rfl ?_
      obtain ⟨g7, hg7, h⟩ := bindE h
      obtain ⟨v8, hv8, h⟩ := bindE h
      refine aw_cV_I C [.int v4] _ (mt_X11_isMust hv8) cs_X11_isMust ml_X11_332 im_X11_isMust se_X11_isMust (ci := 11) rfl rfl hg7 ⟨by decide, by decide⟩ ⟨rfl, rfl⟩ ⟨Nat.zero_le _, Nat.zero_le _⟩ rfl rfl (Nat.le_of_ble_eq_true rfl) dX11_findGain_89 ?_
      obtain ⟨z14, hz14, h⟩ := bindE h
      have kj92 : AW G 10 X 0 0 118 [(0, .ref (gZ G + a0)), (1, .int x1), (2, .int x2), (3, .int x3), (4, .int x4), (5, .int x5), (6, .int x6), (7, .int x7)] [.int z14, .int z6.1] z6.2 := by
        refine aw_iadd C dX11_findGain_118 ?_
        obtain ⟨v15, ev15, h⟩ := bindS h
        refine aw_topi ev15 ?_
        refine aw_istore C [(9, .int v15), (0, .ref (gZ G + a0)), (1, .int x1), (2, .int x2), (3, .int x3), (4, .int x4), (5, .int x5), (6, .int x6), (7, .int x7)] dX11_findGain_119 (by decide) rfl ?_
        refine aw_iload C 7 dX11_findGain_121 rfl ?_
        refine aw_iload_n C 4 dX11_findGain_123 rfl rfl ?_
        refine aw_iload C 8 dX11_findGain_124 rfl ?_
        refine aw_ishr C dX11_findGain_126 ?_
        refine aw_iconst C 1 dX11_findGain_127 (by decide) ?_
        refine aw_iand C dX11_findGain_128 ?_
        refine aw_iconst C 1 dX11_findGain_129 (by decide) ?_
        obtain ⟨v17, ev17, h⟩ := bindS h
        have kj130 : AW G 10 X 0 0 139 [(0, .ref (gZ G + a0)), (1, .int x1), (2, .int x2), (3, .int x3), (4, .int x4), (5, .int x5), (7, .int x7)] [.int v17, .int x6] z6.2 := by
          refine aw_iadd C dX11_findGain_139 ?_
          obtain ⟨v18, ev18, h⟩ := bindS h
          refine aw_topi ev18 ?_
          refine aw_istore C [(6, .int v18), (0, .ref (gZ G + a0)), (1, .int x1), (2, .int x2), (3, .int x3), (4, .int x4), (5, .int x5), (7, .int x7)] dX11_findGain_140 (by decide) rfl ?_
          refine aw_iinc C (x7 + 1) 7 [(7, .int (x7 + 1)), (6, .int v18), (0, .ref (gZ G + a0)), (1, .int x1), (2, .int x2), (3, .int x3), (4, .int x4), (5, .int x5)] dX11_findGain_142 rfl rfl (by decide) rfl ?_
          refine aw_goto C 60 dX11_findGain_145 (by decide) ?_
          exact aw_sub [2, 3, 4, 5, 6, 7, 1, 0] rfl (ih _ _ _ _ h kx)
        clear h
        refine aw_icmp_ne C 138 dX11_findGain_130 (by decide) (fun c16 => ?_) (fun c16 => ?_)
        · refine aw_iconst C 0 dX11_findGain_138 (by decide) ?_
          rw [if_neg c16] at ev17
          subst ev17
          exact aw_sub [1, 2, 3, 4, 5, 6, 8] rfl kj130
        · refine aw_iload C 0 dX11_findGain_133 rfl ?_
          refine aw_goto C 139 dX11_findGain_135 (by decide) ?_
          rw [if_pos c16] at ev17
          subst ev17
          exact aw_sub [1, 2, 3, 4, 5, 6, 8] rfl kj130
      replace h := hz14
      refine aw_if_eq C 117 dX11_findGain_92 (by decide) (fun c9 => ?_) (fun c9 => ?_)
      · rw [if_pos c9] at h
        refine aw_iconst C 0 dX11_findGain_117 (by decide) ?_
        have e9 := inj1 h
        subst e9
        exact aw_sub [1, 2, 3, 4, 5, 6, 7, 8] rfl kj92
      · rw [if_neg c9] at h
        refine aw_aload_n C 1 dX11_findGain_95 rfl rfl ?_
        obtain ⟨v10, hv10, h⟩ := bindE h
        refine aw_gI C fl_X11_158 rfl hv10 dX11_findGain_96 ?_
        refine aw_iload_n C 3 dX11_findGain_99 rfl rfl ?_
        refine aw_iadd C dX11_findGain_100 ?_
        refine aw_aload_n C 1 dX11_findGain_101 rfl rfl ?_
        obtain ⟨v11, hv11, h⟩ := bindE h
        refine aw_gR C fl_X11_59 rfl hv11 dX11_findGain_102 ?_
        refine aw_iload C 0 dX11_findGain_105 rfl ?_
        obtain ⟨v12, hv12, h⟩ := bindE h
        refine aw_aI C hv12 dX11_findGain_107 ?_
        refine aw_icmp_gt C 117 dX11_findGain_108 (by decide) (fun c13 => ?_) (fun c13 => ?_)
        · rw [if_pos c13] at h
          refine aw_iconst C 0 dX11_findGain_117 (by decide) ?_
          have e9 := inj1 h
          subst e9
          exact aw_sub [1, 2, 3, 4, 5, 6, 7, 8] rfl kj92
        · rw [if_neg c13] at h
          refine aw_sipush C 2000 dX11_findGain_111 (by decide) ?_
          refine aw_goto C 118 dX11_findGain_114 (by decide) ?_
          have e9 := inj1 h
          subst e9
          exact aw_sub [1, 2, 3, 4, 5, 6, 7, 8] rfl kj92
set_option maxRecDepth 100000 in
set_option maxHeartbeats 4000000 in
theorem X11_findGain_L151_ok {G : GL} {X : CX} (C : Ctx G X cX11_findGain 10 RX11 rm_X11_findGain) (a0 : Nat) (x1 : Int32) (x2 : Int32) (x4 : Int32) (x5 : Int32) (x6 : Int32) : ∀ (n : Nat) (x7 : Int32) (μ : Mem) (z : Int32 × Mem), X11_findGain_L151 a0 x1 x2 x4 x5 x6 n x7 μ = some z → AW G 10 X 0 0 254 [(0, .ref (gZ G + a0)), (1, .int x1), (2, .int x2), (4, .int x4), (5, .int x5), (6, .int x6), (7, .int z.1)] [] z.2 → AW G 10 X 0 0 151 [(0, .ref (gZ G + a0)), (1, .int x1), (2, .int x2), (4, .int x4), (5, .int x5), (6, .int x6), (7, .int x7)] [] μ := by
  intro n
  induction n with
  | zero =>
    intro x7 μ z h kx
    rw [X11_findGain_L151] at h
    cases h
  | succ n ih =>
    intro x7 μ z h kx
    rw [X11_findGain_L151] at h
    refine aw_iload C 6 dX11_findGain_151 rfl ?_
    refine aw_iconst C 4 dX11_findGain_153 (by decide) ?_
    refine aw_icmp_ge C 254 dX11_findGain_154 (by decide) (fun c1 => ?_) (fun c1 => ?_)
    · rw [if_pos c1] at h
      have e9 := inj1 h
      subst e9
      exact aw_sub [0, 1, 2, 3, 4, 5, 6] rfl kx
    · rw [if_neg c1] at h
      refine aw_iload C 5 dX11_findGain_157 rfl ?_
      refine aw_aload_n C 0 dX11_findGain_159 rfl rfl ?_
      obtain ⟨v2, hv2, h⟩ := bindE h
      refine aw_gR C fl_X11_72 rfl hv2 dX11_findGain_160 ?_
      refine aw_iload C 6 dX11_findGain_163 rfl ?_
      obtain ⟨v3, hv3, h⟩ := bindE h
      refine aw_aI C hv3 dX11_findGain_165 ?_
      refine aw_imul C dX11_findGain_166 ?_
      refine aw_bipush C 100 dX11_findGain_167 (by decide) ?_
      obtain ⟨v4, hv4, h⟩ := bindE h
      refine aw_idiv C hv4 dX11_findGain_169 ?_
      refine aw_aload_n C 0 dX11_findGain_170 rfl rfl ?_
      refine aw_iload_n C 1 dX11_findGain_171 rfl rfl ?_
      refine aw_iload C 6 dX11_findGain_172 rfl ?_
      refine aw_aload_n C 0 dX11_findGain_174 rfl rfl ?_
      obtain ⟨v5, hv5, h⟩ := bindE h
      refine aw_gI C fl_X11_158 rfl hv5 dX11_findGain_175 ?_
      refine aw_iload_n C 2 dX11_findGain_178 rfl rfl ?_
      obtain ⟨g6, hg6, h⟩ := bindE h
      obtain ⟨z7, hz7, h⟩ := bindE h
      refine aw_cV_I C [.int x1, .int x7, .int v5, .int x2] _ (mt_X11_lossOf hz7) cs_X11_lossOf ml_X11_220 im_X11_lossOf se_X11_lossOf (ci := 11) rfl rfl hg6 ⟨by decide, by decide⟩ ⟨rfl, rfl⟩ ⟨Nat.zero_le _, Nat.zero_le _⟩ rfl rfl (Nat.le_of_ble_eq_true rfl) dX11_findGain_179 ?_
      refine aw_isub C dX11_findGain_182 ?_
      obtain ⟨v8, ev8, h⟩ := bindS h
      refine aw_topi ev8 ?_
      refine aw_istore C [(8, .int v8), (0, .ref (gZ G + a0)), (1, .int x1), (2, .int x2), (4, .int x4), (5, .int x5), (6, .int x6), (7, .int x7)] dX11_findGain_183 (by decide) rfl ?_
      refine aw_aload_n C 1 dX11_findGain_185 rfl rfl ?_
      refine aw_iload_n C 2 dX11_findGain_186 rfl rfl ?_
      refine aw_iload C 4 dX11_findGain_187 rfl ?_
      obtain ⟨g9, hg9, h⟩ := bindE h
      obtain ⟨v10, hv10, h⟩ := bindE h
      refine aw_cV_I C [.int x1, .int x4] _ (mt_X11_areAlways hv10) cs_X11_areAlways ml_X11_302 im_X11_areAlways se_X11_areAlways (ci := 11) rfl rfl hg9 ⟨by decide, by decide⟩ ⟨rfl, rfl⟩ ⟨Nat.zero_le _, Nat.zero_le _⟩ rfl rfl (Nat.le_of_ble_eq_true rfl) dX11_findGain_189 ?_
      obtain ⟨z15, hz15, h⟩ := bindE h
      have kj192 : AW G 10 X 0 0 211 [(0, .ref (gZ G + a0)), (1, .int x1), (2, .int x2), (4, .int x4), (5, .int x5), (6, .int x6), (7, .int x7), (8, .int v8)] [.int z15.1] z15.2 := by
        refine aw_istore C [(9, .int z15.1), (0, .ref (gZ G + a0)), (1, .int x1), (2, .int x2), (4, .int x4), (5, .int x5), (6, .int x6), (7, .int x7), (8, .int v8)] dX11_findGain_211 (by decide) rfl ?_
        refine aw_iload C 0 dX11_findGain_213 rfl ?_
        obtain ⟨z24, hz24, h⟩ := bindE h
        have kj215 : AW G 10 X 0 0 248 [(0, .ref (gZ G + a0)), (1, .int x1), (2, .int x2), (4, .int x4), (5, .int x5), (6, .int x6), (7, .int x7)] [] z24 := by
          refine aw_iinc C (x7 + 1) 6 [(7, .int (x7 + 1)), (0, .ref (gZ G + a0)), (1, .int x1), (2, .int x2), (4, .int x4), (5, .int x5), (6, .int x6)] dX11_findGain_248 rfl rfl (by decide) rfl ?_
          refine aw_goto C 151 dX11_findGain_251 (by decide) ?_
          exact aw_sub [1, 2, 3, 4, 5, 6, 0] rfl (ih _ _ _ h kx)
        replace h := hz24
        refine aw_if_eq C 248 dX11_findGain_215 (by decide) (fun c16 => ?_) (fun c16 => ?_)
        · rw [if_pos c16] at h
          have e9 := inj1 h
          subst e9
          exact aw_sub [1, 2, 3, 4, 5, 6, 7] rfl kj215
        · rw [if_neg c16] at h
          refine aw_iload C 8 dX11_findGain_218 rfl ?_
          refine aw_aload_n C 1 dX11_findGain_220 rfl rfl ?_
          obtain ⟨v17, hv17, h⟩ := bindE h
          refine aw_gR C fl_X11_115 rfl hv17 dX11_findGain_221 ?_
          refine aw_iload C 5 dX11_findGain_224 rfl ?_
          obtain ⟨v18, hv18, h⟩ := bindE h
          refine aw_aI C hv18 dX11_findGain_226 ?_
          refine aw_icmp_le C 248 dX11_findGain_227 (by decide) (fun c19 => ?_) (fun c19 => ?_)
          · rw [if_pos c19] at h
            have e9 := inj1 h
            subst e9
            exact aw_sub [1, 2, 3, 4, 5, 6, 7] rfl kj215
          · rw [if_neg c19] at h
            refine aw_aload_n C 1 dX11_findGain_230 rfl rfl ?_
            obtain ⟨v20, hv20, h⟩ := bindE h
            refine aw_gR C fl_X11_115 rfl hv20 dX11_findGain_231 ?_
            refine aw_iload C 5 dX11_findGain_234 rfl ?_
            refine aw_iload C 8 dX11_findGain_236 rfl ?_
            obtain ⟨μ21, hμ21, h⟩ := bindE h
            refine aw_sI C hμ21 dX11_findGain_238 ?_
            refine aw_aload_n C 1 dX11_findGain_239 rfl rfl ?_
            obtain ⟨v22, hv22, h⟩ := bindE h
            refine aw_gR C fl_X11_118 rfl hv22 dX11_findGain_240 ?_
            refine aw_iload C 5 dX11_findGain_243 rfl ?_
            refine aw_iload C 7 dX11_findGain_245 rfl ?_
            obtain ⟨μ23, hμ23, h⟩ := bindE h
            refine aw_sI C hμ23 dX11_findGain_247 ?_
            have e9 := inj1 h
            subst e9
            exact aw_sub [1, 2, 3, 4, 5, 6, 7] rfl kj215
      replace h := hz15
      refine aw_if_ne C 206 dX11_findGain_192 (by decide) (fun c11 => ?_) (fun c11 => ?_)
      · rw [if_neg c11] at h
        refine aw_iconst C 1 dX11_findGain_206 (by decide) ?_
        refine aw_goto C 211 dX11_findGain_207 (by decide) ?_
        have e9 := inj1 h
        subst e9
        exact aw_sub [1, 2, 3, 4, 5, 6, 7, 0] rfl kj192
      · rw [if_pos c11] at h
        refine aw_aload_n C 1 dX11_findGain_195 rfl rfl ?_
        refine aw_iload_n C 2 dX11_findGain_196 rfl rfl ?_
        refine aw_iload C 7 dX11_findGain_197 rfl ?_
        refine aw_iload_n C 3 dX11_findGain_199 rfl rfl ?_
        obtain ⟨g12, hg12, h⟩ := bindE h
        obtain ⟨z13, hz13, h⟩ := bindE h
        refine aw_cV_I C [.int x1, .int x7, .int x2] _ (mt_X11_isWayBarred hz13) cs_X11_isWayBarred ml_X11_305 im_X11_isWayBarred se_X11_isWayBarred (ci := 11) rfl rfl hg12 ⟨by decide, by decide⟩ ⟨rfl, rfl⟩ ⟨Nat.zero_le _, Nat.zero_le _⟩ rfl rfl (Nat.le_of_ble_eq_true rfl) dX11_findGain_200 ?_
        refine aw_if_ne C 210 dX11_findGain_203 (by decide) (fun c14 => ?_) (fun c14 => ?_)
        · rw [if_neg c14] at h
          refine aw_iconst C 0 dX11_findGain_210 (by decide) ?_
          have e9 := inj1 h
          subst e9
          exact aw_sub [1, 2, 3, 4, 5, 6, 7, 0] rfl kj192
        · rw [if_pos c14] at h
          refine aw_iconst C 1 dX11_findGain_206 (by decide) ?_
          refine aw_goto C 211 dX11_findGain_207 (by decide) ?_
          have e9 := inj1 h
          subst e9
          exact aw_sub [1, 2, 3, 4, 5, 6, 7, 0] rfl kj192
set_option maxRecDepth 100000 in
set_option maxHeartbeats 4000000 in
theorem wk_X11_findGain {G : GL} {X : CX} {a0 : Nat} {x1 : Int32} {x2 : Int32} {x3 : Int32} {μ : Mem} {μ' : Mem} (C : Ctx G X cX11_findGain 10 RX11 rm_X11_findGain) (h : X11_findGain a0 x1 x2 x3 μ = some μ') (hret : RtV G 10 X cX11_findGain 0 0 μ') : AW G 10 X 0 0 0 [(0, .ref (gZ G + a0)), (1, .int x1), (2, .int x2), (3, .int x3)] [] μ := by
  unfold X11_findGain at h
  refine aw_aload_n C 0 dX11_findGain_0 rfl rfl ?_
  refine aw_iload_n C 3 dX11_findGain_1 rfl rfl ?_
  obtain ⟨g1, hg1, h⟩ := bindE h
  obtain ⟨v2, hv2, h⟩ := bindE h
  refine aw_cV_I C [.int x3] _ (mt_X11_setOf hv2) cs_X11_setOf ml_X11_325 im_X11_setOf se_X11_setOf (ci := 11) rfl rfl hg1 ⟨by decide, by decide⟩ ⟨rfl, rfl⟩ ⟨Nat.zero_le _, Nat.zero_le _⟩ rfl rfl (Nat.le_of_ble_eq_true rfl) dX11_findGain_2 ?_
  refine aw_istore C [(4, .int v2), (0, .ref (gZ G + a0)), (1, .int x1), (2, .int x2), (3, .int x3)] dX11_findGain_5 (by decide) rfl ?_
  refine aw_bipush C 64 dX11_findGain_7 (by decide) ?_
  refine aw_iload_n C 3 dX11_findGain_9 rfl rfl ?_
  refine aw_imul C dX11_findGain_10 ?_
  refine aw_iload_n C 4 dX11_findGain_11 rfl rfl ?_
  refine aw_iadd C dX11_findGain_12 ?_
  obtain ⟨v3, ev3, h⟩ := bindS h
  refine aw_topi ev3 ?_
  refine aw_istore C [(5, .int v3), (4, .int v2), (0, .ref (gZ G + a0)), (1, .int x1), (2, .int x2), (3, .int x3)] dX11_findGain_13 (by decide) rfl ?_
  refine aw_aload_n C 2 dX11_findGain_15 rfl rfl ?_
  obtain ⟨v4, hv4, h⟩ := bindE h
  refine aw_gR C fl_X11_118 rfl hv4 dX11_findGain_16 ?_
  refine aw_iload C 0 dX11_findGain_19 rfl ?_
  refine aw_iconst C ((-1)) dX11_findGain_21 (by decide) ?_
  obtain ⟨μ5, hμ5, h⟩ := bindE h
  refine aw_sI C hμ5 dX11_findGain_22 ?_
  refine aw_aload_n C 2 dX11_findGain_23 rfl rfl ?_
  obtain ⟨v6, hv6, h⟩ := bindE h
  refine aw_gR C fl_X11_115 rfl hv6 dX11_findGain_24 ?_
  refine aw_iload C 0 dX11_findGain_27 rfl ?_
  refine aw_ldcw C kc_X11_328 dX11_findGain_29 ?_
  obtain ⟨μ7, hμ7, h⟩ := bindE h
  refine aw_sI C hμ7 dX11_findGain_32 ?_
  refine aw_aload_n C 2 dX11_findGain_33 rfl rfl ?_
  refine aw_iload C 1 dX11_findGain_34 rfl ?_
  obtain ⟨g8, hg8, h⟩ := bindE h
  obtain ⟨v9, hv9, h⟩ := bindE h
  refine aw_cV_I C [.int v2] _ (mt_X11_isOneMatter hv9) cs_X11_isOneMatter ml_X11_329 im_X11_isOneMatter se_X11_isOneMatter (ci := 11) rfl rfl hg8 ⟨by decide, by decide⟩ ⟨rfl, rfl⟩ ⟨Nat.zero_le _, Nat.zero_le _⟩ rfl rfl (Nat.le_of_ble_eq_true rfl) dX11_findGain_36 ?_
  refine aw_if_eq C 53 dX11_findGain_39 (by decide) (fun c10 => ?_) (fun c10 => ?_)
  · rw [if_pos c10] at h
    have e9 := inj1 h
    subst e9
    exact hret _ _ dX11_findGain_53
  · rw [if_neg c10] at h
    refine aw_aload_n C 2 dX11_findGain_42 rfl rfl ?_
    refine aw_iload_n C 3 dX11_findGain_43 rfl rfl ?_
    refine aw_iload C 1 dX11_findGain_44 rfl ?_
    refine aw_iload_n C 4 dX11_findGain_46 rfl rfl ?_
    obtain ⟨g11, hg11, h⟩ := bindE h
    obtain ⟨v12, hv12, h⟩ := bindE h
    refine aw_cV_I C [.int x1, .int v2, .int x2] _ (mt_X11_isKindBarred hv12) cs_X11_isKindBarred ml_X11_309 im_X11_isKindBarred se_X11_isKindBarred (ci := 11) rfl rfl hg11 ⟨by decide, by decide⟩ ⟨rfl, rfl⟩ ⟨Nat.zero_le _, Nat.zero_le _⟩ rfl rfl (Nat.le_of_ble_eq_true rfl) dX11_findGain_47 ?_
    refine aw_if_eq C 54 dX11_findGain_50 (by decide) (fun c13 => ?_) (fun c13 => ?_)
    · rw [if_pos c13] at h
      refine aw_iconst C 0 dX11_findGain_54 (by decide) ?_
      refine aw_istore C [(6, .int 0), (5, .int v3), (4, .int v2), (0, .ref (gZ G + a0)), (1, .int x1), (2, .int x2), (3, .int x3)] dX11_findGain_55 (by decide) rfl ?_
      refine aw_iconst C 0 dX11_findGain_57 (by decide) ?_
      refine aw_istore C [(7, .int 0), (6, .int 0), (5, .int v3), (4, .int v2), (0, .ref (gZ G + a0)), (1, .int x1), (2, .int x2), (3, .int x3)] dX11_findGain_58 (by decide) rfl ?_
      obtain ⟨z14, hz14, h⟩ := bindE h
      refine aw_sub [4, 5, 6, 7, 3, 2, 1, 0] rfl ?_
      refine X11_findGain_L60_ok C _ _ _ _ _ _ _ _ _ _ _ hz14 ?_
      refine aw_iconst C 0 dX11_findGain_148 (by decide) ?_
      refine aw_istore C [(7, .int 0), (0, .ref (gZ G + a0)), (1, .int x1), (2, .int x2), (3, .int x3), (4, .int v2), (5, .int v3), (6, .int z14.1)] dX11_findGain_149 (by decide) rfl ?_
      obtain ⟨z15, hz15, h⟩ := bindE h
      refine aw_sub [1, 2, 3, 5, 6, 7, 0] rfl ?_
      refine X11_findGain_L151_ok C _ _ _ _ _ _ _ _ _ _ hz15 ?_
      have e9 := inj1 h
      subst e9
      exact hret _ _ dX11_findGain_254
    · rw [if_neg c13] at h
      have e9 := inj1 h
      subst e9
      exact hret _ _ dX11_findGain_53
set_option maxRecDepth 100000 in
set_option maxHeartbeats 4000000 in
theorem mt_X11_findGain {G : GL} {l : Launch} {a0 : Nat} {x1 : Int32} {x2 : Int32} {x3 : Int32} {μ : Mem} {μ' : Mem} (h : X11_findGain a0 x1 x2 x3 μ = some μ') : MtV G l yX11_findGain cX11_findGain 10 none rm_X11_findGain false [.ref (gZ G + a0), .int x1, .int x2, .int x3] μ μ' := met_V (by decide) rfl (Nat.le_of_ble_eq_true rfl) (fun X _ C _ _ hret => wk_X11_findGain C h hret)
set_option maxRecDepth 100000 in
set_option maxHeartbeats 4000000 in
theorem wk_X11_place {G : GL} {X : CX} {x0 : Int32} {x1 : Int32} {x2 : Int32} {μ : Mem} (C : Ctx G X cX11_place 3 RX11 rm_X11_place) (hret : RtI G 3 X cX11_place 0 0 (X11_place x0 x1 x2) μ) : AW G 3 X 0 0 0 [(0, .int x0), (1, .int x1), (2, .int x2)] [] μ := by
  unfold X11_place at hret
  refine aw_sipush C 4096 dX11_place_0 (by decide) ?_
  refine aw_iload_n C 0 dX11_place_3 rfl rfl ?_
  refine aw_imul C dX11_place_4 ?_
  refine aw_bipush C 64 dX11_place_5 (by decide) ?_
  refine aw_iload_n C 1 dX11_place_7 rfl rfl ?_
  refine aw_imul C dX11_place_8 ?_
  refine aw_iadd C dX11_place_9 ?_
  refine aw_iload_n C 2 dX11_place_10 rfl rfl ?_
  refine aw_iadd C dX11_place_11 ?_
  exact hret _ _ dX11_place_12
set_option maxRecDepth 100000 in
set_option maxHeartbeats 4000000 in
theorem mt_X11_place {G : GL} {l : Launch} (x0 : Int32) (x1 : Int32) (x2 : Int32) {μ : Mem} : MtI G l yX11_place cX11_place 3 (some .int) rm_X11_place false [.int x0, .int x1, .int x2] μ (X11_place x0 x1 x2) μ := met_I (by decide) rfl rfl (Nat.le_of_ble_eq_true rfl) (fun X _ C _ _ hret => wk_X11_place C hret)
set_option maxRecDepth 100000 in
set_option maxHeartbeats 4000000 in
theorem wk_X11_by {G : GL} {X : CX} {a0 : Nat} {x1 : Int32} {x2 : Int32} {x3 : Int32} {x4 : Int32} {x5 : Int32} {μ : Mem} {r : Int32} (C : Ctx G X cX11_by 8 RX11 rm_X11_by) (h : X11_by a0 x1 x2 x3 x4 x5 μ = some r) (hret : RtI G 8 X cX11_by 0 0 r μ) : AW G 8 X 0 0 0 [(0, .ref (gZ G + a0)), (1, .int x1), (2, .int x2), (3, .int x3), (4, .int x4), (5, .int x5)] [] μ := by
  unfold X11_by at h
  refine aw_bipush C 64 dX11_by_0 (by decide) ?_
  refine aw_iload_n C 2 dX11_by_2 rfl rfl ?_
  refine aw_imul C dX11_by_3 ?_
  refine aw_iload C 5 dX11_by_4 rfl ?_
  refine aw_iadd C dX11_by_6 ?_
  obtain ⟨v1, ev1, h⟩ := bindS h
  refine aw_topi ev1 ?_
  refine aw_istore C [(6, .int v1), (0, .ref (gZ G + a0)), (1, .int x1), (2, .int x2), (3, .int x3), (4, .int x4), (5, .int x5)] dX11_by_7 (by decide) rfl ?_
  refine aw_aload_n C 1 dX11_by_9 rfl rfl ?_
  obtain ⟨v2, hv2, h⟩ := bindE h
  refine aw_gR C fl_X11_118 rfl hv2 dX11_by_10 ?_
  refine aw_iload C 0 dX11_by_13 rfl ?_
  obtain ⟨v3, hv3, h⟩ := bindE h
  refine aw_aI C hv3 dX11_by_15 ?_
  obtain ⟨z13, hz13, h⟩ := bindE h
  have kj16 : AW G 8 X 0 0 49 [(0, .ref (gZ G + a0)), (2, .int x2), (3, .int x3), (4, .int x4), (5, .int x5), (6, .int v1)] [.int z13] μ := by
    refine aw_istore C [(7, .int z13), (0, .ref (gZ G + a0)), (2, .int x2), (3, .int x3), (4, .int x4), (5, .int x5), (6, .int v1)] dX11_by_49 (by decide) rfl ?_
    refine aw_iload C 0 dX11_by_51 rfl ?_
    obtain ⟨z19, hz19, h⟩ := bindE h
    have kj53 : AW G 8 X 0 0 93 [] [.int z19] μ := by
      have e9 := inj1 h
      subst e9
      exact hret _ _ dX11_by_93
    replace h := hz19
    refine aw_if_eq C 90 dX11_by_53 (by decide) (fun c14 => ?_) (fun c14 => ?_)
    · rw [if_pos c14] at h
      refine aw_ldcw C kc_X11_328 dX11_by_90 ?_
      have e9 := inj1 h
      subst e9
      exact aw_sub [] rfl kj53
    · rw [if_neg c14] at h
      refine aw_aload_n C 1 dX11_by_56 rfl rfl ?_
      obtain ⟨v15, hv15, h⟩ := bindE h
      refine aw_gR C fl_X11_115 rfl hv15 dX11_by_57 ?_
      refine aw_iload C 6 dX11_by_60 rfl ?_
      obtain ⟨v16, hv16, h⟩ := bindE h
      refine aw_aI C hv16 dX11_by_62 ?_
      refine aw_aload_n C 1 dX11_by_63 rfl rfl ?_
      obtain ⟨v17, hv17, h⟩ := bindE h
      refine aw_gR C fl_X11_112 rfl hv17 dX11_by_64 ?_
      refine aw_iload_n C 2 dX11_by_67 rfl rfl ?_
      refine aw_iconst C 1 dX11_by_68 (by decide) ?_
      refine aw_iadd C dX11_by_69 ?_
      refine aw_iload_n C 3 dX11_by_70 rfl rfl ?_
      refine aw_iload C 5 dX11_by_71 rfl ?_
      refine aw_iconst C ((-1)) dX11_by_73 (by decide) ?_
      refine aw_ixor C dX11_by_74 ?_
      refine aw_iand C dX11_by_75 ?_
      refine aw_iload C 4 dX11_by_76 rfl ?_
      refine aw_iconst C 1 dX11_by_78 (by decide) ?_
      refine aw_iload_n C 2 dX11_by_79 rfl rfl ?_
      refine aw_ishl C dX11_by_80 ?_
      refine aw_ior C dX11_by_81 ?_
      refine aw_cS_I C [.int (x2 + 1), .int (x3 &&& (x5 ^^^ ((-1)))), .int (x4 ||| (1 <<< (x2 &&& 31)))] _ (mt_X11_place _ _ _) cs_X11_place ml_X11_335 st_X11_place ⟨by decide, by decide⟩ ⟨rfl, rfl⟩ ⟨Nat.zero_le _, Nat.zero_le _⟩ rfl rfl (Nat.le_of_ble_eq_true rfl) dX11_by_82 ?_
      obtain ⟨v18, hv18, h⟩ := bindE h
      refine aw_aI C hv18 dX11_by_85 ?_
      refine aw_iadd C dX11_by_86 ?_
      refine aw_goto C 93 dX11_by_87 (by decide) ?_
      have e9 := inj1 h
      subst e9
      exact aw_sub [] rfl kj53
  replace h := hz13
  refine aw_if_lt C 48 dX11_by_16 (by decide) (fun c4 => ?_) (fun c4 => ?_)
  · rw [if_pos c4] at h
    refine aw_iconst C 0 dX11_by_48 (by decide) ?_
    have e9 := inj1 h
    subst e9
    exact aw_sub [1, 3, 4, 5, 6, 0] rfl kj16
  · rw [if_neg c4] at h
    refine aw_aload_n C 1 dX11_by_19 rfl rfl ?_
    refine aw_iload_n C 2 dX11_by_20 rfl rfl ?_
    refine aw_aload_n C 1 dX11_by_21 rfl rfl ?_
    refine aw_iload C 6 dX11_by_22 rfl ?_
    obtain ⟨g5, hg5, h⟩ := bindE h
    obtain ⟨v6, hv6, h⟩ := bindE h
    refine aw_cV_I C [.int x5] _ (mt_X11_setOf hv6) cs_X11_setOf ml_X11_325 im_X11_setOf se_X11_setOf (ci := 11) rfl rfl hg5 ⟨by decide, by decide⟩ ⟨rfl, rfl⟩ ⟨Nat.zero_le _, Nat.zero_le _⟩ rfl rfl (Nat.le_of_ble_eq_true rfl) dX11_by_24 ?_
    obtain ⟨g7, hg7, h⟩ := bindE h
    obtain ⟨v8, hv8, h⟩ := bindE h
    refine aw_cV_I C [.int x1, .int v6] _ (mt_X11_areAlways hv8) cs_X11_areAlways ml_X11_302 im_X11_areAlways se_X11_areAlways (ci := 11) rfl rfl hg7 ⟨by decide, by decide⟩ ⟨rfl, rfl⟩ ⟨Nat.zero_le _, Nat.zero_le _⟩ rfl rfl (Nat.le_of_ble_eq_true rfl) dX11_by_27 ?_
    refine aw_if_ne C 44 dX11_by_30 (by decide) (fun c9 => ?_) (fun c9 => ?_)
    · rw [if_neg c9] at h
      refine aw_iconst C 1 dX11_by_44 (by decide) ?_
      refine aw_goto C 49 dX11_by_45 (by decide) ?_
      have e9 := inj1 h
      subst e9
      exact aw_sub [1, 3, 4, 5, 6, 0] rfl kj16
    · rw [if_pos c9] at h
      refine aw_aload_n C 1 dX11_by_33 rfl rfl ?_
      refine aw_iload_n C 2 dX11_by_34 rfl rfl ?_
      refine aw_iload_n C 3 dX11_by_35 rfl rfl ?_
      refine aw_iload C 5 dX11_by_36 rfl ?_
      obtain ⟨g10, hg10, h⟩ := bindE h
      obtain ⟨v11, hv11, h⟩ := bindE h
      refine aw_cV_I C [.int x1, .int x2, .int x4] _ (mt_X11_areMost hv11) cs_X11_areMost ml_X11_312 im_X11_areMost se_X11_areMost (ci := 11) rfl rfl hg10 ⟨by decide, by decide⟩ ⟨rfl, rfl⟩ ⟨Nat.zero_le _, Nat.zero_le _⟩ rfl rfl (Nat.le_of_ble_eq_true rfl) dX11_by_38 ?_
      refine aw_if_ne C 48 dX11_by_41 (by decide) (fun c12 => ?_) (fun c12 => ?_)
      · rw [if_neg c12] at h
        refine aw_iconst C 0 dX11_by_48 (by decide) ?_
        have e9 := inj1 h
        subst e9
        exact aw_sub [1, 3, 4, 5, 6, 0] rfl kj16
      · rw [if_pos c12] at h
        refine aw_iconst C 1 dX11_by_44 (by decide) ?_
        refine aw_goto C 49 dX11_by_45 (by decide) ?_
        have e9 := inj1 h
        subst e9
        exact aw_sub [1, 3, 4, 5, 6, 0] rfl kj16
set_option maxRecDepth 100000 in
set_option maxHeartbeats 4000000 in
theorem mt_X11_by {G : GL} {l : Launch} {a0 : Nat} {x1 : Int32} {x2 : Int32} {x3 : Int32} {x4 : Int32} {x5 : Int32} {μ : Mem} {r : Int32} (h : X11_by a0 x1 x2 x3 x4 x5 μ = some r) : MtI G l yX11_by cX11_by 8 (some .int) rm_X11_by false [.ref (gZ G + a0), .int x1, .int x2, .int x3, .int x4, .int x5] μ r μ := met_I (by decide) rfl rfl (Nat.le_of_ble_eq_true rfl) (fun X _ C _ _ hret => wk_X11_by C h hret)
set_option maxRecDepth 100000 in
set_option maxHeartbeats 4000000 in
theorem X11_findPlans_L7_ok {G : GL} {X : CX} (C : Ctx G X cX11_findPlans 10 RX11 rm_X11_findPlans) (a0 : Nat) (x1 : Int32) (x2 : Int32) : ∀ (n : Nat) (x3 : Int32) (μ : Mem) (z : Int32 × Mem), X11_findPlans_L7 a0 x1 x2 n x3 μ = some z → AW G 10 X 0 0 72 [(0, .ref (gZ G + a0)), (1, .int x1), (2, .int x2), (3, .int z.1)] [] z.2 → AW G 10 X 0 0 7 [(0, .ref (gZ G + a0)), (1, .int x1), (2, .int x2), (3, .int x3)] [] μ := by
  intro n
  induction n with
  | zero =>
    intro x3 μ z h kx
    rw [X11_findPlans_L7] at h
    cases h
  | succ n ih =>
    intro x3 μ z h kx
    rw [X11_findPlans_L7] at h
    refine aw_iload_n C 3 dX11_findPlans_7 rfl rfl ?_
    refine aw_aload_n C 0 dX11_findPlans_8 rfl rfl ?_
    obtain ⟨v1, hv1, h⟩ := bindE h
    refine aw_gI C fl_X11_182 rfl hv1 dX11_findPlans_9 ?_
    refine aw_icmp_ge C 72 dX11_findPlans_12 (by decide) (fun c2 => ?_) (fun c2 => ?_)
    · rw [if_pos c2] at h
      have e9 := inj1 h
      subst e9
      exact aw_sub [0, 1, 2, 3] rfl kx
    · rw [if_neg c2] at h
      refine aw_aload_n C 0 dX11_findPlans_15 rfl rfl ?_
      obtain ⟨v3, hv3, h⟩ := bindE h
      refine aw_gI C fl_X11_322 rfl hv3 dX11_findPlans_16 ?_
      refine aw_bipush C 6 dX11_findPlans_19 (by decide) ?_
      refine aw_icmp_ge C 72 dX11_findPlans_21 (by decide) (fun c4 => ?_) (fun c4 => ?_)
      · rw [if_pos c4] at h
        have e9 := inj1 h
        subst e9
        exact aw_sub [0, 1, 2, 3] rfl kx
      · rw [if_neg c4] at h
        refine aw_aload_n C 0 dX11_findPlans_24 rfl rfl ?_
        refine aw_iload_n C 3 dX11_findPlans_25 rfl rfl ?_
        obtain ⟨g5, hg5, h⟩ := bindE h
        obtain ⟨v6, hv6, h⟩ := bindE h
        refine aw_cV_I C [.int x3] _ (mt_X11_stateOf hv6) cs_X11_stateOf ml_X11_208 im_X11_stateOf se_X11_stateOf (ci := 11) rfl rfl hg5 ⟨by decide, by decide⟩ ⟨rfl, rfl⟩ ⟨Nat.zero_le _, Nat.zero_le _⟩ rfl rfl (Nat.le_of_ble_eq_true rfl) dX11_findPlans_26 ?_
        obtain ⟨z16, hz16, h⟩ := bindE h
        have kj29 : AW G 10 X 0 0 66 [(0, .ref (gZ G + a0)), (1, .int x1), (2, .int x2), (3, .int x3)] [] z16 := by
          refine aw_iinc C (x3 + 1) 3 [(3, .int (x3 + 1)), (0, .ref (gZ G + a0)), (1, .int x1), (2, .int x2)] dX11_findPlans_66 rfl rfl (by decide) rfl ?_
          refine aw_goto C 7 dX11_findPlans_69 (by decide) ?_
          exact aw_sub [1, 2, 3, 0] rfl (ih _ _ _ h kx)
        replace h := hz16
        refine aw_if_ne C 66 dX11_findPlans_29 (by decide) (fun c7 => ?_) (fun c7 => ?_)
        · rw [if_neg c7] at h
          have e9 := inj1 h
          subst e9
          exact aw_sub [0, 1, 2, 3] rfl kj29
        · rw [if_pos c7] at h
          refine aw_aload_n C 0 dX11_findPlans_32 rfl rfl ?_
          obtain ⟨v8, hv8, h⟩ := bindE h
          refine aw_gR C fl_X11_41 rfl hv8 dX11_findPlans_33 ?_
          refine aw_iload_n C 3 dX11_findPlans_36 rfl rfl ?_
          obtain ⟨v9, hv9, h⟩ := bindE h
          refine aw_aI C hv9 dX11_findPlans_37 ?_
          refine aw_iload_n C 1 dX11_findPlans_38 rfl rfl ?_
          refine aw_ishr C dX11_findPlans_39 ?_
          refine aw_iconst C 1 dX11_findPlans_40 (by decide) ?_
          refine aw_iand C dX11_findPlans_41 ?_
          refine aw_iconst C 1 dX11_findPlans_42 (by decide) ?_
          refine aw_icmp_ne C 66 dX11_findPlans_43 (by decide) (fun c10 => ?_) (fun c10 => ?_)
          · rw [if_neg c10] at h
            have e9 := inj1 h
            subst e9
            exact aw_sub [0, 1, 2, 3] rfl kj29
          · rw [if_pos c10] at h
            refine aw_aload_n C 0 dX11_findPlans_46 rfl rfl ?_
            obtain ⟨v11, hv11, h⟩ := bindE h
            refine aw_gR C fl_X11_109 rfl hv11 dX11_findPlans_47 ?_
            refine aw_aload_n C 0 dX11_findPlans_50 rfl rfl ?_
            obtain ⟨v12, hv12, h⟩ := bindE h
            refine aw_gI C fl_X11_322 rfl hv12 dX11_findPlans_51 ?_
            refine aw_iload_n C 3 dX11_findPlans_54 rfl rfl ?_
            obtain ⟨μ13, hμ13, h⟩ := bindE h
            refine aw_sI C hμ13 dX11_findPlans_55 ?_
            refine aw_aload_n C 0 dX11_findPlans_56 rfl rfl ?_
            refine aw_dup C dX11_findPlans_57 rfl ?_
            obtain ⟨v14, hv14, h⟩ := bindE h
            refine aw_gI C fl_X11_322 rfl hv14 dX11_findPlans_58 ?_
            refine aw_iconst C 1 dX11_findPlans_61 (by decide) ?_
            refine aw_iadd C dX11_findPlans_62 ?_
            obtain ⟨μ15, hμ15, h⟩ := bindE h
            refine aw_pI C fl_X11_322 rfl hμ15 dX11_findPlans_63 ?_
            have e9 := inj1 h
            subst e9
            exact aw_sub [0, 1, 2, 3] rfl kj29
set_option maxRecDepth 100000 in
set_option maxHeartbeats 4000000 in
theorem X11_findPlans_L86_ok {G : GL} {X : CX} (C : Ctx G X cX11_findPlans 10 RX11 rm_X11_findPlans) (a0 : Nat) (x1 : Int32) (x2 : Int32) (x3 : Int32) : ∀ (n : Nat) (x4 : Int32) (μ : Mem) (z : Int32 × Mem), X11_findPlans_L86 a0 x1 x2 x3 n x4 μ = some z → AW G 10 X 0 0 114 [(0, .ref (gZ G + a0)), (1, .int x1), (2, .int x2), (3, .int x3), (4, .int z.1)] [] z.2 → AW G 10 X 0 0 86 [(0, .ref (gZ G + a0)), (1, .int x1), (2, .int x2), (3, .int x3), (4, .int x4)] [] μ := by
  intro n
  induction n with
  | zero =>
    intro x4 μ z h kx
    rw [X11_findPlans_L86] at h
    cases h
  | succ n ih =>
    intro x4 μ z h kx
    rw [X11_findPlans_L86] at h
    refine aw_iload C 4 dX11_findPlans_86 rfl ?_
    refine aw_sipush C 4096 dX11_findPlans_88 (by decide) ?_
    refine aw_iload_n C 2 dX11_findPlans_91 rfl rfl ?_
    refine aw_imul C dX11_findPlans_92 ?_
    refine aw_sipush C 4096 dX11_findPlans_93 (by decide) ?_
    refine aw_iadd C dX11_findPlans_96 ?_
    refine aw_icmp_ge C 114 dX11_findPlans_97 (by decide) (fun c1 => ?_) (fun c1 => ?_)
    · rw [if_pos c1] at h
      have e9 := inj1 h
      subst e9
      exact aw_sub [0, 1, 2, 3, 4] rfl kx
    · rw [if_neg c1] at h
      refine aw_aload_n C 0 dX11_findPlans_100 rfl rfl ?_
      obtain ⟨v2, hv2, h⟩ := bindE h
      refine aw_gR C fl_X11_112 rfl hv2 dX11_findPlans_101 ?_
      refine aw_iload C 4 dX11_findPlans_104 rfl ?_
      refine aw_iconst C 0 dX11_findPlans_106 (by decide) ?_
      obtain ⟨μ3, hμ3, h⟩ := bindE h
      refine aw_sI C hμ3 dX11_findPlans_107 ?_
      refine aw_iinc C (x4 + 1) 4 [(4, .int (x4 + 1)), (0, .ref (gZ G + a0)), (1, .int x1), (2, .int x2), (3, .int x3)] dX11_findPlans_108 rfl rfl (by decide) rfl ?_
      refine aw_goto C 86 dX11_findPlans_111 (by decide) ?_
      exact aw_sub [1, 2, 3, 4, 0] rfl (ih _ _ _ h kx)
set_option maxRecDepth 100000 in
set_option maxHeartbeats 4000000 in
theorem X11_findPlans_L127_ok {G : GL} {X : CX} (C : Ctx G X cX11_findPlans 10 RX11 rm_X11_findPlans) (a0 : Nat) (x1 : Int32) (x3 : Int32) (x4 : Int32) : ∀ (n : Nat) (x5 : Int32) (μ : Mem) (z : Int32 × Mem), X11_findPlans_L127 a0 x1 x3 x4 n x5 μ = some z → AW G 10 X 0 0 148 [(0, .ref (gZ G + a0)), (1, .int x1), (3, .int x3), (4, .int x4), (5, .int z.1)] [] z.2 → AW G 10 X 0 0 127 [(0, .ref (gZ G + a0)), (1, .int x1), (3, .int x3), (4, .int x4), (5, .int x5)] [] μ := by
  intro n
  induction n with
  | zero =>
    intro x5 μ z h kx
    rw [X11_findPlans_L127] at h
    cases h
  | succ n ih =>
    intro x5 μ z h kx
    rw [X11_findPlans_L127] at h
    refine aw_iload C 4 dX11_findPlans_127 rfl ?_
    refine aw_iload_n C 2 dX11_findPlans_129 rfl rfl ?_
    refine aw_icmp_ge C 148 dX11_findPlans_130 (by decide) (fun c1 => ?_) (fun c1 => ?_)
    · rw [if_pos c1] at h
      have e9 := inj1 h
      subst e9
      exact aw_sub [0, 1, 2, 3, 4] rfl kx
    · rw [if_neg c1] at h
      refine aw_aload_n C 0 dX11_findPlans_133 rfl rfl ?_
      refine aw_iload_n C 1 dX11_findPlans_134 rfl rfl ?_
      refine aw_iload C 3 dX11_findPlans_135 rfl ?_
      refine aw_iload C 4 dX11_findPlans_137 rfl ?_
      obtain ⟨g2, hg2, h⟩ := bindE h
      obtain ⟨μ3, hμ3, h⟩ := bindE h
      refine aw_cV_V C [.int x1, .int x4, .int x5] _ (mt_X11_findGain hμ3) cs_X11_findGain ml_X11_338 im_X11_findGain se_X11_findGain (ci := 11) rfl rfl hg2 ⟨by decide, by decide⟩ ⟨rfl, rfl⟩ ⟨Nat.zero_le _, Nat.zero_le _⟩ rfl rfl (Nat.le_of_ble_eq_true rfl) dX11_findPlans_139 ?_
      refine aw_iinc C (x5 + 1) 4 [(5, .int (x5 + 1)), (0, .ref (gZ G + a0)), (1, .int x1), (3, .int x3), (4, .int x4)] dX11_findPlans_142 rfl rfl (by decide) rfl ?_
      refine aw_goto C 127 dX11_findPlans_145 (by decide) ?_
      exact aw_sub [1, 2, 3, 4, 0] rfl (ih _ _ _ h kx)
set_option maxRecDepth 100000 in
set_option maxHeartbeats 4000000 in
theorem X11_findPlans_L191_ok {G : GL} {X : CX} (C : Ctx G X cX11_findPlans 10 RX11 rm_X11_findPlans) (a0 : Nat) (x1 : Int32) (x3 : Int32) (x4 : Int32) (x5 : Int32) (x6 : Int32) (μ : Mem) : ∀ (n : Nat) (x7 : Int32) (x8 : Int32) (z : Int32 × Int32), X11_findPlans_L191 a0 x1 x3 x4 x5 x6 μ n x7 x8 = some z → AW G 10 X 0 0 239 [(0, .ref (gZ G + a0)), (1, .int x1), (3, .int x3), (4, .int x4), (5, .int x5), (6, .int x6), (7, .int z.1), (8, .int z.2)] [] μ → AW G 10 X 0 0 191 [(0, .ref (gZ G + a0)), (1, .int x1), (3, .int x3), (4, .int x4), (5, .int x5), (6, .int x6), (7, .int x7), (8, .int x8)] [] μ := by
  intro n
  induction n with
  | zero =>
    intro x7 x8 z h kx
    rw [X11_findPlans_L191] at h
    cases h
  | succ n ih =>
    intro x7 x8 z h kx
    rw [X11_findPlans_L191] at h
    refine aw_iload C 7 dX11_findPlans_191 rfl ?_
    refine aw_if_le C 239 dX11_findPlans_193 (by decide) (fun c1 => ?_) (fun c1 => ?_)
    · rw [if_pos c1] at h
      have e9 := inj1 h
      subst e9
      exact aw_sub [0, 1, 2, 3, 4, 5, 6, 7] rfl kx
    · rw [if_neg c1] at h
      refine aw_aload_n C 0 dX11_findPlans_196 rfl rfl ?_
      refine aw_iload_n C 1 dX11_findPlans_197 rfl rfl ?_
      refine aw_iload C 3 dX11_findPlans_198 rfl ?_
      refine aw_iload C 5 dX11_findPlans_200 rfl ?_
      refine aw_iload C 4 dX11_findPlans_202 rfl ?_
      refine aw_iload C 7 dX11_findPlans_204 rfl ?_
      obtain ⟨g2, hg2, h⟩ := bindE h
      obtain ⟨v3, hv3, h⟩ := bindE h
      refine aw_cV_I C [.int x1, .int x4, .int x6, .int x5, .int x8] _ (mt_X11_by hv3) cs_X11_by ml_X11_341 im_X11_by se_X11_by (ci := 11) rfl rfl hg2 ⟨by decide, by decide⟩ ⟨rfl, rfl⟩ ⟨Nat.zero_le _, Nat.zero_le _⟩ rfl rfl (Nat.le_of_ble_eq_true rfl) dX11_findPlans_206 ?_
      refine aw_istore C [(9, .int v3), (0, .ref (gZ G + a0)), (1, .int x1), (3, .int x3), (4, .int x4), (5, .int x5), (6, .int x6), (7, .int x7), (8, .int x8)] dX11_findPlans_209 (by decide) rfl ?_
      refine aw_iload C 0 dX11_findPlans_211 rfl ?_
      refine aw_iload C 7 dX11_findPlans_213 rfl ?_
      obtain ⟨v5, ev5, h⟩ := bindS h
      have kj215 : AW G 10 X 0 0 225 [(0, .ref (gZ G + a0)), (1, .int x1), (3, .int x3), (4, .int x4), (5, .int x5), (6, .int x6), (8, .int x8)] [.int v5] μ := by
        refine aw_istore C [(7, .int v5), (0, .ref (gZ G + a0)), (1, .int x1), (3, .int x3), (4, .int x4), (5, .int x5), (6, .int x6), (8, .int x8)] dX11_findPlans_225 (by decide) rfl ?_
        refine aw_iload C 7 dX11_findPlans_227 rfl ?_
        refine aw_iconst C 1 dX11_findPlans_229 (by decide) ?_
        refine aw_isub C dX11_findPlans_230 ?_
        refine aw_iload C 6 dX11_findPlans_231 rfl ?_
        refine aw_iand C dX11_findPlans_233 ?_
        obtain ⟨v6, ev6, h⟩ := bindS h
        refine aw_topi ev6 ?_
        refine aw_istore C [(8, .int v6), (7, .int v5), (0, .ref (gZ G + a0)), (1, .int x1), (3, .int x3), (4, .int x4), (5, .int x5), (6, .int x6)] dX11_findPlans_234 (by decide) rfl ?_
        refine aw_goto C 191 dX11_findPlans_236 (by decide) ?_
        exact aw_sub [2, 3, 4, 5, 6, 7, 1, 0] rfl (ih _ _ _ h kx)
      clear h
      refine aw_icmp_le C 223 dX11_findPlans_215 (by decide) (fun c4 => ?_) (fun c4 => ?_)
      · refine aw_iload C 7 dX11_findPlans_223 rfl ?_
        rw [if_pos c4] at ev5
        subst ev5
        exact aw_sub [1, 2, 3, 4, 5, 6, 8] rfl kj215
      · refine aw_iload C 0 dX11_findPlans_218 rfl ?_
        refine aw_goto C 225 dX11_findPlans_220 (by decide) ?_
        rw [if_neg c4] at ev5
        subst ev5
        exact aw_sub [1, 2, 3, 4, 5, 6, 8] rfl kj215
set_option maxRecDepth 100000 in
set_option maxHeartbeats 4000000 in
theorem X11_findPlans_L163_ok {G : GL} {X : CX} (C : Ctx G X cX11_findPlans 10 RX11 rm_X11_findPlans) (a0 : Nat) (x1 : Int32) (x3 : Int32) (x4 : Int32) (x5 : Int32) : ∀ (n : Nat) (x6 : Int32) (μ : Mem) (z : Int32 × Mem), X11_findPlans_L163 a0 x1 x3 x4 x5 n x6 μ = some z → AW G 10 X 0 0 261 [(0, .ref (gZ G + a0)), (1, .int x1), (3, .int x3), (4, .int x4), (5, .int x5), (6, .int z.1)] [] z.2 → AW G 10 X 0 0 163 [(0, .ref (gZ G + a0)), (1, .int x1), (3, .int x3), (4, .int x4), (5, .int x5), (6, .int x6)] [] μ := by
  intro n
  induction n with
  | zero =>
    intro x6 μ z h kx
    rw [X11_findPlans_L163] at h
    cases h
  | succ n ih =>
    intro x6 μ z h kx
    rw [X11_findPlans_L163] at h
    refine aw_iload C 5 dX11_findPlans_163 rfl ?_
    refine aw_iload_n C 2 dX11_findPlans_165 rfl rfl ?_
    refine aw_icmp_ge C 261 dX11_findPlans_166 (by decide) (fun c1 => ?_) (fun c1 => ?_)
    · rw [if_pos c1] at h
      have e9 := inj1 h
      subst e9
      exact aw_sub [0, 1, 2, 3, 4, 5] rfl kx
    · rw [if_neg c1] at h
      refine aw_aload_n C 0 dX11_findPlans_169 rfl rfl ?_
      obtain ⟨v2, hv2, h⟩ := bindE h
      refine aw_gR C fl_X11_112 rfl hv2 dX11_findPlans_170 ?_
      refine aw_iload C 3 dX11_findPlans_173 rfl ?_
      refine aw_iconst C 1 dX11_findPlans_175 (by decide) ?_
      refine aw_iadd C dX11_findPlans_176 ?_
      refine aw_iload C 5 dX11_findPlans_177 rfl ?_
      refine aw_iload C 4 dX11_findPlans_179 rfl ?_
      refine aw_cS_I C [.int (x4 + 1), .int x6, .int x5] _ (mt_X11_place _ _ _) cs_X11_place ml_X11_335 st_X11_place ⟨by decide, by decide⟩ ⟨rfl, rfl⟩ ⟨Nat.zero_le _, Nat.zero_le _⟩ rfl rfl (Nat.le_of_ble_eq_true rfl) dX11_findPlans_181 ?_
      obtain ⟨v3, hv3, h⟩ := bindE h
      refine aw_aI C hv3 dX11_findPlans_184 ?_
      refine aw_istore C [(7, .int v3), (0, .ref (gZ G + a0)), (1, .int x1), (3, .int x3), (4, .int x4), (5, .int x5), (6, .int x6)] dX11_findPlans_185 (by decide) rfl ?_
      refine aw_iload C 6 dX11_findPlans_187 rfl ?_
      refine aw_istore C [(8, .int x6), (7, .int v3), (0, .ref (gZ G + a0)), (1, .int x1), (3, .int x3), (4, .int x4), (5, .int x5), (6, .int x6)] dX11_findPlans_189 (by decide) rfl ?_
      obtain ⟨z4, hz4, h⟩ := bindE h
      refine aw_sub [2, 3, 4, 5, 6, 7, 1, 0] rfl ?_
      refine X11_findPlans_L191_ok C _ _ _ _ _ _ _ _ _ _ _ hz4 ?_
      refine aw_aload_n C 0 dX11_findPlans_239 rfl rfl ?_
      obtain ⟨v5, hv5, h⟩ := bindE h
      refine aw_gR C fl_X11_112 rfl hv5 dX11_findPlans_240 ?_
      refine aw_iload C 3 dX11_findPlans_243 rfl ?_
      refine aw_iload C 5 dX11_findPlans_245 rfl ?_
      refine aw_iload C 4 dX11_findPlans_247 rfl ?_
      refine aw_cS_I C [.int x4, .int x6, .int x5] _ (mt_X11_place _ _ _) cs_X11_place ml_X11_335 st_X11_place ⟨by decide, by decide⟩ ⟨rfl, rfl⟩ ⟨Nat.zero_le _, Nat.zero_le _⟩ rfl rfl (Nat.le_of_ble_eq_true rfl) dX11_findPlans_249 ?_
      refine aw_iload C 6 dX11_findPlans_252 rfl ?_
      obtain ⟨μ6, hμ6, h⟩ := bindE h
      refine aw_sI C hμ6 dX11_findPlans_254 ?_
      refine aw_iinc C (x6 + 1) 5 [(6, .int (x6 + 1)), (0, .ref (gZ G + a0)), (1, .int x1), (3, .int x3), (4, .int x4), (5, .int x5), (7, .int z4.1), (8, .int z4.2)] dX11_findPlans_255 rfl rfl (by decide) rfl ?_
      refine aw_goto C 163 dX11_findPlans_258 (by decide) ?_
      exact aw_sub [1, 2, 3, 4, 5, 0] rfl (ih _ _ _ h kx)
set_option maxRecDepth 100000 in
set_option maxHeartbeats 4000000 in
theorem X11_findPlans_L151_ok {G : GL} {X : CX} (C : Ctx G X cX11_findPlans 10 RX11 rm_X11_findPlans) (a0 : Nat) (x1 : Int32) (x3 : Int32) (x4 : Int32) : ∀ (n : Nat) (x5 : Int32) (μ : Mem) (z : Int32 × Mem), X11_findPlans_L151 a0 x1 x3 x4 n x5 μ = some z → AW G 10 X 0 0 267 [(0, .ref (gZ G + a0)), (1, .int x1), (3, .int x3), (4, .int x4), (5, .int z.1)] [] z.2 → AW G 10 X 0 0 151 [(0, .ref (gZ G + a0)), (1, .int x1), (3, .int x3), (4, .int x4), (5, .int x5)] [] μ := by
  intro n
  induction n with
  | zero =>
    intro x5 μ z h kx
    rw [X11_findPlans_L151] at h
    cases h
  | succ n ih =>
    intro x5 μ z h kx
    rw [X11_findPlans_L151] at h
    refine aw_iload C 4 dX11_findPlans_151 rfl ?_
    refine aw_iconst C 1 dX11_findPlans_153 (by decide) ?_
    refine aw_iload C 3 dX11_findPlans_154 rfl ?_
    refine aw_ishl C dX11_findPlans_156 ?_
    refine aw_icmp_ge C 267 dX11_findPlans_157 (by decide) (fun c1 => ?_) (fun c1 => ?_)
    · rw [if_pos c1] at h
      have e9 := inj1 h
      subst e9
      exact aw_sub [0, 1, 2, 3, 4] rfl kx
    · rw [if_neg c1] at h
      refine aw_iconst C 0 dX11_findPlans_160 (by decide) ?_
      refine aw_istore C [(6, .int 0), (0, .ref (gZ G + a0)), (1, .int x1), (3, .int x3), (4, .int x4), (5, .int x5)] dX11_findPlans_161 (by decide) rfl ?_
      obtain ⟨z2, hz2, h⟩ := bindE h
      refine aw_sub [1, 2, 3, 4, 5, 0] rfl ?_
      refine X11_findPlans_L163_ok C _ _ _ _ _ _ _ _ _ hz2 ?_
      refine aw_iinc C (x5 + 1) 4 [(5, .int (x5 + 1)), (0, .ref (gZ G + a0)), (1, .int x1), (3, .int x3), (4, .int x4), (6, .int z2.1)] dX11_findPlans_261 rfl rfl (by decide) rfl ?_
      refine aw_goto C 151 dX11_findPlans_264 (by decide) ?_
      exact aw_sub [1, 2, 3, 4, 0] rfl (ih _ _ _ h kx)
set_option maxRecDepth 100000 in
set_option maxHeartbeats 4000000 in
theorem X11_findPlans_L119_ok {G : GL} {X : CX} (C : Ctx G X cX11_findPlans 10 RX11 rm_X11_findPlans) (a0 : Nat) (x1 : Int32) (x3 : Int32) : ∀ (n : Nat) (x4 : Int32) (μ : Mem) (z : Int32 × Mem), X11_findPlans_L119 a0 x1 x3 n x4 μ = some z → AW G 10 X 0 0 273 [(0, .ref (gZ G + a0)), (1, .int x1), (3, .int x3), (4, .int z.1)] [] z.2 → AW G 10 X 0 0 119 [(0, .ref (gZ G + a0)), (1, .int x1), (3, .int x3), (4, .int x4)] [] μ := by
  intro n
  induction n with
  | zero =>
    intro x4 μ z h kx
    rw [X11_findPlans_L119] at h
    cases h
  | succ n ih =>
    intro x4 μ z h kx
    rw [X11_findPlans_L119] at h
    refine aw_iload C 3 dX11_findPlans_119 rfl ?_
    refine aw_if_lt C 273 dX11_findPlans_121 (by decide) (fun c1 => ?_) (fun c1 => ?_)
    · rw [if_pos c1] at h
      have e9 := inj1 h
      subst e9
      exact aw_sub [0, 1, 2, 3] rfl kx
    · rw [if_neg c1] at h
      refine aw_iconst C 1 dX11_findPlans_124 (by decide) ?_
      refine aw_istore C [(5, .int 1), (0, .ref (gZ G + a0)), (1, .int x1), (3, .int x3), (4, .int x4)] dX11_findPlans_125 (by decide) rfl ?_
      obtain ⟨z2, hz2, h⟩ := bindE h
      refine aw_sub [1, 2, 3, 4, 0] rfl ?_
      refine X11_findPlans_L127_ok C _ _ _ _ _ _ _ _ hz2 ?_
      refine aw_iconst C 0 dX11_findPlans_148 (by decide) ?_
      refine aw_istore C [(5, .int 0), (0, .ref (gZ G + a0)), (1, .int x1), (3, .int x3), (4, .int x4)] dX11_findPlans_149 (by decide) rfl ?_
      obtain ⟨z3, hz3, h⟩ := bindE h
      refine aw_sub [1, 2, 3, 4, 0] rfl ?_
      refine X11_findPlans_L151_ok C _ _ _ _ _ _ _ _ hz3 ?_
      refine aw_iinc C (x4 + (-1)) 3 [(4, .int (x4 + (-1))), (0, .ref (gZ G + a0)), (1, .int x1), (3, .int x3), (5, .int z3.1)] dX11_findPlans_267 rfl rfl (by decide) rfl ?_
      refine aw_goto C 119 dX11_findPlans_270 (by decide) ?_
      exact aw_sub [1, 2, 3, 0] rfl (ih _ _ _ h kx)
set_option maxRecDepth 100000 in
set_option maxHeartbeats 4000000 in
theorem wk_X11_findPlans {G : GL} {X : CX} {a0 : Nat} {x1 : Int32} {x2 : Int32} {μ : Mem} {μ' : Mem} (C : Ctx G X cX11_findPlans 10 RX11 rm_X11_findPlans) (h : X11_findPlans a0 x1 x2 μ = some μ') (hret : RtV G 10 X cX11_findPlans 0 0 μ') : AW G 10 X 0 0 0 [(0, .ref (gZ G + a0)), (1, .int x1), (2, .int x2)] [] μ := by
  unfold X11_findPlans at h
  refine aw_aload_n C 0 dX11_findPlans_0 rfl rfl ?_
  refine aw_iconst C 0 dX11_findPlans_1 (by decide) ?_
  obtain ⟨μ1, hμ1, h⟩ := bindE h
  refine aw_pI C fl_X11_322 rfl hμ1 dX11_findPlans_2 ?_
  refine aw_iconst C 0 dX11_findPlans_5 (by decide) ?_
  refine aw_istore_n C [(3, .int 0), (0, .ref (gZ G + a0)), (1, .int x1), (2, .int x2)] dX11_findPlans_6 rfl (by decide) rfl ?_
  obtain ⟨z2, hz2, h⟩ := bindE h
  refine aw_sub [1, 2, 3, 0] rfl ?_
  refine X11_findPlans_L7_ok C _ _ _ _ _ _ _ hz2 ?_
  refine aw_iconst C 1 dX11_findPlans_72 (by decide) ?_
  refine aw_aload_n C 0 dX11_findPlans_73 rfl rfl ?_
  obtain ⟨v3, hv3, h⟩ := bindE h
  refine aw_gI C fl_X11_322 rfl hv3 dX11_findPlans_74 ?_
  refine aw_ishl C dX11_findPlans_77 ?_
  obtain ⟨v4, ev4, h⟩ := bindS h
  refine aw_topi ev4 ?_
  refine aw_istore_n C [(3, .int v4), (0, .ref (gZ G + a0)), (1, .int x1), (2, .int x2)] dX11_findPlans_78 rfl (by decide) rfl ?_
  refine aw_sipush C 4096 dX11_findPlans_79 (by decide) ?_
  refine aw_iload_n C 3 dX11_findPlans_82 rfl rfl ?_
  refine aw_imul C dX11_findPlans_83 ?_
  obtain ⟨v5, ev5, h⟩ := bindS h
  refine aw_topi ev5 ?_
  refine aw_istore C [(4, .int v5), (3, .int v4), (0, .ref (gZ G + a0)), (1, .int x1), (2, .int x2)] dX11_findPlans_84 (by decide) rfl ?_
  obtain ⟨z6, hz6, h⟩ := bindE h
  refine aw_sub [2, 3, 4, 1, 0] rfl ?_
  refine X11_findPlans_L86_ok C _ _ _ _ _ _ _ _ hz6 ?_
  refine aw_iload_n C 2 dX11_findPlans_114 rfl rfl ?_
  refine aw_iconst C 1 dX11_findPlans_115 (by decide) ?_
  refine aw_isub C dX11_findPlans_116 ?_
  obtain ⟨v7, ev7, h⟩ := bindS h
  refine aw_topi ev7 ?_
  refine aw_istore C [(4, .int v7), (0, .ref (gZ G + a0)), (1, .int x1), (2, .int x2), (3, .int v4)] dX11_findPlans_117 (by decide) rfl ?_
  obtain ⟨z8, hz8, h⟩ := bindE h
  refine aw_sub [1, 2, 4, 0] rfl ?_
  refine X11_findPlans_L119_ok C _ _ _ _ _ _ _ hz8 ?_
  have e9 := inj1 h
  subst e9
  exact hret _ _ dX11_findPlans_273
set_option maxRecDepth 100000 in
set_option maxHeartbeats 4000000 in
theorem mt_X11_findPlans {G : GL} {l : Launch} {a0 : Nat} {x1 : Int32} {x2 : Int32} {μ : Mem} {μ' : Mem} (h : X11_findPlans a0 x1 x2 μ = some μ') : MtV G l yX11_findPlans cX11_findPlans 10 none rm_X11_findPlans false [.ref (gZ G + a0), .int x1, .int x2] μ μ' := met_V (by decide) rfl (Nat.le_of_ble_eq_true rfl) (fun X _ C _ _ hret => wk_X11_findPlans C h hret)
