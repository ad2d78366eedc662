set_option maxRecDepth 100000 in
set_option maxHeartbeats 4000000 in
theorem X11_init_L327_ok {G : GL} {X : CX} {cells slots : Nat} (C : Ctx G X cX11_init 2 RX11 rm_X11_init) (a0 : Nat) : ∀ (n : Nat) (x1 : Int32) (μ : Mem) (z : Int32 × Mem), X11_init_L327 a0 n x1 μ = some z → AW G 2 X cells slots 361 [(0, .ref (gZ G + a0)), (1, .int z.1)] [] z.2 → AW G 2 X cells slots 327 [(0, .ref (gZ G + a0)), (1, .int x1)] [] μ := by
  intro n
  induction n with
  | zero =>
    intro x1 μ z h kx
    rw [X11_init_L327] at h
    cases h
  | succ n ih =>
    intro x1 μ z h kx
    rw [X11_init_L327] at h
    refine aw_iload_n C 1 dX11_init_327 rfl rfl ?_
    refine aw_bipush C 16 dX11_init_328 (by decide) ?_
    refine aw_icmp_ge C 361 dX11_init_330 (by decide) (fun c1 => ?_) (fun c1 => ?_)
    · rw [if_pos c1] at h
      have e9 := inj1 h
      subst e9
      exact aw_sub [0, 1] rfl kx
    · rw [if_neg c1] at h
      refine aw_aload_n C 0 dX11_init_333 rfl rfl ?_
      obtain ⟨v2, hv2, h⟩ := bindE h
      refine aw_gR C fl_X11_7 rfl hv2 dX11_init_334 ?_
      refine aw_iload_n C 1 dX11_init_337 rfl rfl ?_
      refine aw_iconst C 1 dX11_init_338 (by decide) ?_
      obtain ⟨μ3, hμ3, h⟩ := bindE h
      refine aw_sI C hμ3 dX11_init_339 ?_
      refine aw_aload_n C 0 dX11_init_340 rfl rfl ?_
      obtain ⟨v4, hv4, h⟩ := bindE h
      refine aw_gR C fl_X11_13 rfl hv4 dX11_init_341 ?_
      refine aw_iload_n C 1 dX11_init_344 rfl rfl ?_
      refine aw_iconst C 1 dX11_init_345 (by decide) ?_
      obtain ⟨μ5, hμ5, h⟩ := bindE h
      refine aw_sI C hμ5 dX11_init_346 ?_
      refine aw_aload_n C 0 dX11_init_347 rfl rfl ?_
      obtain ⟨v6, hv6, h⟩ := bindE h
      refine aw_gR C fl_X11_69 rfl hv6 dX11_init_348 ?_
      refine aw_iload_n C 1 dX11_init_351 rfl rfl ?_
      refine aw_bipush C 10 dX11_init_352 (by decide) ?_
      obtain ⟨μ7, hμ7, h⟩ := bindE h
      refine aw_sI C hμ7 dX11_init_354 ?_
      refine aw_iinc C (x1 + 1) 1 [(1, .int (x1 + 1)), (0, .ref (gZ G + a0))] dX11_init_355 rfl rfl (by decide) rfl ?_
      refine aw_goto C 327 dX11_init_358 (by decide) ?_
      exact aw_sub [1, 0] rfl (ih _ _ _ h kx)
set_option maxRecDepth 100000 in
set_option maxHeartbeats 4000000 in
theorem X11_init_L363_ok {G : GL} {X : CX} {cells slots : Nat} (C : Ctx G X cX11_init 2 RX11 rm_X11_init) (a0 : Nat) : ∀ (n : Nat) (x1 : Int32) (μ : Mem) (z : Int32 × Mem), X11_init_L363 a0 n x1 μ = some z → AW G 2 X cells slots 389 [(0, .ref (gZ G + a0)), (1, .int z.1)] [] z.2 → AW G 2 X cells slots 363 [(0, .ref (gZ G + a0)), (1, .int x1)] [] μ := by
  intro n
  induction n with
  | zero =>
    intro x1 μ z h kx
    rw [X11_init_L363] at h
    cases h
  | succ n ih =>
    intro x1 μ z h kx
    rw [X11_init_L363] at h
    refine aw_iload_n C 1 dX11_init_363 rfl rfl ?_
    refine aw_iconst C 4 dX11_init_364 (by decide) ?_
    refine aw_icmp_ge C 389 dX11_init_365 (by decide) (fun c1 => ?_) (fun c1 => ?_)
    · rw [if_pos c1] at h
      have e9 := inj1 h
      subst e9
      exact aw_sub [0, 1] rfl kx
    · rw [if_neg c1] at h
      refine aw_aload_n C 0 dX11_init_368 rfl rfl ?_
      obtain ⟨v2, hv2, h⟩ := bindE h
      refine aw_gR C fl_X11_16 rfl hv2 dX11_init_369 ?_
      refine aw_iload_n C 1 dX11_init_372 rfl rfl ?_
      refine aw_iconst C 1 dX11_init_373 (by decide) ?_
      obtain ⟨μ3, hμ3, h⟩ := bindE h
      refine aw_sI C hμ3 dX11_init_374 ?_
      refine aw_aload_n C 0 dX11_init_375 rfl rfl ?_
      obtain ⟨v4, hv4, h⟩ := bindE h
      refine aw_gR C fl_X11_72 rfl hv4 dX11_init_376 ?_
      refine aw_iload_n C 1 dX11_init_379 rfl rfl ?_
      refine aw_bipush C 50 dX11_init_380 (by decide) ?_
      obtain ⟨μ5, hμ5, h⟩ := bindE h
      refine aw_sI C hμ5 dX11_init_382 ?_
      refine aw_iinc C (x1 + 1) 1 [(1, .int (x1 + 1)), (0, .ref (gZ G + a0))] dX11_init_383 rfl rfl (by decide) rfl ?_
      refine aw_goto C 363 dX11_init_386 (by decide) ?_
      exact aw_sub [1, 0] rfl (ih _ _ _ h kx)
set_option maxRecDepth 100000 in
set_option maxHeartbeats 4000000 in
theorem X11_init_L391_ok {G : GL} {X : CX} {cells slots : Nat} (C : Ctx G X cX11_init 2 RX11 rm_X11_init) (a0 : Nat) : ∀ (n : Nat) (x1 : Int32) (μ : Mem) (z : Int32 × Mem), X11_init_L391 a0 n x1 μ = some z → AW G 2 X cells slots 411 [(0, .ref (gZ G + a0)), (1, .int z.1)] [] z.2 → AW G 2 X cells slots 391 [(0, .ref (gZ G + a0)), (1, .int x1)] [] μ := by
  intro n
  induction n with
  | zero =>
    intro x1 μ z h kx
    rw [X11_init_L391] at h
    cases h
  | succ n ih =>
    intro x1 μ z h kx
    rw [X11_init_L391] at h
    refine aw_iload_n C 1 dX11_init_391 rfl rfl ?_
    refine aw_sipush C 244 dX11_init_392 (by decide) ?_
    refine aw_icmp_ge C 411 dX11_init_395 (by decide) (fun c1 => ?_) (fun c1 => ?_)
    · rw [if_pos c1] at h
      have e9 := inj1 h
      subst e9
      exact aw_sub [0, 1] rfl kx
    · rw [if_neg c1] at h
      refine aw_aload_n C 0 dX11_init_398 rfl rfl ?_
      obtain ⟨v2, hv2, h⟩ := bindE h
      refine aw_gR C fl_X11_19 rfl hv2 dX11_init_399 ?_
      refine aw_iload_n C 1 dX11_init_402 rfl rfl ?_
      refine aw_iconst C ((-1)) dX11_init_403 (by decide) ?_
      obtain ⟨μ3, hμ3, h⟩ := bindE h
      refine aw_sI C hμ3 dX11_init_404 ?_
      refine aw_iinc C (x1 + 1) 1 [(1, .int (x1 + 1)), (0, .ref (gZ G + a0))] dX11_init_405 rfl rfl (by decide) rfl ?_
      refine aw_goto C 391 dX11_init_408 (by decide) ?_
      exact aw_sub [1, 0] rfl (ih _ _ _ h kx)
set_option maxRecDepth 100000 in
set_option maxHeartbeats 4000000 in
theorem wk_X11_init {G : GL} {X : CX} {a0 : Nat} {μ : Mem} {μ' : Mem} (C : Ctx G X cX11_init 2 RX11 rm_X11_init) (hi : (xT X).name = "<init>") (hb : (xS X).heap.size = gZ G + mN μ) (h : X11_init a0 μ = some μ') (hret : RtV G 2 X cX11_init 40 30388 μ') : AW G 2 X 0 0 0 [(0, .ref (gZ G + a0))] [] μ := by
  unfold X11_init at h
  refine aw_aload_n C 0 dX11_init_0 rfl rfl ?_
  refine aw_oinit C mo_X11_1 ob_im ob_co (by decide) (by decide) (Nat.le_of_ble_eq_true rfl) dX11_init_1 ?_
  refine aw_aload_n C 0 dX11_init_4 rfl rfl ?_
  refine aw_bipush C 16 dX11_init_5 (by decide) ?_
  obtain ⟨μ1, hμ1, h⟩ := bindE h
  refine aw_newaI C (N' := 16) 1 16 ac_int hb hμ1 (by decide) (by decide) (by decide) (by decide) rfl rfl dX11_init_7 ?_
  obtain ⟨μ2, hμ2, h⟩ := bindE h
  refine aw_pRF C fl_X11_7 hi rfl rfl rfl rfl hμ2 dX11_init_9 ?_
  refine aw_aload_n C 0 dX11_init_12 rfl rfl ?_
  refine aw_bipush C 16 dX11_init_13 (by decide) ?_
  obtain ⟨μ3, hμ3, h⟩ := bindE h
  refine aw_newaI C (N' := 16) 2 32 ac_int hb hμ3 (by decide) (by decide) (by decide) (by decide) rfl rfl dX11_init_15 ?_
  obtain ⟨μ4, hμ4, h⟩ := bindE h
  refine aw_pRF C fl_X11_13 hi rfl rfl rfl rfl hμ4 dX11_init_17 ?_
  refine aw_aload_n C 0 dX11_init_20 rfl rfl ?_
  refine aw_iconst C 4 dX11_init_21 (by decide) ?_
  obtain ⟨μ5, hμ5, h⟩ := bindE h
  refine aw_newaI C (N' := 4) 3 36 ac_int hb hμ5 (by decide) (by decide) (by decide) (by decide) rfl rfl dX11_init_22 ?_
  obtain ⟨μ6, hμ6, h⟩ := bindE h
  refine aw_pRF C fl_X11_16 hi rfl rfl rfl rfl hμ6 dX11_init_24 ?_
  refine aw_aload_n C 0 dX11_init_27 rfl rfl ?_
  refine aw_sipush C 244 dX11_init_28 (by decide) ?_
  obtain ⟨μ7, hμ7, h⟩ := bindE h
  refine aw_newaI C (N' := 244) 4 280 ac_int hb hμ7 (by decide) (by decide) (by decide) (by decide) rfl rfl dX11_init_31 ?_
  obtain ⟨μ8, hμ8, h⟩ := bindE h
  refine aw_pRF C fl_X11_19 hi rfl rfl rfl rfl hμ8 dX11_init_33 ?_
  refine aw_aload_n C 0 dX11_init_36 rfl rfl ?_
  refine aw_iconst C 4 dX11_init_37 (by decide) ?_
  obtain ⟨μ9, hμ9, h⟩ := bindE h
  refine aw_newaJ C (N' := 4) 5 284 ac_long hb hμ9 (by decide) (by decide) (by decide) (by decide) rfl rfl dX11_init_38 ?_
  obtain ⟨μ10, hμ10, h⟩ := bindE h
  refine aw_pRF C fl_X11_22 hi rfl rfl rfl rfl hμ10 dX11_init_40 ?_
  refine aw_aload_n C 0 dX11_init_43 rfl rfl ?_
  refine aw_iconst C 4 dX11_init_44 (by decide) ?_
  obtain ⟨μ11, hμ11, h⟩ := bindE h
  refine aw_newaJ C (N' := 4) 6 288 ac_long hb hμ11 (by decide) (by decide) (by decide) (by decide) rfl rfl dX11_init_45 ?_
  obtain ⟨μ12, hμ12, h⟩ := bindE h
  refine aw_pRF C fl_X11_26 hi rfl rfl rfl rfl hμ12 dX11_init_47 ?_
  refine aw_aload_n C 0 dX11_init_50 rfl rfl ?_
  refine aw_iconst C 4 dX11_init_51 (by decide) ?_
  obtain ⟨μ13, hμ13, h⟩ := bindE h
  refine aw_newaI C (N' := 4) 7 292 ac_int hb hμ13 (by decide) (by decide) (by decide) (by decide) rfl rfl dX11_init_52 ?_
  obtain ⟨μ14, hμ14, h⟩ := bindE h
  refine aw_pRF C fl_X11_29 hi rfl rfl rfl rfl hμ14 dX11_init_54 ?_
  refine aw_aload_n C 0 dX11_init_57 rfl rfl ?_
  refine aw_iconst C 4 dX11_init_58 (by decide) ?_
  obtain ⟨μ15, hμ15, h⟩ := bindE h
  refine aw_newaI C (N' := 4) 8 296 ac_int hb hμ15 (by decide) (by decide) (by decide) (by decide) rfl rfl dX11_init_59 ?_
  obtain ⟨μ16, hμ16, h⟩ := bindE h
  refine aw_pRF C fl_X11_32 hi rfl rfl rfl rfl hμ16 dX11_init_61 ?_
  refine aw_aload_n C 0 dX11_init_64 rfl rfl ?_
  refine aw_iconst C 4 dX11_init_65 (by decide) ?_
  obtain ⟨μ17, hμ17, h⟩ := bindE h
  refine aw_newaI C (N' := 4) 9 300 ac_int hb hμ17 (by decide) (by decide) (by decide) (by decide) rfl rfl dX11_init_66 ?_
  obtain ⟨μ18, hμ18, h⟩ := bindE h
  refine aw_pRF C fl_X11_35 hi rfl rfl rfl rfl hμ18 dX11_init_68 ?_
  refine aw_aload_n C 0 dX11_init_71 rfl rfl ?_
  refine aw_iconst C 4 dX11_init_72 (by decide) ?_
  obtain ⟨μ19, hμ19, h⟩ := bindE h
  refine aw_newaI C (N' := 4) 10 304 ac_int hb hμ19 (by decide) (by decide) (by decide) (by decide) rfl rfl dX11_init_73 ?_
  obtain ⟨μ20, hμ20, h⟩ := bindE h
  refine aw_pRF C fl_X11_38 hi rfl rfl rfl rfl hμ20 dX11_init_75 ?_
  refine aw_aload_n C 0 dX11_init_78 rfl rfl ?_
  refine aw_bipush C 10 dX11_init_79 (by decide) ?_
  obtain ⟨μ21, hμ21, h⟩ := bindE h
  refine aw_newaI C (N' := 10) 11 314 ac_int hb hμ21 (by decide) (by decide) (by decide) (by decide) rfl rfl dX11_init_81 ?_
  obtain ⟨μ22, hμ22, h⟩ := bindE h
  refine aw_pRF C fl_X11_41 hi rfl rfl rfl rfl hμ22 dX11_init_83 ?_
  refine aw_aload_n C 0 dX11_init_86 rfl rfl ?_
  refine aw_bipush C 10 dX11_init_87 (by decide) ?_
  obtain ⟨μ23, hμ23, h⟩ := bindE h
  refine aw_newaI C (N' := 10) 12 324 ac_int hb hμ23 (by decide) (by decide) (by decide) (by decide) rfl rfl dX11_init_89 ?_
  obtain ⟨μ24, hμ24, h⟩ := bindE h
  refine aw_pRF C fl_X11_44 hi rfl rfl rfl rfl hμ24 dX11_init_91 ?_
  refine aw_aload_n C 0 dX11_init_94 rfl rfl ?_
  refine aw_bipush C 10 dX11_init_95 (by decide) ?_
  obtain ⟨μ25, hμ25, h⟩ := bindE h
  refine aw_newaI C (N' := 10) 13 334 ac_int hb hμ25 (by decide) (by decide) (by decide) (by decide) rfl rfl dX11_init_97 ?_
  obtain ⟨μ26, hμ26, h⟩ := bindE h
  refine aw_pRF C fl_X11_47 hi rfl rfl rfl rfl hμ26 dX11_init_99 ?_
  refine aw_aload_n C 0 dX11_init_102 rfl rfl ?_
  refine aw_bipush C 10 dX11_init_103 (by decide) ?_
  obtain ⟨μ27, hμ27, h⟩ := bindE h
  refine aw_newaI C (N' := 10) 14 344 ac_int hb hμ27 (by decide) (by decide) (by decide) (by decide) rfl rfl dX11_init_105 ?_
  obtain ⟨μ28, hμ28, h⟩ := bindE h
  refine aw_pRF C fl_X11_50 hi rfl rfl rfl rfl hμ28 dX11_init_107 ?_
  refine aw_aload_n C 0 dX11_init_110 rfl rfl ?_
  refine aw_bipush C 10 dX11_init_111 (by decide) ?_
  obtain ⟨μ29, hμ29, h⟩ := bindE h
  refine aw_newaI C (N' := 10) 15 354 ac_int hb hμ29 (by decide) (by decide) (by decide) (by decide) rfl rfl dX11_init_113 ?_
  obtain ⟨μ30, hμ30, h⟩ := bindE h
  refine aw_pRF C fl_X11_53 hi rfl rfl rfl rfl hμ30 dX11_init_115 ?_
  refine aw_aload_n C 0 dX11_init_118 rfl rfl ?_
  refine aw_bipush C 10 dX11_init_119 (by decide) ?_
  obtain ⟨μ31, hμ31, h⟩ := bindE h
  refine aw_newaI C (N' := 10) 16 364 ac_int hb hμ31 (by decide) (by decide) (by decide) (by decide) rfl rfl dX11_init_121 ?_
  obtain ⟨μ32, hμ32, h⟩ := bindE h
  refine aw_pRF C fl_X11_56 hi rfl rfl rfl rfl hμ32 dX11_init_123 ?_
  refine aw_aload_n C 0 dX11_init_126 rfl rfl ?_
  refine aw_bipush C 10 dX11_init_127 (by decide) ?_
  obtain ⟨μ33, hμ33, h⟩ := bindE h
  refine aw_newaI C (N' := 10) 17 374 ac_int hb hμ33 (by decide) (by decide) (by decide) (by decide) rfl rfl dX11_init_129 ?_
  obtain ⟨μ34, hμ34, h⟩ := bindE h
  refine aw_pRF C fl_X11_59 hi rfl rfl rfl rfl hμ34 dX11_init_131 ?_
  refine aw_aload_n C 0 dX11_init_134 rfl rfl ?_
  refine aw_bipush C 10 dX11_init_135 (by decide) ?_
  obtain ⟨μ35, hμ35, h⟩ := bindE h
  refine aw_newaI C (N' := 10) 18 384 ac_int hb hμ35 (by decide) (by decide) (by decide) (by decide) rfl rfl dX11_init_137 ?_
  obtain ⟨μ36, hμ36, h⟩ := bindE h
  refine aw_pRF C fl_X11_62 hi rfl rfl rfl rfl hμ36 dX11_init_139 ?_
  refine aw_aload_n C 0 dX11_init_142 rfl rfl ?_
  refine aw_bipush C 10 dX11_init_143 (by decide) ?_
  obtain ⟨μ37, hμ37, h⟩ := bindE h
  refine aw_newaZ C (N' := 10) 19 394 ac_boolean hb hμ37 (by decide) (by decide) (by decide) (by decide) rfl rfl dX11_init_145 ?_
  obtain ⟨μ38, hμ38, h⟩ := bindE h
  refine aw_pRF C fl_X11_65 hi rfl rfl rfl rfl hμ38 dX11_init_147 ?_
  refine aw_aload_n C 0 dX11_init_150 rfl rfl ?_
  refine aw_bipush C 16 dX11_init_151 (by decide) ?_
  obtain ⟨μ39, hμ39, h⟩ := bindE h
  refine aw_newaI C (N' := 16) 20 410 ac_int hb hμ39 (by decide) (by decide) (by decide) (by decide) rfl rfl dX11_init_153 ?_
  obtain ⟨μ40, hμ40, h⟩ := bindE h
  refine aw_pRF C fl_X11_69 hi rfl rfl rfl rfl hμ40 dX11_init_155 ?_
  refine aw_aload_n C 0 dX11_init_158 rfl rfl ?_
  refine aw_iconst C 4 dX11_init_159 (by decide) ?_
  obtain ⟨μ41, hμ41, h⟩ := bindE h
  refine aw_newaI C (N' := 4) 21 414 ac_int hb hμ41 (by decide) (by decide) (by decide) (by decide) rfl rfl dX11_init_160 ?_
  obtain ⟨μ42, hμ42, h⟩ := bindE h
  refine aw_pRF C fl_X11_72 hi rfl rfl rfl rfl hμ42 dX11_init_162 ?_
  refine aw_aload_n C 0 dX11_init_165 rfl rfl ?_
  refine aw_iconst C 4 dX11_init_166 (by decide) ?_
  obtain ⟨μ43, hμ43, h⟩ := bindE h
  refine aw_newaI C (N' := 4) 22 418 ac_int hb hμ43 (by decide) (by decide) (by decide) (by decide) rfl rfl dX11_init_167 ?_
  obtain ⟨μ44, hμ44, h⟩ := bindE h
  refine aw_pRF C fl_X11_75 hi rfl rfl rfl rfl hμ44 dX11_init_169 ?_
  refine aw_aload_n C 0 dX11_init_172 rfl rfl ?_
  refine aw_bipush C 32 dX11_init_173 (by decide) ?_
  obtain ⟨μ45, hμ45, h⟩ := bindE h
  refine aw_newaI C (N' := 32) 23 450 ac_int hb hμ45 (by decide) (by decide) (by decide) (by decide) rfl rfl dX11_init_175 ?_
  obtain ⟨μ46, hμ46, h⟩ := bindE h
  refine aw_pRF C fl_X11_78 hi rfl rfl rfl rfl hμ46 dX11_init_177 ?_
  refine aw_aload_n C 0 dX11_init_180 rfl rfl ?_
  refine aw_bipush C 32 dX11_init_181 (by decide) ?_
  obtain ⟨μ47, hμ47, h⟩ := bindE h
  refine aw_newaI C (N' := 32) 24 482 ac_int hb hμ47 (by decide) (by decide) (by decide) (by decide) rfl rfl dX11_init_183 ?_
  obtain ⟨μ48, hμ48, h⟩ := bindE h
  refine aw_pRF C fl_X11_81 hi rfl rfl rfl rfl hμ48 dX11_init_185 ?_
  refine aw_aload_n C 0 dX11_init_188 rfl rfl ?_
  refine aw_bipush C 32 dX11_init_189 (by decide) ?_
  obtain ⟨μ49, hμ49, h⟩ := bindE h
  refine aw_newaI C (N' := 32) 25 514 ac_int hb hμ49 (by decide) (by decide) (by decide) (by decide) rfl rfl dX11_init_191 ?_
  obtain ⟨μ50, hμ50, h⟩ := bindE h
  refine aw_pRF C fl_X11_84 hi rfl rfl rfl rfl hμ50 dX11_init_193 ?_
  refine aw_aload_n C 0 dX11_init_196 rfl rfl ?_
  refine aw_bipush C 32 dX11_init_197 (by decide) ?_
  obtain ⟨μ51, hμ51, h⟩ := bindE h
  refine aw_newaI C (N' := 32) 26 546 ac_int hb hμ51 (by decide) (by decide) (by decide) (by decide) rfl rfl dX11_init_199 ?_
  obtain ⟨μ52, hμ52, h⟩ := bindE h
  refine aw_pRF C fl_X11_87 hi rfl rfl rfl rfl hμ52 dX11_init_201 ?_
  refine aw_aload_n C 0 dX11_init_204 rfl rfl ?_
  refine aw_bipush C 9 dX11_init_205 (by decide) ?_
  obtain ⟨μ53, hμ53, h⟩ := bindE h
  refine aw_newaI C (N' := 9) 27 555 ac_int hb hμ53 (by decide) (by decide) (by decide) (by decide) rfl rfl dX11_init_207 ?_
  obtain ⟨μ54, hμ54, h⟩ := bindE h
  refine aw_pRF C fl_X11_90 hi rfl rfl rfl rfl hμ54 dX11_init_209 ?_
  refine aw_aload_n C 0 dX11_init_212 rfl rfl ?_
  refine aw_bipush C 9 dX11_init_213 (by decide) ?_
  obtain ⟨μ55, hμ55, h⟩ := bindE h
  refine aw_newaI C (N' := 9) 28 564 ac_int hb hμ55 (by decide) (by decide) (by decide) (by decide) rfl rfl dX11_init_215 ?_
  obtain ⟨μ56, hμ56, h⟩ := bindE h
  refine aw_pRF C fl_X11_93 hi rfl rfl rfl rfl hμ56 dX11_init_217 ?_
  refine aw_aload_n C 0 dX11_init_220 rfl rfl ?_
  refine aw_bipush C 9 dX11_init_221 (by decide) ?_
  obtain ⟨μ57, hμ57, h⟩ := bindE h
  refine aw_newaI C (N' := 9) 29 573 ac_int hb hμ57 (by decide) (by decide) (by decide) (by decide) rfl rfl dX11_init_223 ?_
  obtain ⟨μ58, hμ58, h⟩ := bindE h
  refine aw_pRF C fl_X11_96 hi rfl rfl rfl rfl hμ58 dX11_init_225 ?_
  refine aw_aload_n C 0 dX11_init_228 rfl rfl ?_
  refine aw_bipush C 9 dX11_init_229 (by decide) ?_
  obtain ⟨μ59, hμ59, h⟩ := bindE h
  refine aw_newaI C (N' := 9) 30 582 ac_int hb hμ59 (by decide) (by decide) (by decide) (by decide) rfl rfl dX11_init_231 ?_
  obtain ⟨μ60, hμ60, h⟩ := bindE h
  refine aw_pRF C fl_X11_99 hi rfl rfl rfl rfl hμ60 dX11_init_233 ?_
  refine aw_aload_n C 0 dX11_init_236 rfl rfl ?_
  refine aw_sipush C 160 dX11_init_237 (by decide) ?_
  obtain ⟨μ61, hμ61, h⟩ := bindE h
  refine aw_newaI C (N' := 160) 31 742 ac_int hb hμ61 (by decide) (by decide) (by decide) (by decide) rfl rfl dX11_init_240 ?_
  obtain ⟨μ62, hμ62, h⟩ := bindE h
  refine aw_pRF C fl_X11_102 hi rfl rfl rfl rfl hμ62 dX11_init_242 ?_
  refine aw_aload_n C 0 dX11_init_245 rfl rfl ?_
  refine aw_iconst C ((-1)) dX11_init_246 (by decide) ?_
  obtain ⟨μ63, hμ63, h⟩ := bindE h
  refine aw_pI C fl_X11_105 rfl hμ63 dX11_init_247 ?_
  refine aw_aload_n C 0 dX11_init_250 rfl rfl ?_
  refine aw_bipush C 6 dX11_init_251 (by decide) ?_
  obtain ⟨μ64, hμ64, h⟩ := bindE h
  refine aw_newaI C (N' := 6) 32 748 ac_int hb hμ64 (by decide) (by decide) (by decide) (by decide) rfl rfl dX11_init_253 ?_
  obtain ⟨μ65, hμ65, h⟩ := bindE h
  refine aw_pRF C fl_X11_109 hi rfl rfl rfl rfl hμ65 dX11_init_255 ?_
  refine aw_aload_n C 0 dX11_init_258 rfl rfl ?_
  refine aw_sipush C 28672 dX11_init_259 (by decide) ?_
  obtain ⟨μ66, hμ66, h⟩ := bindE h
  refine aw_newaI C (N' := 28672) 33 29420 ac_int hb hμ66 (by decide) (by decide) (by decide) (by decide) rfl rfl dX11_init_262 ?_
  obtain ⟨μ67, hμ67, h⟩ := bindE h
  refine aw_pRF C fl_X11_112 hi rfl rfl rfl rfl hμ67 dX11_init_264 ?_
  refine aw_aload_n C 0 dX11_init_267 rfl rfl ?_
  refine aw_sipush C 384 dX11_init_268 (by decide) ?_
  obtain ⟨μ68, hμ68, h⟩ := bindE h
  refine aw_newaI C (N' := 384) 34 29804 ac_int hb hμ68 (by decide) (by decide) (by decide) (by decide) rfl rfl dX11_init_271 ?_
  obtain ⟨μ69, hμ69, h⟩ := bindE h
  refine aw_pRF C fl_X11_115 hi rfl rfl rfl rfl hμ69 dX11_init_273 ?_
  refine aw_aload_n C 0 dX11_init_276 rfl rfl ?_
  refine aw_sipush C 384 dX11_init_277 (by decide) ?_
  obtain ⟨μ70, hμ70, h⟩ := bindE h
  refine aw_newaI C (N' := 384) 35 30188 ac_int hb hμ70 (by decide) (by decide) (by decide) (by decide) rfl rfl dX11_init_280 ?_
  obtain ⟨μ71, hμ71, h⟩ := bindE h
  refine aw_pRF C fl_X11_118 hi rfl rfl rfl rfl hμ71 dX11_init_282 ?_
  refine aw_aload_n C 0 dX11_init_285 rfl rfl ?_
  refine aw_bipush C 40 dX11_init_286 (by decide) ?_
  obtain ⟨μ72, hμ72, h⟩ := bindE h
  refine aw_newaI C (N' := 40) 36 30228 ac_int hb hμ72 (by decide) (by decide) (by decide) (by decide) rfl rfl dX11_init_288 ?_
  obtain ⟨μ73, hμ73, h⟩ := bindE h
  refine aw_pRF C fl_X11_121 hi rfl rfl rfl rfl hμ73 dX11_init_290 ?_
  refine aw_aload_n C 0 dX11_init_293 rfl rfl ?_
  refine aw_bipush C 40 dX11_init_294 (by decide) ?_
  obtain ⟨μ74, hμ74, h⟩ := bindE h
  refine aw_newaI C (N' := 40) 37 30268 ac_int hb hμ74 (by decide) (by decide) (by decide) (by decide) rfl rfl dX11_init_296 ?_
  obtain ⟨μ75, hμ75, h⟩ := bindE h
  refine aw_pRF C fl_X11_124 hi rfl rfl rfl rfl hμ75 dX11_init_298 ?_
  refine aw_aload_n C 0 dX11_init_301 rfl rfl ?_
  refine aw_bipush C 40 dX11_init_302 (by decide) ?_
  obtain ⟨μ76, hμ76, h⟩ := bindE h
  refine aw_newaI C (N' := 40) 38 30308 ac_int hb hμ76 (by decide) (by decide) (by decide) (by decide) rfl rfl dX11_init_304 ?_
  obtain ⟨μ77, hμ77, h⟩ := bindE h
  refine aw_pRF C fl_X11_127 hi rfl rfl rfl rfl hμ77 dX11_init_306 ?_
  refine aw_aload_n C 0 dX11_init_309 rfl rfl ?_
  refine aw_bipush C 40 dX11_init_310 (by decide) ?_
  obtain ⟨μ78, hμ78, h⟩ := bindE h
  refine aw_newaI C (N' := 40) 39 30348 ac_int hb hμ78 (by decide) (by decide) (by decide) (by decide) rfl rfl dX11_init_312 ?_
  obtain ⟨μ79, hμ79, h⟩ := bindE h
  refine aw_pRF C fl_X11_130 hi rfl rfl rfl rfl hμ79 dX11_init_314 ?_
  refine aw_aload_n C 0 dX11_init_317 rfl rfl ?_
  refine aw_bipush C 40 dX11_init_318 (by decide) ?_
  obtain ⟨μ80, hμ80, h⟩ := bindE h
  refine aw_newaI C (N' := 40) 40 30388 ac_int hb hμ80 (by decide) (by decide) (by decide) (by decide) rfl rfl dX11_init_320 ?_
  obtain ⟨μ81, hμ81, h⟩ := bindE h
  refine aw_pRF C fl_X11_133 hi rfl rfl rfl rfl hμ81 dX11_init_322 ?_
  refine aw_iconst C 0 dX11_init_325 (by decide) ?_
  refine aw_istore_n C [(1, .int 0), (0, .ref (gZ G + a0))] dX11_init_326 rfl (by decide) rfl ?_
  obtain ⟨z82, hz82, h⟩ := bindE h
  refine aw_sub [1, 0] rfl ?_
  refine X11_init_L327_ok C _ _ _ _ _ hz82 ?_
  refine aw_iconst C 0 dX11_init_361 (by decide) ?_
  refine aw_istore_n C [(1, .int 0), (0, .ref (gZ G + a0))] dX11_init_362 rfl (by decide) rfl ?_
  obtain ⟨z83, hz83, h⟩ := bindE h
  refine aw_sub [1, 0] rfl ?_
  refine X11_init_L363_ok C _ _ _ _ _ hz83 ?_
  refine aw_iconst C 0 dX11_init_389 (by decide) ?_
  refine aw_istore_n C [(1, .int 0), (0, .ref (gZ G + a0))] dX11_init_390 rfl (by decide) rfl ?_
  obtain ⟨z84, hz84, h⟩ := bindE h
  refine aw_sub [1, 0] rfl ?_
  refine X11_init_L391_ok C _ _ _ _ _ hz84 ?_
  have e9 := inj1 h
  subst e9
  exact hret _ _ dX11_init_411
set_option maxRecDepth 100000 in
set_option maxHeartbeats 4000000 in
theorem mt_X11_init {G : GL} {l : Launch} {a0 : Nat} {μ : Mem} {μ' : Mem} (h : X11_init a0 μ = some μ') : MtV G l yX11_init cX11_init 2 none rm_X11_init true [.ref (gZ G + a0)] μ μ' := met_V (by decide) rfl (Nat.le_of_ble_eq_true rfl) (fun X _ C hi hb hret => wk_X11_init C hi (hb rfl) h hret)
set_option maxRecDepth 100000 in
set_option maxHeartbeats 4000000 in
theorem wk_X11_in {G : GL} {X : CX} {j0 : Int64} {j2 : Int64} {j4 : Int64} {μ : Mem} (C : Ctx G X cX11_in 6 RX11 rm_X11_in) (hret : RtZ G 6 X cX11_in 0 0 (X11_in j0 j2 j4) μ) : AW G 6 X 0 0 0 [(0, .long j0), (2, .long j2), (4, .long j4)] [] μ := by
  unfold X11_in at hret
  refine aw_lload_n C 0 dX11_in_0 rfl rfl ?_
  refine aw_lload_n C 1 dX11_in_1 rfl rfl ?_
  refine aw_lcmp C dX11_in_2 ?_
  have kj3 : ∀ (q3_0 : Int32), q3_0 = (if (lg_cmp j0 j2) < 0 then 0 else if (0 : Int32) < (lg_cmp j0 j4) then 0 else 1) → AW G 6 X 0 0 18 [] [.int q3_0] μ := by
    rintro _ rfl
    exact hret _ _ dX11_in_18 (by repeat (first | exact Or.inl rfl | exact Or.inr rfl | split))
  refine aw_if_lt C 17 dX11_in_3 (by decide) (fun c1 => ?_) (fun c1 => ?_)
  · refine aw_iconst C 0 dX11_in_17 (by decide) ?_
    exact aw_sub [] rfl (kj3 _ (by simp only [if_pos c1]))
  · refine aw_lload_n C 0 dX11_in_6 rfl rfl ?_
    refine aw_lload C 2 dX11_in_7 rfl ?_
    refine aw_lcmp C dX11_in_9 ?_
    refine aw_if_gt C 17 dX11_in_10 (by decide) (fun c2 => ?_) (fun c2 => ?_)
    · refine aw_iconst C 0 dX11_in_17 (by decide) ?_
      exact aw_sub [] rfl (kj3 _ (by simp only [if_neg c1, if_pos c2]))
    · refine aw_iconst C 1 dX11_in_13 (by decide) ?_
      refine aw_goto C 18 dX11_in_14 (by decide) ?_
      exact aw_sub [] rfl (kj3 _ (by simp only [if_neg c1, if_neg c2]))
set_option maxRecDepth 100000 in
set_option maxHeartbeats 4000000 in
theorem mt_X11_in {G : GL} {l : Launch} (j0 : Int64) (j2 : Int64) (j4 : Int64) {μ : Mem} : MtI G l yX11_in cX11_in 6 (some .boolean) rm_X11_in false [.long j0, .long j2, .long j4] μ (X11_in j0 j2 j4) μ := met_Z (by decide) rfl (Nat.le_of_ble_eq_true rfl) (fun X _ C _ _ hret => wk_X11_in C hret)
theorem z_X11_in (j0 : Int64) (j2 : Int64) (j4 : Int64) : X11_in j0 j2 j4 = 0 ∨ X11_in j0 j2 j4 = 1 := by
  unfold X11_in
  repeat (first | exact Or.inl rfl | exact Or.inr rfl | split)
set_option maxRecDepth 100000 in
set_option maxHeartbeats 4000000 in
theorem wk_X11_isState {G : GL} {X : CX} {x0 : Int32} {μ : Mem} (C : Ctx G X cX11_isState 1 RX11 rm_X11_isState) (hret : RtZ G 1 X cX11_isState 0 0 (X11_isState x0) μ) : AW G 1 X 0 0 0 [(0, .int x0)] [] μ := by
  unfold X11_isState at hret
  refine aw_iload_n C 0 dX11_isState_0 rfl rfl ?_
  refine aw_i2l C dX11_isState_1 ?_
  refine aw_lconst C 0 dX11_isState_2 (by decide) ?_
  refine aw_ldc2 C kl_X11_136 dX11_isState_3 ?_
  refine aw_cS_I C [.long x0.toInt64, .long 0, .long 3] _ (mt_X11_in _ _ _) cs_X11_in ml_X11_138 st_X11_in ⟨by decide, by decide⟩ ⟨rfl, rfl⟩ ⟨Nat.zero_le _, Nat.zero_le _⟩ rfl rfl (Nat.le_of_ble_eq_true rfl) dX11_isState_6 ?_
  exact hret _ _ dX11_isState_9 (z_X11_in _ _ _)
set_option maxRecDepth 100000 in
set_option maxHeartbeats 4000000 in
theorem mt_X11_isState {G : GL} {l : Launch} (x0 : Int32) {μ : Mem} : MtI G l yX11_isState cX11_isState 1 (some .boolean) rm_X11_isState false [.int x0] μ (X11_isState x0) μ := met_Z (by decide) rfl (Nat.le_of_ble_eq_true rfl) (fun X _ C _ _ hret => wk_X11_isState C hret)
theorem z_X11_isState (x0 : Int32) : X11_isState x0 = 0 ∨ X11_isState x0 = 1 := by
  unfold X11_isState
  exact z_X11_in _ _ _
set_option maxRecDepth 100000 in
set_option maxHeartbeats 4000000 in
theorem wk_X11_isPerson {G : GL} {X : CX} {x0 : Int32} {μ : Mem} (C : Ctx G X cX11_isPerson 1 RX11 rm_X11_isPerson) (hret : RtZ G 1 X cX11_isPerson 0 0 (X11_isPerson x0) μ) : AW G 1 X 0 0 0 [(0, .int x0)] [] μ := by
  unfold X11_isPerson at hret
  refine aw_iload_n C 0 dX11_isPerson_0 rfl rfl ?_
  refine aw_i2l C dX11_isPerson_1 ?_
  refine aw_lconst C 0 dX11_isPerson_2 (by decide) ?_
  refine aw_ldc2 C kl_X11_136 dX11_isPerson_3 ?_
  refine aw_cS_I C [.long x0.toInt64, .long 0, .long 3] _ (mt_X11_in _ _ _) cs_X11_in ml_X11_138 st_X11_in ⟨by decide, by decide⟩ ⟨rfl, rfl⟩ ⟨Nat.zero_le _, Nat.zero_le _⟩ rfl rfl (Nat.le_of_ble_eq_true rfl) dX11_isPerson_6 ?_
  exact hret _ _ dX11_isPerson_9 (z_X11_in _ _ _)
set_option maxRecDepth 100000 in
set_option maxHeartbeats 4000000 in
theorem mt_X11_isPerson {G : GL} {l : Launch} (x0 : Int32) {μ : Mem} : MtI G l yX11_isPerson cX11_isPerson 1 (some .boolean) rm_X11_isPerson false [.int x0] μ (X11_isPerson x0) μ := met_Z (by decide) rfl (Nat.le_of_ble_eq_true rfl) (fun X _ C _ _ hret => wk_X11_isPerson C hret)
theorem z_X11_isPerson (x0 : Int32) : X11_isPerson x0 = 0 ∨ X11_isPerson x0 = 1 := by
  unfold X11_isPerson
  exact z_X11_in _ _ _
set_option maxRecDepth 100000 in
set_option maxHeartbeats 4000000 in
theorem wk_X11_move {G : GL} {X : CX} {a0 : Nat} {x1 : Int32} {x2 : Int32} {x3 : Int32} {μ : Mem} {r : Int32} {μ' : Mem} (C : Ctx G X cX11_move 5 RX11 rm_X11_move) (h : X11_move a0 x1 x2 x3 μ = some (r, μ')) (hret : RtI G 5 X cX11_move 0 0 r μ') : AW G 5 X 0 0 0 [(0, .ref (gZ G + a0)), (1, .int x1), (2, .int x2), (3, .int x3)] [] μ := by
  unfold X11_move at h
  refine aw_iload_n C 1 dX11_move_0 rfl rfl ?_
  refine aw_cS_I C [.int x1] _ (mt_X11_isState _) cs_X11_isState ml_X11_142 st_X11_isState ⟨by decide, by decide⟩ ⟨rfl, rfl⟩ ⟨Nat.zero_le _, Nat.zero_le _⟩ rfl rfl (Nat.le_of_ble_eq_true rfl) dX11_move_1 ?_
  refine aw_if_eq C 26 dX11_move_4 (by decide) (fun c1 => ?_) (fun c1 => ?_)
  · rw [if_pos c1] at h
    refine aw_sipush C ((-1002)) dX11_move_26 (by decide) ?_
    obtain ⟨e8, e9⟩ := inj2 h
    subst e8
    subst e9
    exact hret _ _ dX11_move_29
  · rw [if_neg c1] at h
    refine aw_iload_n C 2 dX11_move_7 rfl rfl ?_
    refine aw_cS_I C [.int x2] _ (mt_X11_isState _) cs_X11_isState ml_X11_142 st_X11_isState ⟨by decide, by decide⟩ ⟨rfl, rfl⟩ ⟨Nat.zero_le _, Nat.zero_le _⟩ rfl rfl (Nat.le_of_ble_eq_true rfl) dX11_move_8 ?_
    refine aw_if_eq C 26 dX11_move_11 (by decide) (fun c2 => ?_) (fun c2 => ?_)
    · rw [if_pos c2] at h
      refine aw_sipush C ((-1002)) dX11_move_26 (by decide) ?_
      obtain ⟨e8, e9⟩ := inj2 h
      subst e8
      subst e9
      exact hret _ _ dX11_move_29
    · rw [if_neg c2] at h
      refine aw_iload_n C 3 dX11_move_14 rfl rfl ?_
      refine aw_i2l C dX11_move_15 ?_
      refine aw_lconst C 0 dX11_move_16 (by decide) ?_
      refine aw_ldc2 C kl_X11_146 dX11_move_17 ?_
      refine aw_cS_I C [.long x3.toInt64, .long 0, .long 4] _ (mt_X11_in _ _ _) cs_X11_in ml_X11_138 st_X11_in ⟨by decide, by decide⟩ ⟨rfl, rfl⟩ ⟨Nat.zero_le _, Nat.zero_le _⟩ rfl rfl (Nat.le_of_ble_eq_true rfl) dX11_move_20 ?_
      refine aw_if_ne C 30 dX11_move_23 (by decide) (fun c3 => ?_) (fun c3 => ?_)
      · rw [if_neg c3] at h
        refine aw_aload_n C 0 dX11_move_30 rfl rfl ?_
        obtain ⟨v4, hv4, h⟩ := bindE h
        refine aw_gR C fl_X11_7 rfl hv4 dX11_move_31 ?_
        refine aw_iconst C 4 dX11_move_34 (by decide) ?_
        refine aw_iload_n C 1 dX11_move_35 rfl rfl ?_
        refine aw_imul C dX11_move_36 ?_
        refine aw_iload_n C 2 dX11_move_37 rfl rfl ?_
        refine aw_iadd C dX11_move_38 ?_
        obtain ⟨v5, hv5, h⟩ := bindE h
        refine aw_aI C hv5 dX11_move_39 ?_
        refine aw_istore C [(4, .int v5), (0, .ref (gZ G + a0)), (1, .int x1), (2, .int x2), (3, .int x3)] dX11_move_40 (by decide) rfl ?_
        refine aw_aload_n C 1 dX11_move_42 rfl rfl ?_
        obtain ⟨v6, hv6, h⟩ := bindE h
        refine aw_gR C fl_X11_7 rfl hv6 dX11_move_43 ?_
        refine aw_iconst C 4 dX11_move_46 (by decide) ?_
        refine aw_iload_n C 2 dX11_move_47 rfl rfl ?_
        refine aw_imul C dX11_move_48 ?_
        refine aw_iload_n C 3 dX11_move_49 rfl rfl ?_
        refine aw_iadd C dX11_move_50 ?_
        refine aw_iload_n C 4 dX11_move_51 rfl rfl ?_
        obtain ⟨μ7, hμ7, h⟩ := bindE h
        refine aw_sI C hμ7 dX11_move_52 ?_
        refine aw_iload C 0 dX11_move_53 rfl ?_
        obtain ⟨e8, e9⟩ := inj2 h
        subst e8
        subst e9
        exact hret _ _ dX11_move_55
      · rw [if_pos c3] at h
        refine aw_sipush C ((-1002)) dX11_move_26 (by decide) ?_
        obtain ⟨e8, e9⟩ := inj2 h
        subst e8
        subst e9
        exact hret _ _ dX11_move_29
set_option maxRecDepth 100000 in
set_option maxHeartbeats 4000000 in
theorem mt_X11_move {G : GL} {l : Launch} {a0 : Nat} {x1 : Int32} {x2 : Int32} {x3 : Int32} {μ : Mem} {r : Int32} {μ' : Mem} (h : X11_move a0 x1 x2 x3 μ = some (r, μ')) : MtI G l yX11_move cX11_move 5 (some .int) rm_X11_move false [.ref (gZ G + a0), .int x1, .int x2, .int x3] μ r μ' := met_I (by decide) rfl rfl (Nat.le_of_ble_eq_true rfl) (fun X _ C _ _ hret => wk_X11_move C h hret)
set_option maxRecDepth 100000 in
set_option maxHeartbeats 4000000 in
theorem wk_X11_shows {G : GL} {X : CX} {a0 : Nat} {x1 : Int32} {x2 : Int32} {x3 : Int32} {μ : Mem} {r : Int32} {μ' : Mem} (C : Ctx G X cX11_shows 5 RX11 rm_X11_shows) (h : X11_shows a0 x1 x2 x3 μ = some (r, μ')) (hret : RtI G 5 X cX11_shows 0 0 r μ') : AW G 5 X 0 0 0 [(0, .ref (gZ G + a0)), (1, .int x1), (2, .int x2), (3, .int x3)] [] μ := by
  unfold X11_shows at h
  refine aw_iload_n C 1 dX11_shows_0 rfl rfl ?_
  refine aw_cS_I C [.int x1] _ (mt_X11_isState _) cs_X11_isState ml_X11_142 st_X11_isState ⟨by decide, by decide⟩ ⟨rfl, rfl⟩ ⟨Nat.zero_le _, Nat.zero_le _⟩ rfl rfl (Nat.le_of_ble_eq_true rfl) dX11_shows_1 ?_
  refine aw_if_eq C 26 dX11_shows_4 (by decide) (fun c1 => ?_) (fun c1 => ?_)
  · rw [if_pos c1] at h
    refine aw_sipush C ((-1002)) dX11_shows_26 (by decide) ?_
    obtain ⟨e8, e9⟩ := inj2 h
    subst e8
    subst e9
    exact hret _ _ dX11_shows_29
  · rw [if_neg c1] at h
    refine aw_iload_n C 2 dX11_shows_7 rfl rfl ?_
    refine aw_cS_I C [.int x2] _ (mt_X11_isState _) cs_X11_isState ml_X11_142 st_X11_isState ⟨by decide, by decide⟩ ⟨rfl, rfl⟩ ⟨Nat.zero_le _, Nat.zero_le _⟩ rfl rfl (Nat.le_of_ble_eq_true rfl) dX11_shows_8 ?_
    refine aw_if_eq C 26 dX11_shows_11 (by decide) (fun c2 => ?_) (fun c2 => ?_)
    · rw [if_pos c2] at h
      refine aw_sipush C ((-1002)) dX11_shows_26 (by decide) ?_
      obtain ⟨e8, e9⟩ := inj2 h
      subst e8
      subst e9
      exact hret _ _ dX11_shows_29
    · rw [if_neg c2] at h
      refine aw_iload_n C 3 dX11_shows_14 rfl rfl ?_
      refine aw_i2l C dX11_shows_15 ?_
      refine aw_lconst C 0 dX11_shows_16 (by decide) ?_
      refine aw_ldc2 C kl_X11_146 dX11_shows_17 ?_
      refine aw_cS_I C [.long x3.toInt64, .long 0, .long 4] _ (mt_X11_in _ _ _) cs_X11_in ml_X11_138 st_X11_in ⟨by decide, by decide⟩ ⟨rfl, rfl⟩ ⟨Nat.zero_le _, Nat.zero_le _⟩ rfl rfl (Nat.le_of_ble_eq_true rfl) dX11_shows_20 ?_
      refine aw_if_ne C 30 dX11_shows_23 (by decide) (fun c3 => ?_) (fun c3 => ?_)
      · rw [if_neg c3] at h
        refine aw_aload_n C 0 dX11_shows_30 rfl rfl ?_
        obtain ⟨v4, hv4, h⟩ := bindE h
        refine aw_gR C fl_X11_13 rfl hv4 dX11_shows_31 ?_
        refine aw_iconst C 4 dX11_shows_34 (by decide) ?_
        refine aw_iload_n C 1 dX11_shows_35 rfl rfl ?_
        refine aw_imul C dX11_shows_36 ?_
        refine aw_iload_n C 2 dX11_shows_37 rfl rfl ?_
        refine aw_iadd C dX11_shows_38 ?_
        obtain ⟨v5, hv5, h⟩ := bindE h
        refine aw_aI C hv5 dX11_shows_39 ?_
        refine aw_istore C [(4, .int v5), (0, .ref (gZ G + a0)), (1, .int x1), (2, .int x2), (3, .int x3)] dX11_shows_40 (by decide) rfl ?_
        refine aw_aload_n C 1 dX11_shows_42 rfl rfl ?_
        obtain ⟨v6, hv6, h⟩ := bindE h
        refine aw_gR C fl_X11_13 rfl hv6 dX11_shows_43 ?_
        refine aw_iconst C 4 dX11_shows_46 (by decide) ?_
        refine aw_iload_n C 2 dX11_shows_47 rfl rfl ?_
        refine aw_imul C dX11_shows_48 ?_
        refine aw_iload_n C 3 dX11_shows_49 rfl rfl ?_
        refine aw_iadd C dX11_shows_50 ?_
        refine aw_iload_n C 4 dX11_shows_51 rfl rfl ?_
        obtain ⟨μ7, hμ7, h⟩ := bindE h
        refine aw_sI C hμ7 dX11_shows_52 ?_
        refine aw_iload C 0 dX11_shows_53 rfl ?_
        obtain ⟨e8, e9⟩ := inj2 h
        subst e8
        subst e9
        exact hret _ _ dX11_shows_55
      · rw [if_pos c3] at h
        refine aw_sipush C ((-1002)) dX11_shows_26 (by decide) ?_
        obtain ⟨e8, e9⟩ := inj2 h
        subst e8
        subst e9
        exact hret _ _ dX11_shows_29
set_option maxRecDepth 100000 in
set_option maxHeartbeats 4000000 in
theorem mt_X11_shows {G : GL} {l : Launch} {a0 : Nat} {x1 : Int32} {x2 : Int32} {x3 : Int32} {μ : Mem} {r : Int32} {μ' : Mem} (h : X11_shows a0 x1 x2 x3 μ = some (r, μ')) : MtI G l yX11_shows cX11_shows 5 (some .int) rm_X11_shows false [.ref (gZ G + a0), .int x1, .int x2, .int x3] μ r μ' := met_I (by decide) rfl rfl (Nat.le_of_ble_eq_true rfl) (fun X _ C _ _ hret => wk_X11_shows C h hret)
set_option maxRecDepth 100000 in
set_option maxHeartbeats 4000000 in
theorem wk_X11_begins {G : GL} {X : CX} {a0 : Nat} {x1 : Int32} {x2 : Int32} {μ : Mem} {r : Int32} {μ' : Mem} (C : Ctx G X cX11_begins 4 RX11 rm_X11_begins) (h : X11_begins a0 x1 x2 μ = some (r, μ')) (hret : RtI G 4 X cX11_begins 0 0 r μ') : AW G 4 X 0 0 0 [(0, .ref (gZ G + a0)), (1, .int x1), (2, .int x2)] [] μ := by
  unfold X11_begins at h
  refine aw_iload_n C 1 dX11_begins_0 rfl rfl ?_
  refine aw_cS_I C [.int x1] _ (mt_X11_isState _) cs_X11_isState ml_X11_142 st_X11_isState ⟨by decide, by decide⟩ ⟨rfl, rfl⟩ ⟨Nat.zero_le _, Nat.zero_le _⟩ rfl rfl (Nat.le_of_ble_eq_true rfl) dX11_begins_1 ?_
  refine aw_if_eq C 19 dX11_begins_4 (by decide) (fun c1 => ?_) (fun c1 => ?_)
  · rw [if_pos c1] at h
    refine aw_sipush C ((-1002)) dX11_begins_19 (by decide) ?_
    obtain ⟨e8, e9⟩ := inj2 h
    subst e8
    subst e9
    exact hret _ _ dX11_begins_22
  · rw [if_neg c1] at h
    refine aw_iload_n C 2 dX11_begins_7 rfl rfl ?_
    refine aw_i2l C dX11_begins_8 ?_
    refine aw_lconst C 0 dX11_begins_9 (by decide) ?_
    refine aw_ldc2 C kl_X11_146 dX11_begins_10 ?_
    refine aw_cS_I C [.long x2.toInt64, .long 0, .long 4] _ (mt_X11_in _ _ _) cs_X11_in ml_X11_138 st_X11_in ⟨by decide, by decide⟩ ⟨rfl, rfl⟩ ⟨Nat.zero_le _, Nat.zero_le _⟩ rfl rfl (Nat.le_of_ble_eq_true rfl) dX11_begins_13 ?_
    refine aw_if_ne C 23 dX11_begins_16 (by decide) (fun c2 => ?_) (fun c2 => ?_)
    · rw [if_neg c2] at h
      refine aw_aload_n C 0 dX11_begins_23 rfl rfl ?_
      obtain ⟨v3, hv3, h⟩ := bindE h
      refine aw_gR C fl_X11_16 rfl hv3 dX11_begins_24 ?_
      refine aw_iload_n C 1 dX11_begins_27 rfl rfl ?_
      obtain ⟨v4, hv4, h⟩ := bindE h
      refine aw_aI C hv4 dX11_begins_28 ?_
      refine aw_istore_n C [(3, .int v4), (0, .ref (gZ G + a0)), (1, .int x1), (2, .int x2)] dX11_begins_29 rfl (by decide) rfl ?_
      refine aw_aload_n C 1 dX11_begins_30 rfl rfl ?_
      obtain ⟨v5, hv5, h⟩ := bindE h
      refine aw_gR C fl_X11_16 rfl hv5 dX11_begins_31 ?_
      refine aw_iload_n C 2 dX11_begins_34 rfl rfl ?_
      refine aw_iload_n C 3 dX11_begins_35 rfl rfl ?_
      obtain ⟨μ6, hμ6, h⟩ := bindE h
      refine aw_sI C hμ6 dX11_begins_36 ?_
      refine aw_iload_n C 0 dX11_begins_37 rfl rfl ?_
      obtain ⟨e8, e9⟩ := inj2 h
      subst e8
      subst e9
      exact hret _ _ dX11_begins_38
    · rw [if_pos c2] at h
      refine aw_sipush C ((-1002)) dX11_begins_19 (by decide) ?_
      obtain ⟨e8, e9⟩ := inj2 h
      subst e8
      subst e9
      exact hret _ _ dX11_begins_22
set_option maxRecDepth 100000 in
set_option maxHeartbeats 4000000 in
theorem mt_X11_begins {G : GL} {l : Launch} {a0 : Nat} {x1 : Int32} {x2 : Int32} {μ : Mem} {r : Int32} {μ' : Mem} (h : X11_begins a0 x1 x2 μ = some (r, μ')) : MtI G l yX11_begins cX11_begins 4 (some .int) rm_X11_begins false [.ref (gZ G + a0), .int x1, .int x2] μ r μ' := met_I (by decide) rfl rfl (Nat.le_of_ble_eq_true rfl) (fun X _ C _ _ hret => wk_X11_begins C h hret)
set_option maxRecDepth 100000 in
set_option maxHeartbeats 4000000 in
theorem wk_X11_seams {G : GL} {X : CX} {a0 : Nat} {x1 : Int32} {μ : Mem} {r : Int32} {μ' : Mem} (C : Ctx G X cX11_seams 3 RX11 rm_X11_seams) (h : X11_seams a0 x1 μ = some (r, μ')) (hret : RtI G 3 X cX11_seams 0 0 r μ') : AW G 3 X 0 0 0 [(0, .ref (gZ G + a0)), (1, .int x1)] [] μ := by
  unfold X11_seams at h
  refine aw_iload_n C 1 dX11_seams_0 rfl rfl ?_
  refine aw_i2l C dX11_seams_1 ?_
  refine aw_lconst C 0 dX11_seams_2 (by decide) ?_
  refine aw_ldc2 C kl_X11_148 dX11_seams_3 ?_
  refine aw_cS_I C [.long x1.toInt64, .long 0, .long 15] _ (mt_X11_in _ _ _) cs_X11_in ml_X11_138 st_X11_in ⟨by decide, by decide⟩ ⟨rfl, rfl⟩ ⟨Nat.zero_le _, Nat.zero_le _⟩ rfl rfl (Nat.le_of_ble_eq_true rfl) dX11_seams_6 ?_
  refine aw_if_ne C 16 dX11_seams_9 (by decide) (fun c1 => ?_) (fun c1 => ?_)
  · rw [if_neg c1] at h
    refine aw_aload_n C 0 dX11_seams_16 rfl rfl ?_
    obtain ⟨v2, hv2, h⟩ := bindE h
    refine aw_gI C fl_X11_150 rfl hv2 dX11_seams_17 ?_
    refine aw_istore_n C [(2, .int v2), (0, .ref (gZ G + a0)), (1, .int x1)] dX11_seams_20 rfl (by decide) rfl ?_
    refine aw_aload_n C 1 dX11_seams_21 rfl rfl ?_
    refine aw_iload_n C 2 dX11_seams_22 rfl rfl ?_
    obtain ⟨μ3, hμ3, h⟩ := bindE h
    refine aw_pI C fl_X11_150 rfl hμ3 dX11_seams_23 ?_
    refine aw_iload_n C 0 dX11_seams_26 rfl rfl ?_
    obtain ⟨e8, e9⟩ := inj2 h
    subst e8
    subst e9
    exact hret _ _ dX11_seams_27
  · rw [if_pos c1] at h
    refine aw_sipush C ((-1002)) dX11_seams_12 (by decide) ?_
    obtain ⟨e8, e9⟩ := inj2 h
    subst e8
    subst e9
    exact hret _ _ dX11_seams_15
set_option maxRecDepth 100000 in
set_option maxHeartbeats 4000000 in
theorem mt_X11_seams {G : GL} {l : Launch} {a0 : Nat} {x1 : Int32} {μ : Mem} {r : Int32} {μ' : Mem} (h : X11_seams a0 x1 μ = some (r, μ')) : MtI G l yX11_seams cX11_seams 3 (some .int) rm_X11_seams false [.ref (gZ G + a0), .int x1] μ r μ' := met_I (by decide) rfl rfl (Nat.le_of_ble_eq_true rfl) (fun X _ C _ _ hret => wk_X11_seams C h hret)
set_option maxRecDepth 100000 in
set_option maxHeartbeats 4000000 in
theorem wk_X11_sign {G : GL} {X : CX} {a0 : Nat} {x1 : Int32} {x2 : Int32} {μ : Mem} {r : Int32} {μ' : Mem} (C : Ctx G X cX11_sign 3 RX11 rm_X11_sign) (h : X11_sign a0 x1 x2 μ = some (r, μ')) (hret : RtI G 3 X cX11_sign 0 0 r μ') : AW G 3 X 0 0 0 [(0, .ref (gZ G + a0)), (1, .int x1), (2, .int x2)] [] μ := by
  unfold X11_sign at h
  refine aw_iload_n C 1 dX11_sign_0 rfl rfl ?_
  refine aw_cS_I C [.int x1] _ (mt_X11_isPerson _) cs_X11_isPerson ml_X11_153 st_X11_isPerson ⟨by decide, by decide⟩ ⟨rfl, rfl⟩ ⟨Nat.zero_le _, Nat.zero_le _⟩ rfl rfl (Nat.le_of_ble_eq_true rfl) dX11_sign_1 ?_
  refine aw_if_ne C 11 dX11_sign_4 (by decide) (fun c1 => ?_) (fun c1 => ?_)
  · rw [if_neg c1] at h
    refine aw_iload_n C 2 dX11_sign_11 rfl rfl ?_
    refine aw_i2l C dX11_sign_12 ?_
    refine aw_ldc2 C kl_X11_156 dX11_sign_13 ?_
    refine aw_ldc2 C kl_X11_136 dX11_sign_16 ?_
    refine aw_cS_I C [.long x2.toInt64, .long ((-1)), .long 3] _ (mt_X11_in _ _ _) cs_X11_in ml_X11_138 st_X11_in ⟨by decide, by decide⟩ ⟨rfl, rfl⟩ ⟨Nat.zero_le _, Nat.zero_le _⟩ rfl rfl (Nat.le_of_ble_eq_true rfl) dX11_sign_19 ?_
    refine aw_if_ne C 29 dX11_sign_22 (by decide) (fun c2 => ?_) (fun c2 => ?_)
    · rw [if_neg c2] at h
      refine aw_aload_n C 0 dX11_sign_29 rfl rfl ?_
      obtain ⟨v3, hv3, h⟩ := bindE h
      refine aw_gR C fl_X11_19 rfl hv3 dX11_sign_30 ?_
      refine aw_bipush C 61 dX11_sign_33 (by decide) ?_
      refine aw_iload_n C 1 dX11_sign_35 rfl rfl ?_
      refine aw_imul C dX11_sign_36 ?_
      refine aw_aload_n C 0 dX11_sign_37 rfl rfl ?_
      obtain ⟨v4, hv4, h⟩ := bindE h
      refine aw_gI C fl_X11_158 rfl hv4 dX11_sign_38 ?_
      refine aw_iadd C dX11_sign_41 ?_
      refine aw_iload_n C 2 dX11_sign_42 rfl rfl ?_
      obtain ⟨μ5, hμ5, h⟩ := bindE h
      refine aw_sI C hμ5 dX11_sign_43 ?_
      refine aw_iconst C 1 dX11_sign_44 (by decide) ?_
      obtain ⟨e8, e9⟩ := inj2 h
      subst e8
      subst e9
      exact hret _ _ dX11_sign_45
    · rw [if_pos c2] at h
      refine aw_sipush C ((-1002)) dX11_sign_25 (by decide) ?_
      obtain ⟨e8, e9⟩ := inj2 h
      subst e8
      subst e9
      exact hret _ _ dX11_sign_28
  · rw [if_pos c1] at h
    refine aw_sipush C ((-1001)) dX11_sign_7 (by decide) ?_
    obtain ⟨e8, e9⟩ := inj2 h
    subst e8
    subst e9
    exact hret _ _ dX11_sign_10
set_option maxRecDepth 100000 in
set_option maxHeartbeats 4000000 in
theorem mt_X11_sign {G : GL} {l : Launch} {a0 : Nat} {x1 : Int32} {x2 : Int32} {μ : Mem} {r : Int32} {μ' : Mem} (h : X11_sign a0 x1 x2 μ = some (r, μ')) : MtI G l yX11_sign cX11_sign 3 (some .int) rm_X11_sign false [.ref (gZ G + a0), .int x1, .int x2] μ r μ' := met_I (by decide) rfl rfl (Nat.le_of_ble_eq_true rfl) (fun X _ C _ _ hret => wk_X11_sign C h hret)
set_option maxRecDepth 100000 in
set_option maxHeartbeats 4000000 in
theorem wk_X11_go {G : GL} {X : CX} {a0 : Nat} {x1 : Int32} {μ : Mem} {r : Int32} {μ' : Mem} (C : Ctx G X cX11_go 2 RX11 rm_X11_go) (h : X11_go a0 x1 μ = some (r, μ')) (hret : RtI G 2 X cX11_go 0 0 r μ') : AW G 2 X 0 0 0 [(0, .ref (gZ G + a0)), (1, .int x1)] [] μ := by
  unfold X11_go at h
  refine aw_iload_n C 1 dX11_go_0 rfl rfl ?_
  refine aw_i2l C dX11_go_1 ?_
  refine aw_lconst C 0 dX11_go_2 (by decide) ?_
  refine aw_ldc2 C kl_X11_161 dX11_go_3 ?_
  refine aw_cS_I C [.long x1.toInt64, .long 0, .long 20] _ (mt_X11_in _ _ _) cs_X11_in ml_X11_138 st_X11_in ⟨by decide, by decide⟩ ⟨rfl, rfl⟩ ⟨Nat.zero_le _, Nat.zero_le _⟩ rfl rfl (Nat.le_of_ble_eq_true rfl) dX11_go_6 ?_
  refine aw_if_ne C 16 dX11_go_9 (by decide) (fun c1 => ?_) (fun c1 => ?_)
  · rw [if_neg c1] at h
    refine aw_aload_n C 0 dX11_go_16 rfl rfl ?_
    obtain ⟨v2, hv2, h⟩ := bindE h
    refine aw_gI C fl_X11_158 rfl hv2 dX11_go_17 ?_
    refine aw_iload_n C 1 dX11_go_20 rfl rfl ?_
    refine aw_iadd C dX11_go_21 ?_
    refine aw_bipush C 60 dX11_go_22 (by decide) ?_
    refine aw_icmp_le C 31 dX11_go_24 (by decide) (fun c3 => ?_) (fun c3 => ?_)
    · rw [if_pos c3] at h
      refine aw_aload_n C 0 dX11_go_31 rfl rfl ?_
      refine aw_dup C dX11_go_32 rfl ?_
      obtain ⟨v4, hv4, h⟩ := bindE h
      refine aw_gI C fl_X11_158 rfl hv4 dX11_go_33 ?_
      refine aw_iload_n C 1 dX11_go_36 rfl rfl ?_
      refine aw_iadd C dX11_go_37 ?_
      obtain ⟨μ5, hμ5, h⟩ := bindE h
      refine aw_pI C fl_X11_158 rfl hμ5 dX11_go_38 ?_
      refine aw_aload_n C 0 dX11_go_41 rfl rfl ?_
      obtain ⟨v6, hv6, h⟩ := bindE h
      refine aw_gI C fl_X11_158 rfl hv6 dX11_go_42 ?_
      obtain ⟨e8, e9⟩ := inj2 h
      subst e8
      subst e9
      exact hret _ _ dX11_go_45
    · rw [if_neg c3] at h
      refine aw_sipush C ((-1003)) dX11_go_27 (by decide) ?_
      obtain ⟨e8, e9⟩ := inj2 h
      subst e8
      subst e9
      exact hret _ _ dX11_go_30
  · rw [if_pos c1] at h
    refine aw_sipush C ((-1002)) dX11_go_12 (by decide) ?_
    obtain ⟨e8, e9⟩ := inj2 h
    subst e8
    subst e9
    exact hret _ _ dX11_go_15
set_option maxRecDepth 100000 in
set_option maxHeartbeats 4000000 in
theorem mt_X11_go {G : GL} {l : Launch} {a0 : Nat} {x1 : Int32} {μ : Mem} {r : Int32} {μ' : Mem} (h : X11_go a0 x1 μ = some (r, μ')) : MtI G l yX11_go cX11_go 2 (some .int) rm_X11_go false [.ref (gZ G + a0), .int x1] μ r μ' := met_I (by decide) rfl rfl (Nat.le_of_ble_eq_true rfl) (fun X _ C _ _ hret => wk_X11_go C h hret)
set_option maxRecDepth 100000 in
set_option maxHeartbeats 4000000 in
theorem wk_X11_showsAt {G : GL} {X : CX} {a0 : Nat} {x1 : Int32} {x2 : Int32} {x3 : Int32} {μ : Mem} {r : Int32} (C : Ctx G X cX11_showsAt 5 RX11 rm_X11_showsAt) (h : X11_showsAt a0 x1 x2 x3 μ = some r) (hret : RtI G 5 X cX11_showsAt 0 0 r μ) : AW G 5 X 0 0 0 [(0, .ref (gZ G + a0)), (1, .int x1), (2, .int x2), (3, .int x3)] [] μ := by
  unfold X11_showsAt at h
  refine aw_aload_n C 0 dX11_showsAt_0 rfl rfl ?_
  obtain ⟨v1, hv1, h⟩ := bindE h
  refine aw_gR C fl_X11_19 rfl hv1 dX11_showsAt_1 ?_
  refine aw_bipush C 61 dX11_showsAt_4 (by decide) ?_
  refine aw_iload_n C 1 dX11_showsAt_6 rfl rfl ?_
  refine aw_imul C dX11_showsAt_7 ?_
  refine aw_iload_n C 2 dX11_showsAt_8 rfl rfl ?_
  refine aw_iadd C dX11_showsAt_9 ?_
  obtain ⟨v2, hv2, h⟩ := bindE h
  refine aw_aI C hv2 dX11_showsAt_10 ?_
  refine aw_istore C [(4, .int v2), (0, .ref (gZ G + a0)), (1, .int x1), (2, .int x2), (3, .int x3)] dX11_showsAt_11 (by decide) rfl ?_
  refine aw_iload C 0 dX11_showsAt_13 rfl ?_
  obtain ⟨z6, hz6, h⟩ := bindE h
  have kj15 : AW G 5 X 0 0 33 [] [.int z6] μ := by
    have e9 := inj1 h
    subst e9
    exact hret _ _ dX11_showsAt_33
  replace h := hz6
  refine aw_if_ge C 22 dX11_showsAt_15 (by decide) (fun c3 => ?_) (fun c3 => ?_)
  · rw [if_pos c3] at h
    refine aw_aload_n C 1 dX11_showsAt_22 rfl rfl ?_
    obtain ⟨v4, hv4, h⟩ := bindE h
    refine aw_gR C fl_X11_13 rfl hv4 dX11_showsAt_23 ?_
    refine aw_iconst C 4 dX11_showsAt_26 (by decide) ?_
    refine aw_iload_n C 4 dX11_showsAt_27 rfl rfl ?_
    refine aw_imul C dX11_showsAt_28 ?_
    refine aw_iload C 0 dX11_showsAt_29 rfl ?_
    refine aw_iadd C dX11_showsAt_31 ?_
    obtain ⟨v5, hv5, h⟩ := bindE h
    refine aw_aI C hv5 dX11_showsAt_32 ?_
    have e9 := inj1 h
    subst e9
    exact aw_sub [] rfl kj15
  · rw [if_neg c3] at h
    refine aw_iconst C 1 dX11_showsAt_18 (by decide) ?_
    refine aw_goto C 33 dX11_showsAt_19 (by decide) ?_
    have e9 := inj1 h
    subst e9
    exact aw_sub [] rfl kj15
set_option maxRecDepth 100000 in
set_option maxHeartbeats 4000000 in
theorem mt_X11_showsAt {G : GL} {l : Launch} {a0 : Nat} {x1 : Int32} {x2 : Int32} {x3 : Int32} {μ : Mem} {r : Int32} (h : X11_showsAt a0 x1 x2 x3 μ = some r) : MtI G l yX11_showsAt cX11_showsAt 5 (some .int) rm_X11_showsAt false [.ref (gZ G + a0), .int x1, .int x2, .int x3] μ r μ := met_I (by decide) rfl rfl (Nat.le_of_ble_eq_true rfl) (fun X _ C _ _ hret => wk_X11_showsAt C h hret)
set_option maxRecDepth 100000 in
set_option maxHeartbeats 4000000 in
theorem X11_findRows_L18_ok {G : GL} {X : CX} (C : Ctx G X cX11_findRows 8 RX11 rm_X11_findRows) (a0 : Nat) (x1 : Int32) (x2 : Int32) (x3 : Int32) : ∀ (n : Nat) (x4 : Int32) (μ : Mem) (z : Int32 × Mem), X11_findRows_L18 a0 x1 x2 x3 n x4 μ = some z → AW G 8 X 0 0 79 [(0, .ref (gZ G + a0)), (1, .int x1), (2, .int x2), (3, .int x3), (4, .int z.1)] [] z.2 → AW G 8 X 0 0 18 [(0, .ref (gZ G + a0)), (1, .int x1), (2, .int x2), (3, .int x3), (4, .int x4)] [] μ := by
  intro n
  induction n with
  | zero =>
    intro x4 μ z h kx
    rw [X11_findRows_L18] at h
    cases h
  | succ n ih =>
    intro x4 μ z h kx
    rw [X11_findRows_L18] at h
    refine aw_iload C 4 dX11_findRows_18 rfl ?_
    refine aw_iconst C 4 dX11_findRows_20 (by decide) ?_
    refine aw_icmp_ge C 79 dX11_findRows_21 (by decide) (fun c1 => ?_) (fun c1 => ?_)
    · rw [if_pos c1] at h
      have e9 := inj1 h
      subst e9
      exact aw_sub [0, 1, 2, 3, 4] rfl kx
    · rw [if_neg c1] at h
      refine aw_aload_n C 0 dX11_findRows_24 rfl rfl ?_
      obtain ⟨v2, hv2, h⟩ := bindE h
      refine aw_gR C fl_X11_22 rfl hv2 dX11_findRows_25 ?_
      refine aw_iload C 4 dX11_findRows_28 rfl ?_
      refine aw_aload_n C 0 dX11_findRows_30 rfl rfl ?_
      obtain ⟨v3, hv3, h⟩ := bindE h
      refine aw_gR C fl_X11_16 rfl hv3 dX11_findRows_31 ?_
      refine aw_iload C 4 dX11_findRows_34 rfl ?_
      obtain ⟨v4, hv4, h⟩ := bindE h
      refine aw_aI C hv4 dX11_findRows_36 ?_
      refine aw_i2l C dX11_findRows_37 ?_
      refine aw_aload_n C 0 dX11_findRows_38 rfl rfl ?_
      refine aw_iload_n C 1 dX11_findRows_39 rfl rfl ?_
      refine aw_iload_n C 3 dX11_findRows_40 rfl rfl ?_
      refine aw_iload C 4 dX11_findRows_41 rfl ?_
      obtain ⟨g5, hg5, h⟩ := bindE h
      obtain ⟨v6, hv6, h⟩ := bindE h
      refine aw_cV_I C [.int x1, .int x3, .int x4] _ (mt_X11_showsAt hv6) cs_X11_showsAt ml_X11_163 im_X11_showsAt se_X11_showsAt (ci := 11) rfl rfl hg5 ⟨by decide, by decide⟩ ⟨rfl, rfl⟩ ⟨Nat.zero_le _, Nat.zero_le _⟩ rfl rfl (Nat.le_of_ble_eq_true rfl) dX11_findRows_43 ?_
      refine aw_i2l C dX11_findRows_46 ?_
      refine aw_lmul C dX11_findRows_47 ?_
      obtain ⟨μ7, hμ7, h⟩ := bindE h
      refine aw_sJ C hμ7 dX11_findRows_48 ?_
      refine aw_aload_n C 0 dX11_findRows_49 rfl rfl ?_
      obtain ⟨v8, hv8, h⟩ := bindE h
      refine aw_gR C fl_X11_29 rfl hv8 dX11_findRows_50 ?_
      refine aw_iload C 4 dX11_findRows_53 rfl ?_
      refine aw_aload_n C 0 dX11_findRows_55 rfl rfl ?_
      obtain ⟨v9, hv9, h⟩ := bindE h
      refine aw_gR C fl_X11_22 rfl hv9 dX11_findRows_56 ?_
      refine aw_iload C 4 dX11_findRows_59 rfl ?_
      obtain ⟨v10, hv10, h⟩ := bindE h
      refine aw_aJ C hv10 dX11_findRows_61 ?_
      refine aw_lconst C 0 dX11_findRows_62 (by decide) ?_
      refine aw_lcmp C dX11_findRows_63 ?_
      obtain ⟨v12, ev12, h⟩ := bindS h
      have kj64 : AW G 8 X 0 0 72 [(0, .ref (gZ G + a0)), (1, .int x1), (2, .int x2), (3, .int x3), (4, .int x4)] [.int v12, .int x4, .ref (gZ G + v8)] μ7 := by
        obtain ⟨μ13, hμ13, h⟩ := bindE h
        refine aw_sI C hμ13 dX11_findRows_72 ?_
        refine aw_iinc C (x4 + 1) 4 [(4, .int (x4 + 1)), (0, .ref (gZ G + a0)), (1, .int x1), (2, .int x2), (3, .int x3)] dX11_findRows_73 rfl rfl (by decide) rfl ?_
        refine aw_goto C 18 dX11_findRows_76 (by decide) ?_
        exact aw_sub [1, 2, 3, 4, 0] rfl (ih _ _ _ h kx)
      clear h
      refine aw_if_le C 71 dX11_findRows_64 (by decide) (fun c11 => ?_) (fun c11 => ?_)
      · refine aw_iconst C 0 dX11_findRows_71 (by decide) ?_
        rw [if_pos c11] at ev12
        subst ev12
        exact aw_sub [0, 1, 2, 3, 4] rfl kj64
      · refine aw_iconst C 1 dX11_findRows_67 (by decide) ?_
        refine aw_goto C 72 dX11_findRows_68 (by decide) ?_
        rw [if_neg c11] at ev12
        subst ev12
        exact aw_sub [0, 1, 2, 3, 4] rfl kj64
set_option maxRecDepth 100000 in
set_option maxHeartbeats 4000000 in
theorem X11_findRows_L118_ok {G : GL} {X : CX} (C : Ctx G X cX11_findRows 8 RX11 rm_X11_findRows) (a0 : Nat) (x1 : Int32) (x2 : Int32) (x4 : Int32) (x5 : Int32) : ∀ (n : Nat) (x6 : Int32) (μ : Mem) (z : Int32 × Mem), X11_findRows_L118 a0 x1 x2 x4 x5 n x6 μ = some z → AW G 8 X 0 0 201 [(0, .ref (gZ G + a0)), (1, .int x1), (2, .int x2), (4, .int x4), (5, .int x5), (6, .int z.1)] [] z.2 → AW G 8 X 0 0 118 [(0, .ref (gZ G + a0)), (1, .int x1), (2, .int x2), (4, .int x4), (5, .int x5), (6, .int x6)] [] μ := by
  intro n
  induction n with
  | zero =>
    intro x6 μ z h kx
    rw [X11_findRows_L118] at h
    cases h
  | succ n ih =>
    intro x6 μ z h kx
    rw [X11_findRows_L118] at h
    refine aw_iload C 5 dX11_findRows_118 rfl ?_
    refine aw_iconst C 4 dX11_findRows_120 (by decide) ?_
    refine aw_icmp_ge C 201 dX11_findRows_121 (by decide) (fun c1 => ?_) (fun c1 => ?_)
    · rw [if_pos c1] at h
      have e9 := inj1 h
      subst e9
      exact aw_sub [0, 1, 2, 3, 4, 5] rfl kx
    · rw [if_neg c1] at h
      refine aw_aload_n C 0 dX11_findRows_124 rfl rfl ?_
      obtain ⟨v2, hv2, h⟩ := bindE h
      refine aw_gR C fl_X11_7 rfl hv2 dX11_findRows_125 ?_
      refine aw_iconst C 4 dX11_findRows_128 (by decide) ?_
      refine aw_iload C 5 dX11_findRows_129 rfl ?_
      refine aw_imul C dX11_findRows_131 ?_
      refine aw_iload C 4 dX11_findRows_132 rfl ?_
      refine aw_iadd C dX11_findRows_134 ?_
      obtain ⟨v3, hv3, h⟩ := bindE h
      refine aw_aI C hv3 dX11_findRows_135 ?_
      refine aw_aload_n C 0 dX11_findRows_136 rfl rfl ?_
      refine aw_iload_n C 1 dX11_findRows_137 rfl rfl ?_
      refine aw_iload C 3 dX11_findRows_138 rfl ?_
      refine aw_iload C 4 dX11_findRows_140 rfl ?_
      obtain ⟨g4, hg4, h⟩ := bindE h
      obtain ⟨v5, hv5, h⟩ := bindE h
      refine aw_cV_I C [.int x1, .int x4, .int x5] _ (mt_X11_showsAt hv5) cs_X11_showsAt ml_X11_163 im_X11_showsAt se_X11_showsAt (ci := 11) rfl rfl hg4 ⟨by decide, by decide⟩ ⟨rfl, rfl⟩ ⟨Nat.zero_le _, Nat.zero_le _⟩ rfl rfl (Nat.le_of_ble_eq_true rfl) dX11_findRows_142 ?_
      refine aw_imul C dX11_findRows_145 ?_
      obtain ⟨v6, ev6, h⟩ := bindS h
      refine aw_topi ev6 ?_
      refine aw_istore C [(7, .int v6), (0, .ref (gZ G + a0)), (1, .int x1), (2, .int x2), (4, .int x4), (5, .int x5), (6, .int x6)] dX11_findRows_146 (by decide) rfl ?_
      refine aw_aload_n C 1 dX11_findRows_148 rfl rfl ?_
      obtain ⟨v7, hv7, h⟩ := bindE h
      refine aw_gR C fl_X11_26 rfl hv7 dX11_findRows_149 ?_
      refine aw_iload C 5 dX11_findRows_152 rfl ?_
      refine aw_dup2 C dX11_findRows_154 rfl rfl ?_
      obtain ⟨v8, hv8, h⟩ := bindE h
      refine aw_aJ C hv8 dX11_findRows_155 ?_
      refine aw_aload_n C 1 dX11_findRows_156 rfl rfl ?_
      obtain ⟨v9, hv9, h⟩ := bindE h
      refine aw_gR C fl_X11_22 rfl hv9 dX11_findRows_157 ?_
      refine aw_iload C 6 dX11_findRows_160 rfl ?_
      obtain ⟨v10, hv10, h⟩ := bindE h
      refine aw_aJ C hv10 dX11_findRows_162 ?_
      refine aw_iload C 0 dX11_findRows_163 rfl ?_
      refine aw_i2l C dX11_findRows_165 ?_
      refine aw_lmul C dX11_findRows_166 ?_
      refine aw_ladd C dX11_findRows_167 ?_
      obtain ⟨μ11, hμ11, h⟩ := bindE h
      refine aw_sJ C hμ11 dX11_findRows_168 ?_
      refine aw_aload_n C 1 dX11_findRows_169 rfl rfl ?_
      obtain ⟨v12, hv12, h⟩ := bindE h
      refine aw_gR C fl_X11_32 rfl hv12 dX11_findRows_170 ?_
      refine aw_iload C 5 dX11_findRows_173 rfl ?_
      refine aw_dup2 C dX11_findRows_175 rfl rfl ?_
      obtain ⟨v13, hv13, h⟩ := bindE h
      refine aw_aI C hv13 dX11_findRows_176 ?_
      refine aw_iload C 0 dX11_findRows_177 rfl ?_
      obtain ⟨z17, hz17, h⟩ := bindE h
      have kj179 : AW G 8 X 0 0 193 [(0, .ref (gZ G + a0)), (1, .int x1), (2, .int x2), (4, .int x4), (5, .int x5), (6, .int x6)] [.int z17, .int v13, .int x5, .ref (gZ G + v12)] μ11 := by
        refine aw_iadd C dX11_findRows_193 ?_
        obtain ⟨μ18, hμ18, h⟩ := bindE h
        refine aw_sI C hμ18 dX11_findRows_194 ?_
        refine aw_iinc C (x6 + 1) 5 [(6, .int (x6 + 1)), (0, .ref (gZ G + a0)), (1, .int x1), (2, .int x2), (4, .int x4), (5, .int x5)] dX11_findRows_195 rfl rfl (by decide) rfl ?_
        refine aw_goto C 118 dX11_findRows_198 (by decide) ?_
        exact aw_sub [1, 2, 3, 4, 5, 0] rfl (ih _ _ _ h kx)
      replace h := hz17
      refine aw_if_le C 192 dX11_findRows_179 (by decide) (fun c14 => ?_) (fun c14 => ?_)
      · rw [if_pos c14] at h
        refine aw_iconst C 0 dX11_findRows_192 (by decide) ?_
        have e9 := inj1 h
        subst e9
        exact aw_sub [1, 2, 3, 4, 5, 6] rfl kj179
      · rw [if_neg c14] at h
        refine aw_aload_n C 1 dX11_findRows_182 rfl rfl ?_
        obtain ⟨v15, hv15, h⟩ := bindE h
        refine aw_gR C fl_X11_29 rfl hv15 dX11_findRows_183 ?_
        refine aw_iload C 6 dX11_findRows_186 rfl ?_
        obtain ⟨v16, hv16, h⟩ := bindE h
        refine aw_aI C hv16 dX11_findRows_188 ?_
        refine aw_goto C 193 dX11_findRows_189 (by decide) ?_
        have e9 := inj1 h
        subst e9
        exact aw_sub [1, 2, 3, 4, 5, 6] rfl kj179
set_option maxRecDepth 100000 in
set_option maxHeartbeats 4000000 in
theorem X11_findRows_L93_ok {G : GL} {X : CX} (C : Ctx G X cX11_findRows 8 RX11 rm_X11_findRows) (a0 : Nat) (x1 : Int32) (x2 : Int32) (x4 : Int32) : ∀ (n : Nat) (x5 : Int32) (μ : Mem) (z : Int32 × Mem), X11_findRows_L93 a0 x1 x2 x4 n x5 μ = some z → AW G 8 X 0 0 207 [(0, .ref (gZ G + a0)), (1, .int x1), (2, .int x2), (4, .int x4), (5, .int z.1)] [] z.2 → AW G 8 X 0 0 93 [(0, .ref (gZ G + a0)), (1, .int x1), (2, .int x2), (4, .int x4), (5, .int x5)] [] μ := by
  intro n
  induction n with
  | zero =>
    intro x5 μ z h kx
    rw [X11_findRows_L93] at h
    cases h
  | succ n ih =>
    intro x5 μ z h kx
    rw [X11_findRows_L93] at h
    refine aw_iload C 4 dX11_findRows_93 rfl ?_
    refine aw_iconst C 4 dX11_findRows_95 (by decide) ?_
    refine aw_icmp_ge C 207 dX11_findRows_96 (by decide) (fun c1 => ?_) (fun c1 => ?_)
    · rw [if_pos c1] at h
      have e9 := inj1 h
      subst e9
      exact aw_sub [0, 1, 2, 3, 4] rfl kx
    · rw [if_neg c1] at h
      refine aw_aload_n C 0 dX11_findRows_99 rfl rfl ?_
      obtain ⟨v2, hv2, h⟩ := bindE h
      refine aw_gR C fl_X11_26 rfl hv2 dX11_findRows_100 ?_
      refine aw_iload C 4 dX11_findRows_103 rfl ?_
      refine aw_lconst C 0 dX11_findRows_105 (by decide) ?_
      obtain ⟨μ3, hμ3, h⟩ := bindE h
      refine aw_sJ C hμ3 dX11_findRows_106 ?_
      refine aw_aload_n C 0 dX11_findRows_107 rfl rfl ?_
      obtain ⟨v4, hv4, h⟩ := bindE h
      refine aw_gR C fl_X11_32 rfl hv4 dX11_findRows_108 ?_
      refine aw_iload C 4 dX11_findRows_111 rfl ?_
      refine aw_iconst C 0 dX11_findRows_113 (by decide) ?_
      obtain ⟨μ5, hμ5, h⟩ := bindE h
      refine aw_sI C hμ5 dX11_findRows_114 ?_
      refine aw_iconst C 0 dX11_findRows_115 (by decide) ?_
      refine aw_istore C [(6, .int 0), (0, .ref (gZ G + a0)), (1, .int x1), (2, .int x2), (4, .int x4), (5, .int x5)] dX11_findRows_116 (by decide) rfl ?_
      obtain ⟨z6, hz6, h⟩ := bindE h
      refine aw_sub [1, 2, 3, 4, 5, 0] rfl ?_
      refine X11_findRows_L118_ok C _ _ _ _ _ _ _ _ _ hz6 ?_
      refine aw_iinc C (x5 + 1) 4 [(5, .int (x5 + 1)), (0, .ref (gZ G + a0)), (1, .int x1), (2, .int x2), (4, .int x4), (6, .int z6.1)] dX11_findRows_201 rfl rfl (by decide) rfl ?_
      refine aw_goto C 93 dX11_findRows_204 (by decide) ?_
      exact aw_sub [1, 2, 3, 4, 0] rfl (ih _ _ _ h kx)
set_option maxRecDepth 100000 in
set_option maxHeartbeats 4000000 in
theorem X11_findRows_L210_ok {G : GL} {X : CX} (C : Ctx G X cX11_findRows 8 RX11 rm_X11_findRows) (a0 : Nat) (x1 : Int32) (x2 : Int32) (x4 : Int32) : ∀ (n : Nat) (x5 : Int32) (μ : Mem) (z : Int32 × Mem), X11_findRows_L210 a0 x1 x2 x4 n x5 μ = some z → AW G 8 X 0 0 250 [(0, .ref (gZ G + a0)), (1, .int x1), (2, .int x2), (4, .int x4), (5, .int z.1)] [] z.2 → AW G 8 X 0 0 210 [(0, .ref (gZ G + a0)), (1, .int x1), (2, .int x2), (4, .int x4), (5, .int x5)] [] μ := by
  intro n
  induction n with
  | zero =>
    intro x5 μ z h kx
    rw [X11_findRows_L210] at h
    cases h
  | succ n ih =>
    intro x5 μ z h kx
    rw [X11_findRows_L210] at h
    refine aw_iload C 4 dX11_findRows_210 rfl ?_
    refine aw_iconst C 4 dX11_findRows_212 (by decide) ?_
    refine aw_icmp_ge C 250 dX11_findRows_213 (by decide) (fun c1 => ?_) (fun c1 => ?_)
    · rw [if_pos c1] at h
      have e9 := inj1 h
      subst e9
      exact aw_sub [0, 1, 2, 3, 4] rfl kx
    · rw [if_neg c1] at h
      refine aw_aload_n C 0 dX11_findRows_216 rfl rfl ?_
      obtain ⟨v2, hv2, h⟩ := bindE h
      refine aw_gR C fl_X11_22 rfl hv2 dX11_findRows_217 ?_
      refine aw_iload C 4 dX11_findRows_220 rfl ?_
      refine aw_aload_n C 0 dX11_findRows_222 rfl rfl ?_
      obtain ⟨v3, hv3, h⟩ := bindE h
      refine aw_gR C fl_X11_26 rfl hv3 dX11_findRows_223 ?_
      refine aw_iload C 4 dX11_findRows_226 rfl ?_
      obtain ⟨v4, hv4, h⟩ := bindE h
      refine aw_aJ C hv4 dX11_findRows_228 ?_
      obtain ⟨μ5, hμ5, h⟩ := bindE h
      refine aw_sJ C hμ5 dX11_findRows_229 ?_
      refine aw_aload_n C 0 dX11_findRows_230 rfl rfl ?_
      obtain ⟨v6, hv6, h⟩ := bindE h
      refine aw_gR C fl_X11_29 rfl hv6 dX11_findRows_231 ?_
      refine aw_iload C 4 dX11_findRows_234 rfl ?_
      refine aw_aload_n C 0 dX11_findRows_236 rfl rfl ?_
      obtain ⟨v7, hv7, h⟩ := bindE h
      refine aw_gR C fl_X11_32 rfl hv7 dX11_findRows_237 ?_
      refine aw_iload C 4 dX11_findRows_240 rfl ?_
      obtain ⟨v8, hv8, h⟩ := bindE h
      refine aw_aI C hv8 dX11_findRows_242 ?_
      obtain ⟨μ9, hμ9, h⟩ := bindE h
      refine aw_sI C hμ9 dX11_findRows_243 ?_
      refine aw_iinc C (x5 + 1) 4 [(5, .int (x5 + 1)), (0, .ref (gZ G + a0)), (1, .int x1), (2, .int x2), (4, .int x4)] dX11_findRows_244 rfl rfl (by decide) rfl ?_
      refine aw_goto C 210 dX11_findRows_247 (by decide) ?_
      exact aw_sub [1, 2, 3, 4, 0] rfl (ih _ _ _ h kx)
set_option maxRecDepth 100000 in
set_option maxHeartbeats 4000000 in
theorem X11_findRows_L84_ok {G : GL} {X : CX} (C : Ctx G X cX11_findRows 8 RX11 rm_X11_findRows) (a0 : Nat) (x1 : Int32) (x2 : Int32) : ∀ (n : Nat) (x4 : Int32) (μ : Mem) (z : Int32 × Mem), X11_findRows_L84 a0 x1 x2 n x4 μ = some z → AW G 8 X 0 0 256 [(0, .ref (gZ G + a0)), (1, .int x1), (2, .int x2), (4, .int z.1)] [] z.2 → AW G 8 X 0 0 84 [(0, .ref (gZ G + a0)), (1, .int x1), (2, .int x2), (4, .int x4)] [] μ := by
  intro n
  induction n with
  | zero =>
    intro x4 μ z h kx
    rw [X11_findRows_L84] at h
    cases h
  | succ n ih =>
    intro x4 μ z h kx
    rw [X11_findRows_L84] at h
    refine aw_iload C 3 dX11_findRows_84 rfl ?_
    refine aw_iload_n C 2 dX11_findRows_86 rfl rfl ?_
    refine aw_icmp_gt C 256 dX11_findRows_87 (by decide) (fun c1 => ?_) (fun c1 => ?_)
    · rw [if_pos c1] at h
      have e9 := inj1 h
      subst e9
      exact aw_sub [0, 1, 2, 3] rfl kx
    · rw [if_neg c1] at h
      refine aw_iconst C 0 dX11_findRows_90 (by decide) ?_
      refine aw_istore C [(5, .int 0), (0, .ref (gZ G + a0)), (1, .int x1), (2, .int x2), (4, .int x4)] dX11_findRows_91 (by decide) rfl ?_
      obtain ⟨z2, hz2, h⟩ := bindE h
      refine aw_sub [1, 2, 3, 4, 0] rfl ?_
      refine X11_findRows_L93_ok C _ _ _ _ _ _ _ _ hz2 ?_
      refine aw_iconst C 0 dX11_findRows_207 (by decide) ?_
      refine aw_istore C [(5, .int 0), (0, .ref (gZ G + a0)), (1, .int x1), (2, .int x2), (4, .int x4)] dX11_findRows_208 (by decide) rfl ?_
      obtain ⟨z3, hz3, h⟩ := bindE h
      refine aw_sub [1, 2, 3, 4, 0] rfl ?_
      refine X11_findRows_L210_ok C _ _ _ _ _ _ _ _ hz3 ?_
      refine aw_iinc C (x4 + 1) 3 [(4, .int (x4 + 1)), (0, .ref (gZ G + a0)), (1, .int x1), (2, .int x2), (5, .int z3.1)] dX11_findRows_250 rfl rfl (by decide) rfl ?_
      refine aw_goto C 84 dX11_findRows_253 (by decide) ?_
      exact aw_sub [1, 2, 3, 0] rfl (ih _ _ _ h kx)
set_option maxRecDepth 100000 in
set_option maxHeartbeats 4000000 in
theorem wk_X11_findRows {G : GL} {X : CX} {a0 : Nat} {x1 : Int32} {x2 : Int32} {μ : Mem} {μ' : Mem} (C : Ctx G X cX11_findRows 8 RX11 rm_X11_findRows) (h : X11_findRows a0 x1 x2 μ = some μ') (hret : RtV G 8 X cX11_findRows 0 0 μ') : AW G 8 X 0 0 0 [(0, .ref (gZ G + a0)), (1, .int x1), (2, .int x2)] [] μ := by
  unfold X11_findRows at h
  refine aw_iload_n C 2 dX11_findRows_0 rfl rfl ?_
  refine aw_bipush C 6 dX11_findRows_1 (by decide) ?_
  obtain ⟨v2, ev2, h⟩ := bindS h
  have kj3 : AW G 8 X 0 0 14 [(0, .ref (gZ G + a0)), (1, .int x1), (2, .int x2)] [.int v2] μ := by
    refine aw_istore_n C [(3, .int v2), (0, .ref (gZ G + a0)), (1, .int x1), (2, .int x2)] dX11_findRows_14 rfl (by decide) rfl ?_
    refine aw_iconst C 0 dX11_findRows_15 (by decide) ?_
    refine aw_istore C [(4, .int 0), (3, .int v2), (0, .ref (gZ G + a0)), (1, .int x1), (2, .int x2)] dX11_findRows_16 (by decide) rfl ?_
    obtain ⟨z3, hz3, h⟩ := bindE h
    refine aw_sub [2, 3, 4, 1, 0] rfl ?_
    refine X11_findRows_L18_ok C _ _ _ _ _ _ _ _ hz3 ?_
    refine aw_iload_n C 3 dX11_findRows_79 rfl rfl ?_
    refine aw_iconst C 1 dX11_findRows_80 (by decide) ?_
    refine aw_iadd C dX11_findRows_81 ?_
    obtain ⟨v4, ev4, h⟩ := bindS h
    refine aw_topi ev4 ?_
    refine aw_istore C [(4, .int v4), (0, .ref (gZ G + a0)), (1, .int x1), (2, .int x2), (3, .int v2)] dX11_findRows_82 (by decide) rfl ?_
    obtain ⟨z5, hz5, h⟩ := bindE h
    refine aw_sub [1, 2, 3, 0] rfl ?_
    refine X11_findRows_L84_ok C _ _ _ _ _ _ _ hz5 ?_
    have e9 := inj1 h
    subst e9
    exact hret _ _ dX11_findRows_256
  clear h
  refine aw_icmp_ge C 10 dX11_findRows_3 (by decide) (fun c1 => ?_) (fun c1 => ?_)
  · refine aw_iload_n C 2 dX11_findRows_10 rfl rfl ?_
    refine aw_bipush C 6 dX11_findRows_11 (by decide) ?_
    refine aw_isub C dX11_findRows_13 ?_
    rw [if_pos c1] at ev2
    subst ev2
    exact aw_sub [0, 1, 2] rfl kj3
  · refine aw_iconst C 0 dX11_findRows_6 (by decide) ?_
    refine aw_goto C 14 dX11_findRows_7 (by decide) ?_
    rw [if_neg c1] at ev2
    subst ev2
    exact aw_sub [0, 1, 2] rfl kj3
set_option maxRecDepth 100000 in
set_option maxHeartbeats 4000000 in
theorem mt_X11_findRows {G : GL} {l : Launch} {a0 : Nat} {x1 : Int32} {x2 : Int32} {μ : Mem} {μ' : Mem} (h : X11_findRows a0 x1 x2 μ = some μ') : MtV G l yX11_findRows cX11_findRows 8 none rm_X11_findRows false [.ref (gZ G + a0), .int x1, .int x2] μ μ' := met_V (by decide) rfl (Nat.le_of_ble_eq_true rfl) (fun X _ C _ _ hret => wk_X11_findRows C h hret)
set_option maxRecDepth 100000 in
set_option maxHeartbeats 4000000 in
theorem X11_findOdds_L38_ok {G : GL} {X : CX} (C : Ctx G X cX11_findOdds 10 RX11 rm_X11_findOdds) (a0 : Nat) (x3 : Int32) (j4 : Int64) : ∀ (n : Nat) (x6 : Int32) (μ : Mem) (z : Int32 × Mem), X11_findOdds_L38 a0 x3 j4 n x6 μ = some z → AW G 10 X 0 0 83 [(0, .ref (gZ G + a0)), (3, .int x3), (4, .long j4), (6, .int z.1)] [] z.2 → AW G 10 X 0 0 38 [(0, .ref (gZ G + a0)), (3, .int x3), (4, .long j4), (6, .int x6)] [] μ := by
  intro n
  induction n with
  | zero =>
    intro x6 μ z h kx
    rw [X11_findOdds_L38] at h
    cases h
  | succ n ih =>
    intro x6 μ z h kx
    rw [X11_findOdds_L38] at h
    refine aw_iload C 3 dX11_findOdds_38 rfl ?_
    refine aw_iconst C 4 dX11_findOdds_40 (by decide) ?_
    refine aw_icmp_ge C 83 dX11_findOdds_41 (by decide) (fun c1 => ?_) (fun c1 => ?_)
    · rw [if_pos c1] at h
      have e9 := inj1 h
      subst e9
      exact aw_sub [0, 1, 2, 3] rfl kx
    · rw [if_neg c1] at h
      refine aw_aload_n C 0 dX11_findOdds_44 rfl rfl ?_
      obtain ⟨v2, hv2, h⟩ := bindE h
      refine aw_gR C fl_X11_35 rfl hv2 dX11_findOdds_45 ?_
      refine aw_iload C 3 dX11_findOdds_48 rfl ?_
      refine aw_lload C 2 dX11_findOdds_50 rfl ?_
      refine aw_lconst C 0 dX11_findOdds_52 (by decide) ?_
      refine aw_lcmp C dX11_findOdds_53 ?_
      obtain ⟨z7, hz7, h⟩ := bindE h
      have kj54 : AW G 10 X 0 0 76 [(0, .ref (gZ G + a0)), (3, .int x3), (4, .long j4), (6, .int x6)] [.int z7, .int x6, .ref (gZ G + v2)] μ := by
        obtain ⟨μ8, hμ8, h⟩ := bindE h
        refine aw_sI C hμ8 dX11_findOdds_76 ?_
        refine aw_iinc C (x6 + 1) 3 [(6, .int (x6 + 1)), (0, .ref (gZ G + a0)), (3, .int x3), (4, .long j4)] dX11_findOdds_77 rfl rfl (by decide) rfl ?_
        refine aw_goto C 38 dX11_findOdds_80 (by decide) ?_
        exact aw_sub [1, 2, 3, 0] rfl (ih _ _ _ h kx)
      replace h := hz7
      refine aw_if_ne C 61 dX11_findOdds_54 (by decide) (fun c3 => ?_) (fun c3 => ?_)
      · rw [if_neg c3] at h
        refine aw_aload_n C 0 dX11_findOdds_61 rfl rfl ?_
        obtain ⟨v4, hv4, h⟩ := bindE h
        refine aw_gR C fl_X11_22 rfl hv4 dX11_findOdds_62 ?_
        refine aw_iload C 3 dX11_findOdds_65 rfl ?_
        obtain ⟨v5, hv5, h⟩ := bindE h
        refine aw_aJ C hv5 dX11_findOdds_67 ?_
        refine aw_ldc2 C kl_X11_171 dX11_findOdds_68 ?_
        refine aw_lmul C dX11_findOdds_71 ?_
        refine aw_lload C 2 dX11_findOdds_72 rfl ?_
        obtain ⟨v6, hv6, h⟩ := bindE h
        refine aw_ldiv C hv6 dX11_findOdds_74 ?_
        refine aw_l2i C dX11_findOdds_75 ?_
        have e9 := inj1 h
        subst e9
        exact aw_sub [0, 1, 2, 3] rfl kj54
      · rw [if_pos c3] at h
        refine aw_iconst C 0 dX11_findOdds_57 (by decide) ?_
        refine aw_goto C 76 dX11_findOdds_58 (by decide) ?_
        have e9 := inj1 h
        subst e9
        exact aw_sub [0, 1, 2, 3] rfl kj54
set_option maxRecDepth 100000 in
set_option maxHeartbeats 4000000 in
theorem X11_findOdds_L112_ok {G : GL} {X : CX} (C : Ctx G X cX11_findOdds 10 RX11 rm_X11_findOdds) (a0 : Nat) (x3 : Int32) (x6 : Int32) (x7 : Int32) : ∀ (n : Nat) (x8 : Int32) (μ : Mem) (z : Int32 × Mem), X11_findOdds_L112 a0 x3 x6 x7 n x8 μ = some z → AW G 10 X 0 0 213 [(0, .ref (gZ G + a0)), (3, .int x3), (6, .int x6), (7, .int x7), (8, .int z.1)] [] z.2 → AW G 10 X 0 0 112 [(0, .ref (gZ G + a0)), (3, .int x3), (6, .int x6), (7, .int x7), (8, .int x8)] [] μ := by
  intro n
  induction n with
  | zero =>
    intro x8 μ z h kx
    rw [X11_findOdds_L112] at h
    cases h
  | succ n ih =>
    intro x8 μ z h kx
    rw [X11_findOdds_L112] at h
    refine aw_iload C 4 dX11_findOdds_112 rfl ?_
    refine aw_iconst C 4 dX11_findOdds_114 (by decide) ?_
    refine aw_icmp_ge C 213 dX11_findOdds_115 (by decide) (fun c1 => ?_) (fun c1 => ?_)
    · rw [if_pos c1] at h
      have e9 := inj1 h
      subst e9
      exact aw_sub [0, 1, 2, 3, 4] rfl kx
    · rw [if_neg c1] at h
      refine aw_aload_n C 0 dX11_findOdds_118 rfl rfl ?_
      obtain ⟨v2, hv2, h⟩ := bindE h
      refine aw_gR C fl_X11_7 rfl hv2 dX11_findOdds_119 ?_
      refine aw_iconst C 4 dX11_findOdds_122 (by decide) ?_
      refine aw_iload C 4 dX11_findOdds_123 rfl ?_
      refine aw_imul C dX11_findOdds_125 ?_
      obtain ⟨v3, hv3, h⟩ := bindE h
      refine aw_aI C hv3 dX11_findOdds_126 ?_
      refine aw_aload_n C 0 dX11_findOdds_127 rfl rfl ?_
      obtain ⟨v4, hv4, h⟩ := bindE h
      refine aw_gR C fl_X11_7 rfl hv4 dX11_findOdds_128 ?_
      refine aw_iconst C 4 dX11_findOdds_131 (by decide) ?_
      refine aw_iload C 4 dX11_findOdds_132 rfl ?_
      refine aw_imul C dX11_findOdds_134 ?_
      refine aw_iconst C 1 dX11_findOdds_135 (by decide) ?_
      refine aw_iadd C dX11_findOdds_136 ?_
      obtain ⟨v5, hv5, h⟩ := bindE h
      refine aw_aI C hv5 dX11_findOdds_137 ?_
      refine aw_iadd C dX11_findOdds_138 ?_
      refine aw_aload_n C 0 dX11_findOdds_139 rfl rfl ?_
      obtain ⟨v6, hv6, h⟩ := bindE h
      refine aw_gR C fl_X11_7 rfl hv6 dX11_findOdds_140 ?_
      refine aw_iconst C 4 dX11_findOdds_143 (by decide) ?_
      refine aw_iload C 4 dX11_findOdds_144 rfl ?_
      refine aw_imul C dX11_findOdds_146 ?_
      refine aw_iconst C 2 dX11_findOdds_147 (by decide) ?_
      refine aw_iadd C dX11_findOdds_148 ?_
      obtain ⟨v7, hv7, h⟩ := bindE h
      refine aw_aI C hv7 dX11_findOdds_149 ?_
      refine aw_iadd C dX11_findOdds_150 ?_
      refine aw_aload_n C 0 dX11_findOdds_151 rfl rfl ?_
      obtain ⟨v8, hv8, h⟩ := bindE h
      refine aw_gR C fl_X11_7 rfl hv8 dX11_findOdds_152 ?_
      refine aw_iconst C 4 dX11_findOdds_155 (by decide) ?_
      refine aw_iload C 4 dX11_findOdds_156 rfl ?_
      refine aw_imul C dX11_findOdds_158 ?_
      refine aw_iconst C 3 dX11_findOdds_159 (by decide) ?_
      refine aw_iadd C dX11_findOdds_160 ?_
      obtain ⟨v9, hv9, h⟩ := bindE h
      refine aw_aI C hv9 dX11_findOdds_161 ?_
      refine aw_iadd C dX11_findOdds_162 ?_
      obtain ⟨v10, ev10, h⟩ := bindS h
      refine aw_topi ev10 ?_
      refine aw_istore C [(9, .int v10), (0, .ref (gZ G + a0)), (3, .int x3), (6, .int x6), (7, .int x7), (8, .int x8)] dX11_findOdds_163 (by decide) rfl ?_
      refine aw_aload_n C 1 dX11_findOdds_165 rfl rfl ?_
      obtain ⟨v11, hv11, h⟩ := bindE h
      refine aw_gR C fl_X11_38 rfl hv11 dX11_findOdds_166 ?_
      refine aw_iload C 4 dX11_findOdds_169 rfl ?_
      refine aw_dup2 C dX11_findOdds_171 rfl rfl ?_
      obtain ⟨v12, hv12, h⟩ := bindE h
      refine aw_aI C hv12 dX11_findOdds_172 ?_
      refine aw_iload C 0 dX11_findOdds_173 rfl ?_
      obtain ⟨z19, hz19, h⟩ := bindE h
      have kj175 : AW G 10 X 0 0 205 [(0, .ref (gZ G + a0)), (3, .int x3), (6, .int x6), (7, .int x7), (8, .int x8)] [.int z19, .int v12, .int x7, .ref (gZ G + v11)] μ := by
        refine aw_iadd C dX11_findOdds_205 ?_
        obtain ⟨μ20, hμ20, h⟩ := bindE h
        refine aw_sI C hμ20 dX11_findOdds_206 ?_
        refine aw_iinc C (x8 + 1) 4 [(8, .int (x8 + 1)), (0, .ref (gZ G + a0)), (3, .int x3), (6, .int x6), (7, .int x7)] dX11_findOdds_207 rfl rfl (by decide) rfl ?_
        refine aw_goto C 112 dX11_findOdds_210 (by decide) ?_
        exact aw_sub [1, 2, 3, 4, 0] rfl (ih _ _ _ h kx)
      replace h := hz19
      refine aw_if_ne C 182 dX11_findOdds_175 (by decide) (fun c13 => ?_) (fun c13 => ?_)
      · rw [if_neg c13] at h
        refine aw_aload_n C 1 dX11_findOdds_182 rfl rfl ?_
        obtain ⟨v14, hv14, h⟩ := bindE h
        refine aw_gR C fl_X11_35 rfl hv14 dX11_findOdds_183 ?_
        refine aw_iload C 5 dX11_findOdds_186 rfl ?_
        obtain ⟨v15, hv15, h⟩ := bindE h
        refine aw_aI C hv15 dX11_findOdds_188 ?_
        refine aw_aload_n C 1 dX11_findOdds_189 rfl rfl ?_
        obtain ⟨v16, hv16, h⟩ := bindE h
        refine aw_gR C fl_X11_7 rfl hv16 dX11_findOdds_190 ?_
        refine aw_iconst C 4 dX11_findOdds_193 (by decide) ?_
        refine aw_iload C 5 dX11_findOdds_194 rfl ?_
        refine aw_imul C dX11_findOdds_196 ?_
        refine aw_iload C 4 dX11_findOdds_197 rfl ?_
        refine aw_iadd C dX11_findOdds_199 ?_
        obtain ⟨v17, hv17, h⟩ := bindE h
        refine aw_aI C hv17 dX11_findOdds_200 ?_
        refine aw_imul C dX11_findOdds_201 ?_
        refine aw_iload C 0 dX11_findOdds_202 rfl ?_
        obtain ⟨v18, hv18, h⟩ := bindE h
        refine aw_idiv C hv18 dX11_findOdds_204 ?_
        have e9 := inj1 h
        subst e9
        exact aw_sub [1, 2, 3, 4, 5] rfl kj175
      · rw [if_pos c13] at h
        refine aw_iconst C 0 dX11_findOdds_178 (by decide) ?_
        refine aw_goto C 205 dX11_findOdds_179 (by decide) ?_
        have e9 := inj1 h
        subst e9
        exact aw_sub [1, 2, 3, 4, 5] rfl kj175
set_option maxRecDepth 100000 in
set_option maxHeartbeats 4000000 in
theorem X11_findOdds_L95_ok {G : GL} {X : CX} (C : Ctx G X cX11_findOdds 10 RX11 rm_X11_findOdds) (a0 : Nat) (x3 : Int32) (x6 : Int32) : ∀ (n : Nat) (x7 : Int32) (μ : Mem) (z : Int32 × Mem), X11_findOdds_L95 a0 x3 x6 n x7 μ = some z → AW G 10 X 0 0 219 [(0, .ref (gZ G + a0)), (3, .int x3), (6, .int x6), (7, .int z.1)] [] z.2 → AW G 10 X 0 0 95 [(0, .ref (gZ G + a0)), (3, .int x3), (6, .int x6), (7, .int x7)] [] μ := by
  intro n
  induction n with
  | zero =>
    intro x7 μ z h kx
    rw [X11_findOdds_L95] at h
    cases h
  | succ n ih =>
    intro x7 μ z h kx
    rw [X11_findOdds_L95] at h
    refine aw_iload C 3 dX11_findOdds_95 rfl ?_
    refine aw_iconst C 4 dX11_findOdds_97 (by decide) ?_
    refine aw_icmp_ge C 219 dX11_findOdds_98 (by decide) (fun c1 => ?_) (fun c1 => ?_)
    · rw [if_pos c1] at h
      have e9 := inj1 h
      subst e9
      exact aw_sub [0, 1, 2, 3] rfl kx
    · rw [if_neg c1] at h
      refine aw_aload_n C 0 dX11_findOdds_101 rfl rfl ?_
      obtain ⟨v2, hv2, h⟩ := bindE h
      refine aw_gR C fl_X11_38 rfl hv2 dX11_findOdds_102 ?_
      refine aw_iload C 3 dX11_findOdds_105 rfl ?_
      refine aw_iconst C 0 dX11_findOdds_107 (by decide) ?_
      obtain ⟨μ3, hμ3, h⟩ := bindE h
      refine aw_sI C hμ3 dX11_findOdds_108 ?_
      refine aw_iconst C 0 dX11_findOdds_109 (by decide) ?_
      refine aw_istore C [(8, .int 0), (0, .ref (gZ G + a0)), (3, .int x3), (6, .int x6), (7, .int x7)] dX11_findOdds_110 (by decide) rfl ?_
      obtain ⟨z4, hz4, h⟩ := bindE h
      refine aw_sub [1, 2, 3, 4, 0] rfl ?_
      refine X11_findOdds_L112_ok C _ _ _ _ _ _ _ _ hz4 ?_
      refine aw_iinc C (x7 + 1) 3 [(7, .int (x7 + 1)), (0, .ref (gZ G + a0)), (3, .int x3), (6, .int x6), (8, .int z4.1)] dX11_findOdds_213 rfl rfl (by decide) rfl ?_
      refine aw_goto C 95 dX11_findOdds_216 (by decide) ?_
      exact aw_sub [1, 2, 3, 0] rfl (ih _ _ _ h kx)
set_option maxRecDepth 100000 in
set_option maxHeartbeats 4000000 in
theorem X11_findOdds_L222_ok {G : GL} {X : CX} (C : Ctx G X cX11_findOdds 10 RX11 rm_X11_findOdds) (a0 : Nat) (x3 : Int32) (x6 : Int32) : ∀ (n : Nat) (x7 : Int32) (μ : Mem) (z : Int32 × Mem), X11_findOdds_L222 a0 x3 x6 n x7 μ = some z → AW G 10 X 0 0 248 [(0, .ref (gZ G + a0)), (3, .int x3), (6, .int x6), (7, .int z.1)] [] z.2 → AW G 10 X 0 0 222 [(0, .ref (gZ G + a0)), (3, .int x3), (6, .int x6), (7, .int x7)] [] μ := by
  intro n
  induction n with
  | zero =>
    intro x7 μ z h kx
    rw [X11_findOdds_L222] at h
    cases h
  | succ n ih =>
    intro x7 μ z h kx
    rw [X11_findOdds_L222] at h
    refine aw_iload C 3 dX11_findOdds_222 rfl ?_
    refine aw_iconst C 4 dX11_findOdds_224 (by decide) ?_
    refine aw_icmp_ge C 248 dX11_findOdds_225 (by decide) (fun c1 => ?_) (fun c1 => ?_)
    · rw [if_pos c1] at h
      have e9 := inj1 h
      subst e9
      exact aw_sub [0, 1, 2, 3] rfl kx
    · rw [if_neg c1] at h
      refine aw_aload_n C 0 dX11_findOdds_228 rfl rfl ?_
      obtain ⟨v2, hv2, h⟩ := bindE h
      refine aw_gR C fl_X11_35 rfl hv2 dX11_findOdds_229 ?_
      refine aw_iload C 3 dX11_findOdds_232 rfl ?_
      refine aw_aload_n C 0 dX11_findOdds_234 rfl rfl ?_
      obtain ⟨v3, hv3, h⟩ := bindE h
      refine aw_gR C fl_X11_38 rfl hv3 dX11_findOdds_235 ?_
      refine aw_iload C 3 dX11_findOdds_238 rfl ?_
      obtain ⟨v4, hv4, h⟩ := bindE h
      refine aw_aI C hv4 dX11_findOdds_240 ?_
      obtain ⟨μ5, hμ5, h⟩ := bindE h
      refine aw_sI C hμ5 dX11_findOdds_241 ?_
      refine aw_iinc C (x7 + 1) 3 [(7, .int (x7 + 1)), (0, .ref (gZ G + a0)), (3, .int x3), (6, .int x6)] dX11_findOdds_242 rfl rfl (by decide) rfl ?_
      refine aw_goto C 222 dX11_findOdds_245 (by decide) ?_
      exact aw_sub [1, 2, 3, 0] rfl (ih _ _ _ h kx)
set_option maxRecDepth 100000 in
set_option maxHeartbeats 4000000 in
theorem X11_findOdds_L86_ok {G : GL} {X : CX} (C : Ctx G X cX11_findOdds 10 RX11 rm_X11_findOdds) (a0 : Nat) (x3 : Int32) : ∀ (n : Nat) (x6 : Int32) (μ : Mem) (z : Int32 × Mem), X11_findOdds_L86 a0 x3 n x6 μ = some z → AW G 10 X 0 0 254 [(0, .ref (gZ G + a0)), (3, .int x3), (6, .int z.1)] [] z.2 → AW G 10 X 0 0 86 [(0, .ref (gZ G + a0)), (3, .int x3), (6, .int x6)] [] μ := by
  intro n
  induction n with
  | zero =>
    intro x6 μ z h kx
    rw [X11_findOdds_L86] at h
    cases h
  | succ n ih =>
    intro x6 μ z h kx
    rw [X11_findOdds_L86] at h
    refine aw_iload C 2 dX11_findOdds_86 rfl ?_
    refine aw_iload_n C 1 dX11_findOdds_88 rfl rfl ?_
    refine aw_icmp_ge C 254 dX11_findOdds_89 (by decide) (fun c1 => ?_) (fun c1 => ?_)
    · rw [if_pos c1] at h
      have e9 := inj1 h
      subst e9
      exact aw_sub [0, 1, 2] rfl kx
    · rw [if_neg c1] at h
      refine aw_iconst C 0 dX11_findOdds_92 (by decide) ?_
      refine aw_istore C [(7, .int 0), (0, .ref (gZ G + a0)), (3, .int x3), (6, .int x6)] dX11_findOdds_93 (by decide) rfl ?_
      obtain ⟨z2, hz2, h⟩ := bindE h
      refine aw_sub [1, 2, 3, 0] rfl ?_
      refine X11_findOdds_L95_ok C _ _ _ _ _ _ _ hz2 ?_
      refine aw_iconst C 0 dX11_findOdds_219 (by decide) ?_
      refine aw_istore C [(7, .int 0), (0, .ref (gZ G + a0)), (3, .int x3), (6, .int x6)] dX11_findOdds_220 (by decide) rfl ?_
      obtain ⟨z3, hz3, h⟩ := bindE h
      refine aw_sub [1, 2, 3, 0] rfl ?_
      refine X11_findOdds_L222_ok C _ _ _ _ _ _ _ hz3 ?_
      refine aw_iinc C (x6 + 1) 2 [(6, .int (x6 + 1)), (0, .ref (gZ G + a0)), (3, .int x3), (7, .int z3.1)] dX11_findOdds_248 rfl rfl (by decide) rfl ?_
      refine aw_goto C 86 dX11_findOdds_251 (by decide) ?_
      exact aw_sub [1, 2, 0] rfl (ih _ _ _ h kx)
set_option maxRecDepth 100000 in
set_option maxHeartbeats 4000000 in
theorem wk_X11_findOdds {G : GL} {X : CX} {a0 : Nat} {x1 : Int32} {x2 : Int32} {x3 : Int32} {μ : Mem} {μ' : Mem} (C : Ctx G X cX11_findOdds 10 RX11 rm_X11_findOdds) (h : X11_findOdds a0 x1 x2 x3 μ = some μ') (hret : RtV G 10 X cX11_findOdds 0 0 μ') : AW G 10 X 0 0 0 [(0, .ref (gZ G + a0)), (1, .int x1), (2, .int x2), (3, .int x3)] [] μ := by
  unfold X11_findOdds at h
  refine aw_aload_n C 0 dX11_findOdds_0 rfl rfl ?_
  refine aw_iload_n C 1 dX11_findOdds_1 rfl rfl ?_
  refine aw_iload_n C 2 dX11_findOdds_2 rfl rfl ?_
  obtain ⟨g1, hg1, h⟩ := bindE h
  obtain ⟨μ2, hμ2, h⟩ := bindE h
  refine aw_cV_V C [.int x1, .int x2] _ (mt_X11_findRows hμ2) cs_X11_findRows ml_X11_167 im_X11_findRows se_X11_findRows (ci := 11) rfl rfl hg1 ⟨by decide, by decide⟩ ⟨rfl, rfl⟩ ⟨Nat.zero_le _, Nat.zero_le _⟩ rfl rfl (Nat.le_of_ble_eq_true rfl) dX11_findOdds_3 ?_
  refine aw_aload_n C 0 dX11_findOdds_6 rfl rfl ?_
  obtain ⟨v3, hv3, h⟩ := bindE h
  refine aw_gR C fl_X11_22 rfl hv3 dX11_findOdds_7 ?_
  refine aw_iconst C 0 dX11_findOdds_10 (by decide) ?_
  obtain ⟨v4, hv4, h⟩ := bindE h
  refine aw_aJ C hv4 dX11_findOdds_11 ?_
  refine aw_aload_n C 0 dX11_findOdds_12 rfl rfl ?_
  obtain ⟨v5, hv5, h⟩ := bindE h
  refine aw_gR C fl_X11_22 rfl hv5 dX11_findOdds_13 ?_
  refine aw_iconst C 1 dX11_findOdds_16 (by decide) ?_
  obtain ⟨v6, hv6, h⟩ := bindE h
  refine aw_aJ C hv6 dX11_findOdds_17 ?_
  refine aw_ladd C dX11_findOdds_18 ?_
  refine aw_aload_n C 0 dX11_findOdds_19 rfl rfl ?_
  obtain ⟨v7, hv7, h⟩ := bindE h
  refine aw_gR C fl_X11_22 rfl hv7 dX11_findOdds_20 ?_
  refine aw_iconst C 2 dX11_findOdds_23 (by decide) ?_
  obtain ⟨v8, hv8, h⟩ := bindE h
  refine aw_aJ C hv8 dX11_findOdds_24 ?_
  refine aw_ladd C dX11_findOdds_25 ?_
  refine aw_aload_n C 0 dX11_findOdds_26 rfl rfl ?_
  obtain ⟨v9, hv9, h⟩ := bindE h
  refine aw_gR C fl_X11_22 rfl hv9 dX11_findOdds_27 ?_
  refine aw_iconst C 3 dX11_findOdds_30 (by decide) ?_
  obtain ⟨v10, hv10, h⟩ := bindE h
  refine aw_aJ C hv10 dX11_findOdds_31 ?_
  refine aw_ladd C dX11_findOdds_32 ?_
  obtain ⟨v11, ev11, h⟩ := bindS h
  refine aw_topj ev11 ?_
  refine aw_lstore C [(4, .long v11), (0, .ref (gZ G + a0)), (1, .int x1), (2, .int x2), (3, .int x3)] dX11_findOdds_33 (by decide) rfl ?_
  refine aw_iconst C 0 dX11_findOdds_35 (by decide) ?_
  refine aw_istore C [(6, .int 0), (4, .long v11), (0, .ref (gZ G + a0)), (1, .int x1), (2, .int x2), (3, .int x3)] dX11_findOdds_36 (by decide) rfl ?_
  obtain ⟨z12, hz12, h⟩ := bindE h
  refine aw_sub [2, 5, 1, 0] rfl ?_
  refine X11_findOdds_L38_ok C _ _ _ _ _ _ _ hz12 ?_
  refine aw_iconst C 0 dX11_findOdds_83 (by decide) ?_
  refine aw_istore C [(6, .int 0), (0, .ref (gZ G + a0)), (3, .int x3), (4, .long v11)] dX11_findOdds_84 (by decide) rfl ?_
  obtain ⟨z13, hz13, h⟩ := bindE h
  refine aw_sub [1, 2, 0] rfl ?_
  refine X11_findOdds_L86_ok C _ _ _ _ _ _ hz13 ?_
  have e9 := inj1 h
  subst e9
  exact hret _ _ dX11_findOdds_254
set_option maxRecDepth 100000 in
set_option maxHeartbeats 4000000 in
theorem mt_X11_findOdds {G : GL} {l : Launch} {a0 : Nat} {x1 : Int32} {x2 : Int32} {x3 : Int32} {μ : Mem} {μ' : Mem} (h : X11_findOdds a0 x1 x2 x3 μ = some μ') : MtV G l yX11_findOdds cX11_findOdds 10 none rm_X11_findOdds false [.ref (gZ G + a0), .int x1, .int x2, .int x3] μ μ' := met_V (by decide) rfl (Nat.le_of_ble_eq_true rfl) (fun X _ C _ _ hret => wk_X11_findOdds C h hret)
set_option maxRecDepth 100000 in
set_option maxHeartbeats 4000000 in
theorem X11_seamOdds_L13_ok {G : GL} {X : CX} (C : Ctx G X cX11_seamOdds 6 RX11 rm_X11_seamOdds) (a0 : Nat) (μ : Mem) : ∀ (n : Nat) (x4 : Int32) (x5 : Int32) (z : Int32 × Int32), X11_seamOdds_L13 a0 μ n x4 x5 = some z → AW G 6 X 0 0 47 [(0, .ref (gZ G + a0)), (4, .int z.1), (5, .int z.2)] [] μ → AW G 6 X 0 0 13 [(0, .ref (gZ G + a0)), (4, .int x4), (5, .int x5)] [] μ := by
  intro n
  induction n with
  | zero =>
    intro x4 x5 z h kx
    rw [X11_seamOdds_L13] at h
    cases h
  | succ n ih =>
    intro x4 x5 z h kx
    rw [X11_seamOdds_L13] at h
    refine aw_iload C 2 dX11_seamOdds_13 rfl ?_
    refine aw_iconst C 4 dX11_seamOdds_15 (by decide) ?_
    refine aw_icmp_ge C 47 dX11_seamOdds_16 (by decide) (fun c1 => ?_) (fun c1 => ?_)
    · rw [if_pos c1] at h
      have e9 := inj1 h
      subst e9
      exact aw_sub [0, 1, 2] rfl kx
    · rw [if_neg c1] at h
      refine aw_iload C 1 dX11_seamOdds_19 rfl ?_
      refine aw_aload_n C 0 dX11_seamOdds_21 rfl rfl ?_
      obtain ⟨v2, hv2, h⟩ := bindE h
      refine aw_gI C fl_X11_150 rfl hv2 dX11_seamOdds_22 ?_
      refine aw_iload C 2 dX11_seamOdds_25 rfl ?_
      refine aw_ishr C dX11_seamOdds_27 ?_
      refine aw_iconst C 1 dX11_seamOdds_28 (by decide) ?_
      refine aw_iand C dX11_seamOdds_29 ?_
      refine aw_aload_n C 0 dX11_seamOdds_30 rfl rfl ?_
      obtain ⟨v3, hv3, h⟩ := bindE h
      refine aw_gR C fl_X11_35 rfl hv3 dX11_seamOdds_31 ?_
      refine aw_iload C 2 dX11_seamOdds_34 rfl ?_
      obtain ⟨v4, hv4, h⟩ := bindE h
      refine aw_aI C hv4 dX11_seamOdds_36 ?_
      refine aw_imul C dX11_seamOdds_37 ?_
      refine aw_iadd C dX11_seamOdds_38 ?_
      obtain ⟨v5, ev5, h⟩ := bindS h
      refine aw_topi ev5 ?_
      refine aw_istore C [(4, .int v5), (0, .ref (gZ G + a0)), (5, .int x5)] dX11_seamOdds_39 (by decide) rfl ?_
      refine aw_iinc C (x5 + 1) 2 [(5, .int (x5 + 1)), (4, .int v5), (0, .ref (gZ G + a0))] dX11_seamOdds_41 rfl rfl (by decide) rfl ?_
      refine aw_goto C 13 dX11_seamOdds_44 (by decide) ?_
      exact aw_sub [2, 1, 0] rfl (ih _ _ _ h kx)
set_option maxRecDepth 100000 in
set_option maxHeartbeats 4000000 in
theorem wk_X11_seamOdds {G : GL} {X : CX} {a0 : Nat} {x1 : Int32} {x2 : Int32} {x3 : Int32} {μ : Mem} {r : Int32} {μ' : Mem} (C : Ctx G X cX11_seamOdds 6 RX11 rm_X11_seamOdds) (h : X11_seamOdds a0 x1 x2 x3 μ = some (r, μ')) (hret : RtI G 6 X cX11_seamOdds 0 0 r μ') : AW G 6 X 0 0 0 [(0, .ref (gZ G + a0)), (1, .int x1), (2, .int x2), (3, .int x3)] [] μ := by
  unfold X11_seamOdds at h
  refine aw_aload_n C 0 dX11_seamOdds_0 rfl rfl ?_
  refine aw_iload_n C 1 dX11_seamOdds_1 rfl rfl ?_
  refine aw_iload_n C 2 dX11_seamOdds_2 rfl rfl ?_
  refine aw_iload_n C 3 dX11_seamOdds_3 rfl rfl ?_
  obtain ⟨g1, hg1, h⟩ := bindE h
  obtain ⟨μ2, hμ2, h⟩ := bindE h
  refine aw_cV_V C [.int x1, .int x2, .int x3] _ (mt_X11_findOdds hμ2) cs_X11_findOdds ml_X11_173 im_X11_findOdds se_X11_findOdds (ci := 11) rfl rfl hg1 ⟨by decide, by decide⟩ ⟨rfl, rfl⟩ ⟨Nat.zero_le _, Nat.zero_le _⟩ rfl rfl (Nat.le_of_ble_eq_true rfl) dX11_seamOdds_4 ?_
  refine aw_iconst C 0 dX11_seamOdds_7 (by decide) ?_
  refine aw_istore C [(4, .int 0), (0, .ref (gZ G + a0)), (1, .int x1), (2, .int x2), (3, .int x3)] dX11_seamOdds_8 (by decide) rfl ?_
  refine aw_iconst C 0 dX11_seamOdds_10 (by decide) ?_
  refine aw_istore C [(5, .int 0), (4, .int 0), (0, .ref (gZ G + a0)), (1, .int x1), (2, .int x2), (3, .int x3)] dX11_seamOdds_11 (by decide) rfl ?_
  obtain ⟨z3, hz3, h⟩ := bindE h
  refine aw_sub [2, 1, 0] rfl ?_
  refine X11_seamOdds_L13_ok C _ _ _ _ _ _ hz3 ?_
  refine aw_iload C 1 dX11_seamOdds_47 rfl ?_
  obtain ⟨e8, e9⟩ := inj2 h
  subst e8
  subst e9
  exact hret _ _ dX11_seamOdds_49
set_option maxRecDepth 100000 in
set_option maxHeartbeats 4000000 in
theorem mt_X11_seamOdds {G : GL} {l : Launch} {a0 : Nat} {x1 : Int32} {x2 : Int32} {x3 : Int32} {μ : Mem} {r : Int32} {μ' : Mem} (h : X11_seamOdds a0 x1 x2 x3 μ = some (r, μ')) : MtI G l yX11_seamOdds cX11_seamOdds 6 (some .int) rm_X11_seamOdds false [.ref (gZ G + a0), .int x1, .int x2, .int x3] μ r μ' := met_I (by decide) rfl rfl (Nat.le_of_ble_eq_true rfl) (fun X _ C _ _ hret => wk_X11_seamOdds C h hret)
set_option maxRecDepth 100000 in
set_option maxHeartbeats 4000000 in
theorem wk_X11_fits {G : GL} {X : CX} {a0 : Nat} {x1 : Int32} {x2 : Int32} {μ : Mem} {r : Int32} {μ' : Mem} (C : Ctx G X cX11_fits 3 RX11 rm_X11_fits) (h : X11_fits a0 x1 x2 μ = some (r, μ')) (hret : RtI G 3 X cX11_fits 0 0 r μ') : AW G 3 X 0 0 0 [(0, .ref (gZ G + a0)), (1, .int x1), (2, .int x2)] [] μ := by
  unfold X11_fits at h
  refine aw_iload_n C 1 dX11_fits_0 rfl rfl ?_
  refine aw_cS_I C [.int x1] _ (mt_X11_isPerson _) cs_X11_isPerson ml_X11_153 st_X11_isPerson ⟨by decide, by decide⟩ ⟨rfl, rfl⟩ ⟨Nat.zero_le _, Nat.zero_le _⟩ rfl rfl (Nat.le_of_ble_eq_true rfl) dX11_fits_1 ?_
  refine aw_if_ne C 11 dX11_fits_4 (by decide) (fun c1 => ?_) (fun c1 => ?_)
  · rw [if_neg c1] at h
    refine aw_iload_n C 2 dX11_fits_11 rfl rfl ?_
    refine aw_i2l C dX11_fits_12 ?_
    refine aw_lconst C 0 dX11_fits_13 (by decide) ?_
    refine aw_aload_n C 0 dX11_fits_14 rfl rfl ?_
    obtain ⟨v2, hv2, h⟩ := bindE h
    refine aw_gI C fl_X11_158 rfl hv2 dX11_fits_15 ?_
    refine aw_i2l C dX11_fits_18 ?_
    refine aw_cS_I C [.long x2.toInt64, .long 0, .long v2.toInt64] _ (mt_X11_in _ _ _) cs_X11_in ml_X11_138 st_X11_in ⟨by decide, by decide⟩ ⟨rfl, rfl⟩ ⟨Nat.zero_le _, Nat.zero_le _⟩ rfl rfl (Nat.le_of_ble_eq_true rfl) dX11_fits_19 ?_
    refine aw_if_ne C 29 dX11_fits_22 (by decide) (fun c3 => ?_) (fun c3 => ?_)
    · rw [if_neg c3] at h
      refine aw_aload_n C 0 dX11_fits_29 rfl rfl ?_
      refine aw_iload_n C 1 dX11_fits_30 rfl rfl ?_
      refine aw_iload_n C 2 dX11_fits_31 rfl rfl ?_
      obtain ⟨g4, hg4, h⟩ := bindE h
      obtain ⟨μ5, hμ5, h⟩ := bindE h
      refine aw_cV_V C [.int x1, .int x2] _ (mt_X11_findRows hμ5) cs_X11_findRows ml_X11_167 im_X11_findRows se_X11_findRows (ci := 11) rfl rfl hg4 ⟨by decide, by decide⟩ ⟨rfl, rfl⟩ ⟨Nat.zero_le _, Nat.zero_le _⟩ rfl rfl (Nat.le_of_ble_eq_true rfl) dX11_fits_32 ?_
      refine aw_aload_n C 0 dX11_fits_35 rfl rfl ?_
      obtain ⟨v6, hv6, h⟩ := bindE h
      refine aw_gR C fl_X11_29 rfl hv6 dX11_fits_36 ?_
      refine aw_iconst C 0 dX11_fits_39 (by decide) ?_
      obtain ⟨v7, hv7, h⟩ := bindE h
      refine aw_aI C hv7 dX11_fits_40 ?_
      refine aw_aload_n C 0 dX11_fits_41 rfl rfl ?_
      obtain ⟨v8, hv8, h⟩ := bindE h
      refine aw_gR C fl_X11_29 rfl hv8 dX11_fits_42 ?_
      refine aw_iconst C 1 dX11_fits_45 (by decide) ?_
      obtain ⟨v9, hv9, h⟩ := bindE h
      refine aw_aI C hv9 dX11_fits_46 ?_
      refine aw_iadd C dX11_fits_47 ?_
      refine aw_aload_n C 0 dX11_fits_48 rfl rfl ?_
      obtain ⟨v10, hv10, h⟩ := bindE h
      refine aw_gR C fl_X11_29 rfl hv10 dX11_fits_49 ?_
      refine aw_iconst C 2 dX11_fits_52 (by decide) ?_
      obtain ⟨v11, hv11, h⟩ := bindE h
      refine aw_aI C hv11 dX11_fits_53 ?_
      refine aw_iadd C dX11_fits_54 ?_
      refine aw_aload_n C 0 dX11_fits_55 rfl rfl ?_
      obtain ⟨v12, hv12, h⟩ := bindE h
      refine aw_gR C fl_X11_29 rfl hv12 dX11_fits_56 ?_
      refine aw_iconst C 3 dX11_fits_59 (by decide) ?_
      obtain ⟨v13, hv13, h⟩ := bindE h
      refine aw_aI C hv13 dX11_fits_60 ?_
      refine aw_iadd C dX11_fits_61 ?_
      obtain ⟨e8, e9⟩ := inj2 h
      subst e8
      subst e9
      exact hret _ _ dX11_fits_62
    · rw [if_pos c3] at h
      refine aw_sipush C ((-1002)) dX11_fits_25 (by decide) ?_
      obtain ⟨e8, e9⟩ := inj2 h
      subst e8
      subst e9
      exact hret _ _ dX11_fits_28
  · rw [if_pos c1] at h
    refine aw_sipush C ((-1001)) dX11_fits_7 (by decide) ?_
    obtain ⟨e8, e9⟩ := inj2 h
    subst e8
    subst e9
    exact hret _ _ dX11_fits_10
set_option maxRecDepth 100000 in
set_option maxHeartbeats 4000000 in
theorem mt_X11_fits {G : GL} {l : Launch} {a0 : Nat} {x1 : Int32} {x2 : Int32} {μ : Mem} {r : Int32} {μ' : Mem} (h : X11_fits a0 x1 x2 μ = some (r, μ')) : MtI G l yX11_fits cX11_fits 3 (some .int) rm_X11_fits false [.ref (gZ G + a0), .int x1, .int x2] μ r μ' := met_I (by decide) rfl rfl (Nat.le_of_ble_eq_true rfl) (fun X _ C _ _ hret => wk_X11_fits C h hret)
set_option maxRecDepth 100000 in
set_option maxHeartbeats 4000000 in
theorem wk_X11_odds {G : GL} {X : CX} {a0 : Nat} {x1 : Int32} {x2 : Int32} {x3 : Int32} {μ : Mem} {r : Int32} {μ' : Mem} (C : Ctx G X cX11_odds 4 RX11 rm_X11_odds) (h : X11_odds a0 x1 x2 x3 μ = some (r, μ')) (hret : RtI G 4 X cX11_odds 0 0 r μ') : AW G 4 X 0 0 0 [(0, .ref (gZ G + a0)), (1, .int x1), (2, .int x2), (3, .int x3)] [] μ := by
  unfold X11_odds at h
  refine aw_iload_n C 1 dX11_odds_0 rfl rfl ?_
  refine aw_cS_I C [.int x1] _ (mt_X11_isPerson _) cs_X11_isPerson ml_X11_153 st_X11_isPerson ⟨by decide, by decide⟩ ⟨rfl, rfl⟩ ⟨Nat.zero_le _, Nat.zero_le _⟩ rfl rfl (Nat.le_of_ble_eq_true rfl) dX11_odds_1 ?_
  refine aw_if_ne C 11 dX11_odds_4 (by decide) (fun c1 => ?_) (fun c1 => ?_)
  · rw [if_neg c1] at h
    refine aw_iload_n C 2 dX11_odds_11 rfl rfl ?_
    refine aw_cS_I C [.int x2] _ (mt_X11_isState _) cs_X11_isState ml_X11_142 st_X11_isState ⟨by decide, by decide⟩ ⟨rfl, rfl⟩ ⟨Nat.zero_le _, Nat.zero_le _⟩ rfl rfl (Nat.le_of_ble_eq_true rfl) dX11_odds_12 ?_
    refine aw_if_eq C 30 dX11_odds_15 (by decide) (fun c2 => ?_) (fun c2 => ?_)
    · rw [if_pos c2] at h
      refine aw_sipush C ((-1002)) dX11_odds_30 (by decide) ?_
      obtain ⟨e8, e9⟩ := inj2 h
      subst e8
      subst e9
      exact hret _ _ dX11_odds_33
    · rw [if_neg c2] at h
      refine aw_iload_n C 3 dX11_odds_18 rfl rfl ?_
      refine aw_i2l C dX11_odds_19 ?_
      refine aw_lconst C 0 dX11_odds_20 (by decide) ?_
      refine aw_ldc2 C kl_X11_177 dX11_odds_21 ?_
      refine aw_cS_I C [.long x3.toInt64, .long 0, .long 8] _ (mt_X11_in _ _ _) cs_X11_in ml_X11_138 st_X11_in ⟨by decide, by decide⟩ ⟨rfl, rfl⟩ ⟨Nat.zero_le _, Nat.zero_le _⟩ rfl rfl (Nat.le_of_ble_eq_true rfl) dX11_odds_24 ?_
      refine aw_if_ne C 34 dX11_odds_27 (by decide) (fun c3 => ?_) (fun c3 => ?_)
      · rw [if_neg c3] at h
        refine aw_aload_n C 0 dX11_odds_34 rfl rfl ?_
        refine aw_iload_n C 1 dX11_odds_35 rfl rfl ?_
        refine aw_aload_n C 0 dX11_odds_36 rfl rfl ?_
        obtain ⟨v4, hv4, h⟩ := bindE h
        refine aw_gI C fl_X11_158 rfl hv4 dX11_odds_37 ?_
        refine aw_iload_n C 3 dX11_odds_40 rfl rfl ?_
        obtain ⟨g5, hg5, h⟩ := bindE h
        obtain ⟨μ6, hμ6, h⟩ := bindE h
        refine aw_cV_V C [.int x1, .int v4, .int x3] _ (mt_X11_findOdds hμ6) cs_X11_findOdds ml_X11_173 im_X11_findOdds se_X11_findOdds (ci := 11) rfl rfl hg5 ⟨by decide, by decide⟩ ⟨rfl, rfl⟩ ⟨Nat.zero_le _, Nat.zero_le _⟩ rfl rfl (Nat.le_of_ble_eq_true rfl) dX11_odds_41 ?_
        refine aw_aload_n C 0 dX11_odds_44 rfl rfl ?_
        obtain ⟨v7, hv7, h⟩ := bindE h
        refine aw_gR C fl_X11_35 rfl hv7 dX11_odds_45 ?_
        refine aw_iload_n C 2 dX11_odds_48 rfl rfl ?_
        obtain ⟨v8, hv8, h⟩ := bindE h
        refine aw_aI C hv8 dX11_odds_49 ?_
        obtain ⟨e8, e9⟩ := inj2 h
        subst e8
        subst e9
        exact hret _ _ dX11_odds_50
      · rw [if_pos c3] at h
        refine aw_sipush C ((-1002)) dX11_odds_30 (by decide) ?_
        obtain ⟨e8, e9⟩ := inj2 h
        subst e8
        subst e9
        exact hret _ _ dX11_odds_33
  · rw [if_pos c1] at h
    refine aw_sipush C ((-1001)) dX11_odds_7 (by decide) ?_
    obtain ⟨e8, e9⟩ := inj2 h
    subst e8
    subst e9
    exact hret _ _ dX11_odds_10
set_option maxRecDepth 100000 in
set_option maxHeartbeats 4000000 in
theorem mt_X11_odds {G : GL} {l : Launch} {a0 : Nat} {x1 : Int32} {x2 : Int32} {x3 : Int32} {μ : Mem} {r : Int32} {μ' : Mem} (h : X11_odds a0 x1 x2 x3 μ = some (r, μ')) : MtI G l yX11_odds cX11_odds 4 (some .int) rm_X11_odds false [.ref (gZ G + a0), .int x1, .int x2, .int x3] μ r μ' := met_I (by decide) rfl rfl (Nat.le_of_ble_eq_true rfl) (fun X _ C _ _ hret => wk_X11_odds C h hret)
set_option maxRecDepth 100000 in
set_option maxHeartbeats 4000000 in
theorem wk_X11_seam {G : GL} {X : CX} {a0 : Nat} {x1 : Int32} {x2 : Int32} {μ : Mem} {r : Int32} {μ' : Mem} (C : Ctx G X cX11_seam 3 RX11 rm_X11_seam) (h : X11_seam a0 x1 x2 μ = some (r, μ')) (hret : RtI G 3 X cX11_seam 0 0 r μ') : AW G 3 X 0 0 0 [(0, .ref (gZ G + a0)), (1, .int x1), (2, .int x2)] [] μ := by
  unfold X11_seam at h
  refine aw_iload_n C 1 dX11_seam_0 rfl rfl ?_
  refine aw_cS_I C [.int x1] _ (mt_X11_isPerson _) cs_X11_isPerson ml_X11_153 st_X11_isPerson ⟨by decide, by decide⟩ ⟨rfl, rfl⟩ ⟨Nat.zero_le _, Nat.zero_le _⟩ rfl rfl (Nat.le_of_ble_eq_true rfl) dX11_seam_1 ?_
  refine aw_if_ne C 11 dX11_seam_4 (by decide) (fun c1 => ?_) (fun c1 => ?_)
  · rw [if_neg c1] at h
    refine aw_iload_n C 2 dX11_seam_11 rfl rfl ?_
    refine aw_i2l C dX11_seam_12 ?_
    refine aw_lconst C 0 dX11_seam_13 (by decide) ?_
    refine aw_ldc2 C kl_X11_177 dX11_seam_14 ?_
    refine aw_cS_I C [.long x2.toInt64, .long 0, .long 8] _ (mt_X11_in _ _ _) cs_X11_in ml_X11_138 st_X11_in ⟨by decide, by decide⟩ ⟨rfl, rfl⟩ ⟨Nat.zero_le _, Nat.zero_le _⟩ rfl rfl (Nat.le_of_ble_eq_true rfl) dX11_seam_17 ?_
    obtain ⟨z6, hz6, h⟩ := bindE h
    have kj20 : AW G 3 X 0 0 39 [] [.int z6.1] z6.2 := by
      obtain ⟨e8, e9⟩ := inj2 h
      subst e8
      subst e9
      exact hret _ _ dX11_seam_39
    replace h := hz6
    refine aw_if_eq C 36 dX11_seam_20 (by decide) (fun c2 => ?_) (fun c2 => ?_)
    · rw [if_pos c2] at h
      refine aw_sipush C ((-1002)) dX11_seam_36 (by decide) ?_
      have e9 := inj1 h
      subst e9
      exact aw_sub [] rfl kj20
    · rw [if_neg c2] at h
      refine aw_aload_n C 0 dX11_seam_23 rfl rfl ?_
      refine aw_iload_n C 1 dX11_seam_24 rfl rfl ?_
      refine aw_aload_n C 0 dX11_seam_25 rfl rfl ?_
      obtain ⟨v3, hv3, h⟩ := bindE h
      refine aw_gI C fl_X11_158 rfl hv3 dX11_seam_26 ?_
      refine aw_iload_n C 2 dX11_seam_29 rfl rfl ?_
      obtain ⟨g4, hg4, h⟩ := bindE h
      obtain ⟨z5, hz5, h⟩ := bindE h
      refine aw_cV_I C [.int x1, .int v3, .int x2] _ (mt_X11_seamOdds hz5) cs_X11_seamOdds ml_X11_179 im_X11_seamOdds se_X11_seamOdds (ci := 11) rfl rfl hg4 ⟨by decide, by decide⟩ ⟨rfl, rfl⟩ ⟨Nat.zero_le _, Nat.zero_le _⟩ rfl rfl (Nat.le_of_ble_eq_true rfl) dX11_seam_30 ?_
      refine aw_goto C 39 dX11_seam_33 (by decide) ?_
      have e9 := inj1 h
      subst e9
      exact aw_sub [] rfl kj20
  · rw [if_pos c1] at h
    refine aw_sipush C ((-1001)) dX11_seam_7 (by decide) ?_
    obtain ⟨e8, e9⟩ := inj2 h
    subst e8
    subst e9
    exact hret _ _ dX11_seam_10
set_option maxRecDepth 100000 in
set_option maxHeartbeats 4000000 in
theorem mt_X11_seam {G : GL} {l : Launch} {a0 : Nat} {x1 : Int32} {x2 : Int32} {μ : Mem} {r : Int32} {μ' : Mem} (h : X11_seam a0 x1 x2 μ = some (r, μ')) : MtI G l yX11_seam cX11_seam 3 (some .int) rm_X11_seam false [.ref (gZ G + a0), .int x1, .int x2] μ r μ' := met_I (by decide) rfl rfl (Nat.le_of_ble_eq_true rfl) (fun X _ C _ _ hret => wk_X11_seam C h hret)
set_option maxRecDepth 100000 in
set_option maxHeartbeats 4000000 in
theorem X11_until_L29_ok {G : GL} {X : CX} (C : Ctx G X cX11_until 4 RX11 rm_X11_until) {r : Int32} {μ' : Mem} (hret : RtI G 4 X cX11_until 0 0 r μ') (a0 : Nat) (x1 : Int32) (x2 : Int32) : ∀ (n : Nat) (x3 : Int32) (μ : Mem), X11_until_L29 a0 x1 x2 n x3 μ = some (r, μ') → AW G 4 X 0 0 29 [(0, .ref (gZ G + a0)), (1, .int x1), (2, .int x2), (3, .int x3)] [] μ := by
  intro n
  induction n with
  | zero =>
    intro x3 μ h
    rw [X11_until_L29] at h
    cases h
  | succ n ih =>
    intro x3 μ h
    rw [X11_until_L29] at h
    refine aw_iload_n C 3 dX11_until_29 rfl rfl ?_
    refine aw_bipush C 8 dX11_until_30 (by decide) ?_
    refine aw_icmp_gt C 57 dX11_until_32 (by decide) (fun c1 => ?_) (fun c1 => ?_)
    · rw [if_pos c1] at h
      refine aw_iconst C ((-1)) dX11_until_57 (by decide) ?_
      obtain ⟨e8, e9⟩ := inj2 h
      subst e8
      subst e9
      exact hret _ _ dX11_until_58
    · rw [if_neg c1] at h
      refine aw_aload_n C 0 dX11_until_35 rfl rfl ?_
      refine aw_iload_n C 1 dX11_until_36 rfl rfl ?_
      refine aw_aload_n C 0 dX11_until_37 rfl rfl ?_
      obtain ⟨v2, hv2, h⟩ := bindE h
      refine aw_gI C fl_X11_158 rfl hv2 dX11_until_38 ?_
      refine aw_iload_n C 3 dX11_until_41 rfl rfl ?_
      obtain ⟨g3, hg3, h⟩ := bindE h
      obtain ⟨z4, hz4, h⟩ := bindE h
      refine aw_cV_I C [.int x1, .int v2, .int x3] _ (mt_X11_seamOdds hz4) cs_X11_seamOdds ml_X11_179 im_X11_seamOdds se_X11_seamOdds (ci := 11) rfl rfl hg3 ⟨by decide, by decide⟩ ⟨rfl, rfl⟩ ⟨Nat.zero_le _, Nat.zero_le _⟩ rfl rfl (Nat.le_of_ble_eq_true rfl) dX11_until_42 ?_
      refine aw_iload_n C 2 dX11_until_45 rfl rfl ?_
      refine aw_icmp_lt C 51 dX11_until_46 (by decide) (fun c5 => ?_) (fun c5 => ?_)
      · rw [if_pos c5] at h
        refine aw_iinc C (x3 + 1) 3 [(3, .int (x3 + 1)), (0, .ref (gZ G + a0)), (1, .int x1), (2, .int x2)] dX11_until_51 rfl rfl (by decide) rfl ?_
        refine aw_goto C 29 dX11_until_54 (by decide) ?_
        exact aw_sub [1, 2, 3, 0] rfl (ih _ _ h)
      · rw [if_neg c5] at h
        refine aw_iload_n C 3 dX11_until_49 rfl rfl ?_
        obtain ⟨e8, e9⟩ := inj2 h
        subst e8
        subst e9
        exact hret _ _ dX11_until_50
set_option maxRecDepth 100000 in
set_option maxHeartbeats 4000000 in
theorem wk_X11_until {G : GL} {X : CX} {a0 : Nat} {x1 : Int32} {x2 : Int32} {μ : Mem} {r : Int32} {μ' : Mem} (C : Ctx G X cX11_until 4 RX11 rm_X11_until) (h : X11_until a0 x1 x2 μ = some (r, μ')) (hret : RtI G 4 X cX11_until 0 0 r μ') : AW G 4 X 0 0 0 [(0, .ref (gZ G + a0)), (1, .int x1), (2, .int x2)] [] μ := by
  unfold X11_until at h
  refine aw_iload_n C 1 dX11_until_0 rfl rfl ?_
  refine aw_cS_I C [.int x1] _ (mt_X11_isPerson _) cs_X11_isPerson ml_X11_153 st_X11_isPerson ⟨by decide, by decide⟩ ⟨rfl, rfl⟩ ⟨Nat.zero_le _, Nat.zero_le _⟩ rfl rfl (Nat.le_of_ble_eq_true rfl) dX11_until_1 ?_
  refine aw_if_ne C 11 dX11_until_4 (by decide) (fun c1 => ?_) (fun c1 => ?_)
  · rw [if_neg c1] at h
    refine aw_iload_n C 2 dX11_until_11 rfl rfl ?_
    refine aw_i2l C dX11_until_12 ?_
    refine aw_lconst C 0 dX11_until_13 (by decide) ?_
    refine aw_ldc2 C kl_X11_171 dX11_until_14 ?_
    refine aw_cS_I C [.long x2.toInt64, .long 0, .long 1000000] _ (mt_X11_in _ _ _) cs_X11_in ml_X11_138 st_X11_in ⟨by decide, by decide⟩ ⟨rfl, rfl⟩ ⟨Nat.zero_le _, Nat.zero_le _⟩ rfl rfl (Nat.le_of_ble_eq_true rfl) dX11_until_17 ?_
    refine aw_if_ne C 27 dX11_until_20 (by decide) (fun c2 => ?_) (fun c2 => ?_)
    · rw [if_neg c2] at h
      refine aw_iconst C 0 dX11_until_27 (by decide) ?_
      refine aw_istore_n C [(3, .int 0), (0, .ref (gZ G + a0)), (1, .int x1), (2, .int x2)] dX11_until_28 rfl (by decide) rfl ?_
      refine aw_sub [1, 2, 3, 0] rfl ?_
      exact X11_until_L29_ok C hret _ _ _ _ _ _ h
    · rw [if_pos c2] at h
      refine aw_sipush C ((-1002)) dX11_until_23 (by decide) ?_
      obtain ⟨e8, e9⟩ := inj2 h
      subst e8
      subst e9
      exact hret _ _ dX11_until_26
  · rw [if_pos c1] at h
    refine aw_sipush C ((-1001)) dX11_until_7 (by decide) ?_
    obtain ⟨e8, e9⟩ := inj2 h
    subst e8
    subst e9
    exact hret _ _ dX11_until_10
set_option maxRecDepth 100000 in
set_option maxHeartbeats 4000000 in
theorem mt_X11_until {G : GL} {l : Launch} {a0 : Nat} {x1 : Int32} {x2 : Int32} {μ : Mem} {r : Int32} {μ' : Mem} (h : X11_until a0 x1 x2 μ = some (r, μ')) : MtI G l yX11_until cX11_until 4 (some .int) rm_X11_until false [.ref (gZ G + a0), .int x1, .int x2] μ r μ' := met_I (by decide) rfl rfl (Nat.le_of_ble_eq_true rfl) (fun X _ C _ _ hret => wk_X11_until C h hret)
set_option maxRecDepth 100000 in
set_option maxHeartbeats 4000000 in
theorem wk_X11_isThing {G : GL} {X : CX} {a0 : Nat} {x1 : Int32} {μ : Mem} {r : Int32} (C : Ctx G X cX11_isThing 2 RX11 rm_X11_isThing) (h : X11_isThing a0 x1 μ = some r) (hret : RtZ G 2 X cX11_isThing 0 0 r μ) : AW G 2 X 0 0 0 [(0, .ref (gZ G + a0)), (1, .int x1)] [] μ := by
  unfold X11_isThing at h
  refine aw_iload_n C 1 dX11_isThing_0 rfl rfl ?_
  refine aw_i2l C dX11_isThing_1 ?_
  refine aw_lconst C 0 dX11_isThing_2 (by decide) ?_
  refine aw_aload_n C 0 dX11_isThing_3 rfl rfl ?_
  obtain ⟨v1, hv1, h⟩ := bindE h
  refine aw_gI C fl_X11_182 rfl hv1 dX11_isThing_4 ?_
  refine aw_iconst C 1 dX11_isThing_7 (by decide) ?_
  refine aw_isub C dX11_isThing_8 ?_
  refine aw_i2l C dX11_isThing_9 ?_
  refine aw_cS_I C [.long x1.toInt64, .long 0, .long ((v1 - 1).toInt64)] _ (mt_X11_in _ _ _) cs_X11_in ml_X11_138 st_X11_in ⟨by decide, by decide⟩ ⟨rfl, rfl⟩ ⟨Nat.zero_le _, Nat.zero_le _⟩ rfl rfl (Nat.le_of_ble_eq_true rfl) dX11_isThing_10 ?_
  obtain ⟨v2, hv2, h⟩ := bindE h
  obtain ⟨ev2, zv2⟩ := zzE hv2
  refine aw_topi ev2 ?_
  have e9 := inj1 h
  subst e9
  exact hret _ _ dX11_isThing_13 zv2
set_option maxRecDepth 100000 in
set_option maxHeartbeats 4000000 in
theorem mt_X11_isThing {G : GL} {l : Launch} {a0 : Nat} {x1 : Int32} {μ : Mem} {r : Int32} (h : X11_isThing a0 x1 μ = some r) : MtI G l yX11_isThing cX11_isThing 2 (some .boolean) rm_X11_isThing false [.ref (gZ G + a0), .int x1] μ r μ := met_Z (by decide) rfl (Nat.le_of_ble_eq_true rfl) (fun X _ C _ _ hret => wk_X11_isThing C h hret)
set_option maxRecDepth 100000 in
set_option maxHeartbeats 4000000 in
theorem wk_X11_isMust {G : GL} {X : CX} {a0 : Nat} {x1 : Int32} {μ : Mem} {r : Int32} (C : Ctx G X cX11_isMust 2 RX11 rm_X11_isMust) (h : X11_isMust a0 x1 μ = some r) (hret : RtZ G 2 X cX11_isMust 0 0 r μ) : AW G 2 X 0 0 0 [(0, .ref (gZ G + a0)), (1, .int x1)] [] μ := by
  unfold X11_isMust at h
  refine aw_aload_n C 0 dX11_isMust_0 rfl rfl ?_
  obtain ⟨v1, hv1, h⟩ := bindE h
  refine aw_gR C fl_X11_44 rfl hv1 dX11_isMust_1 ?_
  refine aw_iload_n C 1 dX11_isMust_4 rfl rfl ?_
  obtain ⟨v2, hv2, h⟩ := bindE h
  refine aw_aI C hv2 dX11_isMust_5 ?_
  obtain ⟨z7, hz7, h⟩ := bindE h
  have kj6 : AW G 2 X 0 0 24 [] [.int z7] μ := by
    obtain ⟨v8, hv8, h⟩ := bindE h
    obtain ⟨ev8, zv8⟩ := zzE hv8
    refine aw_topi ev8 ?_
    have e9 := inj1 h
    subst e9
    exact hret _ _ dX11_isMust_24 zv8
  replace h := hz7
  refine aw_if_eq C 19 dX11_isMust_6 (by decide) (fun c3 => ?_) (fun c3 => ?_)
  · rw [if_pos c3] at h
    refine aw_iconst C 1 dX11_isMust_19 (by decide) ?_
    refine aw_goto C 24 dX11_isMust_20 (by decide) ?_
    have e9 := inj1 h
    subst e9
    exact aw_sub [] rfl kj6
  · rw [if_neg c3] at h
    refine aw_aload_n C 0 dX11_isMust_9 rfl rfl ?_
    obtain ⟨v4, hv4, h⟩ := bindE h
    refine aw_gR C fl_X11_44 rfl hv4 dX11_isMust_10 ?_
    refine aw_iload_n C 1 dX11_isMust_13 rfl rfl ?_
    obtain ⟨v5, hv5, h⟩ := bindE h
    refine aw_aI C hv5 dX11_isMust_14 ?_
    refine aw_iconst C 3 dX11_isMust_15 (by decide) ?_
    refine aw_icmp_ne C 23 dX11_isMust_16 (by decide) (fun c6 => ?_) (fun c6 => ?_)
    · rw [if_neg c6] at h
      refine aw_iconst C 0 dX11_isMust_23 (by decide) ?_
      have e9 := inj1 h
      subst e9
      exact aw_sub [] rfl kj6
    · rw [if_pos c6] at h
      refine aw_iconst C 1 dX11_isMust_19 (by decide) ?_
      refine aw_goto C 24 dX11_isMust_20 (by decide) ?_
      have e9 := inj1 h
      subst e9
      exact aw_sub [] rfl kj6
set_option maxRecDepth 100000 in
set_option maxHeartbeats 4000000 in
theorem mt_X11_isMust {G : GL} {l : Launch} {a0 : Nat} {x1 : Int32} {μ : Mem} {r : Int32} (h : X11_isMust a0 x1 μ = some r) : MtI G l yX11_isMust cX11_isMust 2 (some .boolean) rm_X11_isMust false [.ref (gZ G + a0), .int x1] μ r μ := met_Z (by decide) rfl (Nat.le_of_ble_eq_true rfl) (fun X _ C _ _ hret => wk_X11_isMust C h hret)
set_option maxRecDepth 100000 in
set_option maxHeartbeats 4000000 in
theorem wk_X11_thing {G : GL} {X : CX} {a0 : Nat} {x1 : Int32} {x2 : Int32} {x3 : Int32} {x4 : Int32} {x5 : Int32} {x6 : Int32} {x7 : Int32} {μ : Mem} {r : Int32} {μ' : Mem} (C : Ctx G X cX11_thing 8 RX11 rm_X11_thing) (h : X11_thing a0 x1 x2 x3 x4 x5 x6 x7 μ = some (r, μ')) (hret : RtI G 8 X cX11_thing 0 0 r μ') : AW G 8 X 0 0 0 [(0, .ref (gZ G + a0)), (1, .int x1), (2, .int x2), (3, .int x3), (4, .int x4), (5, .int x5), (6, .int x6), (7, .int x7)] [] μ := by
  unfold X11_thing at h
  refine aw_iload_n C 1 dX11_thing_0 rfl rfl ?_
  refine aw_i2l C dX11_thing_1 ?_
  refine aw_lconst C 1 dX11_thing_2 (by decide) ?_
  refine aw_ldc2 C kl_X11_148 dX11_thing_3 ?_
  refine aw_cS_I C [.long x1.toInt64, .long 1, .long 15] _ (mt_X11_in _ _ _) cs_X11_in ml_X11_138 st_X11_in ⟨by decide, by decide⟩ ⟨rfl, rfl⟩ ⟨Nat.zero_le _, Nat.zero_le _⟩ rfl rfl (Nat.le_of_ble_eq_true rfl) dX11_thing_6 ?_
  refine aw_if_ne C 16 dX11_thing_9 (by decide) (fun c1 => ?_) (fun c1 => ?_)
  · rw [if_neg c1] at h
    refine aw_iload_n C 2 dX11_thing_16 rfl rfl ?_
    refine aw_i2l C dX11_thing_17 ?_
    refine aw_lconst C 0 dX11_thing_18 (by decide) ?_
    refine aw_ldc2 C kl_X11_136 dX11_thing_19 ?_
    refine aw_cS_I C [.long x2.toInt64, .long 0, .long 3] _ (mt_X11_in _ _ _) cs_X11_in ml_X11_138 st_X11_in ⟨by decide, by decide⟩ ⟨rfl, rfl⟩ ⟨Nat.zero_le _, Nat.zero_le _⟩ rfl rfl (Nat.le_of_ble_eq_true rfl) dX11_thing_22 ?_
    refine aw_if_eq C 96 dX11_thing_25 (by decide) (fun c2 => ?_) (fun c2 => ?_)
    · rw [if_pos c2] at h
      refine aw_sipush C ((-1002)) dX11_thing_96 (by decide) ?_
      obtain ⟨e8, e9⟩ := inj2 h
      subst e8
      subst e9
      exact hret _ _ dX11_thing_99
    · rw [if_neg c2] at h
      refine aw_iload_n C 3 dX11_thing_28 rfl rfl ?_
      refine aw_i2l C dX11_thing_29 ?_
      refine aw_lconst C 0 dX11_thing_30 (by decide) ?_
      refine aw_ldc2 C kl_X11_185 dX11_thing_31 ?_
      refine aw_cS_I C [.long x3.toInt64, .long 0, .long 5] _ (mt_X11_in _ _ _) cs_X11_in ml_X11_138 st_X11_in ⟨by decide, by decide⟩ ⟨rfl, rfl⟩ ⟨Nat.zero_le _, Nat.zero_le _⟩ rfl rfl (Nat.le_of_ble_eq_true rfl) dX11_thing_34 ?_
      refine aw_if_eq C 96 dX11_thing_37 (by decide) (fun c3 => ?_) (fun c3 => ?_)
      · rw [if_pos c3] at h
        refine aw_sipush C ((-1002)) dX11_thing_96 (by decide) ?_
        obtain ⟨e8, e9⟩ := inj2 h
        subst e8
        subst e9
        exact hret _ _ dX11_thing_99
      · rw [if_neg c3] at h
        refine aw_iload C 4 dX11_thing_40 rfl ?_
        refine aw_i2l C dX11_thing_42 ?_
        refine aw_lconst C 0 dX11_thing_43 (by decide) ?_
        refine aw_ldc2 C kl_X11_187 dX11_thing_44 ?_
        refine aw_cS_I C [.long x4.toInt64, .long 0, .long 9] _ (mt_X11_in _ _ _) cs_X11_in ml_X11_138 st_X11_in ⟨by decide, by decide⟩ ⟨rfl, rfl⟩ ⟨Nat.zero_le _, Nat.zero_le _⟩ rfl rfl (Nat.le_of_ble_eq_true rfl) dX11_thing_47 ?_
        refine aw_if_eq C 96 dX11_thing_50 (by decide) (fun c4 => ?_) (fun c4 => ?_)
        · rw [if_pos c4] at h
          refine aw_sipush C ((-1002)) dX11_thing_96 (by decide) ?_
          obtain ⟨e8, e9⟩ := inj2 h
          subst e8
          subst e9
          exact hret _ _ dX11_thing_99
        · rw [if_neg c4] at h
          refine aw_iload C 5 dX11_thing_53 rfl ?_
          refine aw_i2l C dX11_thing_55 ?_
          refine aw_lconst C 0 dX11_thing_56 (by decide) ?_
          refine aw_ldc2 C kl_X11_189 dX11_thing_57 ?_
          refine aw_cS_I C [.long x5.toInt64, .long 0, .long 999] _ (mt_X11_in _ _ _) cs_X11_in ml_X11_138 st_X11_in ⟨by decide, by decide⟩ ⟨rfl, rfl⟩ ⟨Nat.zero_le _, Nat.zero_le _⟩ rfl rfl (Nat.le_of_ble_eq_true rfl) dX11_thing_60 ?_
          refine aw_if_eq C 96 dX11_thing_63 (by decide) (fun c5 => ?_) (fun c5 => ?_)
          · rw [if_pos c5] at h
            refine aw_sipush C ((-1002)) dX11_thing_96 (by decide) ?_
            obtain ⟨e8, e9⟩ := inj2 h
            subst e8
            subst e9
            exact hret _ _ dX11_thing_99
          · rw [if_neg c5] at h
            refine aw_iload C 6 dX11_thing_66 rfl ?_
            refine aw_i2l C dX11_thing_68 ?_
            refine aw_lconst C 0 dX11_thing_69 (by decide) ?_
            refine aw_ldc2 C kl_X11_191 dX11_thing_70 ?_
            refine aw_cS_I C [.long x6.toInt64, .long 0, .long 99] _ (mt_X11_in _ _ _) cs_X11_in ml_X11_138 st_X11_in ⟨by decide, by decide⟩ ⟨rfl, rfl⟩ ⟨Nat.zero_le _, Nat.zero_le _⟩ rfl rfl (Nat.le_of_ble_eq_true rfl) dX11_thing_73 ?_
            refine aw_if_eq C 96 dX11_thing_76 (by decide) (fun c6 => ?_) (fun c6 => ?_)
            · rw [if_pos c6] at h
              refine aw_sipush C ((-1002)) dX11_thing_96 (by decide) ?_
              obtain ⟨e8, e9⟩ := inj2 h
              subst e8
              subst e9
              exact hret _ _ dX11_thing_99
            · rw [if_neg c6] at h
              refine aw_iload C 7 dX11_thing_79 rfl ?_
              refine aw_i2l C dX11_thing_81 ?_
              refine aw_aload_n C 0 dX11_thing_82 rfl rfl ?_
              obtain ⟨v7, hv7, h⟩ := bindE h
              refine aw_gI C fl_X11_158 rfl hv7 dX11_thing_83 ?_
              refine aw_i2l C dX11_thing_86 ?_
              refine aw_ldc2 C kl_X11_193 dX11_thing_87 ?_
              refine aw_cS_I C [.long x7.toInt64, .long v7.toInt64, .long 60] _ (mt_X11_in _ _ _) cs_X11_in ml_X11_138 st_X11_in ⟨by decide, by decide⟩ ⟨rfl, rfl⟩ ⟨Nat.zero_le _, Nat.zero_le _⟩ rfl rfl (Nat.le_of_ble_eq_true rfl) dX11_thing_90 ?_
              refine aw_if_ne C 100 dX11_thing_93 (by decide) (fun c8 => ?_) (fun c8 => ?_)
              · rw [if_neg c8] at h
                refine aw_aload_n C 0 dX11_thing_100 rfl rfl ?_
                obtain ⟨v9, hv9, h⟩ := bindE h
                refine aw_gI C fl_X11_182 rfl hv9 dX11_thing_101 ?_
                refine aw_bipush C 10 dX11_thing_104 (by decide) ?_
                refine aw_icmp_ne C 113 dX11_thing_106 (by decide) (fun c10 => ?_) (fun c10 => ?_)
                · rw [if_neg c10] at h
                  refine aw_aload_n C 0 dX11_thing_113 rfl rfl ?_
                  obtain ⟨v11, hv11, h⟩ := bindE h
                  refine aw_gR C fl_X11_41 rfl hv11 dX11_thing_114 ?_
                  refine aw_aload_n C 0 dX11_thing_117 rfl rfl ?_
                  obtain ⟨v12, hv12, h⟩ := bindE h
                  refine aw_gI C fl_X11_182 rfl hv12 dX11_thing_118 ?_
                  refine aw_iload_n C 1 dX11_thing_121 rfl rfl ?_
                  obtain ⟨μ13, hμ13, h⟩ := bindE h
                  refine aw_sI C hμ13 dX11_thing_122 ?_
                  refine aw_aload_n C 0 dX11_thing_123 rfl rfl ?_
                  obtain ⟨v14, hv14, h⟩ := bindE h
                  refine aw_gR C fl_X11_44 rfl hv14 dX11_thing_124 ?_
                  refine aw_aload_n C 0 dX11_thing_127 rfl rfl ?_
                  obtain ⟨v15, hv15, h⟩ := bindE h
                  refine aw_gI C fl_X11_182 rfl hv15 dX11_thing_128 ?_
                  refine aw_iload_n C 2 dX11_thing_131 rfl rfl ?_
                  obtain ⟨μ16, hμ16, h⟩ := bindE h
                  refine aw_sI C hμ16 dX11_thing_132 ?_
                  refine aw_aload_n C 0 dX11_thing_133 rfl rfl ?_
                  obtain ⟨v17, hv17, h⟩ := bindE h
                  refine aw_gR C fl_X11_47 rfl hv17 dX11_thing_134 ?_
                  refine aw_aload_n C 0 dX11_thing_137 rfl rfl ?_
                  obtain ⟨v18, hv18, h⟩ := bindE h
                  refine aw_gI C fl_X11_182 rfl hv18 dX11_thing_138 ?_
                  refine aw_iload_n C 3 dX11_thing_141 rfl rfl ?_
                  obtain ⟨μ19, hμ19, h⟩ := bindE h
                  refine aw_sI C hμ19 dX11_thing_142 ?_
                  refine aw_aload_n C 0 dX11_thing_143 rfl rfl ?_
                  obtain ⟨v20, hv20, h⟩ := bindE h
                  refine aw_gR C fl_X11_50 rfl hv20 dX11_thing_144 ?_
                  refine aw_aload_n C 0 dX11_thing_147 rfl rfl ?_
                  obtain ⟨v21, hv21, h⟩ := bindE h
                  refine aw_gI C fl_X11_182 rfl hv21 dX11_thing_148 ?_
                  refine aw_iload C 4 dX11_thing_151 rfl ?_
                  obtain ⟨μ22, hμ22, h⟩ := bindE h
                  refine aw_sI C hμ22 dX11_thing_153 ?_
                  refine aw_aload_n C 0 dX11_thing_154 rfl rfl ?_
                  obtain ⟨v23, hv23, h⟩ := bindE h
                  refine aw_gR C fl_X11_53 rfl hv23 dX11_thing_155 ?_
                  refine aw_aload_n C 0 dX11_thing_158 rfl rfl ?_
                  obtain ⟨v24, hv24, h⟩ := bindE h
                  refine aw_gI C fl_X11_182 rfl hv24 dX11_thing_159 ?_
                  refine aw_iload C 5 dX11_thing_162 rfl ?_
                  obtain ⟨μ25, hμ25, h⟩ := bindE h
                  refine aw_sI C hμ25 dX11_thing_164 ?_
                  refine aw_aload_n C 0 dX11_thing_165 rfl rfl ?_
                  obtain ⟨v26, hv26, h⟩ := bindE h
                  refine aw_gR C fl_X11_56 rfl hv26 dX11_thing_166 ?_
                  refine aw_aload_n C 0 dX11_thing_169 rfl rfl ?_
                  obtain ⟨v27, hv27, h⟩ := bindE h
                  refine aw_gI C fl_X11_182 rfl hv27 dX11_thing_170 ?_
                  refine aw_iload C 6 dX11_thing_173 rfl ?_
                  obtain ⟨μ28, hμ28, h⟩ := bindE h
                  refine aw_sI C hμ28 dX11_thing_175 ?_
                  refine aw_aload_n C 0 dX11_thing_176 rfl rfl ?_
                  obtain ⟨v29, hv29, h⟩ := bindE h
                  refine aw_gR C fl_X11_59 rfl hv29 dX11_thing_177 ?_
                  refine aw_aload_n C 0 dX11_thing_180 rfl rfl ?_
                  obtain ⟨v30, hv30, h⟩ := bindE h
                  refine aw_gI C fl_X11_182 rfl hv30 dX11_thing_181 ?_
                  refine aw_iload C 7 dX11_thing_184 rfl ?_
                  obtain ⟨μ31, hμ31, h⟩ := bindE h
                  refine aw_sI C hμ31 dX11_thing_186 ?_
                  refine aw_aload_n C 0 dX11_thing_187 rfl rfl ?_
                  obtain ⟨v32, hv32, h⟩ := bindE h
                  refine aw_gR C fl_X11_62 rfl hv32 dX11_thing_188 ?_
                  refine aw_aload_n C 0 dX11_thing_191 rfl rfl ?_
                  obtain ⟨v33, hv33, h⟩ := bindE h
                  refine aw_gI C fl_X11_182 rfl hv33 dX11_thing_192 ?_
                  refine aw_aload_n C 0 dX11_thing_195 rfl rfl ?_
                  obtain ⟨v34, hv34, h⟩ := bindE h
                  refine aw_gI C fl_X11_158 rfl hv34 dX11_thing_196 ?_
                  obtain ⟨μ35, hμ35, h⟩ := bindE h
                  refine aw_sI C hμ35 dX11_thing_199 ?_
                  refine aw_aload_n C 0 dX11_thing_200 rfl rfl ?_
                  obtain ⟨v36, hv36, h⟩ := bindE h
                  refine aw_gR C fl_X11_65 rfl hv36 dX11_thing_201 ?_
                  refine aw_aload_n C 0 dX11_thing_204 rfl rfl ?_
                  obtain ⟨v37, hv37, h⟩ := bindE h
                  refine aw_gI C fl_X11_182 rfl hv37 dX11_thing_205 ?_
                  refine aw_iconst C 0 dX11_thing_208 (by decide) ?_
                  obtain ⟨μ38, hμ38, h⟩ := bindE h
                  refine aw_sZ C hμ38 dX11_thing_209 ?_
                  refine aw_aload_n C 0 dX11_thing_210 rfl rfl ?_
                  refine aw_dup C dX11_thing_211 rfl ?_
                  obtain ⟨v39, hv39, h⟩ := bindE h
                  refine aw_gI C fl_X11_182 rfl hv39 dX11_thing_212 ?_
                  refine aw_iconst C 1 dX11_thing_215 (by decide) ?_
                  refine aw_iadd C dX11_thing_216 ?_
                  obtain ⟨μ40, hμ40, h⟩ := bindE h
                  refine aw_pI C fl_X11_182 rfl hμ40 dX11_thing_217 ?_
                  refine aw_aload_n C 0 dX11_thing_220 rfl rfl ?_
                  obtain ⟨v41, hv41, h⟩ := bindE h
                  refine aw_gI C fl_X11_182 rfl hv41 dX11_thing_221 ?_
                  refine aw_iconst C 1 dX11_thing_224 (by decide) ?_
                  refine aw_isub C dX11_thing_225 ?_
                  obtain ⟨e8, e9⟩ := inj2 h
                  subst e8
                  subst e9
                  exact hret _ _ dX11_thing_226
                · rw [if_pos c10] at h
                  refine aw_sipush C ((-1004)) dX11_thing_109 (by decide) ?_
                  obtain ⟨e8, e9⟩ := inj2 h
                  subst e8
                  subst e9
                  exact hret _ _ dX11_thing_112
              · rw [if_pos c8] at h
                refine aw_sipush C ((-1002)) dX11_thing_96 (by decide) ?_
                obtain ⟨e8, e9⟩ := inj2 h
                subst e8
                subst e9
                exact hret _ _ dX11_thing_99
  · rw [if_pos c1] at h
    refine aw_sipush C ((-1001)) dX11_thing_12 (by decide) ?_
    obtain ⟨e8, e9⟩ := inj2 h
    subst e8
    subst e9
    exact hret _ _ dX11_thing_15
set_option maxRecDepth 100000 in
set_option maxHeartbeats 4000000 in
theorem mt_X11_thing {G : GL} {l : Launch} {a0 : Nat} {x1 : Int32} {x2 : Int32} {x3 : Int32} {x4 : Int32} {x5 : Int32} {x6 : Int32} {x7 : Int32} {μ : Mem} {r : Int32} {μ' : Mem} (h : X11_thing a0 x1 x2 x3 x4 x5 x6 x7 μ = some (r, μ')) : MtI G l yX11_thing cX11_thing 8 (some .int) rm_X11_thing false [.ref (gZ G + a0), .int x1, .int x2, .int x3, .int x4, .int x5, .int x6, .int x7] μ r μ' := met_I (by decide) rfl rfl (Nat.le_of_ble_eq_true rfl) (fun X _ C _ _ hret => wk_X11_thing C h hret)
set_option maxRecDepth 100000 in
set_option maxHeartbeats 4000000 in
theorem X11_sayingsOf_L4_ok {G : GL} {X : CX} (C : Ctx G X cX11_sayingsOf 4 RX11 rm_X11_sayingsOf) (a0 : Nat) (x1 : Int32) (μ : Mem) : ∀ (n : Nat) (x2 : Int32) (x3 : Int32) (z : Int32 × Int32), X11_sayingsOf_L4 a0 x1 μ n x2 x3 = some z → AW G 4 X 0 0 31 [(0, .ref (gZ G + a0)), (1, .int x1), (2, .int z.1), (3, .int z.2)] [] μ → AW G 4 X 0 0 4 [(0, .ref (gZ G + a0)), (1, .int x1), (2, .int x2), (3, .int x3)] [] μ := by
  intro n
  induction n with
  | zero =>
    intro x2 x3 z h kx
    rw [X11_sayingsOf_L4] at h
    cases h
  | succ n ih =>
    intro x2 x3 z h kx
    rw [X11_sayingsOf_L4] at h
    refine aw_iload_n C 3 dX11_sayingsOf_4 rfl rfl ?_
    refine aw_aload_n C 0 dX11_sayingsOf_5 rfl rfl ?_
    obtain ⟨v1, hv1, h⟩ := bindE h
    refine aw_gI C fl_X11_195 rfl hv1 dX11_sayingsOf_6 ?_
    refine aw_icmp_ge C 31 dX11_sayingsOf_9 (by decide) (fun c2 => ?_) (fun c2 => ?_)
    · rw [if_pos c2] at h
      have e9 := inj1 h
      subst e9
      exact aw_sub [0, 1, 2, 3] rfl kx
    · rw [if_neg c2] at h
      refine aw_iload_n C 2 dX11_sayingsOf_12 rfl rfl ?_
      refine aw_aload_n C 0 dX11_sayingsOf_13 rfl rfl ?_
      obtain ⟨v3, hv3, h⟩ := bindE h
      refine aw_gR C fl_X11_124 rfl hv3 dX11_sayingsOf_14 ?_
      refine aw_iload_n C 3 dX11_sayingsOf_17 rfl rfl ?_
      obtain ⟨v4, hv4, h⟩ := bindE h
      refine aw_aI C hv4 dX11_sayingsOf_18 ?_
      refine aw_iload_n C 1 dX11_sayingsOf_19 rfl rfl ?_
      refine aw_ishr C dX11_sayingsOf_20 ?_
      refine aw_iconst C 1 dX11_sayingsOf_21 (by decide) ?_
      refine aw_iand C dX11_sayingsOf_22 ?_
      refine aw_iadd C dX11_sayingsOf_23 ?_
      obtain ⟨v5, ev5, h⟩ := bindS h
      refine aw_topi ev5 ?_
      refine aw_istore_n C [(2, .int v5), (0, .ref (gZ G + a0)), (1, .int x1), (3, .int x3)] dX11_sayingsOf_24 rfl (by decide) rfl ?_
      refine aw_iinc C (x3 + 1) 3 [(3, .int (x3 + 1)), (2, .int v5), (0, .ref (gZ G + a0)), (1, .int x1)] dX11_sayingsOf_25 rfl rfl (by decide) rfl ?_
      refine aw_goto C 4 dX11_sayingsOf_28 (by decide) ?_
      exact aw_sub [2, 3, 1, 0] rfl (ih _ _ _ h kx)
set_option maxRecDepth 100000 in
set_option maxHeartbeats 4000000 in
theorem wk_X11_sayingsOf {G : GL} {X : CX} {a0 : Nat} {x1 : Int32} {μ : Mem} {r : Int32} (C : Ctx G X cX11_sayingsOf 4 RX11 rm_X11_sayingsOf) (h : X11_sayingsOf a0 x1 μ = some r) (hret : RtI G 4 X cX11_sayingsOf 0 0 r μ) : AW G 4 X 0 0 0 [(0, .ref (gZ G + a0)), (1, .int x1)] [] μ := by
  unfold X11_sayingsOf at h
  refine aw_iconst C 0 dX11_sayingsOf_0 (by decide) ?_
  refine aw_istore_n C [(2, .int 0), (0, .ref (gZ G + a0)), (1, .int x1)] dX11_sayingsOf_1 rfl (by decide) rfl ?_
  refine aw_iconst C 0 dX11_sayingsOf_2 (by decide) ?_
  refine aw_istore_n C [(3, .int 0), (2, .int 0), (0, .ref (gZ G + a0)), (1, .int x1)] dX11_sayingsOf_3 rfl (by decide) rfl ?_
  obtain ⟨z1, hz1, h⟩ := bindE h
  refine aw_sub [2, 3, 1, 0] rfl ?_
  refine X11_sayingsOf_L4_ok C _ _ _ _ _ _ _ hz1 ?_
  refine aw_iload_n C 2 dX11_sayingsOf_31 rfl rfl ?_
  have e9 := inj1 h
  subst e9
  exact hret _ _ dX11_sayingsOf_32
set_option maxRecDepth 100000 in
set_option maxHeartbeats 4000000 in
theorem mt_X11_sayingsOf {G : GL} {l : Launch} {a0 : Nat} {x1 : Int32} {μ : Mem} {r : Int32} (h : X11_sayingsOf a0 x1 μ = some r) : MtI G l yX11_sayingsOf cX11_sayingsOf 4 (some .int) rm_X11_sayingsOf false [.ref (gZ G + a0), .int x1] μ r μ := met_I (by decide) rfl rfl (Nat.le_of_ble_eq_true rfl) (fun X _ C _ _ hret => wk_X11_sayingsOf C h hret)
set_option maxRecDepth 100000 in
set_option maxHeartbeats 4000000 in
theorem wk_X11_dead {G : GL} {X : CX} {a0 : Nat} {x1 : Int32} {μ : Mem} {r : Int32} {μ' : Mem} (C : Ctx G X cX11_dead 2 RX11 rm_X11_dead) (h : X11_dead a0 x1 μ = some (r, μ')) (hret : RtI G 2 X cX11_dead 0 0 r μ') : AW G 2 X 0 0 0 [(0, .ref (gZ G + a0)), (1, .int x1)] [] μ := by
  unfold X11_dead at h
  refine aw_aload_n C 0 dX11_dead_0 rfl rfl ?_
  refine aw_iload_n C 1 dX11_dead_1 rfl rfl ?_
  obtain ⟨g1, hg1, h⟩ := bindE h
  obtain ⟨v2, hv2, h⟩ := bindE h
  refine aw_cV_I C [.int x1] _ (mt_X11_isThing hv2) cs_X11_isThing ml_X11_198 im_X11_isThing se_X11_isThing (ci := 11) rfl rfl hg1 ⟨by decide, by decide⟩ ⟨rfl, rfl⟩ ⟨Nat.zero_le _, Nat.zero_le _⟩ rfl rfl (Nat.le_of_ble_eq_true rfl) dX11_dead_2 ?_
  refine aw_if_ne C 12 dX11_dead_5 (by decide) (fun c3 => ?_) (fun c3 => ?_)
  · rw [if_neg c3] at h
    refine aw_aload_n C 0 dX11_dead_12 rfl rfl ?_
    obtain ⟨v4, hv4, h⟩ := bindE h
    refine aw_gR C fl_X11_65 rfl hv4 dX11_dead_13 ?_
    refine aw_iload_n C 1 dX11_dead_16 rfl rfl ?_
    obtain ⟨v5, hv5, h⟩ := bindE h
    refine aw_aZ C hv5 dX11_dead_17 ?_
    refine aw_if_eq C 25 dX11_dead_18 (by decide) (fun c6 => ?_) (fun c6 => ?_)
    · rw [if_pos c6] at h
      refine aw_aload_n C 0 dX11_dead_25 rfl rfl ?_
      obtain ⟨v7, hv7, h⟩ := bindE h
      refine aw_gR C fl_X11_65 rfl hv7 dX11_dead_26 ?_
      refine aw_iload_n C 1 dX11_dead_29 rfl rfl ?_
      refine aw_iconst C 1 dX11_dead_30 (by decide) ?_
      obtain ⟨μ8, hμ8, h⟩ := bindE h
      refine aw_sZ C hμ8 dX11_dead_31 ?_
      refine aw_aload_n C 0 dX11_dead_32 rfl rfl ?_
      refine aw_iload_n C 1 dX11_dead_33 rfl rfl ?_
      obtain ⟨g9, hg9, h⟩ := bindE h
      obtain ⟨v10, hv10, h⟩ := bindE h
      refine aw_cV_I C [.int x1] _ (mt_X11_sayingsOf hv10) cs_X11_sayingsOf ml_X11_201 im_X11_sayingsOf se_X11_sayingsOf (ci := 11) rfl rfl hg9 ⟨by decide, by decide⟩ ⟨rfl, rfl⟩ ⟨Nat.zero_le _, Nat.zero_le _⟩ rfl rfl (Nat.le_of_ble_eq_true rfl) dX11_dead_34 ?_
      obtain ⟨e8, e9⟩ := inj2 h
      subst e8
      subst e9
      exact hret _ _ dX11_dead_37
    · rw [if_neg c6] at h
      refine aw_sipush C ((-1003)) dX11_dead_21 (by decide) ?_
      obtain ⟨e8, e9⟩ := inj2 h
      subst e8
      subst e9
      exact hret _ _ dX11_dead_24
  · rw [if_pos c3] at h
    refine aw_sipush C ((-1001)) dX11_dead_8 (by decide) ?_
    obtain ⟨e8, e9⟩ := inj2 h
    subst e8
    subst e9
    exact hret _ _ dX11_dead_11
set_option maxRecDepth 100000 in
set_option maxHeartbeats 4000000 in
theorem mt_X11_dead {G : GL} {l : Launch} {a0 : Nat} {x1 : Int32} {μ : Mem} {r : Int32} {μ' : Mem} (h : X11_dead a0 x1 μ = some (r, μ')) : MtI G l yX11_dead cX11_dead 2 (some .int) rm_X11_dead false [.ref (gZ G + a0), .int x1] μ r μ' := met_I (by decide) rfl rfl (Nat.le_of_ble_eq_true rfl) (fun X _ C _ _ hret => wk_X11_dead C h hret)
set_option maxRecDepth 100000 in
set_option maxHeartbeats 4000000 in
theorem X11_isTold_L7_ok {G : GL} {X : CX} (C : Ctx G X cX11_isTold 6 RX11 rm_X11_isTold) (a0 : Nat) (x1 : Int32) (μ : Mem) : ∀ (n : Nat) (x2 : Int32) (x3 : Int32) (x4 : Int32) (z : Int32 × Int32 × Int32), X11_isTold_L7 a0 x1 μ n x2 x3 x4 = some z → AW G 6 X 0 0 102 [(0, .ref (gZ G + a0)), (1, .int x1), (2, .int z.1), (3, .int z.2.1), (4, .int z.2.2)] [] μ → AW G 6 X 0 0 7 [(0, .ref (gZ G + a0)), (1, .int x1), (2, .int x2), (3, .int x3), (4, .int x4)] [] μ := by
  intro n
  induction n with
  | zero =>
    intro x2 x3 x4 z h kx
    rw [X11_isTold_L7] at h
    cases h
  | succ n ih =>
    intro x2 x3 x4 z h kx
    rw [X11_isTold_L7] at h
    refine aw_iload C 4 dX11_isTold_7 rfl ?_
    refine aw_aload_n C 0 dX11_isTold_9 rfl rfl ?_
    obtain ⟨v1, hv1, h⟩ := bindE h
    refine aw_gI C fl_X11_195 rfl hv1 dX11_isTold_10 ?_
    refine aw_icmp_ge C 102 dX11_isTold_13 (by decide) (fun c2 => ?_) (fun c2 => ?_)
    · rw [if_pos c2] at h
      have e9 := inj1 h
      subst e9
      exact aw_sub [0, 1, 2, 3, 4] rfl kx
    · rw [if_neg c2] at h
      refine aw_aload_n C 0 dX11_isTold_16 rfl rfl ?_
      obtain ⟨v3, hv3, h⟩ := bindE h
      refine aw_gR C fl_X11_124 rfl hv3 dX11_isTold_17 ?_
      refine aw_iload C 4 dX11_isTold_20 rfl ?_
      obtain ⟨v4, hv4, h⟩ := bindE h
      refine aw_aI C hv4 dX11_isTold_22 ?_
      refine aw_iload_n C 1 dX11_isTold_23 rfl rfl ?_
      refine aw_ishr C dX11_isTold_24 ?_
      refine aw_iconst C 1 dX11_isTold_25 (by decide) ?_
      refine aw_iand C dX11_isTold_26 ?_
      refine aw_iconst C 1 dX11_isTold_27 (by decide) ?_
      obtain ⟨v6, ev6, h⟩ := bindS h
      have kj28 : AW G 6 X 0 0 36 [(0, .ref (gZ G + a0)), (1, .int x1), (2, .int x2), (3, .int x3), (4, .int x4)] [.int v6] μ := by
        refine aw_istore C [(5, .int v6), (0, .ref (gZ G + a0)), (1, .int x1), (2, .int x2), (3, .int x3), (4, .int x4)] dX11_isTold_36 (by decide) rfl ?_
        refine aw_iload_n C 3 dX11_isTold_38 rfl rfl ?_
        obtain ⟨z12, hz12, h⟩ := bindE h
        have kj39 : AW G 6 X 0 0 63 [(0, .ref (gZ G + a0)), (1, .int x1), (3, .int x3), (4, .int x4), (5, .int v6)] [.int z12] μ := by
          refine aw_istore_n C [(2, .int z12), (0, .ref (gZ G + a0)), (1, .int x1), (3, .int x3), (4, .int x4), (5, .int v6)] dX11_isTold_63 rfl (by decide) rfl ?_
          refine aw_iload_n C 3 dX11_isTold_64 rfl rfl ?_
          refine aw_iload C 5 dX11_isTold_65 rfl ?_
          obtain ⟨z19, hz19, h⟩ := bindE h
          have kj67 : AW G 6 X 0 0 94 [(0, .ref (gZ G + a0)), (1, .int x1), (2, .int z12), (4, .int x4)] [.int z19, .int x3] μ := by
            refine aw_ior C dX11_isTold_94 ?_
            obtain ⟨v20, ev20, h⟩ := bindS h
            refine aw_topi ev20 ?_
            refine aw_istore_n C [(3, .int v20), (0, .ref (gZ G + a0)), (1, .int x1), (2, .int z12), (4, .int x4)] dX11_isTold_95 rfl (by decide) rfl ?_
            refine aw_iinc C (x4 + 1) 4 [(4, .int (x4 + 1)), (3, .int v20), (0, .ref (gZ G + a0)), (1, .int x1), (2, .int z12)] dX11_isTold_96 rfl rfl (by decide) rfl ?_
            refine aw_goto C 7 dX11_isTold_99 (by decide) ?_
            exact aw_sub [2, 3, 4, 1, 0] rfl (ih _ _ _ _ h kx)
          replace h := hz19
          refine aw_if_eq C 93 dX11_isTold_67 (by decide) (fun c13 => ?_) (fun c13 => ?_)
          · rw [if_pos c13] at h
            refine aw_iconst C 0 dX11_isTold_93 (by decide) ?_
            have e9 := inj1 h
            subst e9
            exact aw_sub [1, 2, 0, 4] rfl kj67
          · rw [if_neg c13] at h
            refine aw_aload_n C 1 dX11_isTold_70 rfl rfl ?_
            obtain ⟨v14, hv14, h⟩ := bindE h
            refine aw_gR C fl_X11_133 rfl hv14 dX11_isTold_71 ?_
            refine aw_iload C 4 dX11_isTold_74 rfl ?_
            obtain ⟨v15, hv15, h⟩ := bindE h
            refine aw_aI C hv15 dX11_isTold_76 ?_
            refine aw_iconst C 1 dX11_isTold_77 (by decide) ?_
            refine aw_icmp_ne C 93 dX11_isTold_78 (by decide) (fun c16 => ?_) (fun c16 => ?_)
            · rw [if_neg c16] at h
              refine aw_iconst C 0 dX11_isTold_93 (by decide) ?_
              have e9 := inj1 h
              subst e9
              exact aw_sub [1, 2, 0, 4] rfl kj67
            · rw [if_pos c16] at h
              refine aw_iconst C 1 dX11_isTold_81 (by decide) ?_
              refine aw_aload_n C 1 dX11_isTold_82 rfl rfl ?_
              obtain ⟨v17, hv17, h⟩ := bindE h
              refine aw_gR C fl_X11_121 rfl hv17 dX11_isTold_83 ?_
              refine aw_iload C 4 dX11_isTold_86 rfl ?_
              obtain ⟨v18, hv18, h⟩ := bindE h
              refine aw_aI C hv18 dX11_isTold_88 ?_
              refine aw_ishl C dX11_isTold_89 ?_
              refine aw_goto C 94 dX11_isTold_90 (by decide) ?_
              have e9 := inj1 h
              subst e9
              exact aw_sub [1, 2, 0, 4] rfl kj67
        replace h := hz12
        refine aw_if_ne C 58 dX11_isTold_39 (by decide) (fun c7 => ?_) (fun c7 => ?_)
        · rw [if_neg c7] at h
          refine aw_iconst C 1 dX11_isTold_58 (by decide) ?_
          refine aw_goto C 63 dX11_isTold_59 (by decide) ?_
          have e9 := inj1 h
          subst e9
          exact aw_sub [1, 2, 4, 5, 0] rfl kj39
        · rw [if_pos c7] at h
          refine aw_iload C 0 dX11_isTold_42 rfl ?_
          refine aw_if_eq C 62 dX11_isTold_44 (by decide) (fun c8 => ?_) (fun c8 => ?_)
          · rw [if_pos c8] at h
            refine aw_iconst C 0 dX11_isTold_62 (by decide) ?_
            have e9 := inj1 h
            subst e9
            exact aw_sub [1, 2, 4, 5, 0] rfl kj39
          · rw [if_neg c8] at h
            refine aw_aload_n C 1 dX11_isTold_47 rfl rfl ?_
            obtain ⟨v9, hv9, h⟩ := bindE h
            refine aw_gR C fl_X11_133 rfl hv9 dX11_isTold_48 ?_
            refine aw_iload C 5 dX11_isTold_51 rfl ?_
            obtain ⟨v10, hv10, h⟩ := bindE h
            refine aw_aI C hv10 dX11_isTold_53 ?_
            refine aw_iconst C 3 dX11_isTold_54 (by decide) ?_
            refine aw_icmp_eq C 62 dX11_isTold_55 (by decide) (fun c11 => ?_) (fun c11 => ?_)
            · rw [if_pos c11] at h
              refine aw_iconst C 0 dX11_isTold_62 (by decide) ?_
              have e9 := inj1 h
              subst e9
              exact aw_sub [1, 2, 4, 5, 0] rfl kj39
            · rw [if_neg c11] at h
              refine aw_iconst C 1 dX11_isTold_58 (by decide) ?_
              refine aw_goto C 63 dX11_isTold_59 (by decide) ?_
              have e9 := inj1 h
              subst e9
              exact aw_sub [1, 2, 4, 5, 0] rfl kj39
      clear h
      refine aw_icmp_ne C 35 dX11_isTold_28 (by decide) (fun c5 => ?_) (fun c5 => ?_)
      · refine aw_iconst C 0 dX11_isTold_35 (by decide) ?_
        rw [if_neg c5] at ev6
        subst ev6
        exact aw_sub [0, 1, 2, 3, 4] rfl kj28
      · refine aw_iconst C 1 dX11_isTold_31 (by decide) ?_
        refine aw_goto C 36 dX11_isTold_32 (by decide) ?_
        rw [if_pos c5] at ev6
        subst ev6
        exact aw_sub [0, 1, 2, 3, 4] rfl kj28
set_option maxRecDepth 100000 in
set_option maxHeartbeats 4000000 in
theorem wk_X11_isTold {G : GL} {X : CX} {a0 : Nat} {x1 : Int32} {μ : Mem} {r : Int32} (C : Ctx G X cX11_isTold 6 RX11 rm_X11_isTold) (h : X11_isTold a0 x1 μ = some r) (hret : RtZ G 6 X cX11_isTold 0 0 r μ) : AW G 6 X 0 0 0 [(0, .ref (gZ G + a0)), (1, .int x1)] [] μ := by
  unfold X11_isTold at h
  refine aw_iconst C 0 dX11_isTold_0 (by decide) ?_
  refine aw_istore_n C [(2, .int 0), (0, .ref (gZ G + a0)), (1, .int x1)] dX11_isTold_1 rfl (by decide) rfl ?_
  refine aw_iconst C 0 dX11_isTold_2 (by decide) ?_
  refine aw_istore_n C [(3, .int 0), (2, .int 0), (0, .ref (gZ G + a0)), (1, .int x1)] dX11_isTold_3 rfl (by decide) rfl ?_
  refine aw_iconst C 0 dX11_isTold_4 (by decide) ?_
  refine aw_istore C [(4, .int 0), (3, .int 0), (2, .int 0), (0, .ref (gZ G + a0)), (1, .int x1)] dX11_isTold_5 (by decide) rfl ?_
  obtain ⟨z1, hz1, h⟩ := bindE h
  refine aw_sub [3, 4, 2, 1, 0] rfl ?_
  refine X11_isTold_L7_ok C _ _ _ _ _ _ _ _ hz1 ?_
  refine aw_aload_n C 0 dX11_isTold_102 rfl rfl ?_
  obtain ⟨v2, hv2, h⟩ := bindE h
  refine aw_gR C fl_X11_44 rfl hv2 dX11_isTold_103 ?_
  refine aw_iload_n C 1 dX11_isTold_106 rfl rfl ?_
  obtain ⟨v3, hv3, h⟩ := bindE h
  refine aw_aI C hv3 dX11_isTold_107 ?_
  refine aw_iconst C 3 dX11_isTold_108 (by decide) ?_
  obtain ⟨v5, ev5, h⟩ := bindS h
  have kj109 : AW G 6 X 0 0 129 [] [.int v5] μ := by
    obtain ⟨v6, hv6, h⟩ := bindE h
    obtain ⟨ev6, zv6⟩ := zzE hv6
    refine aw_topi ev6 ?_
    have e9 := inj1 h
    subst e9
    exact hret _ _ dX11_isTold_129 zv6
  clear h
  refine aw_icmp_ne C 128 dX11_isTold_109 (by decide) (fun c4 => ?_) (fun c4 => ?_)
  · refine aw_iload_n C 2 dX11_isTold_128 rfl rfl ?_
    rw [if_neg c4] at ev5
    subst ev5
    exact aw_sub [] rfl kj109
  · refine aw_iload_n C 3 dX11_isTold_112 rfl rfl ?_
    refine aw_iload_n C 3 dX11_isTold_113 rfl rfl ?_
    refine aw_iconst C 1 dX11_isTold_114 (by decide) ?_
    refine aw_isub C dX11_isTold_115 ?_
    refine aw_iand C dX11_isTold_116 ?_
    refine aw_if_eq C 124 dX11_isTold_117 (by decide) (fun c7 => ?_) (fun c7 => ?_)
    · refine aw_iconst C 0 dX11_isTold_124 (by decide) ?_
      refine aw_goto C 129 dX11_isTold_125 (by decide) ?_
      rw [if_pos c4, if_pos c7] at ev5
      subst ev5
      exact aw_sub [] rfl kj109
    · refine aw_iconst C 1 dX11_isTold_120 (by decide) ?_
      refine aw_goto C 129 dX11_isTold_121 (by decide) ?_
      rw [if_pos c4, if_neg c7] at ev5
      subst ev5
      exact aw_sub [] rfl kj109
set_option maxRecDepth 100000 in
set_option maxHeartbeats 4000000 in
theorem mt_X11_isTold {G : GL} {l : Launch} {a0 : Nat} {x1 : Int32} {μ : Mem} {r : Int32} (h : X11_isTold a0 x1 μ = some r) : MtI G l yX11_isTold cX11_isTold 6 (some .boolean) rm_X11_isTold false [.ref (gZ G + a0), .int x1] μ r μ := met_Z (by decide) rfl (Nat.le_of_ble_eq_true rfl) (fun X _ C _ _ hret => wk_X11_isTold C h hret)
