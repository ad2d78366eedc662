set_option maxRecDepth 100000 in
set_option maxHeartbeats 4000000 in
theorem wk_X6_init {G : GL} {X : CX} {a0 : Nat} {μ : Mem} {μ' : Mem} (C : Ctx G X cX6_init 1 RX6 rm_X6_init) (hi : (xT X).name = "<init>") (hb : (xS X).heap.size = gZ G + mN μ) (h : X6_init a0 μ = some μ') (hret : RtV G 1 X cX6_init 0 0 μ') : AW G 1 X 0 0 0 [(0, .ref (gZ G + a0))] [] μ := by
  unfold X6_init at h
  refine aw_aload_n C 0 dX6_init_0 rfl rfl ?_
  refine aw_oinit C mo_X6_3 ob_im ob_co (by decide) (by decide) (Nat.le_of_ble_eq_true rfl) dX6_init_1 ?_
  have e9 := inj1 h
  subst e9
  exact hret _ _ dX6_init_4
set_option maxRecDepth 100000 in
set_option maxHeartbeats 4000000 in
theorem mt_X6_init {G : GL} {l : Launch} {a0 : Nat} {μ : Mem} {μ' : Mem} (h : X6_init a0 μ = some μ') : MtV G l yX6_init cX6_init 1 none rm_X6_init true [.ref (gZ G + a0)] μ μ' := met_V (by decide) rfl (Nat.le_of_ble_eq_true rfl) (fun X _ C hi hb hret => wk_X6_init C hi (hb rfl) h hret)
set_option maxRecDepth 100000 in
set_option maxHeartbeats 4000000 in
theorem wk_X5_init {G : GL} {X : CX} {a0 : Nat} {μ : Mem} {μ' : Mem} (C : Ctx G X cX5_init 1 RX5 rm_X5_init) (hi : (xT X).name = "<init>") (hb : (xS X).heap.size = gZ G + mN μ) (h : X5_init a0 μ = some μ') (hret : RtV G 1 X cX5_init 0 0 μ') : AW G 1 X 0 0 0 [(0, .ref (gZ G + a0))] [] μ := by
  unfold X5_init at h
  refine aw_aload_n C 0 dX5_init_0 rfl rfl ?_
  refine aw_oinit C mo_X5_1 ob_im ob_co (by decide) (by decide) (Nat.le_of_ble_eq_true rfl) dX5_init_1 ?_
  have e9 := inj1 h
  subst e9
  exact hret _ _ dX5_init_4
set_option maxRecDepth 100000 in
set_option maxHeartbeats 4000000 in
theorem mt_X5_init {G : GL} {l : Launch} {a0 : Nat} {μ : Mem} {μ' : Mem} (h : X5_init a0 μ = some μ') : MtV G l yX5_init cX5_init 1 none rm_X5_init true [.ref (gZ G + a0)] μ μ' := met_V (by decide) rfl (Nat.le_of_ble_eq_true rfl) (fun X _ C hi hb hret => wk_X5_init C hi (hb rfl) h hret)
set_option maxRecDepth 100000 in
set_option maxHeartbeats 4000000 in
theorem wk_X0_init {G : GL} {X : CX} {a0 : Nat} {μ : Mem} {μ' : Mem} (C : Ctx G X cX0_init 2 RX0 rm_X0_init) (hi : (xT X).name = "<init>") (hb : (xS X).heap.size = gZ G + mN μ) (h : X0_init a0 μ = some μ') (hret : RtV G 2 X cX0_init 52 340 μ') : AW G 2 X 0 0 0 [(0, .ref (gZ G + a0))] [] μ := by
  unfold X0_init at h
  refine aw_aload_n C 0 dX0_init_0 rfl rfl ?_
  refine aw_oinit C mo_X0_3 ob_im ob_co (by decide) (by decide) (Nat.le_of_ble_eq_true rfl) dX0_init_1 ?_
  refine aw_aload_n C 0 dX0_init_4 rfl rfl ?_
  refine aw_bipush C 10 dX0_init_5 (by decide) ?_
  obtain ⟨μ1, hμ1, h⟩ := bindE h
  refine aw_anew C (kd := 6) (N' := 10) 1 10 (by decide) rfl (fun q => q.2.2.1.2.2.1) cl_X0_9 hb hμ1 (by decide) (by decide) (by decide) (by decide) rfl rfl dX0_init_7 ?_
  obtain ⟨μ2, hμ2, h⟩ := bindE h
  refine aw_pRF C fl_X0_11 hi rfl rfl rfl rfl hμ2 dX0_init_10 ?_
  refine aw_aload_n C 0 dX0_init_13 rfl rfl ?_
  refine aw_bipush C 40 dX0_init_14 (by decide) ?_
  obtain ⟨μ3, hμ3, h⟩ := bindE h
  refine aw_anew C (kd := 5) (N' := 40) 2 50 (by decide) rfl (fun q => q.2.2.1.2.1) cl_X0_17 hb hμ3 (by decide) (by decide) (by decide) (by decide) rfl rfl dX0_init_16 ?_
  obtain ⟨μ4, hμ4, h⟩ := bindE h
  refine aw_pRF C fl_X0_19 hi rfl rfl rfl rfl hμ4 dX0_init_19 ?_
  refine aw_iconst C 0 dX0_init_22 (by decide) ?_
  refine aw_istore_n C [(1, .int 0), (0, .ref (gZ G + a0))] dX0_init_23 rfl (by decide) rfl ?_
  refine aw_iload_n C 0 dX0_init_24 rfl rfl ?_
  refine aw_bipush C 10 dX0_init_25 (by decide) ?_
  refine aw_icmp_ge C 49 dX0_init_27 (by decide) (fun q => absurd q (by decide)) (fun _ => ?_)
  refine aw_aload_n C 1 dX0_init_30 rfl rfl ?_
  obtain ⟨v5, hv5, h⟩ := bindE h
  refine aw_gR C fl_X0_11 rfl hv5 dX0_init_31 ?_
  refine aw_iload_n C 0 dX0_init_34 rfl rfl ?_
  obtain ⟨μ6, hμ6, h⟩ := bindE h
  refine aw_new C 3 59 tyX6 rfl ingX6 tyX6_ok rfl dfX6 cl_X0_9 it_X6 ii_X6 hb hμ6 (by decide) (by decide) rfl rfl dX0_init_35 ?_
  refine aw_dup C dX0_init_38 rfl ?_
  obtain ⟨g7, hg7, h⟩ := bindE h
  obtain ⟨μ8, hμ8, h⟩ := bindE h
  refine aw_cIN_V C 3 59 [] _ (mt_X6_init hμ8) cs_X6_init ml_X0_23 im_X6_init rfl ⟨by decide, by decide⟩ hb hg7 (by decide) (by decide) rfl rfl rfl rfl (Nat.le_of_ble_eq_true rfl) dX0_init_39 ?_
  obtain ⟨μ9, hμ9, h⟩ := bindE h
  refine aw_sR C (by decide) (ci := 6) rfl rfl hμ9 dX0_init_42 ?_
  refine aw_iinc C (1) 0 [(1, .int 1), (0, .ref (gZ G + a0))] dX0_init_43 rfl (by decide) (by decide) rfl ?_
  refine aw_goto C 24 dX0_init_46 (by decide) ?_
  refine aw_iload_n C 0 dX0_init_24 rfl rfl ?_
  refine aw_bipush C 10 dX0_init_25 (by decide) ?_
  refine aw_icmp_ge C 49 dX0_init_27 (by decide) (fun q => absurd q (by decide)) (fun _ => ?_)
  refine aw_aload_n C 1 dX0_init_30 rfl rfl ?_
  obtain ⟨v10, hv10, h⟩ := bindE h
  refine aw_gR C fl_X0_11 rfl hv10 dX0_init_31 ?_
  refine aw_iload_n C 0 dX0_init_34 rfl rfl ?_
  obtain ⟨μ11, hμ11, h⟩ := bindE h
  refine aw_new C 4 68 tyX6 rfl ingX6 tyX6_ok rfl dfX6 cl_X0_9 it_X6 ii_X6 hb hμ11 (by decide) (by decide) rfl rfl dX0_init_35 ?_
  refine aw_dup C dX0_init_38 rfl ?_
  obtain ⟨g12, hg12, h⟩ := bindE h
  obtain ⟨μ13, hμ13, h⟩ := bindE h
  refine aw_cIN_V C 4 68 [] _ (mt_X6_init hμ13) cs_X6_init ml_X0_23 im_X6_init rfl ⟨by decide, by decide⟩ hb hg12 (by decide) (by decide) rfl rfl rfl rfl (Nat.le_of_ble_eq_true rfl) dX0_init_39 ?_
  obtain ⟨μ14, hμ14, h⟩ := bindE h
  refine aw_sR C (by decide) (ci := 6) rfl rfl hμ14 dX0_init_42 ?_
  refine aw_iinc C (2) 0 [(1, .int 2), (0, .ref (gZ G + a0))] dX0_init_43 rfl (by decide) (by decide) rfl ?_
  refine aw_goto C 24 dX0_init_46 (by decide) ?_
  refine aw_iload_n C 0 dX0_init_24 rfl rfl ?_
  refine aw_bipush C 10 dX0_init_25 (by decide) ?_
  refine aw_icmp_ge C 49 dX0_init_27 (by decide) (fun q => absurd q (by decide)) (fun _ => ?_)
  refine aw_aload_n C 1 dX0_init_30 rfl rfl ?_
  obtain ⟨v15, hv15, h⟩ := bindE h
  refine aw_gR C fl_X0_11 rfl hv15 dX0_init_31 ?_
  refine aw_iload_n C 0 dX0_init_34 rfl rfl ?_
  obtain ⟨μ16, hμ16, h⟩ := bindE h
  refine aw_new C 5 77 tyX6 rfl ingX6 tyX6_ok rfl dfX6 cl_X0_9 it_X6 ii_X6 hb hμ16 (by decide) (by decide) rfl rfl dX0_init_35 ?_
  refine aw_dup C dX0_init_38 rfl ?_
  obtain ⟨g17, hg17, h⟩ := bindE h
  obtain ⟨μ18, hμ18, h⟩ := bindE h
  refine aw_cIN_V C 5 77 [] _ (mt_X6_init hμ18) cs_X6_init ml_X0_23 im_X6_init rfl ⟨by decide, by decide⟩ hb hg17 (by decide) (by decide) rfl rfl rfl rfl (Nat.le_of_ble_eq_true rfl) dX0_init_39 ?_
  obtain ⟨μ19, hμ19, h⟩ := bindE h
  refine aw_sR C (by decide) (ci := 6) rfl rfl hμ19 dX0_init_42 ?_
  refine aw_iinc C (3) 0 [(1, .int 3), (0, .ref (gZ G + a0))] dX0_init_43 rfl (by decide) (by decide) rfl ?_
  refine aw_goto C 24 dX0_init_46 (by decide) ?_
  refine aw_iload_n C 0 dX0_init_24 rfl rfl ?_
  refine aw_bipush C 10 dX0_init_25 (by decide) ?_
  refine aw_icmp_ge C 49 dX0_init_27 (by decide) (fun q => absurd q (by decide)) (fun _ => ?_)
  refine aw_aload_n C 1 dX0_init_30 rfl rfl ?_
  obtain ⟨v20, hv20, h⟩ := bindE h
  refine aw_gR C fl_X0_11 rfl hv20 dX0_init_31 ?_
  refine aw_iload_n C 0 dX0_init_34 rfl rfl ?_
  obtain ⟨μ21, hμ21, h⟩ := bindE h
  refine aw_new C 6 86 tyX6 rfl ingX6 tyX6_ok rfl dfX6 cl_X0_9 it_X6 ii_X6 hb hμ21 (by decide) (by decide) rfl rfl dX0_init_35 ?_
  refine aw_dup C dX0_init_38 rfl ?_
  obtain ⟨g22, hg22, h⟩ := bindE h
  obtain ⟨μ23, hμ23, h⟩ := bindE h
  refine aw_cIN_V C 6 86 [] _ (mt_X6_init hμ23) cs_X6_init ml_X0_23 im_X6_init rfl ⟨by decide, by decide⟩ hb hg22 (by decide) (by decide) rfl rfl rfl rfl (Nat.le_of_ble_eq_true rfl) dX0_init_39 ?_
  obtain ⟨μ24, hμ24, h⟩ := bindE h
  refine aw_sR C (by decide) (ci := 6) rfl rfl hμ24 dX0_init_42 ?_
  refine aw_iinc C (4) 0 [(1, .int 4), (0, .ref (gZ G + a0))] dX0_init_43 rfl (by decide) (by decide) rfl ?_
  refine aw_goto C 24 dX0_init_46 (by decide) ?_
  refine aw_iload_n C 0 dX0_init_24 rfl rfl ?_
  refine aw_bipush C 10 dX0_init_25 (by decide) ?_
  refine aw_icmp_ge C 49 dX0_init_27 (by decide) (fun q => absurd q (by decide)) (fun _ => ?_)
  refine aw_aload_n C 1 dX0_init_30 rfl rfl ?_
  obtain ⟨v25, hv25, h⟩ := bindE h
  refine aw_gR C fl_X0_11 rfl hv25 dX0_init_31 ?_
  refine aw_iload_n C 0 dX0_init_34 rfl rfl ?_
  obtain ⟨μ26, hμ26, h⟩ := bindE h
  refine aw_new C 7 95 tyX6 rfl ingX6 tyX6_ok rfl dfX6 cl_X0_9 it_X6 ii_X6 hb hμ26 (by decide) (by decide) rfl rfl dX0_init_35 ?_
  refine aw_dup C dX0_init_38 rfl ?_
  obtain ⟨g27, hg27, h⟩ := bindE h
  obtain ⟨μ28, hμ28, h⟩ := bindE h
  refine aw_cIN_V C 7 95 [] _ (mt_X6_init hμ28) cs_X6_init ml_X0_23 im_X6_init rfl ⟨by decide, by decide⟩ hb hg27 (by decide) (by decide) rfl rfl rfl rfl (Nat.le_of_ble_eq_true rfl) dX0_init_39 ?_
  obtain ⟨μ29, hμ29, h⟩ := bindE h
  refine aw_sR C (by decide) (ci := 6) rfl rfl hμ29 dX0_init_42 ?_
  refine aw_iinc C (5) 0 [(1, .int 5), (0, .ref (gZ G + a0))] dX0_init_43 rfl (by decide) (by decide) rfl ?_
  refine aw_goto C 24 dX0_init_46 (by decide) ?_
  refine aw_iload_n C 0 dX0_init_24 rfl rfl ?_
  refine aw_bipush C 10 dX0_init_25 (by decide) ?_
  refine aw_icmp_ge C 49 dX0_init_27 (by decide) (fun q => absurd q (by decide)) (fun _ => ?_)
  refine aw_aload_n C 1 dX0_init_30 rfl rfl ?_
  obtain ⟨v30, hv30, h⟩ := bindE h
  refine aw_gR C fl_X0_11 rfl hv30 dX0_init_31 ?_
  refine aw_iload_n C 0 dX0_init_34 rfl rfl ?_
  obtain ⟨μ31, hμ31, h⟩ := bindE h
  refine aw_new C 8 104 tyX6 rfl ingX6 tyX6_ok rfl dfX6 cl_X0_9 it_X6 ii_X6 hb hμ31 (by decide) (by decide) rfl rfl dX0_init_35 ?_
  refine aw_dup C dX0_init_38 rfl ?_
  obtain ⟨g32, hg32, h⟩ := bindE h
  obtain ⟨μ33, hμ33, h⟩ := bindE h
  refine aw_cIN_V C 8 104 [] _ (mt_X6_init hμ33) cs_X6_init ml_X0_23 im_X6_init rfl ⟨by decide, by decide⟩ hb hg32 (by decide) (by decide) rfl rfl rfl rfl (Nat.le_of_ble_eq_true rfl) dX0_init_39 ?_
  obtain ⟨μ34, hμ34, h⟩ := bindE h
  refine aw_sR C (by decide) (ci := 6) rfl rfl hμ34 dX0_init_42 ?_
  refine aw_iinc C (6) 0 [(1, .int 6), (0, .ref (gZ G + a0))] dX0_init_43 rfl (by decide) (by decide) rfl ?_
  refine aw_goto C 24 dX0_init_46 (by decide) ?_
  refine aw_iload_n C 0 dX0_init_24 rfl rfl ?_
  refine aw_bipush C 10 dX0_init_25 (by decide) ?_
  refine aw_icmp_ge C 49 dX0_init_27 (by decide) (fun q => absurd q (by decide)) (fun _ => ?_)
  refine aw_aload_n C 1 dX0_init_30 rfl rfl ?_
  obtain ⟨v35, hv35, h⟩ := bindE h
  refine aw_gR C fl_X0_11 rfl hv35 dX0_init_31 ?_
  refine aw_iload_n C 0 dX0_init_34 rfl rfl ?_
  obtain ⟨μ36, hμ36, h⟩ := bindE h
  refine aw_new C 9 113 tyX6 rfl ingX6 tyX6_ok rfl dfX6 cl_X0_9 it_X6 ii_X6 hb hμ36 (by decide) (by decide) rfl rfl dX0_init_35 ?_
  refine aw_dup C dX0_init_38 rfl ?_
  obtain ⟨g37, hg37, h⟩ := bindE h
  obtain ⟨μ38, hμ38, h⟩ := bindE h
  refine aw_cIN_V C 9 113 [] _ (mt_X6_init hμ38) cs_X6_init ml_X0_23 im_X6_init rfl ⟨by decide, by decide⟩ hb hg37 (by decide) (by decide) rfl rfl rfl rfl (Nat.le_of_ble_eq_true rfl) dX0_init_39 ?_
  obtain ⟨μ39, hμ39, h⟩ := bindE h
  refine aw_sR C (by decide) (ci := 6) rfl rfl hμ39 dX0_init_42 ?_
  refine aw_iinc C (7) 0 [(1, .int 7), (0, .ref (gZ G + a0))] dX0_init_43 rfl (by decide) (by decide) rfl ?_
  refine aw_goto C 24 dX0_init_46 (by decide) ?_
  refine aw_iload_n C 0 dX0_init_24 rfl rfl ?_
  refine aw_bipush C 10 dX0_init_25 (by decide) ?_
  refine aw_icmp_ge C 49 dX0_init_27 (by decide) (fun q => absurd q (by decide)) (fun _ => ?_)
  refine aw_aload_n C 1 dX0_init_30 rfl rfl ?_
  obtain ⟨v40, hv40, h⟩ := bindE h
  refine aw_gR C fl_X0_11 rfl hv40 dX0_init_31 ?_
  refine aw_iload_n C 0 dX0_init_34 rfl rfl ?_
  obtain ⟨μ41, hμ41, h⟩ := bindE h
  refine aw_new C 10 122 tyX6 rfl ingX6 tyX6_ok rfl dfX6 cl_X0_9 it_X6 ii_X6 hb hμ41 (by decide) (by decide) rfl rfl dX0_init_35 ?_
  refine aw_dup C dX0_init_38 rfl ?_
  obtain ⟨g42, hg42, h⟩ := bindE h
  obtain ⟨μ43, hμ43, h⟩ := bindE h
  refine aw_cIN_V C 10 122 [] _ (mt_X6_init hμ43) cs_X6_init ml_X0_23 im_X6_init rfl ⟨by decide, by decide⟩ hb hg42 (by decide) (by decide) rfl rfl rfl rfl (Nat.le_of_ble_eq_true rfl) dX0_init_39 ?_
  obtain ⟨μ44, hμ44, h⟩ := bindE h
  refine aw_sR C (by decide) (ci := 6) rfl rfl hμ44 dX0_init_42 ?_
  refine aw_iinc C (8) 0 [(1, .int 8), (0, .ref (gZ G + a0))] dX0_init_43 rfl (by decide) (by decide) rfl ?_
  refine aw_goto C 24 dX0_init_46 (by decide) ?_
  refine aw_iload_n C 0 dX0_init_24 rfl rfl ?_
  refine aw_bipush C 10 dX0_init_25 (by decide) ?_
  refine aw_icmp_ge C 49 dX0_init_27 (by decide) (fun q => absurd q (by decide)) (fun _ => ?_)
  refine aw_aload_n C 1 dX0_init_30 rfl rfl ?_
  obtain ⟨v45, hv45, h⟩ := bindE h
  refine aw_gR C fl_X0_11 rfl hv45 dX0_init_31 ?_
  refine aw_iload_n C 0 dX0_init_34 rfl rfl ?_
  obtain ⟨μ46, hμ46, h⟩ := bindE h
  refine aw_new C 11 131 tyX6 rfl ingX6 tyX6_ok rfl dfX6 cl_X0_9 it_X6 ii_X6 hb hμ46 (by decide) (by decide) rfl rfl dX0_init_35 ?_
  refine aw_dup C dX0_init_38 rfl ?_
  obtain ⟨g47, hg47, h⟩ := bindE h
  obtain ⟨μ48, hμ48, h⟩ := bindE h
  refine aw_cIN_V C 11 131 [] _ (mt_X6_init hμ48) cs_X6_init ml_X0_23 im_X6_init rfl ⟨by decide, by decide⟩ hb hg47 (by decide) (by decide) rfl rfl rfl rfl (Nat.le_of_ble_eq_true rfl) dX0_init_39 ?_
  obtain ⟨μ49, hμ49, h⟩ := bindE h
  refine aw_sR C (by decide) (ci := 6) rfl rfl hμ49 dX0_init_42 ?_
  refine aw_iinc C (9) 0 [(1, .int 9), (0, .ref (gZ G + a0))] dX0_init_43 rfl (by decide) (by decide) rfl ?_
  refine aw_goto C 24 dX0_init_46 (by decide) ?_
  refine aw_iload_n C 0 dX0_init_24 rfl rfl ?_
  refine aw_bipush C 10 dX0_init_25 (by decide) ?_
  refine aw_icmp_ge C 49 dX0_init_27 (by decide) (fun q => absurd q (by decide)) (fun _ => ?_)
  refine aw_aload_n C 1 dX0_init_30 rfl rfl ?_
  obtain ⟨v50, hv50, h⟩ := bindE h
  refine aw_gR C fl_X0_11 rfl hv50 dX0_init_31 ?_
  refine aw_iload_n C 0 dX0_init_34 rfl rfl ?_
  obtain ⟨μ51, hμ51, h⟩ := bindE h
  refine aw_new C 12 140 tyX6 rfl ingX6 tyX6_ok rfl dfX6 cl_X0_9 it_X6 ii_X6 hb hμ51 (by decide) (by decide) rfl rfl dX0_init_35 ?_
  refine aw_dup C dX0_init_38 rfl ?_
  obtain ⟨g52, hg52, h⟩ := bindE h
  obtain ⟨μ53, hμ53, h⟩ := bindE h
  refine aw_cIN_V C 12 140 [] _ (mt_X6_init hμ53) cs_X6_init ml_X0_23 im_X6_init rfl ⟨by decide, by decide⟩ hb hg52 (by decide) (by decide) rfl rfl rfl rfl (Nat.le_of_ble_eq_true rfl) dX0_init_39 ?_
  obtain ⟨μ54, hμ54, h⟩ := bindE h
  refine aw_sR C (by decide) (ci := 6) rfl rfl hμ54 dX0_init_42 ?_
  refine aw_iinc C (10) 0 [(1, .int 10), (0, .ref (gZ G + a0))] dX0_init_43 rfl (by decide) (by decide) rfl ?_
  refine aw_goto C 24 dX0_init_46 (by decide) ?_
  refine aw_iload_n C 0 dX0_init_24 rfl rfl ?_
  refine aw_bipush C 10 dX0_init_25 (by decide) ?_
  refine aw_icmp_ge C 49 dX0_init_27 (by decide) (fun _ => ?_) (fun q => absurd (by decide) q)
  refine aw_iconst C 0 dX0_init_49 (by decide) ?_
  refine aw_istore_n C [(1, .int 0), (0, .ref (gZ G + a0))] dX0_init_50 rfl (by decide) rfl ?_
  refine aw_iload_n C 0 dX0_init_51 rfl rfl ?_
  refine aw_bipush C 40 dX0_init_52 (by decide) ?_
  refine aw_icmp_ge C 76 dX0_init_54 (by decide) (fun q => absurd q (by decide)) (fun _ => ?_)
  refine aw_aload_n C 1 dX0_init_57 rfl rfl ?_
  obtain ⟨v55, hv55, h⟩ := bindE h
  refine aw_gR C fl_X0_19 rfl hv55 dX0_init_58 ?_
  refine aw_iload_n C 0 dX0_init_61 rfl rfl ?_
  obtain ⟨μ56, hμ56, h⟩ := bindE h
  refine aw_new C 13 145 tyX5 rfl ingX5 tyX5_ok rfl dfX5 cl_X0_17 it_X5 ii_X5 hb hμ56 (by decide) (by decide) rfl rfl dX0_init_62 ?_
  refine aw_dup C dX0_init_65 rfl ?_
  obtain ⟨g57, hg57, h⟩ := bindE h
  obtain ⟨μ58, hμ58, h⟩ := bindE h
  refine aw_cIN_V C 13 145 [] _ (mt_X5_init hμ58) cs_X5_init ml_X0_24 im_X5_init rfl ⟨by decide, by decide⟩ hb hg57 (by decide) (by decide) rfl rfl rfl rfl (Nat.le_of_ble_eq_true rfl) dX0_init_66 ?_
  obtain ⟨μ59, hμ59, h⟩ := bindE h
  refine aw_sR C (by decide) (ci := 5) rfl rfl hμ59 dX0_init_69 ?_
  refine aw_iinc C (1) 0 [(1, .int 1), (0, .ref (gZ G + a0))] dX0_init_70 rfl (by decide) (by decide) rfl ?_
  refine aw_goto C 51 dX0_init_73 (by decide) ?_
  refine aw_iload_n C 0 dX0_init_51 rfl rfl ?_
  refine aw_bipush C 40 dX0_init_52 (by decide) ?_
  refine aw_icmp_ge C 76 dX0_init_54 (by decide) (fun q => absurd q (by decide)) (fun _ => ?_)
  refine aw_aload_n C 1 dX0_init_57 rfl rfl ?_
  obtain ⟨v60, hv60, h⟩ := bindE h
  refine aw_gR C fl_X0_19 rfl hv60 dX0_init_58 ?_
  refine aw_iload_n C 0 dX0_init_61 rfl rfl ?_
  obtain ⟨μ61, hμ61, h⟩ := bindE h
  refine aw_new C 14 150 tyX5 rfl ingX5 tyX5_ok rfl dfX5 cl_X0_17 it_X5 ii_X5 hb hμ61 (by decide) (by decide) rfl rfl dX0_init_62 ?_
  refine aw_dup C dX0_init_65 rfl ?_
  obtain ⟨g62, hg62, h⟩ := bindE h
  obtain ⟨μ63, hμ63, h⟩ := bindE h
  refine aw_cIN_V C 14 150 [] _ (mt_X5_init hμ63) cs_X5_init ml_X0_24 im_X5_init rfl ⟨by decide, by decide⟩ hb hg62 (by decide) (by decide) rfl rfl rfl rfl (Nat.le_of_ble_eq_true rfl) dX0_init_66 ?_
  obtain ⟨μ64, hμ64, h⟩ := bindE h
  refine aw_sR C (by decide) (ci := 5) rfl rfl hμ64 dX0_init_69 ?_
  refine aw_iinc C (2) 0 [(1, .int 2), (0, .ref (gZ G + a0))] dX0_init_70 rfl (by decide) (by decide) rfl ?_
  refine aw_goto C 51 dX0_init_73 (by decide) ?_
  refine aw_iload_n C 0 dX0_init_51 rfl rfl ?_
  refine aw_bipush C 40 dX0_init_52 (by decide) ?_
  refine aw_icmp_ge C 76 dX0_init_54 (by decide) (fun q => absurd q (by decide)) (fun _ => ?_)
  refine aw_aload_n C 1 dX0_init_57 rfl rfl ?_
  obtain ⟨v65, hv65, h⟩ := bindE h
  refine aw_gR C fl_X0_19 rfl hv65 dX0_init_58 ?_
  refine aw_iload_n C 0 dX0_init_61 rfl rfl ?_
  obtain ⟨μ66, hμ66, h⟩ := bindE h
  refine aw_new C 15 155 tyX5 rfl ingX5 tyX5_ok rfl dfX5 cl_X0_17 it_X5 ii_X5 hb hμ66 (by decide) (by decide) rfl rfl dX0_init_62 ?_
  refine aw_dup C dX0_init_65 rfl ?_
  obtain ⟨g67, hg67, h⟩ := bindE h
  obtain ⟨μ68, hμ68, h⟩ := bindE h
  refine aw_cIN_V C 15 155 [] _ (mt_X5_init hμ68) cs_X5_init ml_X0_24 im_X5_init rfl ⟨by decide, by decide⟩ hb hg67 (by decide) (by decide) rfl rfl rfl rfl (Nat.le_of_ble_eq_true rfl) dX0_init_66 ?_
  obtain ⟨μ69, hμ69, h⟩ := bindE h
  refine aw_sR C (by decide) (ci := 5) rfl rfl hμ69 dX0_init_69 ?_
  refine aw_iinc C (3) 0 [(1, .int 3), (0, .ref (gZ G + a0))] dX0_init_70 rfl (by decide) (by decide) rfl ?_
  refine aw_goto C 51 dX0_init_73 (by decide) ?_
  refine aw_iload_n C 0 dX0_init_51 rfl rfl ?_
  refine aw_bipush C 40 dX0_init_52 (by decide) ?_
  refine aw_icmp_ge C 76 dX0_init_54 (by decide) (fun q => absurd q (by decide)) (fun _ => ?_)
  refine aw_aload_n C 1 dX0_init_57 rfl rfl ?_
  obtain ⟨v70, hv70, h⟩ := bindE h
  refine aw_gR C fl_X0_19 rfl hv70 dX0_init_58 ?_
  refine aw_iload_n C 0 dX0_init_61 rfl rfl ?_
  obtain ⟨μ71, hμ71, h⟩ := bindE h
  refine aw_new C 16 160 tyX5 rfl ingX5 tyX5_ok rfl dfX5 cl_X0_17 it_X5 ii_X5 hb hμ71 (by decide) (by decide) rfl rfl dX0_init_62 ?_
  refine aw_dup C dX0_init_65 rfl ?_
  obtain ⟨g72, hg72, h⟩ := bindE h
  obtain ⟨μ73, hμ73, h⟩ := bindE h
  refine aw_cIN_V C 16 160 [] _ (mt_X5_init hμ73) cs_X5_init ml_X0_24 im_X5_init rfl ⟨by decide, by decide⟩ hb hg72 (by decide) (by decide) rfl rfl rfl rfl (Nat.le_of_ble_eq_true rfl) dX0_init_66 ?_
  obtain ⟨μ74, hμ74, h⟩ := bindE h
  refine aw_sR C (by decide) (ci := 5) rfl rfl hμ74 dX0_init_69 ?_
  refine aw_iinc C (4) 0 [(1, .int 4), (0, .ref (gZ G + a0))] dX0_init_70 rfl (by decide) (by decide) rfl ?_
  refine aw_goto C 51 dX0_init_73 (by decide) ?_
  refine aw_iload_n C 0 dX0_init_51 rfl rfl ?_
  refine aw_bipush C 40 dX0_init_52 (by decide) ?_
  refine aw_icmp_ge C 76 dX0_init_54 (by decide) (fun q => absurd q (by decide)) (fun _ => ?_)
  refine aw_aload_n C 1 dX0_init_57 rfl rfl ?_
  obtain ⟨v75, hv75, h⟩ := bindE h
  refine aw_gR C fl_X0_19 rfl hv75 dX0_init_58 ?_
  refine aw_iload_n C 0 dX0_init_61 rfl rfl ?_
  obtain ⟨μ76, hμ76, h⟩ := bindE h
  refine aw_new C 17 165 tyX5 rfl ingX5 tyX5_ok rfl dfX5 cl_X0_17 it_X5 ii_X5 hb hμ76 (by decide) (by decide) rfl rfl dX0_init_62 ?_
  refine aw_dup C dX0_init_65 rfl ?_
  obtain ⟨g77, hg77, h⟩ := bindE h
  obtain ⟨μ78, hμ78, h⟩ := bindE h
  refine aw_cIN_V C 17 165 [] _ (mt_X5_init hμ78) cs_X5_init ml_X0_24 im_X5_init rfl ⟨by decide, by decide⟩ hb hg77 (by decide) (by decide) rfl rfl rfl rfl (Nat.le_of_ble_eq_true rfl) dX0_init_66 ?_
  obtain ⟨μ79, hμ79, h⟩ := bindE h
  refine aw_sR C (by decide) (ci := 5) rfl rfl hμ79 dX0_init_69 ?_
  refine aw_iinc C (5) 0 [(1, .int 5), (0, .ref (gZ G + a0))] dX0_init_70 rfl (by decide) (by decide) rfl ?_
  refine aw_goto C 51 dX0_init_73 (by decide) ?_
  refine aw_iload_n C 0 dX0_init_51 rfl rfl ?_
  refine aw_bipush C 40 dX0_init_52 (by decide) ?_
  refine aw_icmp_ge C 76 dX0_init_54 (by decide) (fun q => absurd q (by decide)) (fun _ => ?_)
  refine aw_aload_n C 1 dX0_init_57 rfl rfl ?_
  obtain ⟨v80, hv80, h⟩ := bindE h
  refine aw_gR C fl_X0_19 rfl hv80 dX0_init_58 ?_
  refine aw_iload_n C 0 dX0_init_61 rfl rfl ?_
  obtain ⟨μ81, hμ81, h⟩ := bindE h
  refine aw_new C 18 170 tyX5 rfl ingX5 tyX5_ok rfl dfX5 cl_X0_17 it_X5 ii_X5 hb hμ81 (by decide) (by decide) rfl rfl dX0_init_62 ?_
  refine aw_dup C dX0_init_65 rfl ?_
  obtain ⟨g82, hg82, h⟩ := bindE h
  obtain ⟨μ83, hμ83, h⟩ := bindE h
  refine aw_cIN_V C 18 170 [] _ (mt_X5_init hμ83) cs_X5_init ml_X0_24 im_X5_init rfl ⟨by decide, by decide⟩ hb hg82 (by decide) (by decide) rfl rfl rfl rfl (Nat.le_of_ble_eq_true rfl) dX0_init_66 ?_
  obtain ⟨μ84, hμ84, h⟩ := bindE h
  refine aw_sR C (by decide) (ci := 5) rfl rfl hμ84 dX0_init_69 ?_
  refine aw_iinc C (6) 0 [(1, .int 6), (0, .ref (gZ G + a0))] dX0_init_70 rfl (by decide) (by decide) rfl ?_
  refine aw_goto C 51 dX0_init_73 (by decide) ?_
  refine aw_iload_n C 0 dX0_init_51 rfl rfl ?_
  refine aw_bipush C 40 dX0_init_52 (by decide) ?_
  refine aw_icmp_ge C 76 dX0_init_54 (by decide) (fun q => absurd q (by decide)) (fun _ => ?_)
  refine aw_aload_n C 1 dX0_init_57 rfl rfl ?_
  obtain ⟨v85, hv85, h⟩ := bindE h
  refine aw_gR C fl_X0_19 rfl hv85 dX0_init_58 ?_
  refine aw_iload_n C 0 dX0_init_61 rfl rfl ?_
  obtain ⟨μ86, hμ86, h⟩ := bindE h
  refine aw_new C 19 175 tyX5 rfl ingX5 tyX5_ok rfl dfX5 cl_X0_17 it_X5 ii_X5 hb hμ86 (by decide) (by decide) rfl rfl dX0_init_62 ?_
  refine aw_dup C dX0_init_65 rfl ?_
  obtain ⟨g87, hg87, h⟩ := bindE h
  obtain ⟨μ88, hμ88, h⟩ := bindE h
  refine aw_cIN_V C 19 175 [] _ (mt_X5_init hμ88) cs_X5_init ml_X0_24 im_X5_init rfl ⟨by decide, by decide⟩ hb hg87 (by decide) (by decide) rfl rfl rfl rfl (Nat.le_of_ble_eq_true rfl) dX0_init_66 ?_
  obtain ⟨μ89, hμ89, h⟩ := bindE h
  refine aw_sR C (by decide) (ci := 5) rfl rfl hμ89 dX0_init_69 ?_
  refine aw_iinc C (7) 0 [(1, .int 7), (0, .ref (gZ G + a0))] dX0_init_70 rfl (by decide) (by decide) rfl ?_
  refine aw_goto C 51 dX0_init_73 (by decide) ?_
  refine aw_iload_n C 0 dX0_init_51 rfl rfl ?_
  refine aw_bipush C 40 dX0_init_52 (by decide) ?_
  refine aw_icmp_ge C 76 dX0_init_54 (by decide) (fun q => absurd q (by decide)) (fun _ => ?_)
  refine aw_aload_n C 1 dX0_init_57 rfl rfl ?_
  obtain ⟨v90, hv90, h⟩ := bindE h
  refine aw_gR C fl_X0_19 rfl hv90 dX0_init_58 ?_
  refine aw_iload_n C 0 dX0_init_61 rfl rfl ?_
  obtain ⟨μ91, hμ91, h⟩ := bindE h
  refine aw_new C 20 180 tyX5 rfl ingX5 tyX5_ok rfl dfX5 cl_X0_17 it_X5 ii_X5 hb hμ91 (by decide) (by decide) rfl rfl dX0_init_62 ?_
  refine aw_dup C dX0_init_65 rfl ?_
  obtain ⟨g92, hg92, h⟩ := bindE h
  obtain ⟨μ93, hμ93, h⟩ := bindE h
  refine aw_cIN_V C 20 180 [] _ (mt_X5_init hμ93) cs_X5_init ml_X0_24 im_X5_init rfl ⟨by decide, by decide⟩ hb hg92 (by decide) (by decide) rfl rfl rfl rfl (Nat.le_of_ble_eq_true rfl) dX0_init_66 ?_
  obtain ⟨μ94, hμ94, h⟩ := bindE h
  refine aw_sR C (by decide) (ci := 5) rfl rfl hμ94 dX0_init_69 ?_
  refine aw_iinc C (8) 0 [(1, .int 8), (0, .ref (gZ G + a0))] dX0_init_70 rfl (by decide) (by decide) rfl ?_
  refine aw_goto C 51 dX0_init_73 (by decide) ?_
  refine aw_iload_n C 0 dX0_init_51 rfl rfl ?_
  refine aw_bipush C 40 dX0_init_52 (by decide) ?_
  refine aw_icmp_ge C 76 dX0_init_54 (by decide) (fun q => absurd q (by decide)) (fun _ => ?_)
  refine aw_aload_n C 1 dX0_init_57 rfl rfl ?_
  obtain ⟨v95, hv95, h⟩ := bindE h
  refine aw_gR C fl_X0_19 rfl hv95 dX0_init_58 ?_
  refine aw_iload_n C 0 dX0_init_61 rfl rfl ?_
  obtain ⟨μ96, hμ96, h⟩ := bindE h
  refine aw_new C 21 185 tyX5 rfl ingX5 tyX5_ok rfl dfX5 cl_X0_17 it_X5 ii_X5 hb hμ96 (by decide) (by decide) rfl rfl dX0_init_62 ?_
  refine aw_dup C dX0_init_65 rfl ?_
  obtain ⟨g97, hg97, h⟩ := bindE h
  obtain ⟨μ98, hμ98, h⟩ := bindE h
  refine aw_cIN_V C 21 185 [] _ (mt_X5_init hμ98) cs_X5_init ml_X0_24 im_X5_init rfl ⟨by decide, by decide⟩ hb hg97 (by decide) (by decide) rfl rfl rfl rfl (Nat.le_of_ble_eq_true rfl) dX0_init_66 ?_
  obtain ⟨μ99, hμ99, h⟩ := bindE h
  refine aw_sR C (by decide) (ci := 5) rfl rfl hμ99 dX0_init_69 ?_
  refine aw_iinc C (9) 0 [(1, .int 9), (0, .ref (gZ G + a0))] dX0_init_70 rfl (by decide) (by decide) rfl ?_
  refine aw_goto C 51 dX0_init_73 (by decide) ?_
  refine aw_iload_n C 0 dX0_init_51 rfl rfl ?_
  refine aw_bipush C 40 dX0_init_52 (by decide) ?_
  refine aw_icmp_ge C 76 dX0_init_54 (by decide) (fun q => absurd q (by decide)) (fun _ => ?_)
  refine aw_aload_n C 1 dX0_init_57 rfl rfl ?_
  obtain ⟨v100, hv100, h⟩ := bindE h
  refine aw_gR C fl_X0_19 rfl hv100 dX0_init_58 ?_
  refine aw_iload_n C 0 dX0_init_61 rfl rfl ?_
  obtain ⟨μ101, hμ101, h⟩ := bindE h
  refine aw_new C 22 190 tyX5 rfl ingX5 tyX5_ok rfl dfX5 cl_X0_17 it_X5 ii_X5 hb hμ101 (by decide) (by decide) rfl rfl dX0_init_62 ?_
  refine aw_dup C dX0_init_65 rfl ?_
  obtain ⟨g102, hg102, h⟩ := bindE h
  obtain ⟨μ103, hμ103, h⟩ := bindE h
  refine aw_cIN_V C 22 190 [] _ (mt_X5_init hμ103) cs_X5_init ml_X0_24 im_X5_init rfl ⟨by decide, by decide⟩ hb hg102 (by decide) (by decide) rfl rfl rfl rfl (Nat.le_of_ble_eq_true rfl) dX0_init_66 ?_
  obtain ⟨μ104, hμ104, h⟩ := bindE h
  refine aw_sR C (by decide) (ci := 5) rfl rfl hμ104 dX0_init_69 ?_
  refine aw_iinc C (10) 0 [(1, .int 10), (0, .ref (gZ G + a0))] dX0_init_70 rfl (by decide) (by decide) rfl ?_
  refine aw_goto C 51 dX0_init_73 (by decide) ?_
  refine aw_iload_n C 0 dX0_init_51 rfl rfl ?_
  refine aw_bipush C 40 dX0_init_52 (by decide) ?_
  refine aw_icmp_ge C 76 dX0_init_54 (by decide) (fun q => absurd q (by decide)) (fun _ => ?_)
  refine aw_aload_n C 1 dX0_init_57 rfl rfl ?_
  obtain ⟨v105, hv105, h⟩ := bindE h
  refine aw_gR C fl_X0_19 rfl hv105 dX0_init_58 ?_
  refine aw_iload_n C 0 dX0_init_61 rfl rfl ?_
  obtain ⟨μ106, hμ106, h⟩ := bindE h
  refine aw_new C 23 195 tyX5 rfl ingX5 tyX5_ok rfl dfX5 cl_X0_17 it_X5 ii_X5 hb hμ106 (by decide) (by decide) rfl rfl dX0_init_62 ?_
  refine aw_dup C dX0_init_65 rfl ?_
  obtain ⟨g107, hg107, h⟩ := bindE h
  obtain ⟨μ108, hμ108, h⟩ := bindE h
  refine aw_cIN_V C 23 195 [] _ (mt_X5_init hμ108) cs_X5_init ml_X0_24 im_X5_init rfl ⟨by decide, by decide⟩ hb hg107 (by decide) (by decide) rfl rfl rfl rfl (Nat.le_of_ble_eq_true rfl) dX0_init_66 ?_
  obtain ⟨μ109, hμ109, h⟩ := bindE h
  refine aw_sR C (by decide) (ci := 5) rfl rfl hμ109 dX0_init_69 ?_
  refine aw_iinc C (11) 0 [(1, .int 11), (0, .ref (gZ G + a0))] dX0_init_70 rfl (by decide) (by decide) rfl ?_
  refine aw_goto C 51 dX0_init_73 (by decide) ?_
  refine aw_iload_n C 0 dX0_init_51 rfl rfl ?_
  refine aw_bipush C 40 dX0_init_52 (by decide) ?_
  refine aw_icmp_ge C 76 dX0_init_54 (by decide) (fun q => absurd q (by decide)) (fun _ => ?_)
  refine aw_aload_n C 1 dX0_init_57 rfl rfl ?_
  obtain ⟨v110, hv110, h⟩ := bindE h
  refine aw_gR C fl_X0_19 rfl hv110 dX0_init_58 ?_
  refine aw_iload_n C 0 dX0_init_61 rfl rfl ?_
  obtain ⟨μ111, hμ111, h⟩ := bindE h
  refine aw_new C 24 200 tyX5 rfl ingX5 tyX5_ok rfl dfX5 cl_X0_17 it_X5 ii_X5 hb hμ111 (by decide) (by decide) rfl rfl dX0_init_62 ?_
  refine aw_dup C dX0_init_65 rfl ?_
  obtain ⟨g112, hg112, h⟩ := bindE h
  obtain ⟨μ113, hμ113, h⟩ := bindE h
  refine aw_cIN_V C 24 200 [] _ (mt_X5_init hμ113) cs_X5_init ml_X0_24 im_X5_init rfl ⟨by decide, by decide⟩ hb hg112 (by decide) (by decide) rfl rfl rfl rfl (Nat.le_of_ble_eq_true rfl) dX0_init_66 ?_
  obtain ⟨μ114, hμ114, h⟩ := bindE h
  refine aw_sR C (by decide) (ci := 5) rfl rfl hμ114 dX0_init_69 ?_
  refine aw_iinc C (12) 0 [(1, .int 12), (0, .ref (gZ G + a0))] dX0_init_70 rfl (by decide) (by decide) rfl ?_
  refine aw_goto C 51 dX0_init_73 (by decide) ?_
  refine aw_iload_n C 0 dX0_init_51 rfl rfl ?_
  refine aw_bipush C 40 dX0_init_52 (by decide) ?_
  refine aw_icmp_ge C 76 dX0_init_54 (by decide) (fun q => absurd q (by decide)) (fun _ => ?_)
  refine aw_aload_n C 1 dX0_init_57 rfl rfl ?_
  obtain ⟨v115, hv115, h⟩ := bindE h
  refine aw_gR C fl_X0_19 rfl hv115 dX0_init_58 ?_
  refine aw_iload_n C 0 dX0_init_61 rfl rfl ?_
  obtain ⟨μ116, hμ116, h⟩ := bindE h
  refine aw_new C 25 205 tyX5 rfl ingX5 tyX5_ok rfl dfX5 cl_X0_17 it_X5 ii_X5 hb hμ116 (by decide) (by decide) rfl rfl dX0_init_62 ?_
  refine aw_dup C dX0_init_65 rfl ?_
  obtain ⟨g117, hg117, h⟩ := bindE h
  obtain ⟨μ118, hμ118, h⟩ := bindE h
  refine aw_cIN_V C 25 205 [] _ (mt_X5_init hμ118) cs_X5_init ml_X0_24 im_X5_init rfl ⟨by decide, by decide⟩ hb hg117 (by decide) (by decide) rfl rfl rfl rfl (Nat.le_of_ble_eq_true rfl) dX0_init_66 ?_
  obtain ⟨μ119, hμ119, h⟩ := bindE h
  refine aw_sR C (by decide) (ci := 5) rfl rfl hμ119 dX0_init_69 ?_
  refine aw_iinc C (13) 0 [(1, .int 13), (0, .ref (gZ G + a0))] dX0_init_70 rfl (by decide) (by decide) rfl ?_
  refine aw_goto C 51 dX0_init_73 (by decide) ?_
  refine aw_iload_n C 0 dX0_init_51 rfl rfl ?_
  refine aw_bipush C 40 dX0_init_52 (by decide) ?_
  refine aw_icmp_ge C 76 dX0_init_54 (by decide) (fun q => absurd q (by decide)) (fun _ => ?_)
  refine aw_aload_n C 1 dX0_init_57 rfl rfl ?_
  obtain ⟨v120, hv120, h⟩ := bindE h
  refine aw_gR C fl_X0_19 rfl hv120 dX0_init_58 ?_
  refine aw_iload_n C 0 dX0_init_61 rfl rfl ?_
  obtain ⟨μ121, hμ121, h⟩ := bindE h
  refine aw_new C 26 210 tyX5 rfl ingX5 tyX5_ok rfl dfX5 cl_X0_17 it_X5 ii_X5 hb hμ121 (by decide) (by decide) rfl rfl dX0_init_62 ?_
  refine aw_dup C dX0_init_65 rfl ?_
  obtain ⟨g122, hg122, h⟩ := bindE h
  obtain ⟨μ123, hμ123, h⟩ := bindE h
  refine aw_cIN_V C 26 210 [] _ (mt_X5_init hμ123) cs_X5_init ml_X0_24 im_X5_init rfl ⟨by decide, by decide⟩ hb hg122 (by decide) (by decide) rfl rfl rfl rfl (Nat.le_of_ble_eq_true rfl) dX0_init_66 ?_
  obtain ⟨μ124, hμ124, h⟩ := bindE h
  refine aw_sR C (by decide) (ci := 5) rfl rfl hμ124 dX0_init_69 ?_
  refine aw_iinc C (14) 0 [(1, .int 14), (0, .ref (gZ G + a0))] dX0_init_70 rfl (by decide) (by decide) rfl ?_
  refine aw_goto C 51 dX0_init_73 (by decide) ?_
  refine aw_iload_n C 0 dX0_init_51 rfl rfl ?_
  refine aw_bipush C 40 dX0_init_52 (by decide) ?_
  refine aw_icmp_ge C 76 dX0_init_54 (by decide) (fun q => absurd q (by decide)) (fun _ => ?_)
  refine aw_aload_n C 1 dX0_init_57 rfl rfl ?_
  obtain ⟨v125, hv125, h⟩ := bindE h
  refine aw_gR C fl_X0_19 rfl hv125 dX0_init_58 ?_
  refine aw_iload_n C 0 dX0_init_61 rfl rfl ?_
  obtain ⟨μ126, hμ126, h⟩ := bindE h
  refine aw_new C 27 215 tyX5 rfl ingX5 tyX5_ok rfl dfX5 cl_X0_17 it_X5 ii_X5 hb hμ126 (by decide) (by decide) rfl rfl dX0_init_62 ?_
  refine aw_dup C dX0_init_65 rfl ?_
  obtain ⟨g127, hg127, h⟩ := bindE h
  obtain ⟨μ128, hμ128, h⟩ := bindE h
  refine aw_cIN_V C 27 215 [] _ (mt_X5_init hμ128) cs_X5_init ml_X0_24 im_X5_init rfl ⟨by decide, by decide⟩ hb hg127 (by decide) (by decide) rfl rfl rfl rfl (Nat.le_of_ble_eq_true rfl) dX0_init_66 ?_
  obtain ⟨μ129, hμ129, h⟩ := bindE h
  refine aw_sR C (by decide) (ci := 5) rfl rfl hμ129 dX0_init_69 ?_
  refine aw_iinc C (15) 0 [(1, .int 15), (0, .ref (gZ G + a0))] dX0_init_70 rfl (by decide) (by decide) rfl ?_
  refine aw_goto C 51 dX0_init_73 (by decide) ?_
  refine aw_iload_n C 0 dX0_init_51 rfl rfl ?_
  refine aw_bipush C 40 dX0_init_52 (by decide) ?_
  refine aw_icmp_ge C 76 dX0_init_54 (by decide) (fun q => absurd q (by decide)) (fun _ => ?_)
  refine aw_aload_n C 1 dX0_init_57 rfl rfl ?_
  obtain ⟨v130, hv130, h⟩ := bindE h
  refine aw_gR C fl_X0_19 rfl hv130 dX0_init_58 ?_
  refine aw_iload_n C 0 dX0_init_61 rfl rfl ?_
  obtain ⟨μ131, hμ131, h⟩ := bindE h
  refine aw_new C 28 220 tyX5 rfl ingX5 tyX5_ok rfl dfX5 cl_X0_17 it_X5 ii_X5 hb hμ131 (by decide) (by decide) rfl rfl dX0_init_62 ?_
  refine aw_dup C dX0_init_65 rfl ?_
  obtain ⟨g132, hg132, h⟩ := bindE h
  obtain ⟨μ133, hμ133, h⟩ := bindE h
  refine aw_cIN_V C 28 220 [] _ (mt_X5_init hμ133) cs_X5_init ml_X0_24 im_X5_init rfl ⟨by decide, by decide⟩ hb hg132 (by decide) (by decide) rfl rfl rfl rfl (Nat.le_of_ble_eq_true rfl) dX0_init_66 ?_
  obtain ⟨μ134, hμ134, h⟩ := bindE h
  refine aw_sR C (by decide) (ci := 5) rfl rfl hμ134 dX0_init_69 ?_
  refine aw_iinc C (16) 0 [(1, .int 16), (0, .ref (gZ G + a0))] dX0_init_70 rfl (by decide) (by decide) rfl ?_
  refine aw_goto C 51 dX0_init_73 (by decide) ?_
  refine aw_iload_n C 0 dX0_init_51 rfl rfl ?_
  refine aw_bipush C 40 dX0_init_52 (by decide) ?_
  refine aw_icmp_ge C 76 dX0_init_54 (by decide) (fun q => absurd q (by decide)) (fun _ => ?_)
  refine aw_aload_n C 1 dX0_init_57 rfl rfl ?_
  obtain ⟨v135, hv135, h⟩ := bindE h
  refine aw_gR C fl_X0_19 rfl hv135 dX0_init_58 ?_
  refine aw_iload_n C 0 dX0_init_61 rfl rfl ?_
  obtain ⟨μ136, hμ136, h⟩ := bindE h
  refine aw_new C 29 225 tyX5 rfl ingX5 tyX5_ok rfl dfX5 cl_X0_17 it_X5 ii_X5 hb hμ136 (by decide) (by decide) rfl rfl dX0_init_62 ?_
  refine aw_dup C dX0_init_65 rfl ?_
  obtain ⟨g137, hg137, h⟩ := bindE h
  obtain ⟨μ138, hμ138, h⟩ := bindE h
  refine aw_cIN_V C 29 225 [] _ (mt_X5_init hμ138) cs_X5_init ml_X0_24 im_X5_init rfl ⟨by decide, by decide⟩ hb hg137 (by decide) (by decide) rfl rfl rfl rfl (Nat.le_of_ble_eq_true rfl) dX0_init_66 ?_
  obtain ⟨μ139, hμ139, h⟩ := bindE h
  refine aw_sR C (by decide) (ci := 5) rfl rfl hμ139 dX0_init_69 ?_
  refine aw_iinc C (17) 0 [(1, .int 17), (0, .ref (gZ G + a0))] dX0_init_70 rfl (by decide) (by decide) rfl ?_
  refine aw_goto C 51 dX0_init_73 (by decide) ?_
  refine aw_iload_n C 0 dX0_init_51 rfl rfl ?_
  refine aw_bipush C 40 dX0_init_52 (by decide) ?_
  refine aw_icmp_ge C 76 dX0_init_54 (by decide) (fun q => absurd q (by decide)) (fun _ => ?_)
  refine aw_aload_n C 1 dX0_init_57 rfl rfl ?_
  obtain ⟨v140, hv140, h⟩ := bindE h
  refine aw_gR C fl_X0_19 rfl hv140 dX0_init_58 ?_
  refine aw_iload_n C 0 dX0_init_61 rfl rfl ?_
  obtain ⟨μ141, hμ141, h⟩ := bindE h
  refine aw_new C 30 230 tyX5 rfl ingX5 tyX5_ok rfl dfX5 cl_X0_17 it_X5 ii_X5 hb hμ141 (by decide) (by decide) rfl rfl dX0_init_62 ?_
  refine aw_dup C dX0_init_65 rfl ?_
  obtain ⟨g142, hg142, h⟩ := bindE h
  obtain ⟨μ143, hμ143, h⟩ := bindE h
  refine aw_cIN_V C 30 230 [] _ (mt_X5_init hμ143) cs_X5_init ml_X0_24 im_X5_init rfl ⟨by decide, by decide⟩ hb hg142 (by decide) (by decide) rfl rfl rfl rfl (Nat.le_of_ble_eq_true rfl) dX0_init_66 ?_
  obtain ⟨μ144, hμ144, h⟩ := bindE h
  refine aw_sR C (by decide) (ci := 5) rfl rfl hμ144 dX0_init_69 ?_
  refine aw_iinc C (18) 0 [(1, .int 18), (0, .ref (gZ G + a0))] dX0_init_70 rfl (by decide) (by decide) rfl ?_
  refine aw_goto C 51 dX0_init_73 (by decide) ?_
  refine aw_iload_n C 0 dX0_init_51 rfl rfl ?_
  refine aw_bipush C 40 dX0_init_52 (by decide) ?_
  refine aw_icmp_ge C 76 dX0_init_54 (by decide) (fun q => absurd q (by decide)) (fun _ => ?_)
  refine aw_aload_n C 1 dX0_init_57 rfl rfl ?_
  obtain ⟨v145, hv145, h⟩ := bindE h
  refine aw_gR C fl_X0_19 rfl hv145 dX0_init_58 ?_
  refine aw_iload_n C 0 dX0_init_61 rfl rfl ?_
  obtain ⟨μ146, hμ146, h⟩ := bindE h
  refine aw_new C 31 235 tyX5 rfl ingX5 tyX5_ok rfl dfX5 cl_X0_17 it_X5 ii_X5 hb hμ146 (by decide) (by decide) rfl rfl dX0_init_62 ?_
  refine aw_dup C dX0_init_65 rfl ?_
  obtain ⟨g147, hg147, h⟩ := bindE h
  obtain ⟨μ148, hμ148, h⟩ := bindE h
  refine aw_cIN_V C 31 235 [] _ (mt_X5_init hμ148) cs_X5_init ml_X0_24 im_X5_init rfl ⟨by decide, by decide⟩ hb hg147 (by decide) (by decide) rfl rfl rfl rfl (Nat.le_of_ble_eq_true rfl) dX0_init_66 ?_
  obtain ⟨μ149, hμ149, h⟩ := bindE h
  refine aw_sR C (by decide) (ci := 5) rfl rfl hμ149 dX0_init_69 ?_
  refine aw_iinc C (19) 0 [(1, .int 19), (0, .ref (gZ G + a0))] dX0_init_70 rfl (by decide) (by decide) rfl ?_
  refine aw_goto C 51 dX0_init_73 (by decide) ?_
  refine aw_iload_n C 0 dX0_init_51 rfl rfl ?_
  refine aw_bipush C 40 dX0_init_52 (by decide) ?_
  refine aw_icmp_ge C 76 dX0_init_54 (by decide) (fun q => absurd q (by decide)) (fun _ => ?_)
  refine aw_aload_n C 1 dX0_init_57 rfl rfl ?_
  obtain ⟨v150, hv150, h⟩ := bindE h
  refine aw_gR C fl_X0_19 rfl hv150 dX0_init_58 ?_
  refine aw_iload_n C 0 dX0_init_61 rfl rfl ?_
  obtain ⟨μ151, hμ151, h⟩ := bindE h
  refine aw_new C 32 240 tyX5 rfl ingX5 tyX5_ok rfl dfX5 cl_X0_17 it_X5 ii_X5 hb hμ151 (by decide) (by decide) rfl rfl dX0_init_62 ?_
  refine aw_dup C dX0_init_65 rfl ?_
  obtain ⟨g152, hg152, h⟩ := bindE h
  obtain ⟨μ153, hμ153, h⟩ := bindE h
  refine aw_cIN_V C 32 240 [] _ (mt_X5_init hμ153) cs_X5_init ml_X0_24 im_X5_init rfl ⟨by decide, by decide⟩ hb hg152 (by decide) (by decide) rfl rfl rfl rfl (Nat.le_of_ble_eq_true rfl) dX0_init_66 ?_
  obtain ⟨μ154, hμ154, h⟩ := bindE h
  refine aw_sR C (by decide) (ci := 5) rfl rfl hμ154 dX0_init_69 ?_
  refine aw_iinc C (20) 0 [(1, .int 20), (0, .ref (gZ G + a0))] dX0_init_70 rfl (by decide) (by decide) rfl ?_
  refine aw_goto C 51 dX0_init_73 (by decide) ?_
  refine aw_iload_n C 0 dX0_init_51 rfl rfl ?_
  refine aw_bipush C 40 dX0_init_52 (by decide) ?_
  refine aw_icmp_ge C 76 dX0_init_54 (by decide) (fun q => absurd q (by decide)) (fun _ => ?_)
  refine aw_aload_n C 1 dX0_init_57 rfl rfl ?_
  obtain ⟨v155, hv155, h⟩ := bindE h
  refine aw_gR C fl_X0_19 rfl hv155 dX0_init_58 ?_
  refine aw_iload_n C 0 dX0_init_61 rfl rfl ?_
  obtain ⟨μ156, hμ156, h⟩ := bindE h
  refine aw_new C 33 245 tyX5 rfl ingX5 tyX5_ok rfl dfX5 cl_X0_17 it_X5 ii_X5 hb hμ156 (by decide) (by decide) rfl rfl dX0_init_62 ?_
  refine aw_dup C dX0_init_65 rfl ?_
  obtain ⟨g157, hg157, h⟩ := bindE h
  obtain ⟨μ158, hμ158, h⟩ := bindE h
  refine aw_cIN_V C 33 245 [] _ (mt_X5_init hμ158) cs_X5_init ml_X0_24 im_X5_init rfl ⟨by decide, by decide⟩ hb hg157 (by decide) (by decide) rfl rfl rfl rfl (Nat.le_of_ble_eq_true rfl) dX0_init_66 ?_
  obtain ⟨μ159, hμ159, h⟩ := bindE h
  refine aw_sR C (by decide) (ci := 5) rfl rfl hμ159 dX0_init_69 ?_
  refine aw_iinc C (21) 0 [(1, .int 21), (0, .ref (gZ G + a0))] dX0_init_70 rfl (by decide) (by decide) rfl ?_
  refine aw_goto C 51 dX0_init_73 (by decide) ?_
  refine aw_iload_n C 0 dX0_init_51 rfl rfl ?_
  refine aw_bipush C 40 dX0_init_52 (by decide) ?_
  refine aw_icmp_ge C 76 dX0_init_54 (by decide) (fun q => absurd q (by decide)) (fun _ => ?_)
  refine aw_aload_n C 1 dX0_init_57 rfl rfl ?_
  obtain ⟨v160, hv160, h⟩ := bindE h
  refine aw_gR C fl_X0_19 rfl hv160 dX0_init_58 ?_
  refine aw_iload_n C 0 dX0_init_61 rfl rfl ?_
  obtain ⟨μ161, hμ161, h⟩ := bindE h
  refine aw_new C 34 250 tyX5 rfl ingX5 tyX5_ok rfl dfX5 cl_X0_17 it_X5 ii_X5 hb hμ161 (by decide) (by decide) rfl rfl dX0_init_62 ?_
  refine aw_dup C dX0_init_65 rfl ?_
  obtain ⟨g162, hg162, h⟩ := bindE h
  obtain ⟨μ163, hμ163, h⟩ := bindE h
  refine aw_cIN_V C 34 250 [] _ (mt_X5_init hμ163) cs_X5_init ml_X0_24 im_X5_init rfl ⟨by decide, by decide⟩ hb hg162 (by decide) (by decide) rfl rfl rfl rfl (Nat.le_of_ble_eq_true rfl) dX0_init_66 ?_
  obtain ⟨μ164, hμ164, h⟩ := bindE h
  refine aw_sR C (by decide) (ci := 5) rfl rfl hμ164 dX0_init_69 ?_
  refine aw_iinc C (22) 0 [(1, .int 22), (0, .ref (gZ G + a0))] dX0_init_70 rfl (by decide) (by decide) rfl ?_
  refine aw_goto C 51 dX0_init_73 (by decide) ?_
  refine aw_iload_n C 0 dX0_init_51 rfl rfl ?_
  refine aw_bipush C 40 dX0_init_52 (by decide) ?_
  refine aw_icmp_ge C 76 dX0_init_54 (by decide) (fun q => absurd q (by decide)) (fun _ => ?_)
  refine aw_aload_n C 1 dX0_init_57 rfl rfl ?_
  obtain ⟨v165, hv165, h⟩ := bindE h
  refine aw_gR C fl_X0_19 rfl hv165 dX0_init_58 ?_
  refine aw_iload_n C 0 dX0_init_61 rfl rfl ?_
  obtain ⟨μ166, hμ166, h⟩ := bindE h
  refine aw_new C 35 255 tyX5 rfl ingX5 tyX5_ok rfl dfX5 cl_X0_17 it_X5 ii_X5 hb hμ166 (by decide) (by decide) rfl rfl dX0_init_62 ?_
  refine aw_dup C dX0_init_65 rfl ?_
  obtain ⟨g167, hg167, h⟩ := bindE h
  obtain ⟨μ168, hμ168, h⟩ := bindE h
  refine aw_cIN_V C 35 255 [] _ (mt_X5_init hμ168) cs_X5_init ml_X0_24 im_X5_init rfl ⟨by decide, by decide⟩ hb hg167 (by decide) (by decide) rfl rfl rfl rfl (Nat.le_of_ble_eq_true rfl) dX0_init_66 ?_
  obtain ⟨μ169, hμ169, h⟩ := bindE h
  refine aw_sR C (by decide) (ci := 5) rfl rfl hμ169 dX0_init_69 ?_
  refine aw_iinc C (23) 0 [(1, .int 23), (0, .ref (gZ G + a0))] dX0_init_70 rfl (by decide) (by decide) rfl ?_
  refine aw_goto C 51 dX0_init_73 (by decide) ?_
  refine aw_iload_n C 0 dX0_init_51 rfl rfl ?_
  refine aw_bipush C 40 dX0_init_52 (by decide) ?_
  refine aw_icmp_ge C 76 dX0_init_54 (by decide) (fun q => absurd q (by decide)) (fun _ => ?_)
  refine aw_aload_n C 1 dX0_init_57 rfl rfl ?_
  obtain ⟨v170, hv170, h⟩ := bindE h
  refine aw_gR C fl_X0_19 rfl hv170 dX0_init_58 ?_
  refine aw_iload_n C 0 dX0_init_61 rfl rfl ?_
  obtain ⟨μ171, hμ171, h⟩ := bindE h
  refine aw_new C 36 260 tyX5 rfl ingX5 tyX5_ok rfl dfX5 cl_X0_17 it_X5 ii_X5 hb hμ171 (by decide) (by decide) rfl rfl dX0_init_62 ?_
  refine aw_dup C dX0_init_65 rfl ?_
  obtain ⟨g172, hg172, h⟩ := bindE h
  obtain ⟨μ173, hμ173, h⟩ := bindE h
  refine aw_cIN_V C 36 260 [] _ (mt_X5_init hμ173) cs_X5_init ml_X0_24 im_X5_init rfl ⟨by decide, by decide⟩ hb hg172 (by decide) (by decide) rfl rfl rfl rfl (Nat.le_of_ble_eq_true rfl) dX0_init_66 ?_
  obtain ⟨μ174, hμ174, h⟩ := bindE h
  refine aw_sR C (by decide) (ci := 5) rfl rfl hμ174 dX0_init_69 ?_
  refine aw_iinc C (24) 0 [(1, .int 24), (0, .ref (gZ G + a0))] dX0_init_70 rfl (by decide) (by decide) rfl ?_
  refine aw_goto C 51 dX0_init_73 (by decide) ?_
  refine aw_iload_n C 0 dX0_init_51 rfl rfl ?_
  refine aw_bipush C 40 dX0_init_52 (by decide) ?_
  refine aw_icmp_ge C 76 dX0_init_54 (by decide) (fun q => absurd q (by decide)) (fun _ => ?_)
  refine aw_aload_n C 1 dX0_init_57 rfl rfl ?_
  obtain ⟨v175, hv175, h⟩ := bindE h
  refine aw_gR C fl_X0_19 rfl hv175 dX0_init_58 ?_
  refine aw_iload_n C 0 dX0_init_61 rfl rfl ?_
  obtain ⟨μ176, hμ176, h⟩ := bindE h
  refine aw_new C 37 265 tyX5 rfl ingX5 tyX5_ok rfl dfX5 cl_X0_17 it_X5 ii_X5 hb hμ176 (by decide) (by decide) rfl rfl dX0_init_62 ?_
  refine aw_dup C dX0_init_65 rfl ?_
  obtain ⟨g177, hg177, h⟩ := bindE h
  obtain ⟨μ178, hμ178, h⟩ := bindE h
  refine aw_cIN_V C 37 265 [] _ (mt_X5_init hμ178) cs_X5_init ml_X0_24 im_X5_init rfl ⟨by decide, by decide⟩ hb hg177 (by decide) (by decide) rfl rfl rfl rfl (Nat.le_of_ble_eq_true rfl) dX0_init_66 ?_
  obtain ⟨μ179, hμ179, h⟩ := bindE h
  refine aw_sR C (by decide) (ci := 5) rfl rfl hμ179 dX0_init_69 ?_
  refine aw_iinc C (25) 0 [(1, .int 25), (0, .ref (gZ G + a0))] dX0_init_70 rfl (by decide) (by decide) rfl ?_
  refine aw_goto C 51 dX0_init_73 (by decide) ?_
  refine aw_iload_n C 0 dX0_init_51 rfl rfl ?_
  refine aw_bipush C 40 dX0_init_52 (by decide) ?_
  refine aw_icmp_ge C 76 dX0_init_54 (by decide) (fun q => absurd q (by decide)) (fun _ => ?_)
  refine aw_aload_n C 1 dX0_init_57 rfl rfl ?_
  obtain ⟨v180, hv180, h⟩ := bindE h
  refine aw_gR C fl_X0_19 rfl hv180 dX0_init_58 ?_
  refine aw_iload_n C 0 dX0_init_61 rfl rfl ?_
  obtain ⟨μ181, hμ181, h⟩ := bindE h
  refine aw_new C 38 270 tyX5 rfl ingX5 tyX5_ok rfl dfX5 cl_X0_17 it_X5 ii_X5 hb hμ181 (by decide) (by decide) rfl rfl dX0_init_62 ?_
  refine aw_dup C dX0_init_65 rfl ?_
  obtain ⟨g182, hg182, h⟩ := bindE h
  obtain ⟨μ183, hμ183, h⟩ := bindE h
  refine aw_cIN_V C 38 270 [] _ (mt_X5_init hμ183) cs_X5_init ml_X0_24 im_X5_init rfl ⟨by decide, by decide⟩ hb hg182 (by decide) (by decide) rfl rfl rfl rfl (Nat.le_of_ble_eq_true rfl) dX0_init_66 ?_
  obtain ⟨μ184, hμ184, h⟩ := bindE h
  refine aw_sR C (by decide) (ci := 5) rfl rfl hμ184 dX0_init_69 ?_
  refine aw_iinc C (26) 0 [(1, .int 26), (0, .ref (gZ G + a0))] dX0_init_70 rfl (by decide) (by decide) rfl ?_
  refine aw_goto C 51 dX0_init_73 (by decide) ?_
  refine aw_iload_n C 0 dX0_init_51 rfl rfl ?_
  refine aw_bipush C 40 dX0_init_52 (by decide) ?_
  refine aw_icmp_ge C 76 dX0_init_54 (by decide) (fun q => absurd q (by decide)) (fun _ => ?_)
  refine aw_aload_n C 1 dX0_init_57 rfl rfl ?_
  obtain ⟨v185, hv185, h⟩ := bindE h
  refine aw_gR C fl_X0_19 rfl hv185 dX0_init_58 ?_
  refine aw_iload_n C 0 dX0_init_61 rfl rfl ?_
  obtain ⟨μ186, hμ186, h⟩ := bindE h
  refine aw_new C 39 275 tyX5 rfl ingX5 tyX5_ok rfl dfX5 cl_X0_17 it_X5 ii_X5 hb hμ186 (by decide) (by decide) rfl rfl dX0_init_62 ?_
  refine aw_dup C dX0_init_65 rfl ?_
  obtain ⟨g187, hg187, h⟩ := bindE h
  obtain ⟨μ188, hμ188, h⟩ := bindE h
  refine aw_cIN_V C 39 275 [] _ (mt_X5_init hμ188) cs_X5_init ml_X0_24 im_X5_init rfl ⟨by decide, by decide⟩ hb hg187 (by decide) (by decide) rfl rfl rfl rfl (Nat.le_of_ble_eq_true rfl) dX0_init_66 ?_
  obtain ⟨μ189, hμ189, h⟩ := bindE h
  refine aw_sR C (by decide) (ci := 5) rfl rfl hμ189 dX0_init_69 ?_
  refine aw_iinc C (27) 0 [(1, .int 27), (0, .ref (gZ G + a0))] dX0_init_70 rfl (by decide) (by decide) rfl ?_
  refine aw_goto C 51 dX0_init_73 (by decide) ?_
  refine aw_iload_n C 0 dX0_init_51 rfl rfl ?_
  refine aw_bipush C 40 dX0_init_52 (by decide) ?_
  refine aw_icmp_ge C 76 dX0_init_54 (by decide) (fun q => absurd q (by decide)) (fun _ => ?_)
  refine aw_aload_n C 1 dX0_init_57 rfl rfl ?_
  obtain ⟨v190, hv190, h⟩ := bindE h
  refine aw_gR C fl_X0_19 rfl hv190 dX0_init_58 ?_
  refine aw_iload_n C 0 dX0_init_61 rfl rfl ?_
  obtain ⟨μ191, hμ191, h⟩ := bindE h
  refine aw_new C 40 280 tyX5 rfl ingX5 tyX5_ok rfl dfX5 cl_X0_17 it_X5 ii_X5 hb hμ191 (by decide) (by decide) rfl rfl dX0_init_62 ?_
  refine aw_dup C dX0_init_65 rfl ?_
  obtain ⟨g192, hg192, h⟩ := bindE h
  obtain ⟨μ193, hμ193, h⟩ := bindE h
  refine aw_cIN_V C 40 280 [] _ (mt_X5_init hμ193) cs_X5_init ml_X0_24 im_X5_init rfl ⟨by decide, by decide⟩ hb hg192 (by decide) (by decide) rfl rfl rfl rfl (Nat.le_of_ble_eq_true rfl) dX0_init_66 ?_
  obtain ⟨μ194, hμ194, h⟩ := bindE h
  refine aw_sR C (by decide) (ci := 5) rfl rfl hμ194 dX0_init_69 ?_
  refine aw_iinc C (28) 0 [(1, .int 28), (0, .ref (gZ G + a0))] dX0_init_70 rfl (by decide) (by decide) rfl ?_
  refine aw_goto C 51 dX0_init_73 (by decide) ?_
  refine aw_iload_n C 0 dX0_init_51 rfl rfl ?_
  refine aw_bipush C 40 dX0_init_52 (by decide) ?_
  refine aw_icmp_ge C 76 dX0_init_54 (by decide) (fun q => absurd q (by decide)) (fun _ => ?_)
  refine aw_aload_n C 1 dX0_init_57 rfl rfl ?_
  obtain ⟨v195, hv195, h⟩ := bindE h
  refine aw_gR C fl_X0_19 rfl hv195 dX0_init_58 ?_
  refine aw_iload_n C 0 dX0_init_61 rfl rfl ?_
  obtain ⟨μ196, hμ196, h⟩ := bindE h
  refine aw_new C 41 285 tyX5 rfl ingX5 tyX5_ok rfl dfX5 cl_X0_17 it_X5 ii_X5 hb hμ196 (by decide) (by decide) rfl rfl dX0_init_62 ?_
  refine aw_dup C dX0_init_65 rfl ?_
  obtain ⟨g197, hg197, h⟩ := bindE h
  obtain ⟨μ198, hμ198, h⟩ := bindE h
  refine aw_cIN_V C 41 285 [] _ (mt_X5_init hμ198) cs_X5_init ml_X0_24 im_X5_init rfl ⟨by decide, by decide⟩ hb hg197 (by decide) (by decide) rfl rfl rfl rfl (Nat.le_of_ble_eq_true rfl) dX0_init_66 ?_
  obtain ⟨μ199, hμ199, h⟩ := bindE h
  refine aw_sR C (by decide) (ci := 5) rfl rfl hμ199 dX0_init_69 ?_
  refine aw_iinc C (29) 0 [(1, .int 29), (0, .ref (gZ G + a0))] dX0_init_70 rfl (by decide) (by decide) rfl ?_
  refine aw_goto C 51 dX0_init_73 (by decide) ?_
  refine aw_iload_n C 0 dX0_init_51 rfl rfl ?_
  refine aw_bipush C 40 dX0_init_52 (by decide) ?_
  refine aw_icmp_ge C 76 dX0_init_54 (by decide) (fun q => absurd q (by decide)) (fun _ => ?_)
  refine aw_aload_n C 1 dX0_init_57 rfl rfl ?_
  obtain ⟨v200, hv200, h⟩ := bindE h
  refine aw_gR C fl_X0_19 rfl hv200 dX0_init_58 ?_
  refine aw_iload_n C 0 dX0_init_61 rfl rfl ?_
  obtain ⟨μ201, hμ201, h⟩ := bindE h
  refine aw_new C 42 290 tyX5 rfl ingX5 tyX5_ok rfl dfX5 cl_X0_17 it_X5 ii_X5 hb hμ201 (by decide) (by decide) rfl rfl dX0_init_62 ?_
  refine aw_dup C dX0_init_65 rfl ?_
  obtain ⟨g202, hg202, h⟩ := bindE h
  obtain ⟨μ203, hμ203, h⟩ := bindE h
  refine aw_cIN_V C 42 290 [] _ (mt_X5_init hμ203) cs_X5_init ml_X0_24 im_X5_init rfl ⟨by decide, by decide⟩ hb hg202 (by decide) (by decide) rfl rfl rfl rfl (Nat.le_of_ble_eq_true rfl) dX0_init_66 ?_
  obtain ⟨μ204, hμ204, h⟩ := bindE h
  refine aw_sR C (by decide) (ci := 5) rfl rfl hμ204 dX0_init_69 ?_
  refine aw_iinc C (30) 0 [(1, .int 30), (0, .ref (gZ G + a0))] dX0_init_70 rfl (by decide) (by decide) rfl ?_
  refine aw_goto C 51 dX0_init_73 (by decide) ?_
  refine aw_iload_n C 0 dX0_init_51 rfl rfl ?_
  refine aw_bipush C 40 dX0_init_52 (by decide) ?_
  refine aw_icmp_ge C 76 dX0_init_54 (by decide) (fun q => absurd q (by decide)) (fun _ => ?_)
  refine aw_aload_n C 1 dX0_init_57 rfl rfl ?_
  obtain ⟨v205, hv205, h⟩ := bindE h
  refine aw_gR C fl_X0_19 rfl hv205 dX0_init_58 ?_
  refine aw_iload_n C 0 dX0_init_61 rfl rfl ?_
  obtain ⟨μ206, hμ206, h⟩ := bindE h
  refine aw_new C 43 295 tyX5 rfl ingX5 tyX5_ok rfl dfX5 cl_X0_17 it_X5 ii_X5 hb hμ206 (by decide) (by decide) rfl rfl dX0_init_62 ?_
  refine aw_dup C dX0_init_65 rfl ?_
  obtain ⟨g207, hg207, h⟩ := bindE h
  obtain ⟨μ208, hμ208, h⟩ := bindE h
  refine aw_cIN_V C 43 295 [] _ (mt_X5_init hμ208) cs_X5_init ml_X0_24 im_X5_init rfl ⟨by decide, by decide⟩ hb hg207 (by decide) (by decide) rfl rfl rfl rfl (Nat.le_of_ble_eq_true rfl) dX0_init_66 ?_
  obtain ⟨μ209, hμ209, h⟩ := bindE h
  refine aw_sR C (by decide) (ci := 5) rfl rfl hμ209 dX0_init_69 ?_
  refine aw_iinc C (31) 0 [(1, .int 31), (0, .ref (gZ G + a0))] dX0_init_70 rfl (by decide) (by decide) rfl ?_
  refine aw_goto C 51 dX0_init_73 (by decide) ?_
  refine aw_iload_n C 0 dX0_init_51 rfl rfl ?_
  refine aw_bipush C 40 dX0_init_52 (by decide) ?_
  refine aw_icmp_ge C 76 dX0_init_54 (by decide) (fun q => absurd q (by decide)) (fun _ => ?_)
  refine aw_aload_n C 1 dX0_init_57 rfl rfl ?_
  obtain ⟨v210, hv210, h⟩ := bindE h
  refine aw_gR C fl_X0_19 rfl hv210 dX0_init_58 ?_
  refine aw_iload_n C 0 dX0_init_61 rfl rfl ?_
  obtain ⟨μ211, hμ211, h⟩ := bindE h
  refine aw_new C 44 300 tyX5 rfl ingX5 tyX5_ok rfl dfX5 cl_X0_17 it_X5 ii_X5 hb hμ211 (by decide) (by decide) rfl rfl dX0_init_62 ?_
  refine aw_dup C dX0_init_65 rfl ?_
  obtain ⟨g212, hg212, h⟩ := bindE h
  obtain ⟨μ213, hμ213, h⟩ := bindE h
  refine aw_cIN_V C 44 300 [] _ (mt_X5_init hμ213) cs_X5_init ml_X0_24 im_X5_init rfl ⟨by decide, by decide⟩ hb hg212 (by decide) (by decide) rfl rfl rfl rfl (Nat.le_of_ble_eq_true rfl) dX0_init_66 ?_
  obtain ⟨μ214, hμ214, h⟩ := bindE h
  refine aw_sR C (by decide) (ci := 5) rfl rfl hμ214 dX0_init_69 ?_
  refine aw_iinc C (32) 0 [(1, .int 32), (0, .ref (gZ G + a0))] dX0_init_70 rfl (by decide) (by decide) rfl ?_
  refine aw_goto C 51 dX0_init_73 (by decide) ?_
  refine aw_iload_n C 0 dX0_init_51 rfl rfl ?_
  refine aw_bipush C 40 dX0_init_52 (by decide) ?_
  refine aw_icmp_ge C 76 dX0_init_54 (by decide) (fun q => absurd q (by decide)) (fun _ => ?_)
  refine aw_aload_n C 1 dX0_init_57 rfl rfl ?_
  obtain ⟨v215, hv215, h⟩ := bindE h
  refine aw_gR C fl_X0_19 rfl hv215 dX0_init_58 ?_
  refine aw_iload_n C 0 dX0_init_61 rfl rfl ?_
  obtain ⟨μ216, hμ216, h⟩ := bindE h
  refine aw_new C 45 305 tyX5 rfl ingX5 tyX5_ok rfl dfX5 cl_X0_17 it_X5 ii_X5 hb hμ216 (by decide) (by decide) rfl rfl dX0_init_62 ?_
  refine aw_dup C dX0_init_65 rfl ?_
  obtain ⟨g217, hg217, h⟩ := bindE h
  obtain ⟨μ218, hμ218, h⟩ := bindE h
  refine aw_cIN_V C 45 305 [] _ (mt_X5_init hμ218) cs_X5_init ml_X0_24 im_X5_init rfl ⟨by decide, by decide⟩ hb hg217 (by decide) (by decide) rfl rfl rfl rfl (Nat.le_of_ble_eq_true rfl) dX0_init_66 ?_
  obtain ⟨μ219, hμ219, h⟩ := bindE h
  refine aw_sR C (by decide) (ci := 5) rfl rfl hμ219 dX0_init_69 ?_
  refine aw_iinc C (33) 0 [(1, .int 33), (0, .ref (gZ G + a0))] dX0_init_70 rfl (by decide) (by decide) rfl ?_
  refine aw_goto C 51 dX0_init_73 (by decide) ?_
  refine aw_iload_n C 0 dX0_init_51 rfl rfl ?_
  refine aw_bipush C 40 dX0_init_52 (by decide) ?_
  refine aw_icmp_ge C 76 dX0_init_54 (by decide) (fun q => absurd q (by decide)) (fun _ => ?_)
  refine aw_aload_n C 1 dX0_init_57 rfl rfl ?_
  obtain ⟨v220, hv220, h⟩ := bindE h
  refine aw_gR C fl_X0_19 rfl hv220 dX0_init_58 ?_
  refine aw_iload_n C 0 dX0_init_61 rfl rfl ?_
  obtain ⟨μ221, hμ221, h⟩ := bindE h
  refine aw_new C 46 310 tyX5 rfl ingX5 tyX5_ok rfl dfX5 cl_X0_17 it_X5 ii_X5 hb hμ221 (by decide) (by decide) rfl rfl dX0_init_62 ?_
  refine aw_dup C dX0_init_65 rfl ?_
  obtain ⟨g222, hg222, h⟩ := bindE h
  obtain ⟨μ223, hμ223, h⟩ := bindE h
  refine aw_cIN_V C 46 310 [] _ (mt_X5_init hμ223) cs_X5_init ml_X0_24 im_X5_init rfl ⟨by decide, by decide⟩ hb hg222 (by decide) (by decide) rfl rfl rfl rfl (Nat.le_of_ble_eq_true rfl) dX0_init_66 ?_
  obtain ⟨μ224, hμ224, h⟩ := bindE h
  refine aw_sR C (by decide) (ci := 5) rfl rfl hμ224 dX0_init_69 ?_
  refine aw_iinc C (34) 0 [(1, .int 34), (0, .ref (gZ G + a0))] dX0_init_70 rfl (by decide) (by decide) rfl ?_
  refine aw_goto C 51 dX0_init_73 (by decide) ?_
  refine aw_iload_n C 0 dX0_init_51 rfl rfl ?_
  refine aw_bipush C 40 dX0_init_52 (by decide) ?_
  refine aw_icmp_ge C 76 dX0_init_54 (by decide) (fun q => absurd q (by decide)) (fun _ => ?_)
  refine aw_aload_n C 1 dX0_init_57 rfl rfl ?_
  obtain ⟨v225, hv225, h⟩ := bindE h
  refine aw_gR C fl_X0_19 rfl hv225 dX0_init_58 ?_
  refine aw_iload_n C 0 dX0_init_61 rfl rfl ?_
  obtain ⟨μ226, hμ226, h⟩ := bindE h
  refine aw_new C 47 315 tyX5 rfl ingX5 tyX5_ok rfl dfX5 cl_X0_17 it_X5 ii_X5 hb hμ226 (by decide) (by decide) rfl rfl dX0_init_62 ?_
  refine aw_dup C dX0_init_65 rfl ?_
  obtain ⟨g227, hg227, h⟩ := bindE h
  obtain ⟨μ228, hμ228, h⟩ := bindE h
  refine aw_cIN_V C 47 315 [] _ (mt_X5_init hμ228) cs_X5_init ml_X0_24 im_X5_init rfl ⟨by decide, by decide⟩ hb hg227 (by decide) (by decide) rfl rfl rfl rfl (Nat.le_of_ble_eq_true rfl) dX0_init_66 ?_
  obtain ⟨μ229, hμ229, h⟩ := bindE h
  refine aw_sR C (by decide) (ci := 5) rfl rfl hμ229 dX0_init_69 ?_
  refine aw_iinc C (35) 0 [(1, .int 35), (0, .ref (gZ G + a0))] dX0_init_70 rfl (by decide) (by decide) rfl ?_
  refine aw_goto C 51 dX0_init_73 (by decide) ?_
  refine aw_iload_n C 0 dX0_init_51 rfl rfl ?_
  refine aw_bipush C 40 dX0_init_52 (by decide) ?_
  refine aw_icmp_ge C 76 dX0_init_54 (by decide) (fun q => absurd q (by decide)) (fun _ => ?_)
  refine aw_aload_n C 1 dX0_init_57 rfl rfl ?_
  obtain ⟨v230, hv230, h⟩ := bindE h
  refine aw_gR C fl_X0_19 rfl hv230 dX0_init_58 ?_
  refine aw_iload_n C 0 dX0_init_61 rfl rfl ?_
  obtain ⟨μ231, hμ231, h⟩ := bindE h
  refine aw_new C 48 320 tyX5 rfl ingX5 tyX5_ok rfl dfX5 cl_X0_17 it_X5 ii_X5 hb hμ231 (by decide) (by decide) rfl rfl dX0_init_62 ?_
  refine aw_dup C dX0_init_65 rfl ?_
  obtain ⟨g232, hg232, h⟩ := bindE h
  obtain ⟨μ233, hμ233, h⟩ := bindE h
  refine aw_cIN_V C 48 320 [] _ (mt_X5_init hμ233) cs_X5_init ml_X0_24 im_X5_init rfl ⟨by decide, by decide⟩ hb hg232 (by decide) (by decide) rfl rfl rfl rfl (Nat.le_of_ble_eq_true rfl) dX0_init_66 ?_
  obtain ⟨μ234, hμ234, h⟩ := bindE h
  refine aw_sR C (by decide) (ci := 5) rfl rfl hμ234 dX0_init_69 ?_
  refine aw_iinc C (36) 0 [(1, .int 36), (0, .ref (gZ G + a0))] dX0_init_70 rfl (by decide) (by decide) rfl ?_
  refine aw_goto C 51 dX0_init_73 (by decide) ?_
  refine aw_iload_n C 0 dX0_init_51 rfl rfl ?_
  refine aw_bipush C 40 dX0_init_52 (by decide) ?_
  refine aw_icmp_ge C 76 dX0_init_54 (by decide) (fun q => absurd q (by decide)) (fun _ => ?_)
  refine aw_aload_n C 1 dX0_init_57 rfl rfl ?_
  obtain ⟨v235, hv235, h⟩ := bindE h
  refine aw_gR C fl_X0_19 rfl hv235 dX0_init_58 ?_
  refine aw_iload_n C 0 dX0_init_61 rfl rfl ?_
  obtain ⟨μ236, hμ236, h⟩ := bindE h
  refine aw_new C 49 325 tyX5 rfl ingX5 tyX5_ok rfl dfX5 cl_X0_17 it_X5 ii_X5 hb hμ236 (by decide) (by decide) rfl rfl dX0_init_62 ?_
  refine aw_dup C dX0_init_65 rfl ?_
  obtain ⟨g237, hg237, h⟩ := bindE h
  obtain ⟨μ238, hμ238, h⟩ := bindE h
  refine aw_cIN_V C 49 325 [] _ (mt_X5_init hμ238) cs_X5_init ml_X0_24 im_X5_init rfl ⟨by decide, by decide⟩ hb hg237 (by decide) (by decide) rfl rfl rfl rfl (Nat.le_of_ble_eq_true rfl) dX0_init_66 ?_
  obtain ⟨μ239, hμ239, h⟩ := bindE h
  refine aw_sR C (by decide) (ci := 5) rfl rfl hμ239 dX0_init_69 ?_
  refine aw_iinc C (37) 0 [(1, .int 37), (0, .ref (gZ G + a0))] dX0_init_70 rfl (by decide) (by decide) rfl ?_
  refine aw_goto C 51 dX0_init_73 (by decide) ?_
  refine aw_iload_n C 0 dX0_init_51 rfl rfl ?_
  refine aw_bipush C 40 dX0_init_52 (by decide) ?_
  refine aw_icmp_ge C 76 dX0_init_54 (by decide) (fun q => absurd q (by decide)) (fun _ => ?_)
  refine aw_aload_n C 1 dX0_init_57 rfl rfl ?_
  obtain ⟨v240, hv240, h⟩ := bindE h
  refine aw_gR C fl_X0_19 rfl hv240 dX0_init_58 ?_
  refine aw_iload_n C 0 dX0_init_61 rfl rfl ?_
  obtain ⟨μ241, hμ241, h⟩ := bindE h
  refine aw_new C 50 330 tyX5 rfl ingX5 tyX5_ok rfl dfX5 cl_X0_17 it_X5 ii_X5 hb hμ241 (by decide) (by decide) rfl rfl dX0_init_62 ?_
  refine aw_dup C dX0_init_65 rfl ?_
  obtain ⟨g242, hg242, h⟩ := bindE h
  obtain ⟨μ243, hμ243, h⟩ := bindE h
  refine aw_cIN_V C 50 330 [] _ (mt_X5_init hμ243) cs_X5_init ml_X0_24 im_X5_init rfl ⟨by decide, by decide⟩ hb hg242 (by decide) (by decide) rfl rfl rfl rfl (Nat.le_of_ble_eq_true rfl) dX0_init_66 ?_
  obtain ⟨μ244, hμ244, h⟩ := bindE h
  refine aw_sR C (by decide) (ci := 5) rfl rfl hμ244 dX0_init_69 ?_
  refine aw_iinc C (38) 0 [(1, .int 38), (0, .ref (gZ G + a0))] dX0_init_70 rfl (by decide) (by decide) rfl ?_
  refine aw_goto C 51 dX0_init_73 (by decide) ?_
  refine aw_iload_n C 0 dX0_init_51 rfl rfl ?_
  refine aw_bipush C 40 dX0_init_52 (by decide) ?_
  refine aw_icmp_ge C 76 dX0_init_54 (by decide) (fun q => absurd q (by decide)) (fun _ => ?_)
  refine aw_aload_n C 1 dX0_init_57 rfl rfl ?_
  obtain ⟨v245, hv245, h⟩ := bindE h
  refine aw_gR C fl_X0_19 rfl hv245 dX0_init_58 ?_
  refine aw_iload_n C 0 dX0_init_61 rfl rfl ?_
  obtain ⟨μ246, hμ246, h⟩ := bindE h
  refine aw_new C 51 335 tyX5 rfl ingX5 tyX5_ok rfl dfX5 cl_X0_17 it_X5 ii_X5 hb hμ246 (by decide) (by decide) rfl rfl dX0_init_62 ?_
  refine aw_dup C dX0_init_65 rfl ?_
  obtain ⟨g247, hg247, h⟩ := bindE h
  obtain ⟨μ248, hμ248, h⟩ := bindE h
  refine aw_cIN_V C 51 335 [] _ (mt_X5_init hμ248) cs_X5_init ml_X0_24 im_X5_init rfl ⟨by decide, by decide⟩ hb hg247 (by decide) (by decide) rfl rfl rfl rfl (Nat.le_of_ble_eq_true rfl) dX0_init_66 ?_
  obtain ⟨μ249, hμ249, h⟩ := bindE h
  refine aw_sR C (by decide) (ci := 5) rfl rfl hμ249 dX0_init_69 ?_
  refine aw_iinc C (39) 0 [(1, .int 39), (0, .ref (gZ G + a0))] dX0_init_70 rfl (by decide) (by decide) rfl ?_
  refine aw_goto C 51 dX0_init_73 (by decide) ?_
  refine aw_iload_n C 0 dX0_init_51 rfl rfl ?_
  refine aw_bipush C 40 dX0_init_52 (by decide) ?_
  refine aw_icmp_ge C 76 dX0_init_54 (by decide) (fun q => absurd q (by decide)) (fun _ => ?_)
  refine aw_aload_n C 1 dX0_init_57 rfl rfl ?_
  obtain ⟨v250, hv250, h⟩ := bindE h
  refine aw_gR C fl_X0_19 rfl hv250 dX0_init_58 ?_
  refine aw_iload_n C 0 dX0_init_61 rfl rfl ?_
  obtain ⟨μ251, hμ251, h⟩ := bindE h
  refine aw_new C 52 340 tyX5 rfl ingX5 tyX5_ok rfl dfX5 cl_X0_17 it_X5 ii_X5 hb hμ251 (by decide) (by decide) rfl rfl dX0_init_62 ?_
  refine aw_dup C dX0_init_65 rfl ?_
  obtain ⟨g252, hg252, h⟩ := bindE h
  obtain ⟨μ253, hμ253, h⟩ := bindE h
  refine aw_cIN_V C 52 340 [] _ (mt_X5_init hμ253) cs_X5_init ml_X0_24 im_X5_init rfl ⟨by decide, by decide⟩ hb hg252 (by decide) (by decide) rfl rfl rfl rfl (Nat.le_of_ble_eq_true rfl) dX0_init_66 ?_
  obtain ⟨μ254, hμ254, h⟩ := bindE h
  refine aw_sR C (by decide) (ci := 5) rfl rfl hμ254 dX0_init_69 ?_
  refine aw_iinc C (40) 0 [(1, .int 40), (0, .ref (gZ G + a0))] dX0_init_70 rfl (by decide) (by decide) rfl ?_
  refine aw_goto C 51 dX0_init_73 (by decide) ?_
  refine aw_iload_n C 0 dX0_init_51 rfl rfl ?_
  refine aw_bipush C 40 dX0_init_52 (by decide) ?_
  refine aw_icmp_ge C 76 dX0_init_54 (by decide) (fun _ => ?_) (fun q => absurd (by decide) q)
  have e9 := inj1 h
  subst e9
  exact hret _ _ dX0_init_76
set_option maxRecDepth 100000 in
set_option maxHeartbeats 4000000 in
theorem mt_X0_init {G : GL} {l : Launch} {a0 : Nat} {μ : Mem} {μ' : Mem} (h : X0_init a0 μ = some μ') : MtV G l yX0_init cX0_init 2 none rm_X0_init true [.ref (gZ G + a0)] μ μ' := met_V (by decide) rfl (Nat.le_of_ble_eq_true rfl) (fun X _ C hi hb hret => wk_X0_init C hi (hb rfl) h hret)
set_option maxRecDepth 100000 in
set_option maxHeartbeats 4000000 in
theorem wk_X0_hasThing {G : GL} {X : CX} {a0 : Nat} {x1 : Int32} {μ : Mem} {r : Int32} (C : Ctx G X cX0_hasThing 2 RX0 rm_X0_hasThing) (h : X0_hasThing a0 x1 μ = some r) (hret : RtZ G 2 X cX0_hasThing 0 0 r μ) : AW G 2 X 0 0 0 [(0, .ref (gZ G + a0)), (1, .int x1)] [] μ := by
  unfold X0_hasThing at h
  refine aw_iload_n C 1 dX0_hasThing_0 rfl rfl ?_
  obtain ⟨z4, hz4, h⟩ := bindE h
  have kj1 : AW G 2 X 0 0 17 [] [.int z4] μ := by
    obtain ⟨v5, hv5, h⟩ := bindE h
    obtain ⟨ev5, zv5⟩ := zzE hv5
    refine aw_topi ev5 ?_
    have e9 := inj1 h
    subst e9
    exact hret _ _ dX0_hasThing_17 zv5
  replace h := hz4
  refine aw_if_lt C 16 dX0_hasThing_1 (by decide) (fun c1 => ?_) (fun c1 => ?_)
  · rw [if_pos c1] at h
    refine aw_iconst C 0 dX0_hasThing_16 (by decide) ?_
    have e9 := inj1 h
    subst e9
    exact aw_sub [] rfl kj1
  · rw [if_neg c1] at h
    refine aw_iload_n C 1 dX0_hasThing_4 rfl rfl ?_
    refine aw_aload_n C 0 dX0_hasThing_5 rfl rfl ?_
    obtain ⟨v2, hv2, h⟩ := bindE h
    refine aw_gI C fl_X0_25 rfl hv2 dX0_hasThing_6 ?_
    refine aw_icmp_ge C 16 dX0_hasThing_9 (by decide) (fun c3 => ?_) (fun c3 => ?_)
    · rw [if_pos c3] at h
      refine aw_iconst C 0 dX0_hasThing_16 (by decide) ?_
      have e9 := inj1 h
      subst e9
      exact aw_sub [] rfl kj1
    · rw [if_neg c3] at h
      refine aw_iconst C 1 dX0_hasThing_12 (by decide) ?_
      refine aw_goto C 17 dX0_hasThing_13 (by decide) ?_
      have e9 := inj1 h
      subst e9
      exact aw_sub [] rfl kj1
set_option maxRecDepth 100000 in
set_option maxHeartbeats 4000000 in
theorem mt_X0_hasThing {G : GL} {l : Launch} {a0 : Nat} {x1 : Int32} {μ : Mem} {r : Int32} (h : X0_hasThing a0 x1 μ = some r) : MtI G l yX0_hasThing cX0_hasThing 2 (some .boolean) rm_X0_hasThing false [.ref (gZ G + a0), .int x1] μ r μ := met_Z (by decide) rfl (Nat.le_of_ble_eq_true rfl) (fun X _ C _ _ hret => wk_X0_hasThing C h hret)
set_option maxRecDepth 100000 in
set_option maxHeartbeats 4000000 in
theorem wk_X0_hasThings {G : GL} {X : CX} {a0 : Nat} {x1 : Int32} {μ : Mem} {r : Int32} (C : Ctx G X cX0_hasThings 2 RX0 rm_X0_hasThings) (h : X0_hasThings a0 x1 μ = some r) (hret : RtZ G 2 X cX0_hasThings 0 0 r μ) : AW G 2 X 0 0 0 [(0, .ref (gZ G + a0)), (1, .int x1)] [] μ := by
  unfold X0_hasThings at h
  refine aw_iload_n C 1 dX0_hasThings_0 rfl rfl ?_
  obtain ⟨z4, hz4, h⟩ := bindE h
  have kj1 : AW G 2 X 0 0 19 [] [.int z4] μ := by
    obtain ⟨v5, hv5, h⟩ := bindE h
    obtain ⟨ev5, zv5⟩ := zzE hv5
    refine aw_topi ev5 ?_
    have e9 := inj1 h
    subst e9
    exact hret _ _ dX0_hasThings_19 zv5
  replace h := hz4
  refine aw_if_le C 18 dX0_hasThings_1 (by decide) (fun c1 => ?_) (fun c1 => ?_)
  · rw [if_pos c1] at h
    refine aw_iconst C 0 dX0_hasThings_18 (by decide) ?_
    have e9 := inj1 h
    subst e9
    exact aw_sub [] rfl kj1
  · rw [if_neg c1] at h
    refine aw_iload_n C 1 dX0_hasThings_4 rfl rfl ?_
    refine aw_iconst C 1 dX0_hasThings_5 (by decide) ?_
    refine aw_aload_n C 0 dX0_hasThings_6 rfl rfl ?_
    obtain ⟨v2, hv2, h⟩ := bindE h
    refine aw_gI C fl_X0_25 rfl hv2 dX0_hasThings_7 ?_
    refine aw_ishl C dX0_hasThings_10 ?_
    refine aw_icmp_ge C 18 dX0_hasThings_11 (by decide) (fun c3 => ?_) (fun c3 => ?_)
    · rw [if_pos c3] at h
      refine aw_iconst C 0 dX0_hasThings_18 (by decide) ?_
      have e9 := inj1 h
      subst e9
      exact aw_sub [] rfl kj1
    · rw [if_neg c3] at h
      refine aw_iconst C 1 dX0_hasThings_14 (by decide) ?_
      refine aw_goto C 19 dX0_hasThings_15 (by decide) ?_
      have e9 := inj1 h
      subst e9
      exact aw_sub [] rfl kj1
set_option maxRecDepth 100000 in
set_option maxHeartbeats 4000000 in
theorem mt_X0_hasThings {G : GL} {l : Launch} {a0 : Nat} {x1 : Int32} {μ : Mem} {r : Int32} (h : X0_hasThings a0 x1 μ = some r) : MtI G l yX0_hasThings cX0_hasThings 2 (some .boolean) rm_X0_hasThings false [.ref (gZ G + a0), .int x1] μ r μ := met_Z (by decide) rfl (Nat.le_of_ble_eq_true rfl) (fun X _ C _ _ hret => wk_X0_hasThings C h hret)
set_option maxRecDepth 100000 in
set_option maxHeartbeats 4000000 in
theorem wk_X0_hasSaying {G : GL} {X : CX} {a0 : Nat} {x1 : Int32} {μ : Mem} {r : Int32} (C : Ctx G X cX0_hasSaying 2 RX0 rm_X0_hasSaying) (h : X0_hasSaying a0 x1 μ = some r) (hret : RtZ G 2 X cX0_hasSaying 0 0 r μ) : AW G 2 X 0 0 0 [(0, .ref (gZ G + a0)), (1, .int x1)] [] μ := by
  unfold X0_hasSaying at h
  refine aw_iload_n C 1 dX0_hasSaying_0 rfl rfl ?_
  obtain ⟨z4, hz4, h⟩ := bindE h
  have kj1 : AW G 2 X 0 0 17 [] [.int z4] μ := by
    obtain ⟨v5, hv5, h⟩ := bindE h
    obtain ⟨ev5, zv5⟩ := zzE hv5
    refine aw_topi ev5 ?_
    have e9 := inj1 h
    subst e9
    exact hret _ _ dX0_hasSaying_17 zv5
  replace h := hz4
  refine aw_if_lt C 16 dX0_hasSaying_1 (by decide) (fun c1 => ?_) (fun c1 => ?_)
  · rw [if_pos c1] at h
    refine aw_iconst C 0 dX0_hasSaying_16 (by decide) ?_
    have e9 := inj1 h
    subst e9
    exact aw_sub [] rfl kj1
  · rw [if_neg c1] at h
    refine aw_iload_n C 1 dX0_hasSaying_4 rfl rfl ?_
    refine aw_aload_n C 0 dX0_hasSaying_5 rfl rfl ?_
    obtain ⟨v2, hv2, h⟩ := bindE h
    refine aw_gI C fl_X0_29 rfl hv2 dX0_hasSaying_6 ?_
    refine aw_icmp_ge C 16 dX0_hasSaying_9 (by decide) (fun c3 => ?_) (fun c3 => ?_)
    · rw [if_pos c3] at h
      refine aw_iconst C 0 dX0_hasSaying_16 (by decide) ?_
      have e9 := inj1 h
      subst e9
      exact aw_sub [] rfl kj1
    · rw [if_neg c3] at h
      refine aw_iconst C 1 dX0_hasSaying_12 (by decide) ?_
      refine aw_goto C 17 dX0_hasSaying_13 (by decide) ?_
      have e9 := inj1 h
      subst e9
      exact aw_sub [] rfl kj1
set_option maxRecDepth 100000 in
set_option maxHeartbeats 4000000 in
theorem mt_X0_hasSaying {G : GL} {l : Launch} {a0 : Nat} {x1 : Int32} {μ : Mem} {r : Int32} (h : X0_hasSaying a0 x1 μ = some r) : MtI G l yX0_hasSaying cX0_hasSaying 2 (some .boolean) rm_X0_hasSaying false [.ref (gZ G + a0), .int x1] μ r μ := met_Z (by decide) rfl (Nat.le_of_ble_eq_true rfl) (fun X _ C _ _ hret => wk_X0_hasSaying C h hret)
set_option maxRecDepth 100000 in
set_option maxHeartbeats 4000000 in
theorem wk_X10_contains {G : GL} {X : CX} {x0 : Int32} {x1 : Int32} {μ : Mem} (C : Ctx G X cX10_contains 2 RX10 rm_X10_contains) (hret : RtZ G 2 X cX10_contains 0 0 (X10_contains x0 x1) μ) : AW G 2 X 0 0 0 [(0, .int x0), (1, .int x1)] [] μ := by
  unfold X10_contains at hret
  refine aw_iload_n C 0 dX10_contains_0 rfl rfl ?_
  refine aw_iload_n C 1 dX10_contains_1 rfl rfl ?_
  refine aw_ishr C dX10_contains_2 ?_
  refine aw_iconst C 1 dX10_contains_3 (by decide) ?_
  refine aw_iand C dX10_contains_4 ?_
  have kj5 : ∀ (q5_0 : Int32), q5_0 = (if ((x0 >>> (x1 &&& 31)) &&& 1) = 0 then 0 else 1) → AW G 2 X 0 0 13 [] [.int q5_0] μ := by
    rintro _ rfl
    exact hret _ _ dX10_contains_13 (by repeat (first | exact Or.inl rfl | exact Or.inr rfl | split))
  refine aw_if_eq C 12 dX10_contains_5 (by decide) (fun c1 => ?_) (fun c1 => ?_)
  · refine aw_iconst C 0 dX10_contains_12 (by decide) ?_
    exact aw_sub [] rfl (kj5 _ (by simp only [if_pos c1]))
  · refine aw_iconst C 1 dX10_contains_8 (by decide) ?_
    refine aw_goto C 13 dX10_contains_9 (by decide) ?_
    exact aw_sub [] rfl (kj5 _ (by simp only [if_neg c1]))
set_option maxRecDepth 100000 in
set_option maxHeartbeats 4000000 in
theorem mt_X10_contains {G : GL} {l : Launch} (x0 : Int32) (x1 : Int32) {μ : Mem} : MtI G l yX10_contains cX10_contains 2 (some .boolean) rm_X10_contains false [.int x0, .int x1] μ (X10_contains x0 x1) μ := met_Z (by decide) rfl (Nat.le_of_ble_eq_true rfl) (fun X _ C _ _ hret => wk_X10_contains C hret)
theorem z_X10_contains (x0 : Int32) (x1 : Int32) : X10_contains x0 x1 = 0 ∨ X10_contains x0 x1 = 1 := by
  unfold X10_contains
  repeat (first | exact Or.inl rfl | exact Or.inr rfl | split)
set_option maxRecDepth 100000 in
set_option maxHeartbeats 4000000 in
theorem wk_J6_bitCount_0f7a4 {G : GL} {X : CX} {x0 : Int32} {μ : Mem} (C : Ctx G X cJ6_bitCount_0f7a4 1 RJ6 rm_J6_bitCount_0f7a4) (hret : RtI G 1 X cJ6_bitCount_0f7a4 0 0 (J6_bitCount_0f7a4 x0) μ) : AW G 1 X 0 0 0 [(0, .int x0)] [] μ := by
  unfold J6_bitCount_0f7a4 at hret
  refine aw_iload_n C 0 dJ6_bitCount_0f7a4_0 rfl rfl ?_
  refine aw_iload_n C 0 dJ6_bitCount_0f7a4_1 rfl rfl ?_
  refine aw_iconst C 1 dJ6_bitCount_0f7a4_2 (by decide) ?_
  refine aw_iushr C dJ6_bitCount_0f7a4_3 ?_
  refine aw_ldcw C kc_J6_265 dJ6_bitCount_0f7a4_4 ?_
  refine aw_iand C dJ6_bitCount_0f7a4_7 ?_
  refine aw_isub C dJ6_bitCount_0f7a4_8 ?_
  refine aw_istore_n C [(0, .int (x0 - (((x0.toUInt32 >>> ((1 : Int32).toUInt32 &&& Int32.toUInt32 31)).toInt32) &&& 1431655765)))] dJ6_bitCount_0f7a4_9 rfl (by decide) rfl ?_
  refine aw_iload_n C 0 dJ6_bitCount_0f7a4_10 rfl rfl ?_
  refine aw_ldcw C kc_J6_266 dJ6_bitCount_0f7a4_11 ?_
  refine aw_iand C dJ6_bitCount_0f7a4_14 ?_
  refine aw_iload_n C 0 dJ6_bitCount_0f7a4_15 rfl rfl ?_
  refine aw_iconst C 2 dJ6_bitCount_0f7a4_16 (by decide) ?_
  refine aw_iushr C dJ6_bitCount_0f7a4_17 ?_
  refine aw_ldcw C kc_J6_266 dJ6_bitCount_0f7a4_18 ?_
  refine aw_iand C dJ6_bitCount_0f7a4_21 ?_
  refine aw_iadd C dJ6_bitCount_0f7a4_22 ?_
  refine aw_istore_n C [(0, .int (((x0 - (((x0.toUInt32 >>> ((1 : Int32).toUInt32 &&& Int32.toUInt32 31)).toInt32) &&& 1431655765)) &&& 858993459) + ((((x0 - (((x0.toUInt32 >>> ((1 : Int32).toUInt32 &&& Int32.toUInt32 31)).toInt32) &&& 1431655765)).toUInt32 >>> ((2 : Int32).toUInt32 &&& Int32.toUInt32 31)).toInt32) &&& 858993459)))] dJ6_bitCount_0f7a4_23 rfl (by decide) rfl ?_
  refine aw_iload_n C 0 dJ6_bitCount_0f7a4_24 rfl rfl ?_
  refine aw_iload_n C 0 dJ6_bitCount_0f7a4_25 rfl rfl ?_
  refine aw_iconst C 4 dJ6_bitCount_0f7a4_26 (by decide) ?_
  refine aw_iushr C dJ6_bitCount_0f7a4_27 ?_
  refine aw_iadd C dJ6_bitCount_0f7a4_28 ?_
  refine aw_ldcw C kc_J6_267 dJ6_bitCount_0f7a4_29 ?_
  refine aw_iand C dJ6_bitCount_0f7a4_32 ?_
  refine aw_istore_n C [(0, .int (((((x0 - (((x0.toUInt32 >>> ((1 : Int32).toUInt32 &&& Int32.toUInt32 31)).toInt32) &&& 1431655765)) &&& 858993459) + ((((x0 - (((x0.toUInt32 >>> ((1 : Int32).toUInt32 &&& Int32.toUInt32 31)).toInt32) &&& 1431655765)).toUInt32 >>> ((2 : Int32).toUInt32 &&& Int32.toUInt32 31)).toInt32) &&& 858993459)) + (((((x0 - (((x0.toUInt32 >>> ((1 : Int32).toUInt32 &&& Int32.toUInt32 31)).toInt32) &&& 1431655765)) &&& 858993459) + ((((x0 - (((x0.toUInt32 >>> ((1 : Int32).toUInt32 &&& Int32.toUInt32 31)).toInt32) &&& 1431655765)).toUInt32 >>> ((2 : Int32).toUInt32 &&& Int32.toUInt32 31)).toInt32) &&& 858993459)).toUInt32 >>> ((4 : Int32).toUInt32 &&& Int32.toUInt32 31)).toInt32)) &&& 252645135))] dJ6_bitCount_0f7a4_33 rfl (by decide) rfl ?_
  refine aw_iload_n C 0 dJ6_bitCount_0f7a4_34 rfl rfl ?_
  refine aw_iload_n C 0 dJ6_bitCount_0f7a4_35 rfl rfl ?_
  refine aw_bipush C 8 dJ6_bitCount_0f7a4_36 (by decide) ?_
  refine aw_iushr C dJ6_bitCount_0f7a4_38 ?_
  refine aw_iadd C dJ6_bitCount_0f7a4_39 ?_
  refine aw_istore_n C [(0, .int ((((((x0 - (((x0.toUInt32 >>> ((1 : Int32).toUInt32 &&& Int32.toUInt32 31)).toInt32) &&& 1431655765)) &&& 858993459) + ((((x0 - (((x0.toUInt32 >>> ((1 : Int32).toUInt32 &&& Int32.toUInt32 31)).toInt32) &&& 1431655765)).toUInt32 >>> ((2 : Int32).toUInt32 &&& Int32.toUInt32 31)).toInt32) &&& 858993459)) + (((((x0 - (((x0.toUInt32 >>> ((1 : Int32).toUInt32 &&& Int32.toUInt32 31)).toInt32) &&& 1431655765)) &&& 858993459) + ((((x0 - (((x0.toUInt32 >>> ((1 : Int32).toUInt32 &&& Int32.toUInt32 31)).toInt32) &&& 1431655765)).toUInt32 >>> ((2 : Int32).toUInt32 &&& Int32.toUInt32 31)).toInt32) &&& 858993459)).toUInt32 >>> ((4 : Int32).toUInt32 &&& Int32.toUInt32 31)).toInt32)) &&& 252645135) + (((((((x0 - (((x0.toUInt32 >>> ((1 : Int32).toUInt32 &&& Int32.toUInt32 31)).toInt32) &&& 1431655765)) &&& 858993459) + ((((x0 - (((x0.toUInt32 >>> ((1 : Int32).toUInt32 &&& Int32.toUInt32 31)).toInt32) &&& 1431655765)).toUInt32 >>> ((2 : Int32).toUInt32 &&& Int32.toUInt32 31)).toInt32) &&& 858993459)) + (((((x0 - (((x0.toUInt32 >>> ((1 : Int32).toUInt32 &&& Int32.toUInt32 31)).toInt32) &&& 1431655765)) &&& 858993459) + ((((x0 - (((x0.toUInt32 >>> ((1 : Int32).toUInt32 &&& Int32.toUInt32 31)).toInt32) &&& 1431655765)).toUInt32 >>> ((2 : Int32).toUInt32 &&& Int32.toUInt32 31)).toInt32) &&& 858993459)).toUInt32 >>> ((4 : Int32).toUInt32 &&& Int32.toUInt32 31)).toInt32)) &&& 252645135).toUInt32 >>> ((8 : Int32).toUInt32 &&& Int32.toUInt32 31)).toInt32)))] dJ6_bitCount_0f7a4_40 rfl (by decide) rfl ?_
  refine aw_iload_n C 0 dJ6_bitCount_0f7a4_41 rfl rfl ?_
  refine aw_iload_n C 0 dJ6_bitCount_0f7a4_42 rfl rfl ?_
  refine aw_bipush C 16 dJ6_bitCount_0f7a4_43 (by decide) ?_
  refine aw_iushr C dJ6_bitCount_0f7a4_45 ?_
  refine aw_iadd C dJ6_bitCount_0f7a4_46 ?_
  refine aw_istore_n C [(0, .int (((((((x0 - (((x0.toUInt32 >>> ((1 : Int32).toUInt32 &&& Int32.toUInt32 31)).toInt32) &&& 1431655765)) &&& 858993459) + ((((x0 - (((x0.toUInt32 >>> ((1 : Int32).toUInt32 &&& Int32.toUInt32 31)).toInt32) &&& 1431655765)).toUInt32 >>> ((2 : Int32).toUInt32 &&& Int32.toUInt32 31)).toInt32) &&& 858993459)) + (((((x0 - (((x0.toUInt32 >>> ((1 : Int32).toUInt32 &&& Int32.toUInt32 31)).toInt32) &&& 1431655765)) &&& 858993459) + ((((x0 - (((x0.toUInt32 >>> ((1 : Int32).toUInt32 &&& Int32.toUInt32 31)).toInt32) &&& 1431655765)).toUInt32 >>> ((2 : Int32).toUInt32 &&& Int32.toUInt32 31)).toInt32) &&& 858993459)).toUInt32 >>> ((4 : Int32).toUInt32 &&& Int32.toUInt32 31)).toInt32)) &&& 252645135) + (((((((x0 - (((x0.toUInt32 >>> ((1 : Int32).toUInt32 &&& Int32.toUInt32 31)).toInt32) &&& 1431655765)) &&& 858993459) + ((((x0 - (((x0.toUInt32 >>> ((1 : Int32).toUInt32 &&& Int32.toUInt32 31)).toInt32) &&& 1431655765)).toUInt32 >>> ((2 : Int32).toUInt32 &&& Int32.toUInt32 31)).toInt32) &&& 858993459)) + (((((x0 - (((x0.toUInt32 >>> ((1 : Int32).toUInt32 &&& Int32.toUInt32 31)).toInt32) &&& 1431655765)) &&& 858993459) + ((((x0 - (((x0.toUInt32 >>> ((1 : Int32).toUInt32 &&& Int32.toUInt32 31)).toInt32) &&& 1431655765)).toUInt32 >>> ((2 : Int32).toUInt32 &&& Int32.toUInt32 31)).toInt32) &&& 858993459)).toUInt32 >>> ((4 : Int32).toUInt32 &&& Int32.toUInt32 31)).toInt32)) &&& 252645135).toUInt32 >>> ((8 : Int32).toUInt32 &&& Int32.toUInt32 31)).toInt32)) + ((((((((x0 - (((x0.toUInt32 >>> ((1 : Int32).toUInt32 &&& Int32.toUInt32 31)).toInt32) &&& 1431655765)) &&& 858993459) + ((((x0 - (((x0.toUInt32 >>> ((1 : Int32).toUInt32 &&& Int32.toUInt32 31)).toInt32) &&& 1431655765)).toUInt32 >>> ((2 : Int32).toUInt32 &&& Int32.toUInt32 31)).toInt32) &&& 858993459)) + (((((x0 - (((x0.toUInt32 >>> ((1 : Int32).toUInt32 &&& Int32.toUInt32 31)).toInt32) &&& 1431655765)) &&& 858993459) + ((((x0 - (((x0.toUInt32 >>> ((1 : Int32).toUInt32 &&& Int32.toUInt32 31)).toInt32) &&& 1431655765)).toUInt32 >>> ((2 : Int32).toUInt32 &&& Int32.toUInt32 31)).toInt32) &&& 858993459)).toUInt32 >>> ((4 : Int32).toUInt32 &&& Int32.toUInt32 31)).toInt32)) &&& 252645135) + (((((((x0 - (((x0.toUInt32 >>> ((1 : Int32).toUInt32 &&& Int32.toUInt32 31)).toInt32) &&& 1431655765)) &&& 858993459) + ((((x0 - (((x0.toUInt32 >>> ((1 : Int32).toUInt32 &&& Int32.toUInt32 31)).toInt32) &&& 1431655765)).toUInt32 >>> ((2 : Int32).toUInt32 &&& Int32.toUInt32 31)).toInt32) &&& 858993459)) + (((((x0 - (((x0.toUInt32 >>> ((1 : Int32).toUInt32 &&& Int32.toUInt32 31)).toInt32) &&& 1431655765)) &&& 858993459) + ((((x0 - (((x0.toUInt32 >>> ((1 : Int32).toUInt32 &&& Int32.toUInt32 31)).toInt32) &&& 1431655765)).toUInt32 >>> ((2 : Int32).toUInt32 &&& Int32.toUInt32 31)).toInt32) &&& 858993459)).toUInt32 >>> ((4 : Int32).toUInt32 &&& Int32.toUInt32 31)).toInt32)) &&& 252645135).toUInt32 >>> ((8 : Int32).toUInt32 &&& Int32.toUInt32 31)).toInt32)).toUInt32 >>> ((16 : Int32).toUInt32 &&& Int32.toUInt32 31)).toInt32)))] dJ6_bitCount_0f7a4_47 rfl (by decide) rfl ?_
  refine aw_iload_n C 0 dJ6_bitCount_0f7a4_48 rfl rfl ?_
  refine aw_bipush C 63 dJ6_bitCount_0f7a4_49 (by decide) ?_
  refine aw_iand C dJ6_bitCount_0f7a4_51 ?_
  exact hret _ _ dJ6_bitCount_0f7a4_52
set_option maxRecDepth 100000 in
set_option maxHeartbeats 4000000 in
theorem mt_J6_bitCount_0f7a4 {G : GL} {l : Launch} (x0 : Int32) {μ : Mem} : MtI G l yJ6_bitCount_0f7a4 cJ6_bitCount_0f7a4 1 (some .int) rm_J6_bitCount_0f7a4 false [.int x0] μ (J6_bitCount_0f7a4 x0) μ := met_I (by decide) rfl rfl (Nat.le_of_ble_eq_true rfl) (fun X _ C _ _ hret => wk_J6_bitCount_0f7a4 C hret)
set_option maxRecDepth 100000 in
set_option maxHeartbeats 4000000 in
theorem X0_isTold_L7_ok {G : GL} {X : CX} (C : Ctx G X cX0_isTold 5 RX0 rm_X0_isTold) (a0 : Nat) (x1 : Int32) (μ : Mem) : ∀ (n : Nat) (x2 : Int32) (x3 : Int32) (x4 : Int32) (z : Int32 × Int32 × Int32), X0_isTold_L7 a0 x1 μ n x2 x3 x4 = some z → AW G 5 X 0 0 85 [(0, .ref (gZ G + a0)), (1, .int x1), (2, .int z.1), (3, .int z.2.1), (4, .int z.2.2)] [] μ → AW G 5 X 0 0 7 [(0, .ref (gZ G + a0)), (1, .int x1), (2, .int x2), (3, .int x3), (4, .int x4)] [] μ := by
  intro n
  induction n with
  | zero =>
    intro x2 x3 x4 z h kx
    rw [X0_isTold_L7] at h
    cases h
  | succ n ih =>
    intro x2 x3 x4 z h kx
    rw [X0_isTold_L7] at h
    refine aw_iload C 4 dX0_isTold_7 rfl ?_
    refine aw_aload_n C 0 dX0_isTold_9 rfl rfl ?_
    obtain ⟨v1, hv1, h⟩ := bindE h
    refine aw_gI C fl_X0_29 rfl hv1 dX0_isTold_10 ?_
    refine aw_icmp_ge C 85 dX0_isTold_13 (by decide) (fun c2 => ?_) (fun c2 => ?_)
    · rw [if_pos c2] at h
      have e9 := inj1 h
      subst e9
      exact aw_sub [0, 1, 2, 3, 4] rfl kx
    · rw [if_neg c2] at h
      refine aw_aload_n C 0 dX0_isTold_16 rfl rfl ?_
      obtain ⟨v3, hv3, h⟩ := bindE h
      refine aw_gR C fl_X0_19 rfl hv3 dX0_isTold_17 ?_
      refine aw_iload C 4 dX0_isTold_20 rfl ?_
      obtain ⟨v4, hv4, h⟩ := bindE h
      refine aw_aR C (by decide) (ty := .object RX5) rfl rfl hv4 dX0_isTold_22 ?_
      obtain ⟨v5, hv5, h⟩ := bindE h
      refine aw_gI C fl_X0_47 rfl hv5 dX0_isTold_23 ?_
      refine aw_iload_n C 1 dX0_isTold_26 rfl rfl ?_
      refine aw_cSN_I C [.int v5, .int x1] _ (mt_X10_contains _ _) cs_X10_contains ml_X0_50 st_X10_contains ⟨by decide, by decide⟩ ⟨rfl, rfl⟩ ⟨Nat.zero_le _, Nat.zero_le _⟩ rfl rfl (Nat.le_of_ble_eq_true rfl) dX0_isTold_27 ?_
      obtain ⟨z19, hz19, h⟩ := bindE h
      have kj30 : AW G 5 X 0 0 79 [(0, .ref (gZ G + a0)), (1, .int x1), (2, .int z19.1), (3, .int z19.2), (4, .int x4)] [] μ := by
        refine aw_iinc C (x4 + 1) 4 [(4, .int (x4 + 1)), (0, .ref (gZ G + a0)), (1, .int x1), (2, .int z19.1), (3, .int z19.2)] dX0_isTold_79 rfl rfl (by decide) rfl ?_
        refine aw_goto C 7 dX0_isTold_82 (by decide) ?_
        exact aw_sub [1, 2, 3, 4, 0] rfl (ih _ _ _ _ h kx)
      replace h := hz19
      refine aw_if_eq C 79 dX0_isTold_30 (by decide) (fun c6 => ?_) (fun c6 => ?_)
      · rw [if_pos c6] at h
        have e9 := inj1 h
        subst e9
        exact aw_sub [0, 1, 2, 3, 4] rfl kj30
      · rw [if_neg c6] at h
        refine aw_aload_n C 0 dX0_isTold_33 rfl rfl ?_
        obtain ⟨v7, hv7, h⟩ := bindE h
        refine aw_gR C fl_X0_19 rfl hv7 dX0_isTold_34 ?_
        refine aw_iload C 4 dX0_isTold_37 rfl ?_
        obtain ⟨v8, hv8, h⟩ := bindE h
        refine aw_aR C (by decide) (ty := .object RX5) rfl rfl hv8 dX0_isTold_39 ?_
        obtain ⟨v9, hv9, h⟩ := bindE h
        refine aw_gI C fl_X0_54 rfl hv9 dX0_isTold_40 ?_
        refine aw_iconst C 3 dX0_isTold_43 (by decide) ?_
        obtain ⟨v11, ev11, h⟩ := bindS h
        have kj44 : AW G 5 X 0 0 50 [(0, .ref (gZ G + a0)), (1, .int x1), (2, .int v11), (3, .int x3), (4, .int x4)] [] μ := by
          refine aw_aload_n C 0 dX0_isTold_50 rfl rfl ?_
          obtain ⟨v12, hv12, h⟩ := bindE h
          refine aw_gR C fl_X0_19 rfl hv12 dX0_isTold_51 ?_
          refine aw_iload C 4 dX0_isTold_54 rfl ?_
          obtain ⟨v13, hv13, h⟩ := bindE h
          refine aw_aR C (by decide) (ty := .object RX5) rfl rfl hv13 dX0_isTold_56 ?_
          obtain ⟨v14, hv14, h⟩ := bindE h
          refine aw_gI C fl_X0_54 rfl hv14 dX0_isTold_57 ?_
          refine aw_iconst C 1 dX0_isTold_60 (by decide) ?_
          refine aw_icmp_ne C 79 dX0_isTold_61 (by decide) (fun c15 => ?_) (fun c15 => ?_)
          · rw [if_neg c15] at h
            have e9 := inj1 h
            subst e9
            exact aw_sub [0, 1, 2, 3, 4] rfl kj30
          · rw [if_pos c15] at h
            refine aw_iload_n C 3 dX0_isTold_64 rfl rfl ?_
            refine aw_iconst C 1 dX0_isTold_65 (by decide) ?_
            refine aw_aload_n C 0 dX0_isTold_66 rfl rfl ?_
            obtain ⟨v16, hv16, h⟩ := bindE h
            refine aw_gR C fl_X0_19 rfl hv16 dX0_isTold_67 ?_
            refine aw_iload C 4 dX0_isTold_70 rfl ?_
            obtain ⟨v17, hv17, h⟩ := bindE h
            refine aw_aR C (by decide) (ty := .object RX5) rfl rfl hv17 dX0_isTold_72 ?_
            obtain ⟨v18, hv18, h⟩ := bindE h
            refine aw_gI C fl_X0_57 rfl hv18 dX0_isTold_73 ?_
            refine aw_ishl C dX0_isTold_76 ?_
            refine aw_ior C dX0_isTold_77 ?_
            refine aw_istore_n C [(3, .int (x3 ||| (1 <<< (v18 &&& 31)))), (0, .ref (gZ G + a0)), (1, .int x1), (2, .int v11), (4, .int x4)] dX0_isTold_78 rfl (by decide) rfl ?_
            have e9 := inj1 h
            subst e9
            exact aw_sub [1, 2, 3, 0, 4] rfl kj30
        clear h
        refine aw_icmp_eq C 50 dX0_isTold_44 (by decide) (fun c10 => ?_) (fun c10 => ?_)
        · rw [if_pos c10] at ev11
          subst ev11
          exact aw_sub [0, 1, 2, 3, 4] rfl kj44
        · refine aw_iinc C (x2 + 1) 2 [(2, .int (x2 + 1)), (0, .ref (gZ G + a0)), (1, .int x1), (3, .int x3), (4, .int x4)] dX0_isTold_47 rfl rfl (by decide) rfl ?_
          rw [if_neg c10] at ev11
          subst ev11
          exact aw_sub [1, 2, 0, 3, 4] rfl kj44
set_option maxRecDepth 100000 in
set_option maxHeartbeats 4000000 in
theorem wk_X0_isTold {G : GL} {X : CX} {a0 : Nat} {x1 : Int32} {μ : Mem} {r : Int32} (C : Ctx G X cX0_isTold 5 RX0 rm_X0_isTold) (h : X0_isTold a0 x1 μ = some r) (hret : RtZ G 5 X cX0_isTold 0 0 r μ) : AW G 5 X 0 0 0 [(0, .ref (gZ G + a0)), (1, .int x1)] [] μ := by
  unfold X0_isTold at h
  refine aw_iconst C 0 dX0_isTold_0 (by decide) ?_
  refine aw_istore_n C [(2, .int 0), (0, .ref (gZ G + a0)), (1, .int x1)] dX0_isTold_1 rfl (by decide) rfl ?_
  refine aw_iconst C 0 dX0_isTold_2 (by decide) ?_
  refine aw_istore_n C [(3, .int 0), (2, .int 0), (0, .ref (gZ G + a0)), (1, .int x1)] dX0_isTold_3 rfl (by decide) rfl ?_
  refine aw_iconst C 0 dX0_isTold_4 (by decide) ?_
  refine aw_istore C [(4, .int 0), (3, .int 0), (2, .int 0), (0, .ref (gZ G + a0)), (1, .int x1)] dX0_isTold_5 (by decide) rfl ?_
  obtain ⟨z1, hz1, h⟩ := bindE h
  refine aw_sub [3, 4, 2, 1, 0] rfl ?_
  refine X0_isTold_L7_ok C _ _ _ _ _ _ _ _ hz1 ?_
  refine aw_iload_n C 2 dX0_isTold_85 rfl rfl ?_
  obtain ⟨z8, hz8, h⟩ := bindE h
  have kj86 : AW G 5 X 0 0 115 [] [.int z8] μ := by
    obtain ⟨v9, hv9, h⟩ := bindE h
    obtain ⟨ev9, zv9⟩ := zzE hv9
    refine aw_topi ev9 ?_
    have e9 := inj1 h
    subst e9
    exact hret _ _ dX0_isTold_115 zv9
  replace h := hz8
  refine aw_if_le C 114 dX0_isTold_86 (by decide) (fun c2 => ?_) (fun c2 => ?_)
  · rw [if_pos c2] at h
    refine aw_iconst C 0 dX0_isTold_114 (by decide) ?_
    have e9 := inj1 h
    subst e9
    exact aw_sub [] rfl kj86
  · rw [if_neg c2] at h
    refine aw_aload_n C 0 dX0_isTold_89 rfl rfl ?_
    obtain ⟨v3, hv3, h⟩ := bindE h
    refine aw_gR C fl_X0_11 rfl hv3 dX0_isTold_90 ?_
    refine aw_iload_n C 1 dX0_isTold_93 rfl rfl ?_
    obtain ⟨v4, hv4, h⟩ := bindE h
    refine aw_aR C (by decide) (ty := .object RX6) rfl rfl hv4 dX0_isTold_94 ?_
    obtain ⟨v5, hv5, h⟩ := bindE h
    refine aw_gI C fl_X0_60 rfl hv5 dX0_isTold_95 ?_
    refine aw_iconst C 3 dX0_isTold_98 (by decide) ?_
    refine aw_icmp_ne C 110 dX0_isTold_99 (by decide) (fun c6 => ?_) (fun c6 => ?_)
    · rw [if_neg c6] at h
      refine aw_iconst C 1 dX0_isTold_110 (by decide) ?_
      refine aw_goto C 115 dX0_isTold_111 (by decide) ?_
      have e9 := inj1 h
      subst e9
      exact aw_sub [] rfl kj86
    · rw [if_pos c6] at h
      refine aw_iload_n C 3 dX0_isTold_102 rfl rfl ?_
      refine aw_cS_I C [.int z1.2.1] _ (mt_J6_bitCount_0f7a4 _) cs_J6_bitCount_0f7a4 ml_X0_63 st_J6_bitCount_0f7a4 ⟨by decide, by decide⟩ ⟨rfl, rfl⟩ ⟨Nat.zero_le _, Nat.zero_le _⟩ rfl rfl (Nat.le_of_ble_eq_true rfl) dX0_isTold_103 ?_
      refine aw_iconst C 2 dX0_isTold_106 (by decide) ?_
      refine aw_icmp_lt C 114 dX0_isTold_107 (by decide) (fun c7 => ?_) (fun c7 => ?_)
      · rw [if_pos c7] at h
        refine aw_iconst C 0 dX0_isTold_114 (by decide) ?_
        have e9 := inj1 h
        subst e9
        exact aw_sub [] rfl kj86
      · rw [if_neg c7] at h
        refine aw_iconst C 1 dX0_isTold_110 (by decide) ?_
        refine aw_goto C 115 dX0_isTold_111 (by decide) ?_
        have e9 := inj1 h
        subst e9
        exact aw_sub [] rfl kj86
set_option maxRecDepth 100000 in
set_option maxHeartbeats 4000000 in
theorem mt_X0_isTold {G : GL} {l : Launch} {a0 : Nat} {x1 : Int32} {μ : Mem} {r : Int32} (h : X0_isTold a0 x1 μ = some r) : MtI G l yX0_isTold cX0_isTold 5 (some .boolean) rm_X0_isTold false [.ref (gZ G + a0), .int x1] μ r μ := met_Z (by decide) rfl (Nat.le_of_ble_eq_true rfl) (fun X _ C _ _ hret => wk_X0_isTold C h hret)
set_option maxRecDepth 100000 in
set_option maxHeartbeats 4000000 in
theorem wk_X0_standing {G : GL} {X : CX} {a0 : Nat} {x1 : Int32} {x2 : Int32} {μ : Mem} {r : Int32} (C : Ctx G X cX0_standing 3 RX0 rm_X0_standing) (h : X0_standing a0 x1 x2 μ = some r) (hret : RtI G 3 X cX0_standing 0 0 r μ) : AW G 3 X 0 0 0 [(0, .ref (gZ G + a0)), (1, .int x1), (2, .int x2)] [] μ := by
  unfold X0_standing at h
  refine aw_aload_n C 0 dX0_standing_0 rfl rfl ?_
  obtain ⟨v1, hv1, h⟩ := bindE h
  refine aw_gR C fl_X0_11 rfl hv1 dX0_standing_1 ?_
  refine aw_iload_n C 1 dX0_standing_4 rfl rfl ?_
  obtain ⟨v2, hv2, h⟩ := bindE h
  refine aw_aR C (by decide) (ty := .object RX6) rfl rfl hv2 dX0_standing_5 ?_
  obtain ⟨v3, hv3, h⟩ := bindE h
  refine aw_gI C fl_X0_32 rfl hv3 dX0_standing_6 ?_
  refine aw_if_eq C 14 dX0_standing_9 (by decide) (fun c4 => ?_) (fun c4 => ?_)
  · rw [if_pos c4] at h
    refine aw_aload_n C 0 dX0_standing_14 rfl rfl ?_
    refine aw_iload_n C 1 dX0_standing_15 rfl rfl ?_
    obtain ⟨g5, hg5, h⟩ := bindE h
    obtain ⟨v6, hv6, h⟩ := bindE h
    refine aw_cV_I C [.int x1] _ (mt_X0_isTold hv6) cs_X0_isTold ml_X0_36 im_X0_isTold se_X0_isTold (ci := 0) rfl rfl hg5 ⟨by decide, by decide⟩ ⟨rfl, rfl⟩ ⟨Nat.zero_le _, Nat.zero_le _⟩ rfl rfl (Nat.le_of_ble_eq_true rfl) dX0_standing_16 ?_
    refine aw_if_eq C 24 dX0_standing_19 (by decide) (fun c7 => ?_) (fun c7 => ?_)
    · rw [if_pos c7] at h
      refine aw_aload_n C 0 dX0_standing_24 rfl rfl ?_
      obtain ⟨v8, hv8, h⟩ := bindE h
      refine aw_gR C fl_X0_11 rfl hv8 dX0_standing_25 ?_
      refine aw_iload_n C 1 dX0_standing_28 rfl rfl ?_
      obtain ⟨v9, hv9, h⟩ := bindE h
      refine aw_aR C (by decide) (ty := .object RX6) rfl rfl hv9 dX0_standing_29 ?_
      obtain ⟨v10, hv10, h⟩ := bindE h
      refine aw_gI C fl_X0_40 rfl hv10 dX0_standing_30 ?_
      refine aw_iload_n C 2 dX0_standing_33 rfl rfl ?_
      obtain ⟨v12, ev12, h⟩ := bindS h
      have kj34 : AW G 3 X 0 0 42 [] [.int v12] μ := by
        have e9 := inj1 h
        subst e9
        exact hret _ _ dX0_standing_42
      clear h
      refine aw_icmp_ge C 41 dX0_standing_34 (by decide) (fun c11 => ?_) (fun c11 => ?_)
      · refine aw_iconst C 0 dX0_standing_41 (by decide) ?_
        rw [if_pos c11] at ev12
        subst ev12
        exact aw_sub [] rfl kj34
      · refine aw_iconst C 3 dX0_standing_37 (by decide) ?_
        refine aw_goto C 42 dX0_standing_38 (by decide) ?_
        rw [if_neg c11] at ev12
        subst ev12
        exact aw_sub [] rfl kj34
    · rw [if_neg c7] at h
      refine aw_iconst C 1 dX0_standing_22 (by decide) ?_
      have e9 := inj1 h
      subst e9
      exact hret _ _ dX0_standing_23
  · rw [if_neg c4] at h
    refine aw_iconst C 2 dX0_standing_12 (by decide) ?_
    have e9 := inj1 h
    subst e9
    exact hret _ _ dX0_standing_13
set_option maxRecDepth 100000 in
set_option maxHeartbeats 4000000 in
theorem mt_X0_standing {G : GL} {l : Launch} {a0 : Nat} {x1 : Int32} {x2 : Int32} {μ : Mem} {r : Int32} (h : X0_standing a0 x1 x2 μ = some r) : MtI G l yX0_standing cX0_standing 3 (some .int) rm_X0_standing false [.ref (gZ G + a0), .int x1, .int x2] μ r μ := met_I (by decide) rfl rfl (Nat.le_of_ble_eq_true rfl) (fun X _ C _ _ hret => wk_X0_standing C h hret)
set_option maxRecDepth 100000 in
set_option maxHeartbeats 4000000 in
theorem X0_thingsThatAre_L5_ok {G : GL} {X : CX} (C : Ctx G X cX0_thingsThatAre 5 RX0 rm_X0_thingsThatAre) (a0 : Nat) (x1 : Int32) (x2 : Int32) (μ : Mem) : ∀ (n : Nat) (x3 : Int32) (x4 : Int32) (z : Int32 × Int32), X0_thingsThatAre_L5 a0 x1 x2 μ n x3 x4 = some z → AW G 5 X 0 0 34 [(0, .ref (gZ G + a0)), (1, .int x1), (2, .int x2), (3, .int z.1), (4, .int z.2)] [] μ → AW G 5 X 0 0 5 [(0, .ref (gZ G + a0)), (1, .int x1), (2, .int x2), (3, .int x3), (4, .int x4)] [] μ := by
  intro n
  induction n with
  | zero =>
    intro x3 x4 z h kx
    rw [X0_thingsThatAre_L5] at h
    cases h
  | succ n ih =>
    intro x3 x4 z h kx
    rw [X0_thingsThatAre_L5] at h
    refine aw_iload C 4 dX0_thingsThatAre_5 rfl ?_
    refine aw_aload_n C 0 dX0_thingsThatAre_7 rfl rfl ?_
    obtain ⟨v1, hv1, h⟩ := bindE h
    refine aw_gI C fl_X0_25 rfl hv1 dX0_thingsThatAre_8 ?_
    refine aw_icmp_ge C 34 dX0_thingsThatAre_11 (by decide) (fun c2 => ?_) (fun c2 => ?_)
    · rw [if_pos c2] at h
      have e9 := inj1 h
      subst e9
      exact aw_sub [0, 1, 2, 3, 4] rfl kx
    · rw [if_neg c2] at h
      refine aw_aload_n C 0 dX0_thingsThatAre_14 rfl rfl ?_
      refine aw_iload C 4 dX0_thingsThatAre_15 rfl ?_
      refine aw_iload_n C 2 dX0_thingsThatAre_17 rfl rfl ?_
      obtain ⟨g3, hg3, h⟩ := bindE h
      obtain ⟨v4, hv4, h⟩ := bindE h
      refine aw_cV_I C [.int x4, .int x2] _ (mt_X0_standing hv4) cs_X0_standing ml_X0_43 im_X0_standing se_X0_standing (ci := 0) rfl rfl hg3 ⟨by decide, by decide⟩ ⟨rfl, rfl⟩ ⟨Nat.zero_le _, Nat.zero_le _⟩ rfl rfl (Nat.le_of_ble_eq_true rfl) dX0_thingsThatAre_18 ?_
      refine aw_iload_n C 1 dX0_thingsThatAre_21 rfl rfl ?_
      obtain ⟨v6, ev6, h⟩ := bindS h
      have kj22 : AW G 5 X 0 0 28 [(0, .ref (gZ G + a0)), (1, .int x1), (2, .int x2), (3, .int v6), (4, .int x4)] [] μ := by
        refine aw_iinc C (x4 + 1) 4 [(4, .int (x4 + 1)), (0, .ref (gZ G + a0)), (1, .int x1), (2, .int x2), (3, .int v6)] dX0_thingsThatAre_28 rfl rfl (by decide) rfl ?_
        refine aw_goto C 5 dX0_thingsThatAre_31 (by decide) ?_
        exact aw_sub [1, 2, 3, 4, 0] rfl (ih _ _ _ h kx)
      clear h
      refine aw_icmp_ne C 28 dX0_thingsThatAre_22 (by decide) (fun c5 => ?_) (fun c5 => ?_)
      · rw [if_neg c5] at ev6
        subst ev6
        exact aw_sub [0, 1, 2, 3, 4] rfl kj22
      · refine aw_iinc C (x3 + 1) 3 [(3, .int (x3 + 1)), (0, .ref (gZ G + a0)), (1, .int x1), (2, .int x2), (4, .int x4)] dX0_thingsThatAre_25 rfl rfl (by decide) rfl ?_
        rw [if_pos c5] at ev6
        subst ev6
        exact aw_sub [1, 2, 3, 0, 4] rfl kj22
set_option maxRecDepth 100000 in
set_option maxHeartbeats 4000000 in
theorem wk_X0_thingsThatAre {G : GL} {X : CX} {a0 : Nat} {x1 : Int32} {x2 : Int32} {μ : Mem} {r : Int32} (C : Ctx G X cX0_thingsThatAre 5 RX0 rm_X0_thingsThatAre) (h : X0_thingsThatAre a0 x1 x2 μ = some r) (hret : RtI G 5 X cX0_thingsThatAre 0 0 r μ) : AW G 5 X 0 0 0 [(0, .ref (gZ G + a0)), (1, .int x1), (2, .int x2)] [] μ := by
  unfold X0_thingsThatAre at h
  refine aw_iconst C 0 dX0_thingsThatAre_0 (by decide) ?_
  refine aw_istore_n C [(3, .int 0), (0, .ref (gZ G + a0)), (1, .int x1), (2, .int x2)] dX0_thingsThatAre_1 rfl (by decide) rfl ?_
  refine aw_iconst C 0 dX0_thingsThatAre_2 (by decide) ?_
  refine aw_istore C [(4, .int 0), (3, .int 0), (0, .ref (gZ G + a0)), (1, .int x1), (2, .int x2)] dX0_thingsThatAre_3 (by decide) rfl ?_
  obtain ⟨z1, hz1, h⟩ := bindE h
  refine aw_sub [2, 3, 4, 1, 0] rfl ?_
  refine X0_thingsThatAre_L5_ok C _ _ _ _ _ _ _ _ hz1 ?_
  refine aw_iload_n C 3 dX0_thingsThatAre_34 rfl rfl ?_
  have e9 := inj1 h
  subst e9
  exact hret _ _ dX0_thingsThatAre_35
set_option maxRecDepth 100000 in
set_option maxHeartbeats 4000000 in
theorem mt_X0_thingsThatAre {G : GL} {l : Launch} {a0 : Nat} {x1 : Int32} {x2 : Int32} {μ : Mem} {r : Int32} (h : X0_thingsThatAre a0 x1 x2 μ = some r) : MtI G l yX0_thingsThatAre cX0_thingsThatAre 5 (some .int) rm_X0_thingsThatAre false [.ref (gZ G + a0), .int x1, .int x2] μ r μ := met_I (by decide) rfl rfl (Nat.le_of_ble_eq_true rfl) (fun X _ C _ _ hret => wk_X0_thingsThatAre C h hret)
set_option maxRecDepth 100000 in
set_option maxHeartbeats 4000000 in
theorem X0_sayingsWith_L4_ok {G : GL} {X : CX} (C : Ctx G X cX0_sayingsWith 4 RX0 rm_X0_sayingsWith) (a0 : Nat) (x1 : Int32) (μ : Mem) : ∀ (n : Nat) (x2 : Int32) (x3 : Int32) (z : Int32 × Int32), X0_sayingsWith_L4 a0 x1 μ n x2 x3 = some z → AW G 4 X 0 0 37 [(0, .ref (gZ G + a0)), (1, .int x1), (2, .int z.1), (3, .int z.2)] [] μ → AW G 4 X 0 0 4 [(0, .ref (gZ G + a0)), (1, .int x1), (2, .int x2), (3, .int x3)] [] μ := by
  intro n
  induction n with
  | zero =>
    intro x2 x3 z h kx
    rw [X0_sayingsWith_L4] at h
    cases h
  | succ n ih =>
    intro x2 x3 z h kx
    rw [X0_sayingsWith_L4] at h
    refine aw_iload_n C 3 dX0_sayingsWith_4 rfl rfl ?_
    refine aw_aload_n C 0 dX0_sayingsWith_5 rfl rfl ?_
    obtain ⟨v1, hv1, h⟩ := bindE h
    refine aw_gI C fl_X0_29 rfl hv1 dX0_sayingsWith_6 ?_
    refine aw_icmp_ge C 37 dX0_sayingsWith_9 (by decide) (fun c2 => ?_) (fun c2 => ?_)
    · rw [if_pos c2] at h
      have e9 := inj1 h
      subst e9
      exact aw_sub [0, 1, 2, 3] rfl kx
    · rw [if_neg c2] at h
      refine aw_aload_n C 0 dX0_sayingsWith_12 rfl rfl ?_
      obtain ⟨v3, hv3, h⟩ := bindE h
      refine aw_gR C fl_X0_19 rfl hv3 dX0_sayingsWith_13 ?_
      refine aw_iload_n C 3 dX0_sayingsWith_16 rfl rfl ?_
      obtain ⟨v4, hv4, h⟩ := bindE h
      refine aw_aR C (by decide) (ty := .object RX5) rfl rfl hv4 dX0_sayingsWith_17 ?_
      obtain ⟨v5, hv5, h⟩ := bindE h
      refine aw_gI C fl_X0_47 rfl hv5 dX0_sayingsWith_18 ?_
      refine aw_iload_n C 1 dX0_sayingsWith_21 rfl rfl ?_
      refine aw_cSN_I C [.int v5, .int x1] _ (mt_X10_contains _ _) cs_X10_contains ml_X0_50 st_X10_contains ⟨by decide, by decide⟩ ⟨rfl, rfl⟩ ⟨Nat.zero_le _, Nat.zero_le _⟩ rfl rfl (Nat.le_of_ble_eq_true rfl) dX0_sayingsWith_22 ?_
      obtain ⟨v7, ev7, h⟩ := bindS h
      have kj25 : AW G 4 X 0 0 31 [(0, .ref (gZ G + a0)), (1, .int x1), (2, .int v7), (3, .int x3)] [] μ := by
        refine aw_iinc C (x3 + 1) 3 [(3, .int (x3 + 1)), (0, .ref (gZ G + a0)), (1, .int x1), (2, .int v7)] dX0_sayingsWith_31 rfl rfl (by decide) rfl ?_
        refine aw_goto C 4 dX0_sayingsWith_34 (by decide) ?_
        exact aw_sub [1, 2, 3, 0] rfl (ih _ _ _ h kx)
      clear h
      refine aw_if_eq C 31 dX0_sayingsWith_25 (by decide) (fun c6 => ?_) (fun c6 => ?_)
      · rw [if_pos c6] at ev7
        subst ev7
        exact aw_sub [0, 1, 2, 3] rfl kj25
      · refine aw_iinc C (x2 + 1) 2 [(2, .int (x2 + 1)), (0, .ref (gZ G + a0)), (1, .int x1), (3, .int x3)] dX0_sayingsWith_28 rfl rfl (by decide) rfl ?_
        rw [if_neg c6] at ev7
        subst ev7
        exact aw_sub [1, 2, 0, 3] rfl kj25
set_option maxRecDepth 100000 in
set_option maxHeartbeats 4000000 in
theorem wk_X0_sayingsWith {G : GL} {X : CX} {a0 : Nat} {x1 : Int32} {μ : Mem} {r : Int32} (C : Ctx G X cX0_sayingsWith 4 RX0 rm_X0_sayingsWith) (h : X0_sayingsWith a0 x1 μ = some r) (hret : RtI G 4 X cX0_sayingsWith 0 0 r μ) : AW G 4 X 0 0 0 [(0, .ref (gZ G + a0)), (1, .int x1)] [] μ := by
  unfold X0_sayingsWith at h
  refine aw_iconst C 0 dX0_sayingsWith_0 (by decide) ?_
  refine aw_istore_n C [(2, .int 0), (0, .ref (gZ G + a0)), (1, .int x1)] dX0_sayingsWith_1 rfl (by decide) rfl ?_
  refine aw_iconst C 0 dX0_sayingsWith_2 (by decide) ?_
  refine aw_istore_n C [(3, .int 0), (2, .int 0), (0, .ref (gZ G + a0)), (1, .int x1)] dX0_sayingsWith_3 rfl (by decide) rfl ?_
  obtain ⟨z1, hz1, h⟩ := bindE h
  refine aw_sub [2, 3, 1, 0] rfl ?_
  refine X0_sayingsWith_L4_ok C _ _ _ _ _ _ _ hz1 ?_
  refine aw_iload_n C 2 dX0_sayingsWith_37 rfl rfl ?_
  have e9 := inj1 h
  subst e9
  exact hret _ _ dX0_sayingsWith_38
set_option maxRecDepth 100000 in
set_option maxHeartbeats 4000000 in
theorem mt_X0_sayingsWith {G : GL} {l : Launch} {a0 : Nat} {x1 : Int32} {μ : Mem} {r : Int32} (h : X0_sayingsWith a0 x1 μ = some r) : MtI G l yX0_sayingsWith cX0_sayingsWith 4 (some .int) rm_X0_sayingsWith false [.ref (gZ G + a0), .int x1] μ r μ := met_I (by decide) rfl rfl (Nat.le_of_ble_eq_true rfl) (fun X _ C _ _ hret => wk_X0_sayingsWith C h hret)
set_option maxRecDepth 100000 in
set_option maxHeartbeats 4000000 in
theorem X0_personsWith_L4_ok {G : GL} {X : CX} (C : Ctx G X cX0_personsWith 4 RX0 rm_X0_personsWith) (a0 : Nat) (x1 : Int32) (μ : Mem) : ∀ (n : Nat) (x2 : Int32) (x3 : Int32) (z : Int32 × Int32), X0_personsWith_L4 a0 x1 μ n x2 x3 = some z → AW G 4 X 0 0 48 [(0, .ref (gZ G + a0)), (1, .int x1), (2, .int z.1), (3, .int z.2)] [] μ → AW G 4 X 0 0 4 [(0, .ref (gZ G + a0)), (1, .int x1), (2, .int x2), (3, .int x3)] [] μ := by
  intro n
  induction n with
  | zero =>
    intro x2 x3 z h kx
    rw [X0_personsWith_L4] at h
    cases h
  | succ n ih =>
    intro x2 x3 z h kx
    rw [X0_personsWith_L4] at h
    refine aw_iload_n C 3 dX0_personsWith_4 rfl rfl ?_
    refine aw_aload_n C 0 dX0_personsWith_5 rfl rfl ?_
    obtain ⟨v1, hv1, h⟩ := bindE h
    refine aw_gI C fl_X0_29 rfl hv1 dX0_personsWith_6 ?_
    refine aw_icmp_ge C 48 dX0_personsWith_9 (by decide) (fun c2 => ?_) (fun c2 => ?_)
    · rw [if_pos c2] at h
      have e9 := inj1 h
      subst e9
      exact aw_sub [0, 1, 2, 3] rfl kx
    · rw [if_neg c2] at h
      refine aw_aload_n C 0 dX0_personsWith_12 rfl rfl ?_
      obtain ⟨v3, hv3, h⟩ := bindE h
      refine aw_gR C fl_X0_19 rfl hv3 dX0_personsWith_13 ?_
      refine aw_iload_n C 3 dX0_personsWith_16 rfl rfl ?_
      obtain ⟨v4, hv4, h⟩ := bindE h
      refine aw_aR C (by decide) (ty := .object RX5) rfl rfl hv4 dX0_personsWith_17 ?_
      obtain ⟨v5, hv5, h⟩ := bindE h
      refine aw_gI C fl_X0_47 rfl hv5 dX0_personsWith_18 ?_
      refine aw_iload_n C 1 dX0_personsWith_21 rfl rfl ?_
      refine aw_cSN_I C [.int v5, .int x1] _ (mt_X10_contains _ _) cs_X10_contains ml_X0_50 st_X10_contains ⟨by decide, by decide⟩ ⟨rfl, rfl⟩ ⟨Nat.zero_le _, Nat.zero_le _⟩ rfl rfl (Nat.le_of_ble_eq_true rfl) dX0_personsWith_22 ?_
      obtain ⟨z10, hz10, h⟩ := bindE h
      have kj25 : AW G 4 X 0 0 42 [(0, .ref (gZ G + a0)), (1, .int x1), (2, .int z10), (3, .int x3)] [] μ := by
        refine aw_iinc C (x3 + 1) 3 [(3, .int (x3 + 1)), (0, .ref (gZ G + a0)), (1, .int x1), (2, .int z10)] dX0_personsWith_42 rfl rfl (by decide) rfl ?_
        refine aw_goto C 4 dX0_personsWith_45 (by decide) ?_
        exact aw_sub [1, 2, 3, 0] rfl (ih _ _ _ h kx)
      replace h := hz10
      refine aw_if_eq C 42 dX0_personsWith_25 (by decide) (fun c6 => ?_) (fun c6 => ?_)
      · rw [if_pos c6] at h
        have e9 := inj1 h
        subst e9
        exact aw_sub [0, 1, 2, 3] rfl kj25
      · rw [if_neg c6] at h
        refine aw_iload_n C 2 dX0_personsWith_28 rfl rfl ?_
        refine aw_iconst C 1 dX0_personsWith_29 (by decide) ?_
        refine aw_aload_n C 0 dX0_personsWith_30 rfl rfl ?_
        obtain ⟨v7, hv7, h⟩ := bindE h
        refine aw_gR C fl_X0_19 rfl hv7 dX0_personsWith_31 ?_
        refine aw_iload_n C 3 dX0_personsWith_34 rfl rfl ?_
        obtain ⟨v8, hv8, h⟩ := bindE h
        refine aw_aR C (by decide) (ty := .object RX5) rfl rfl hv8 dX0_personsWith_35 ?_
        obtain ⟨v9, hv9, h⟩ := bindE h
        refine aw_gI C fl_X0_57 rfl hv9 dX0_personsWith_36 ?_
        refine aw_ishl C dX0_personsWith_39 ?_
        refine aw_ior C dX0_personsWith_40 ?_
        refine aw_istore_n C [(2, .int (x2 ||| (1 <<< (v9 &&& 31)))), (0, .ref (gZ G + a0)), (1, .int x1), (3, .int x3)] dX0_personsWith_41 rfl (by decide) rfl ?_
        have e9 := inj1 h
        subst e9
        exact aw_sub [1, 2, 0, 3] rfl kj25
set_option maxRecDepth 100000 in
set_option maxHeartbeats 4000000 in
theorem wk_X0_personsWith {G : GL} {X : CX} {a0 : Nat} {x1 : Int32} {μ : Mem} {r : Int32} (C : Ctx G X cX0_personsWith 4 RX0 rm_X0_personsWith) (h : X0_personsWith a0 x1 μ = some r) (hret : RtI G 4 X cX0_personsWith 0 0 r μ) : AW G 4 X 0 0 0 [(0, .ref (gZ G + a0)), (1, .int x1)] [] μ := by
  unfold X0_personsWith at h
  refine aw_iconst C 0 dX0_personsWith_0 (by decide) ?_
  refine aw_istore_n C [(2, .int 0), (0, .ref (gZ G + a0)), (1, .int x1)] dX0_personsWith_1 rfl (by decide) rfl ?_
  refine aw_iconst C 0 dX0_personsWith_2 (by decide) ?_
  refine aw_istore_n C [(3, .int 0), (2, .int 0), (0, .ref (gZ G + a0)), (1, .int x1)] dX0_personsWith_3 rfl (by decide) rfl ?_
  obtain ⟨z1, hz1, h⟩ := bindE h
  refine aw_sub [2, 3, 1, 0] rfl ?_
  refine X0_personsWith_L4_ok C _ _ _ _ _ _ _ hz1 ?_
  refine aw_iload_n C 2 dX0_personsWith_48 rfl rfl ?_
  have e9 := inj1 h
  subst e9
  exact hret _ _ dX0_personsWith_49
set_option maxRecDepth 100000 in
set_option maxHeartbeats 4000000 in
theorem mt_X0_personsWith {G : GL} {l : Launch} {a0 : Nat} {x1 : Int32} {μ : Mem} {r : Int32} (h : X0_personsWith a0 x1 μ = some r) : MtI G l yX0_personsWith cX0_personsWith 4 (some .int) rm_X0_personsWith false [.ref (gZ G + a0), .int x1] μ r μ := met_I (by decide) rfl rfl (Nat.le_of_ble_eq_true rfl) (fun X _ C _ _ hret => wk_X0_personsWith C h hret)
set_option maxRecDepth 100000 in
set_option maxHeartbeats 4000000 in
theorem X0_deadThings_L4_ok {G : GL} {X : CX} (C : Ctx G X cX0_deadThings 3 RX0 rm_X0_deadThings) (a0 : Nat) (μ : Mem) : ∀ (n : Nat) (x1 : Int32) (x2 : Int32) (z : Int32 × Int32), X0_deadThings_L4 a0 μ n x1 x2 = some z → AW G 3 X 0 0 36 [(0, .ref (gZ G + a0)), (1, .int z.1), (2, .int z.2)] [] μ → AW G 3 X 0 0 4 [(0, .ref (gZ G + a0)), (1, .int x1), (2, .int x2)] [] μ := by
  intro n
  induction n with
  | zero =>
    intro x1 x2 z h kx
    rw [X0_deadThings_L4] at h
    cases h
  | succ n ih =>
    intro x1 x2 z h kx
    rw [X0_deadThings_L4] at h
    refine aw_iload_n C 2 dX0_deadThings_4 rfl rfl ?_
    refine aw_aload_n C 0 dX0_deadThings_5 rfl rfl ?_
    obtain ⟨v1, hv1, h⟩ := bindE h
    refine aw_gI C fl_X0_25 rfl hv1 dX0_deadThings_6 ?_
    refine aw_icmp_ge C 36 dX0_deadThings_9 (by decide) (fun c2 => ?_) (fun c2 => ?_)
    · rw [if_pos c2] at h
      have e9 := inj1 h
      subst e9
      exact aw_sub [0, 1, 2] rfl kx
    · rw [if_neg c2] at h
      refine aw_aload_n C 0 dX0_deadThings_12 rfl rfl ?_
      obtain ⟨v3, hv3, h⟩ := bindE h
      refine aw_gR C fl_X0_11 rfl hv3 dX0_deadThings_13 ?_
      refine aw_iload_n C 2 dX0_deadThings_16 rfl rfl ?_
      obtain ⟨v4, hv4, h⟩ := bindE h
      refine aw_aR C (by decide) (ty := .object RX6) rfl rfl hv4 dX0_deadThings_17 ?_
      obtain ⟨v5, hv5, h⟩ := bindE h
      refine aw_gI C fl_X0_32 rfl hv5 dX0_deadThings_18 ?_
      obtain ⟨v7, ev7, h⟩ := bindS h
      have kj21 : AW G 3 X 0 0 30 [(0, .ref (gZ G + a0)), (1, .int v7), (2, .int x2)] [] μ := by
        refine aw_iinc C (x2 + 1) 2 [(2, .int (x2 + 1)), (0, .ref (gZ G + a0)), (1, .int v7)] dX0_deadThings_30 rfl rfl (by decide) rfl ?_
        refine aw_goto C 4 dX0_deadThings_33 (by decide) ?_
        exact aw_sub [1, 2, 0] rfl (ih _ _ _ h kx)
      clear h
      refine aw_if_eq C 30 dX0_deadThings_21 (by decide) (fun c6 => ?_) (fun c6 => ?_)
      · rw [if_pos c6] at ev7
        subst ev7
        exact aw_sub [0, 1, 2] rfl kj21
      · refine aw_iload_n C 1 dX0_deadThings_24 rfl rfl ?_
        refine aw_iconst C 1 dX0_deadThings_25 (by decide) ?_
        refine aw_iload_n C 2 dX0_deadThings_26 rfl rfl ?_
        refine aw_ishl C dX0_deadThings_27 ?_
        refine aw_ior C dX0_deadThings_28 ?_
        refine aw_istore_n C [(1, .int (x1 ||| (1 <<< (x2 &&& 31)))), (0, .ref (gZ G + a0)), (2, .int x2)] dX0_deadThings_29 rfl (by decide) rfl ?_
        rw [if_neg c6] at ev7
        subst ev7
        exact aw_sub [1, 0, 2] rfl kj21
set_option maxRecDepth 100000 in
set_option maxHeartbeats 4000000 in
theorem wk_X0_deadThings {G : GL} {X : CX} {a0 : Nat} {μ : Mem} {r : Int32} (C : Ctx G X cX0_deadThings 3 RX0 rm_X0_deadThings) (h : X0_deadThings a0 μ = some r) (hret : RtI G 3 X cX0_deadThings 0 0 r μ) : AW G 3 X 0 0 0 [(0, .ref (gZ G + a0))] [] μ := by
  unfold X0_deadThings at h
  refine aw_iconst C 0 dX0_deadThings_0 (by decide) ?_
  refine aw_istore_n C [(1, .int 0), (0, .ref (gZ G + a0))] dX0_deadThings_1 rfl (by decide) rfl ?_
  refine aw_iconst C 0 dX0_deadThings_2 (by decide) ?_
  refine aw_istore_n C [(2, .int 0), (1, .int 0), (0, .ref (gZ G + a0))] dX0_deadThings_3 rfl (by decide) rfl ?_
  obtain ⟨z1, hz1, h⟩ := bindE h
  refine aw_sub [2, 1, 0] rfl ?_
  refine X0_deadThings_L4_ok C _ _ _ _ _ _ hz1 ?_
  refine aw_iload_n C 1 dX0_deadThings_36 rfl rfl ?_
  have e9 := inj1 h
  subst e9
  exact hret _ _ dX0_deadThings_37
set_option maxRecDepth 100000 in
set_option maxHeartbeats 4000000 in
theorem mt_X0_deadThings {G : GL} {l : Launch} {a0 : Nat} {μ : Mem} {r : Int32} (h : X0_deadThings a0 μ = some r) : MtI G l yX0_deadThings cX0_deadThings 3 (some .int) rm_X0_deadThings false [.ref (gZ G + a0)] μ r μ := met_I (by decide) rfl rfl (Nat.le_of_ble_eq_true rfl) (fun X _ C _ _ hret => wk_X0_deadThings C h hret)
set_option maxRecDepth 100000 in
set_option maxHeartbeats 4000000 in
theorem X0_canBeSaid_L5_ok {G : GL} {X : CX} (C : Ctx G X cX0_canBeSaid 6 RX0 rm_X0_canBeSaid) {r : Int32} {μ : Mem} (hret : RtZ G 6 X cX0_canBeSaid 0 0 r μ) (a0 : Nat) (x1 : Int32) (x2 : Int32) : ∀ (n : Nat) (x3 : Int32) (x4 : Int32), X0_canBeSaid_L5 a0 x1 x2 μ n x3 x4 = some r → AW G 6 X 0 0 5 [(0, .ref (gZ G + a0)), (1, .int x1), (2, .int x2), (3, .int x3), (4, .int x4)] [] μ := by
  intro n
  induction n with
  | zero =>
    intro x3 x4 h
    rw [X0_canBeSaid_L5] at h
    cases h
  | succ n ih =>
    intro x3 x4 h
    rw [X0_canBeSaid_L5] at h
    refine aw_iload C 4 dX0_canBeSaid_5 rfl ?_
    refine aw_aload_n C 0 dX0_canBeSaid_7 rfl rfl ?_
    obtain ⟨v1, hv1, h⟩ := bindE h
    refine aw_gI C fl_X0_25 rfl hv1 dX0_canBeSaid_8 ?_
    refine aw_icmp_ge C 82 dX0_canBeSaid_11 (by decide) (fun c2 => ?_) (fun c2 => ?_)
    · rw [if_pos c2] at h
      refine aw_iconst C 1 dX0_canBeSaid_82 (by decide) ?_
      have e9 := inj1 h
      subst e9
      exact hret _ _ dX0_canBeSaid_83 (Or.inr rfl)
    · rw [if_neg c2] at h
      refine aw_iload_n C 1 dX0_canBeSaid_14 rfl rfl ?_
      refine aw_iload C 4 dX0_canBeSaid_15 rfl ?_
      refine aw_cSN_I C [.int x1, .int x4] _ (mt_X10_contains _ _) cs_X10_contains ml_X0_50 st_X10_contains ⟨by decide, by decide⟩ ⟨rfl, rfl⟩ ⟨Nat.zero_le _, Nat.zero_le _⟩ rfl rfl (Nat.le_of_ble_eq_true rfl) dX0_canBeSaid_17 ?_
      refine aw_if_eq C 76 dX0_canBeSaid_20 (by decide) (fun c3 => ?_) (fun c3 => ?_)
      · rw [if_pos c3] at h
        refine aw_iinc C (x4 + 1) 4 [(4, .int (x4 + 1)), (0, .ref (gZ G + a0)), (1, .int x1), (2, .int x2), (3, .int x3)] dX0_canBeSaid_76 rfl rfl (by decide) rfl ?_
        refine aw_goto C 5 dX0_canBeSaid_79 (by decide) ?_
        exact aw_sub [1, 2, 3, 4, 0] rfl (ih _ _ h)
      · rw [if_neg c3] at h
        refine aw_aload_n C 0 dX0_canBeSaid_23 rfl rfl ?_
        obtain ⟨v4, hv4, h⟩ := bindE h
        refine aw_gR C fl_X0_11 rfl hv4 dX0_canBeSaid_24 ?_
        refine aw_iload C 4 dX0_canBeSaid_27 rfl ?_
        obtain ⟨v5, hv5, h⟩ := bindE h
        refine aw_aR C (by decide) (ty := .object RX6) rfl rfl hv5 dX0_canBeSaid_29 ?_
        refine aw_astore C [(5, .ref (gZ G + v5)), (0, .ref (gZ G + a0)), (1, .int x1), (2, .int x2), (3, .int x3), (4, .int x4)] dX0_canBeSaid_30 (by decide) rfl ?_
        refine aw_aload C 0 dX0_canBeSaid_32 rfl ?_
        obtain ⟨v6, hv6, h⟩ := bindE h
        refine aw_gI C fl_X0_32 rfl hv6 dX0_canBeSaid_34 ?_
        refine aw_if_ne C 52 dX0_canBeSaid_37 (by decide) (fun c7 => ?_) (fun c7 => ?_)
        · rw [if_neg c7] at h
          refine aw_iconst C 0 dX0_canBeSaid_52 (by decide) ?_
          have e9 := inj1 h
          subst e9
          exact hret _ _ dX0_canBeSaid_53 (Or.inl rfl)
        · rw [if_pos c7] at h
          refine aw_aload C 0 dX0_canBeSaid_40 rfl ?_
          obtain ⟨v8, hv8, h⟩ := bindE h
          refine aw_gI C fl_X0_69 rfl hv8 dX0_canBeSaid_42 ?_
          refine aw_iload_n C 3 dX0_canBeSaid_45 rfl rfl ?_
          refine aw_cSN_I C [.int v8, .int x2] _ (mt_X10_contains _ _) cs_X10_contains ml_X0_50 st_X10_contains ⟨by decide, by decide⟩ ⟨rfl, rfl⟩ ⟨Nat.zero_le _, Nat.zero_le _⟩ rfl rfl (Nat.le_of_ble_eq_true rfl) dX0_canBeSaid_46 ?_
          refine aw_if_ne C 54 dX0_canBeSaid_49 (by decide) (fun c9 => ?_) (fun c9 => ?_)
          · rw [if_neg c9] at h
            refine aw_iload_n C 4 dX0_canBeSaid_54 rfl rfl ?_
            refine aw_iconst C ((-1)) dX0_canBeSaid_55 (by decide) ?_
            refine aw_icmp_eq C 70 dX0_canBeSaid_56 (by decide) (fun c10 => ?_) (fun c10 => ?_)
            · rw [if_pos c10] at h
              refine aw_aload C 0 dX0_canBeSaid_70 rfl ?_
              obtain ⟨v11, hv11, h⟩ := bindE h
              refine aw_gI C fl_X0_72 rfl hv11 dX0_canBeSaid_72 ?_
              refine aw_istore_n C [(3, .int v11), (5, .ref (gZ G + v5)), (0, .ref (gZ G + a0)), (1, .int x1), (2, .int x2), (4, .int x4)] dX0_canBeSaid_75 rfl (by decide) rfl ?_
              refine aw_iinc C (x4 + 1) 5 [(4, .int (x4 + 1)), (3, .int v11), (5, .ref (gZ G + v5)), (0, .ref (gZ G + a0)), (1, .int x1), (2, .int x2)] dX0_canBeSaid_76 rfl rfl (by decide) rfl ?_
              refine aw_goto C 5 dX0_canBeSaid_79 (by decide) ?_
              exact aw_sub [3, 4, 5, 1, 0] rfl (ih _ _ h)
            · rw [if_neg c10] at h
              refine aw_iload_n C 4 dX0_canBeSaid_59 rfl rfl ?_
              refine aw_aload C 0 dX0_canBeSaid_60 rfl ?_
              obtain ⟨v12, hv12, h⟩ := bindE h
              refine aw_gI C fl_X0_72 rfl hv12 dX0_canBeSaid_62 ?_
              refine aw_icmp_eq C 70 dX0_canBeSaid_65 (by decide) (fun c13 => ?_) (fun c13 => ?_)
              · rw [if_pos c13] at h
                refine aw_aload C 0 dX0_canBeSaid_70 rfl ?_
                obtain ⟨v14, hv14, h⟩ := bindE h
                refine aw_gI C fl_X0_72 rfl hv14 dX0_canBeSaid_72 ?_
                refine aw_istore_n C [(3, .int v14), (5, .ref (gZ G + v5)), (0, .ref (gZ G + a0)), (1, .int x1), (2, .int x2), (4, .int x4)] dX0_canBeSaid_75 rfl (by decide) rfl ?_
                refine aw_iinc C (x4 + 1) 5 [(4, .int (x4 + 1)), (3, .int v14), (5, .ref (gZ G + v5)), (0, .ref (gZ G + a0)), (1, .int x1), (2, .int x2)] dX0_canBeSaid_76 rfl rfl (by decide) rfl ?_
                refine aw_goto C 5 dX0_canBeSaid_79 (by decide) ?_
                exact aw_sub [3, 4, 5, 1, 0] rfl (ih _ _ h)
              · rw [if_neg c13] at h
                refine aw_iconst C 0 dX0_canBeSaid_68 (by decide) ?_
                have e9 := inj1 h
                subst e9
                exact hret _ _ dX0_canBeSaid_69 (Or.inl rfl)
          · rw [if_pos c9] at h
            refine aw_iconst C 0 dX0_canBeSaid_52 (by decide) ?_
            have e9 := inj1 h
            subst e9
            exact hret _ _ dX0_canBeSaid_53 (Or.inl rfl)
set_option maxRecDepth 100000 in
set_option maxHeartbeats 4000000 in
theorem wk_X0_canBeSaid {G : GL} {X : CX} {a0 : Nat} {x1 : Int32} {x2 : Int32} {μ : Mem} {r : Int32} (C : Ctx G X cX0_canBeSaid 6 RX0 rm_X0_canBeSaid) (h : X0_canBeSaid a0 x1 x2 μ = some r) (hret : RtZ G 6 X cX0_canBeSaid 0 0 r μ) : AW G 6 X 0 0 0 [(0, .ref (gZ G + a0)), (1, .int x1), (2, .int x2)] [] μ := by
  unfold X0_canBeSaid at h
  refine aw_iconst C ((-1)) dX0_canBeSaid_0 (by decide) ?_
  refine aw_istore_n C [(3, .int ((-1))), (0, .ref (gZ G + a0)), (1, .int x1), (2, .int x2)] dX0_canBeSaid_1 rfl (by decide) rfl ?_
  refine aw_iconst C 0 dX0_canBeSaid_2 (by decide) ?_
  refine aw_istore C [(4, .int 0), (3, .int ((-1))), (0, .ref (gZ G + a0)), (1, .int x1), (2, .int x2)] dX0_canBeSaid_3 (by decide) rfl ?_
  refine aw_sub [2, 3, 4, 1, 0] rfl ?_
  exact X0_canBeSaid_L5_ok C hret _ _ _ _ _ _ h
set_option maxRecDepth 100000 in
set_option maxHeartbeats 4000000 in
theorem mt_X0_canBeSaid {G : GL} {l : Launch} {a0 : Nat} {x1 : Int32} {x2 : Int32} {μ : Mem} {r : Int32} (h : X0_canBeSaid a0 x1 x2 μ = some r) : MtI G l yX0_canBeSaid cX0_canBeSaid 6 (some .boolean) rm_X0_canBeSaid false [.ref (gZ G + a0), .int x1, .int x2] μ r μ := met_Z (by decide) rfl (Nat.le_of_ble_eq_true rfl) (fun X _ C _ _ hret => wk_X0_canBeSaid C h hret)
set_option maxRecDepth 100000 in
set_option maxHeartbeats 4000000 in
theorem X0_countSaid_L2_ok {G : GL} {X : CX} (C : Ctx G X cX0_countSaid 5 RX0 rm_X0_countSaid) (a0 : Nat) (x1 : Int32) (a2 : Nat) : ∀ (n : Nat) (x3 : Int32) (μ : Mem) (z : Int32 × Mem), X0_countSaid_L2 a0 x1 a2 n x3 μ = some z → AW G 5 X 0 0 18 [(0, .ref (gZ G + a0)), (1, .int x1), (2, .ref (gZ G + a2)), (3, .int z.1)] [] z.2 → AW G 5 X 0 0 2 [(0, .ref (gZ G + a0)), (1, .int x1), (2, .ref (gZ G + a2)), (3, .int x3)] [] μ := by
  intro n
  induction n with
  | zero =>
    intro x3 μ z h kx
    rw [X0_countSaid_L2] at h
    cases h
  | succ n ih =>
    intro x3 μ z h kx
    rw [X0_countSaid_L2] at h
    refine aw_iload_n C 3 dX0_countSaid_2 rfl rfl ?_
    refine aw_aload_n C 2 dX0_countSaid_3 rfl rfl ?_
    obtain ⟨v1, hv1, h⟩ := bindE h
    refine aw_aL C hv1 dX0_countSaid_4 ?_
    refine aw_icmp_ge C 18 dX0_countSaid_5 (by decide) (fun c2 => ?_) (fun c2 => ?_)
    · rw [if_pos c2] at h
      have e9 := inj1 h
      subst e9
      exact aw_sub [0, 1, 2, 3] rfl kx
    · rw [if_neg c2] at h
      refine aw_aload_n C 2 dX0_countSaid_8 rfl rfl ?_
      refine aw_iload_n C 3 dX0_countSaid_9 rfl rfl ?_
      refine aw_iconst C 0 dX0_countSaid_10 (by decide) ?_
      obtain ⟨μ3, hμ3, h⟩ := bindE h
      refine aw_sI C hμ3 dX0_countSaid_11 ?_
      refine aw_iinc C (x3 + 1) 3 [(3, .int (x3 + 1)), (0, .ref (gZ G + a0)), (1, .int x1), (2, .ref (gZ G + a2))] dX0_countSaid_12 rfl rfl (by decide) rfl ?_
      refine aw_goto C 2 dX0_countSaid_15 (by decide) ?_
      exact aw_sub [1, 2, 3, 0] rfl (ih _ _ _ h kx)
set_option maxRecDepth 100000 in
set_option maxHeartbeats 4000000 in
theorem X0_countSaid_L20_ok {G : GL} {X : CX} (C : Ctx G X cX0_countSaid 5 RX0 rm_X0_countSaid) (a0 : Nat) (x1 : Int32) (a2 : Nat) : ∀ (n : Nat) (x3 : Int32) (μ : Mem) (z : Int32 × Mem), X0_countSaid_L20 a0 x1 a2 n x3 μ = some z → AW G 5 X 0 0 78 [(0, .ref (gZ G + a0)), (1, .int x1), (2, .ref (gZ G + a2)), (3, .int z.1)] [] z.2 → AW G 5 X 0 0 20 [(0, .ref (gZ G + a0)), (1, .int x1), (2, .ref (gZ G + a2)), (3, .int x3)] [] μ := by
  intro n
  induction n with
  | zero =>
    intro x3 μ z h kx
    rw [X0_countSaid_L20] at h
    cases h
  | succ n ih =>
    intro x3 μ z h kx
    rw [X0_countSaid_L20] at h
    refine aw_iload_n C 3 dX0_countSaid_20 rfl rfl ?_
    refine aw_aload_n C 0 dX0_countSaid_21 rfl rfl ?_
    obtain ⟨v1, hv1, h⟩ := bindE h
    refine aw_gI C fl_X0_29 rfl hv1 dX0_countSaid_22 ?_
    refine aw_icmp_ge C 78 dX0_countSaid_25 (by decide) (fun c2 => ?_) (fun c2 => ?_)
    · rw [if_pos c2] at h
      have e9 := inj1 h
      subst e9
      exact aw_sub [0, 1, 2, 3] rfl kx
    · rw [if_neg c2] at h
      refine aw_aload_n C 0 dX0_countSaid_28 rfl rfl ?_
      obtain ⟨v3, hv3, h⟩ := bindE h
      refine aw_gR C fl_X0_19 rfl hv3 dX0_countSaid_29 ?_
      refine aw_iload_n C 3 dX0_countSaid_32 rfl rfl ?_
      obtain ⟨v4, hv4, h⟩ := bindE h
      refine aw_aR C (by decide) (ty := .object RX5) rfl rfl hv4 dX0_countSaid_33 ?_
      obtain ⟨v5, hv5, h⟩ := bindE h
      refine aw_gI C fl_X0_75 rfl hv5 dX0_countSaid_34 ?_
      refine aw_istore C [(4, .int v5), (0, .ref (gZ G + a0)), (1, .int x1), (2, .ref (gZ G + a2)), (3, .int x3)] dX0_countSaid_37 (by decide) rfl ?_
      refine aw_aload_n C 1 dX0_countSaid_39 rfl rfl ?_
      obtain ⟨v6, hv6, h⟩ := bindE h
      refine aw_gR C fl_X0_19 rfl hv6 dX0_countSaid_40 ?_
      refine aw_iload_n C 4 dX0_countSaid_43 rfl rfl ?_
      obtain ⟨v7, hv7, h⟩ := bindE h
      refine aw_aR C (by decide) (ty := .object RX5) rfl rfl hv7 dX0_countSaid_44 ?_
      obtain ⟨v8, hv8, h⟩ := bindE h
      refine aw_gI C fl_X0_57 rfl hv8 dX0_countSaid_45 ?_
      refine aw_iload_n C 2 dX0_countSaid_48 rfl rfl ?_
      obtain ⟨z15, hz15, h⟩ := bindE h
      have kj49 : AW G 5 X 0 0 72 [(0, .ref (gZ G + a0)), (1, .int x1), (2, .ref (gZ G + a2)), (3, .int x3)] [] z15 := by
        refine aw_iinc C (x3 + 1) 3 [(3, .int (x3 + 1)), (0, .ref (gZ G + a0)), (1, .int x1), (2, .ref (gZ G + a2))] dX0_countSaid_72 rfl rfl (by decide) rfl ?_
        refine aw_goto C 20 dX0_countSaid_75 (by decide) ?_
        exact aw_sub [1, 2, 3, 0] rfl (ih _ _ _ h kx)
      replace h := hz15
      refine aw_icmp_ne C 72 dX0_countSaid_49 (by decide) (fun c9 => ?_) (fun c9 => ?_)
      · rw [if_neg c9] at h
        have e9 := inj1 h
        subst e9
        exact aw_sub [1, 2, 3, 4] rfl kj49
      · rw [if_pos c9] at h
        refine aw_iload C 0 dX0_countSaid_52 rfl ?_
        refine aw_if_lt C 72 dX0_countSaid_54 (by decide) (fun c10 => ?_) (fun c10 => ?_)
        · rw [if_pos c10] at h
          have e9 := inj1 h
          subst e9
          exact aw_sub [1, 2, 3, 4] rfl kj49
        · rw [if_neg c10] at h
          refine aw_iload C 0 dX0_countSaid_57 rfl ?_
          refine aw_aload_n C 3 dX0_countSaid_59 rfl rfl ?_
          obtain ⟨v11, hv11, h⟩ := bindE h
          refine aw_aL C hv11 dX0_countSaid_60 ?_
          refine aw_icmp_ge C 72 dX0_countSaid_61 (by decide) (fun c12 => ?_) (fun c12 => ?_)
          · rw [if_pos c12] at h
            have e9 := inj1 h
            subst e9
            exact aw_sub [1, 2, 3, 4] rfl kj49
          · rw [if_neg c12] at h
            refine aw_aload_n C 3 dX0_countSaid_64 rfl rfl ?_
            refine aw_iload C 0 dX0_countSaid_65 rfl ?_
            refine aw_dup2 C dX0_countSaid_67 rfl rfl ?_
            obtain ⟨v13, hv13, h⟩ := bindE h
            refine aw_aI C hv13 dX0_countSaid_68 ?_
            refine aw_iconst C 1 dX0_countSaid_69 (by decide) ?_
            refine aw_iadd C dX0_countSaid_70 ?_
            obtain ⟨μ14, hμ14, h⟩ := bindE h
            refine aw_sI C hμ14 dX0_countSaid_71 ?_
            have e9 := inj1 h
            subst e9
            exact aw_sub [1, 2, 3, 4] rfl kj49
set_option maxRecDepth 100000 in
set_option maxHeartbeats 4000000 in
theorem wk_X0_countSaid {G : GL} {X : CX} {a0 : Nat} {x1 : Int32} {a2 : Nat} {μ : Mem} {μ' : Mem} (C : Ctx G X cX0_countSaid 5 RX0 rm_X0_countSaid) (h : X0_countSaid a0 x1 a2 μ = some μ') (hret : RtV G 5 X cX0_countSaid 0 0 μ') : AW G 5 X 0 0 0 [(0, .ref (gZ G + a0)), (1, .int x1), (2, .ref (gZ G + a2))] [] μ := by
  unfold X0_countSaid at h
  refine aw_iconst C 0 dX0_countSaid_0 (by decide) ?_
  refine aw_istore_n C [(3, .int 0), (0, .ref (gZ G + a0)), (1, .int x1), (2, .ref (gZ G + a2))] dX0_countSaid_1 rfl (by decide) rfl ?_
  obtain ⟨z1, hz1, h⟩ := bindE h
  refine aw_sub [1, 2, 3, 0] rfl ?_
  refine X0_countSaid_L2_ok C _ _ _ _ _ _ _ hz1 ?_
  refine aw_iconst C 0 dX0_countSaid_18 (by decide) ?_
  refine aw_istore_n C [(3, .int 0), (0, .ref (gZ G + a0)), (1, .int x1), (2, .ref (gZ G + a2))] dX0_countSaid_19 rfl (by decide) rfl ?_
  obtain ⟨z2, hz2, h⟩ := bindE h
  refine aw_sub [1, 2, 3, 0] rfl ?_
  refine X0_countSaid_L20_ok C _ _ _ _ _ _ _ hz2 ?_
  have e9 := inj1 h
  subst e9
  exact hret _ _ dX0_countSaid_78
set_option maxRecDepth 100000 in
set_option maxHeartbeats 4000000 in
theorem mt_X0_countSaid {G : GL} {l : Launch} {a0 : Nat} {x1 : Int32} {a2 : Nat} {μ : Mem} {μ' : Mem} (h : X0_countSaid a0 x1 a2 μ = some μ') : MtV G l yX0_countSaid cX0_countSaid 5 none rm_X0_countSaid false [.ref (gZ G + a0), .int x1, .ref (gZ G + a2)] μ μ' := met_V (by decide) rfl (Nat.le_of_ble_eq_true rfl) (fun X _ C _ _ hret => wk_X0_countSaid C h hret)
set_option maxRecDepth 100000 in
set_option maxHeartbeats 4000000 in
theorem X0_outcomesBy_L4_ok {G : GL} {X : CX} (C : Ctx G X cX0_outcomesBy 4 RX0 rm_X0_outcomesBy) (a0 : Nat) (x1 : Int32) (μ : Mem) : ∀ (n : Nat) (x2 : Int32) (x3 : Int32) (z : Int32 × Int32), X0_outcomesBy_L4 a0 x1 μ n x2 x3 = some z → AW G 4 X 0 0 46 [(0, .ref (gZ G + a0)), (1, .int x1), (2, .int z.1), (3, .int z.2)] [] μ → AW G 4 X 0 0 4 [(0, .ref (gZ G + a0)), (1, .int x1), (2, .int x2), (3, .int x3)] [] μ := by
  intro n
  induction n with
  | zero =>
    intro x2 x3 z h kx
    rw [X0_outcomesBy_L4] at h
    cases h
  | succ n ih =>
    intro x2 x3 z h kx
    rw [X0_outcomesBy_L4] at h
    refine aw_iload_n C 3 dX0_outcomesBy_4 rfl rfl ?_
    refine aw_aload_n C 0 dX0_outcomesBy_5 rfl rfl ?_
    obtain ⟨v1, hv1, h⟩ := bindE h
    refine aw_gI C fl_X0_29 rfl hv1 dX0_outcomesBy_6 ?_
    refine aw_icmp_ge C 46 dX0_outcomesBy_9 (by decide) (fun c2 => ?_) (fun c2 => ?_)
    · rw [if_pos c2] at h
      have e9 := inj1 h
      subst e9
      exact aw_sub [0, 1, 2, 3] rfl kx
    · rw [if_neg c2] at h
      refine aw_aload_n C 0 dX0_outcomesBy_12 rfl rfl ?_
      obtain ⟨v3, hv3, h⟩ := bindE h
      refine aw_gR C fl_X0_19 rfl hv3 dX0_outcomesBy_13 ?_
      refine aw_iload_n C 3 dX0_outcomesBy_16 rfl rfl ?_
      obtain ⟨v4, hv4, h⟩ := bindE h
      refine aw_aR C (by decide) (ty := .object RX5) rfl rfl hv4 dX0_outcomesBy_17 ?_
      obtain ⟨v5, hv5, h⟩ := bindE h
      refine aw_gI C fl_X0_78 rfl hv5 dX0_outcomesBy_18 ?_
      refine aw_iload_n C 1 dX0_outcomesBy_21 rfl rfl ?_
      obtain ⟨z11, hz11, h⟩ := bindE h
      have kj22 : AW G 4 X 0 0 40 [(0, .ref (gZ G + a0)), (1, .int x1), (2, .int z11), (3, .int x3)] [] μ := by
        refine aw_iinc C (x3 + 1) 3 [(3, .int (x3 + 1)), (0, .ref (gZ G + a0)), (1, .int x1), (2, .int z11)] dX0_outcomesBy_40 rfl rfl (by decide) rfl ?_
        refine aw_goto C 4 dX0_outcomesBy_43 (by decide) ?_
        exact aw_sub [1, 2, 3, 0] rfl (ih _ _ _ h kx)
      replace h := hz11
      refine aw_icmp_ne C 40 dX0_outcomesBy_22 (by decide) (fun c6 => ?_) (fun c6 => ?_)
      · rw [if_neg c6] at h
        have e9 := inj1 h
        subst e9
        exact aw_sub [0, 1, 2, 3] rfl kj22
      · rw [if_pos c6] at h
        refine aw_aload_n C 0 dX0_outcomesBy_25 rfl rfl ?_
        obtain ⟨v7, hv7, h⟩ := bindE h
        refine aw_gR C fl_X0_19 rfl hv7 dX0_outcomesBy_26 ?_
        refine aw_iload_n C 3 dX0_outcomesBy_29 rfl rfl ?_
        obtain ⟨v8, hv8, h⟩ := bindE h
        refine aw_aR C (by decide) (ty := .object RX5) rfl rfl hv8 dX0_outcomesBy_30 ?_
        obtain ⟨v9, hv9, h⟩ := bindE h
        refine aw_gI C fl_X0_54 rfl hv9 dX0_outcomesBy_31 ?_
        refine aw_if_eq C 40 dX0_outcomesBy_34 (by decide) (fun c10 => ?_) (fun c10 => ?_)
        · rw [if_pos c10] at h
          have e9 := inj1 h
          subst e9
          exact aw_sub [0, 1, 2, 3] rfl kj22
        · rw [if_neg c10] at h
          refine aw_iinc C (x2 + 1) 2 [(2, .int (x2 + 1)), (0, .ref (gZ G + a0)), (1, .int x1), (3, .int x3)] dX0_outcomesBy_37 rfl rfl (by decide) rfl ?_
          have e9 := inj1 h
          subst e9
          exact aw_sub [1, 2, 0, 3] rfl kj22
set_option maxRecDepth 100000 in
set_option maxHeartbeats 4000000 in
theorem wk_X0_outcomesBy {G : GL} {X : CX} {a0 : Nat} {x1 : Int32} {μ : Mem} {r : Int32} (C : Ctx G X cX0_outcomesBy 4 RX0 rm_X0_outcomesBy) (h : X0_outcomesBy a0 x1 μ = some r) (hret : RtI G 4 X cX0_outcomesBy 0 0 r μ) : AW G 4 X 0 0 0 [(0, .ref (gZ G + a0)), (1, .int x1)] [] μ := by
  unfold X0_outcomesBy at h
  refine aw_iconst C 0 dX0_outcomesBy_0 (by decide) ?_
  refine aw_istore_n C [(2, .int 0), (0, .ref (gZ G + a0)), (1, .int x1)] dX0_outcomesBy_1 rfl (by decide) rfl ?_
  refine aw_iconst C 0 dX0_outcomesBy_2 (by decide) ?_
  refine aw_istore_n C [(3, .int 0), (2, .int 0), (0, .ref (gZ G + a0)), (1, .int x1)] dX0_outcomesBy_3 rfl (by decide) rfl ?_
  obtain ⟨z1, hz1, h⟩ := bindE h
  refine aw_sub [2, 3, 1, 0] rfl ?_
  refine X0_outcomesBy_L4_ok C _ _ _ _ _ _ _ hz1 ?_
  refine aw_iload_n C 2 dX0_outcomesBy_46 rfl rfl ?_
  have e9 := inj1 h
  subst e9
  exact hret _ _ dX0_outcomesBy_47
set_option maxRecDepth 100000 in
set_option maxHeartbeats 4000000 in
theorem mt_X0_outcomesBy {G : GL} {l : Launch} {a0 : Nat} {x1 : Int32} {μ : Mem} {r : Int32} (h : X0_outcomesBy a0 x1 μ = some r) : MtI G l yX0_outcomesBy cX0_outcomesBy 4 (some .int) rm_X0_outcomesBy false [.ref (gZ G + a0), .int x1] μ r μ := met_I (by decide) rfl rfl (Nat.le_of_ble_eq_true rfl) (fun X _ C _ _ hret => wk_X0_outcomesBy C h hret)
set_option maxRecDepth 100000 in
set_option maxHeartbeats 4000000 in
theorem X0_lookedAtBy_L4_ok {G : GL} {X : CX} (C : Ctx G X cX0_lookedAtBy 4 RX0 rm_X0_lookedAtBy) (a0 : Nat) (x1 : Int32) (μ : Mem) : ∀ (n : Nat) (x2 : Int32) (x3 : Int32) (z : Int32 × Int32), X0_lookedAtBy_L4 a0 x1 μ n x2 x3 = some z → AW G 4 X 0 0 47 [(0, .ref (gZ G + a0)), (1, .int x1), (2, .int z.1), (3, .int z.2)] [] μ → AW G 4 X 0 0 4 [(0, .ref (gZ G + a0)), (1, .int x1), (2, .int x2), (3, .int x3)] [] μ := by
  intro n
  induction n with
  | zero =>
    intro x2 x3 z h kx
    rw [X0_lookedAtBy_L4] at h
    cases h
  | succ n ih =>
    intro x2 x3 z h kx
    rw [X0_lookedAtBy_L4] at h
    refine aw_iload_n C 3 dX0_lookedAtBy_4 rfl rfl ?_
    refine aw_aload_n C 0 dX0_lookedAtBy_5 rfl rfl ?_
    obtain ⟨v1, hv1, h⟩ := bindE h
    refine aw_gI C fl_X0_29 rfl hv1 dX0_lookedAtBy_6 ?_
    refine aw_icmp_ge C 47 dX0_lookedAtBy_9 (by decide) (fun c2 => ?_) (fun c2 => ?_)
    · rw [if_pos c2] at h
      have e9 := inj1 h
      subst e9
      exact aw_sub [0, 1, 2, 3] rfl kx
    · rw [if_neg c2] at h
      refine aw_aload_n C 0 dX0_lookedAtBy_12 rfl rfl ?_
      obtain ⟨v3, hv3, h⟩ := bindE h
      refine aw_gR C fl_X0_19 rfl hv3 dX0_lookedAtBy_13 ?_
      refine aw_iload_n C 3 dX0_lookedAtBy_16 rfl rfl ?_
      obtain ⟨v4, hv4, h⟩ := bindE h
      refine aw_aR C (by decide) (ty := .object RX5) rfl rfl hv4 dX0_lookedAtBy_17 ?_
      obtain ⟨v5, hv5, h⟩ := bindE h
      refine aw_gI C fl_X0_78 rfl hv5 dX0_lookedAtBy_18 ?_
      refine aw_iload_n C 1 dX0_lookedAtBy_21 rfl rfl ?_
      obtain ⟨z11, hz11, h⟩ := bindE h
      have kj22 : AW G 4 X 0 0 41 [(0, .ref (gZ G + a0)), (1, .int x1), (2, .int z11), (3, .int x3)] [] μ := by
        refine aw_iinc C (x3 + 1) 3 [(3, .int (x3 + 1)), (0, .ref (gZ G + a0)), (1, .int x1), (2, .int z11)] dX0_lookedAtBy_41 rfl rfl (by decide) rfl ?_
        refine aw_goto C 4 dX0_lookedAtBy_44 (by decide) ?_
        exact aw_sub [1, 2, 3, 0] rfl (ih _ _ _ h kx)
      replace h := hz11
      refine aw_icmp_ne C 41 dX0_lookedAtBy_22 (by decide) (fun c6 => ?_) (fun c6 => ?_)
      · rw [if_neg c6] at h
        have e9 := inj1 h
        subst e9
        exact aw_sub [0, 1, 2, 3] rfl kj22
      · rw [if_pos c6] at h
        refine aw_aload_n C 0 dX0_lookedAtBy_25 rfl rfl ?_
        obtain ⟨v7, hv7, h⟩ := bindE h
        refine aw_gR C fl_X0_19 rfl hv7 dX0_lookedAtBy_26 ?_
        refine aw_iload_n C 3 dX0_lookedAtBy_29 rfl rfl ?_
        obtain ⟨v8, hv8, h⟩ := bindE h
        refine aw_aR C (by decide) (ty := .object RX5) rfl rfl hv8 dX0_lookedAtBy_30 ?_
        obtain ⟨v9, hv9, h⟩ := bindE h
        refine aw_gI C fl_X0_54 rfl hv9 dX0_lookedAtBy_31 ?_
        refine aw_iconst C 1 dX0_lookedAtBy_34 (by decide) ?_
        refine aw_icmp_ne C 41 dX0_lookedAtBy_35 (by decide) (fun c10 => ?_) (fun c10 => ?_)
        · rw [if_neg c10] at h
          have e9 := inj1 h
          subst e9
          exact aw_sub [0, 1, 2, 3] rfl kj22
        · rw [if_pos c10] at h
          refine aw_iinc C (x2 + 1) 2 [(2, .int (x2 + 1)), (0, .ref (gZ G + a0)), (1, .int x1), (3, .int x3)] dX0_lookedAtBy_38 rfl rfl (by decide) rfl ?_
          have e9 := inj1 h
          subst e9
          exact aw_sub [1, 2, 0, 3] rfl kj22
set_option maxRecDepth 100000 in
set_option maxHeartbeats 4000000 in
theorem wk_X0_lookedAtBy {G : GL} {X : CX} {a0 : Nat} {x1 : Int32} {μ : Mem} {r : Int32} (C : Ctx G X cX0_lookedAtBy 4 RX0 rm_X0_lookedAtBy) (h : X0_lookedAtBy a0 x1 μ = some r) (hret : RtI G 4 X cX0_lookedAtBy 0 0 r μ) : AW G 4 X 0 0 0 [(0, .ref (gZ G + a0)), (1, .int x1)] [] μ := by
  unfold X0_lookedAtBy at h
  refine aw_iconst C 0 dX0_lookedAtBy_0 (by decide) ?_
  refine aw_istore_n C [(2, .int 0), (0, .ref (gZ G + a0)), (1, .int x1)] dX0_lookedAtBy_1 rfl (by decide) rfl ?_
  refine aw_iconst C 0 dX0_lookedAtBy_2 (by decide) ?_
  refine aw_istore_n C [(3, .int 0), (2, .int 0), (0, .ref (gZ G + a0)), (1, .int x1)] dX0_lookedAtBy_3 rfl (by decide) rfl ?_
  obtain ⟨z1, hz1, h⟩ := bindE h
  refine aw_sub [2, 3, 1, 0] rfl ?_
  refine X0_lookedAtBy_L4_ok C _ _ _ _ _ _ _ hz1 ?_
  refine aw_iload_n C 2 dX0_lookedAtBy_47 rfl rfl ?_
  have e9 := inj1 h
  subst e9
  exact hret _ _ dX0_lookedAtBy_48
set_option maxRecDepth 100000 in
set_option maxHeartbeats 4000000 in
theorem mt_X0_lookedAtBy {G : GL} {l : Launch} {a0 : Nat} {x1 : Int32} {μ : Mem} {r : Int32} (h : X0_lookedAtBy a0 x1 μ = some r) : MtI G l yX0_lookedAtBy cX0_lookedAtBy 4 (some .int) rm_X0_lookedAtBy false [.ref (gZ G + a0), .int x1] μ r μ := met_I (by decide) rfl rfl (Nat.le_of_ble_eq_true rfl) (fun X _ C _ _ hret => wk_X0_lookedAtBy C h hret)
set_option maxRecDepth 100000 in
set_option maxHeartbeats 4000000 in
theorem wk_X1_init {G : GL} {X : CX} {a0 : Nat} {μ : Mem} {μ' : Mem} (C : Ctx G X cX1_init 1 RX1 rm_X1_init) (hi : (xT X).name = "<init>") (hb : (xS X).heap.size = gZ G + mN μ) (h : X1_init a0 μ = some μ') (hret : RtV G 1 X cX1_init 0 0 μ') : AW G 1 X 0 0 0 [(0, .ref (gZ G + a0))] [] μ := by
  unfold X1_init at h
  refine aw_aload_n C 0 dX1_init_0 rfl rfl ?_
  refine aw_oinit C mo_X1_1 ob_im ob_co (by decide) (by decide) (Nat.le_of_ble_eq_true rfl) dX1_init_1 ?_
  have e9 := inj1 h
  subst e9
  exact hret _ _ dX1_init_4
set_option maxRecDepth 100000 in
set_option maxHeartbeats 4000000 in
theorem mt_X1_init {G : GL} {l : Launch} {a0 : Nat} {μ : Mem} {μ' : Mem} (h : X1_init a0 μ = some μ') : MtV G l yX1_init cX1_init 1 none rm_X1_init true [.ref (gZ G + a0)] μ μ' := met_V (by decide) rfl (Nat.le_of_ble_eq_true rfl) (fun X _ C hi hb hret => wk_X1_init C hi (hb rfl) h hret)
