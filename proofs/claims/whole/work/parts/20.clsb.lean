def X2_finish (a0 : Nat) (a1 : Nat) (x2 : Int32) (x3 : Int32) (x4 : Int32) (x5 : Int32) (μ : Mem) : Option Mem :=
  (vO 2 a0 μ).bind fun g1 =>
  (X2_skipBlanks a0 μ).bind fun μ2 =>
  (gI 2 4 a0 μ2).bind fun v3 =>
  (gI 2 0 a0 μ2).bind fun v4 =>
  ((if v4 ≤ v3 then
  (gI 2 4 a0 μ2).bind fun v6 =>
  (vO 2 a0 μ2).bind fun g7 =>
  (X2_note a0 1 v6 μ2).bind fun μ8 =>
  some μ8
  else
  (gR 2 3 a0 μ2).bind fun v9 =>
  (gI 2 4 a0 μ2).bind fun v10 =>
  (aI v9 v10 μ2).bind fun v11 =>
  if v11 = 59 then
  some μ2
  else
  (gI 2 4 a0 μ2).bind fun v13 =>
  (vO 2 a0 μ2).bind fun g14 =>
  (X2_note a0 1 v13 μ2).bind fun μ15 =>
  some μ15) : Option (Mem)).bind fun z16 =>
  (gI 2 1 a0 z16).bind fun v17 =>
  ((if v17 = 0 then
  (gI 2 4 a0 z16).bind fun v19 =>
  (pI 2 4 a0 (v19 + 1) z16).bind fun μ20 =>
  (vO 3 a1 μ20).bind fun g21 =>
  (X3_add a1 x2 x3 x4 x5 μ20).bind fun μ22 =>
  some μ22
  else
  some z16) : Option (Mem)).bind fun z23 =>
  some z23
set_option maxRecDepth 100000 in
set_option maxHeartbeats 4000000 in
theorem wk_X2_finish {G : GL} {X : CX} {a0 : Nat} {a1 : Nat} {x2 : Int32} {x3 : Int32} {x4 : Int32} {x5 : Int32} {μ : Mem} {μ' : Mem} (C : Ctx G X cX2_finish 6 RX2 rm_X2_finish) (h : X2_finish a0 a1 x2 x3 x4 x5 μ = some μ') (hret : RtV G 6 X cX2_finish 0 0 μ') : AW G 6 X 0 0 0 [(0, .ref (gZ G + a0)), (1, .ref (gZ G + a1)), (2, .int x2), (3, .int x3), (4, .int x4), (5, .int x5)] [] μ := by
  unfold X2_finish at h
  refine aw_aload_n C 0 dX2_finish_0 rfl rfl ?_
  obtain ⟨g1, hg1, h⟩ := bindE h
  obtain ⟨μ2, hμ2, h⟩ := bindE h
  refine aw_cV_V C [] _ (mt_X2_skipBlanks hμ2) cs_X2_skipBlanks ml_X2_33 im_X2_skipBlanks se_X2_skipBlanks (ci := 2) rfl rfl hg1 ⟨by decide, by decide⟩ ⟨rfl, rfl⟩ ⟨Nat.zero_le _, Nat.zero_le _⟩ rfl rfl (Nat.le_of_ble_eq_true rfl) dX2_finish_1 ?_
  refine aw_aload_n C 0 dX2_finish_4 rfl rfl ?_
  obtain ⟨v3, hv3, h⟩ := bindE h
  refine aw_gI C fl_X2_22 rfl hv3 dX2_finish_5 ?_
  refine aw_aload_n C 0 dX2_finish_8 rfl rfl ?_
  obtain ⟨v4, hv4, h⟩ := bindE h
  refine aw_gI C fl_X2_19 rfl hv4 dX2_finish_9 ?_
  obtain ⟨z16, hz16, h⟩ := bindE h
  have kj12 : AW G 6 X 0 0 38 [(0, .ref (gZ G + a0)), (1, .ref (gZ G + a1)), (2, .int x2), (3, .int x3), (4, .int x4), (5, .int x5)] [] z16 := by
    refine aw_aload_n C 0 dX2_finish_38 rfl rfl ?_
    obtain ⟨v17, hv17, h⟩ := bindE h
    refine aw_gI C fl_X2_25 rfl hv17 dX2_finish_39 ?_
    obtain ⟨z23, hz23, h⟩ := bindE h
    have kj42 : AW G 6 X 0 0 65 [] [] z23 := by
      have e9 := inj1 h
      subst e9
      exact hret _ _ dX2_finish_65
    replace h := hz23
    refine aw_if_ne C 65 dX2_finish_42 (by decide) (fun c18 => ?_) (fun c18 => ?_)
    · rw [if_neg c18] at h
      have e9 := inj1 h
      subst e9
      exact aw_sub [] rfl kj42
    · rw [if_pos c18] at h
      refine aw_aload_n C 0 dX2_finish_45 rfl rfl ?_
      refine aw_dup C dX2_finish_46 rfl ?_
      obtain ⟨v19, hv19, h⟩ := bindE h
      refine aw_gI C fl_X2_22 rfl hv19 dX2_finish_47 ?_
      refine aw_iconst C 1 dX2_finish_50 (by decide) ?_
      refine aw_iadd C dX2_finish_51 ?_
      obtain ⟨μ20, hμ20, h⟩ := bindE h
      refine aw_pI C fl_X2_22 rfl hμ20 dX2_finish_52 ?_
      refine aw_aload_n C 1 dX2_finish_55 rfl rfl ?_
      refine aw_iload_n C 2 dX2_finish_56 rfl rfl ?_
      refine aw_iload_n C 3 dX2_finish_57 rfl rfl ?_
      refine aw_iload C 4 dX2_finish_58 rfl ?_
      refine aw_iload C 5 dX2_finish_60 rfl ?_
      obtain ⟨g21, hg21, h⟩ := bindE h
      obtain ⟨μ22, hμ22, h⟩ := bindE h
      refine aw_cV_V C [.int x2, .int x3, .int x4, .int x5] _ (mt_X3_add hμ22) cs_X3_add ml_X2_85 im_X3_add se_X3_add (ci := 3) rfl rfl hg21 ⟨by decide, by decide⟩ ⟨rfl, rfl⟩ ⟨Nat.zero_le _, Nat.zero_le _⟩ rfl rfl (Nat.le_of_ble_eq_true rfl) dX2_finish_62 ?_
      have e9 := inj1 h
      subst e9
      exact aw_sub [] rfl kj42
  replace h := hz16
  refine aw_icmp_ge C 29 dX2_finish_12 (by decide) (fun c5 => ?_) (fun c5 => ?_)
  · rw [if_pos c5] at h
    refine aw_aload_n C 0 dX2_finish_29 rfl rfl ?_
    refine aw_iconst C 1 dX2_finish_30 (by decide) ?_
    refine aw_aload_n C 0 dX2_finish_31 rfl rfl ?_
    obtain ⟨v6, hv6, h⟩ := bindE h
    refine aw_gI C fl_X2_22 rfl hv6 dX2_finish_32 ?_
    obtain ⟨g7, hg7, h⟩ := bindE h
    obtain ⟨μ8, hμ8, h⟩ := bindE h
    refine aw_cV_V C [.int 1, .int v6] _ (mt_X2_note hμ8) cs_X2_note ml_X2_73 im_X2_note se_X2_note (ci := 2) rfl rfl hg7 ⟨by decide, by decide⟩ ⟨rfl, rfl⟩ ⟨Nat.zero_le _, Nat.zero_le _⟩ rfl rfl (Nat.le_of_ble_eq_true rfl) dX2_finish_35 ?_
    have e9 := inj1 h
    subst e9
    exact aw_sub [0, 1, 2, 3, 4, 5] rfl kj12
  · rw [if_neg c5] at h
    refine aw_aload_n C 0 dX2_finish_15 rfl rfl ?_
    obtain ⟨v9, hv9, h⟩ := bindE h
    refine aw_gR C fl_X2_15 rfl hv9 dX2_finish_16 ?_
    refine aw_aload_n C 0 dX2_finish_19 rfl rfl ?_
    obtain ⟨v10, hv10, h⟩ := bindE h
    refine aw_gI C fl_X2_22 rfl hv10 dX2_finish_20 ?_
    obtain ⟨v11, hv11, h⟩ := bindE h
    refine aw_aI C hv11 dX2_finish_23 ?_
    refine aw_bipush C 59 dX2_finish_24 (by decide) ?_
    refine aw_icmp_eq C 38 dX2_finish_26 (by decide) (fun c12 => ?_) (fun c12 => ?_)
    · rw [if_pos c12] at h
      have e9 := inj1 h
      subst e9
      exact aw_sub [0, 1, 2, 3, 4, 5] rfl kj12
    · rw [if_neg c12] at h
      refine aw_aload_n C 0 dX2_finish_29 rfl rfl ?_
      refine aw_iconst C 1 dX2_finish_30 (by decide) ?_
      refine aw_aload_n C 0 dX2_finish_31 rfl rfl ?_
      obtain ⟨v13, hv13, h⟩ := bindE h
      refine aw_gI C fl_X2_22 rfl hv13 dX2_finish_32 ?_
      obtain ⟨g14, hg14, h⟩ := bindE h
      obtain ⟨μ15, hμ15, h⟩ := bindE h
      refine aw_cV_V C [.int 1, .int v13] _ (mt_X2_note hμ15) cs_X2_note ml_X2_73 im_X2_note se_X2_note (ci := 2) rfl rfl hg14 ⟨by decide, by decide⟩ ⟨rfl, rfl⟩ ⟨Nat.zero_le _, Nat.zero_le _⟩ rfl rfl (Nat.le_of_ble_eq_true rfl) dX2_finish_35 ?_
      have e9 := inj1 h
      subst e9
      exact aw_sub [0, 1, 2, 3, 4, 5] rfl kj12
set_option maxRecDepth 100000 in
set_option maxHeartbeats 4000000 in
theorem mt_X2_finish {G : GL} {l : Launch} {a0 : Nat} {a1 : Nat} {x2 : Int32} {x3 : Int32} {x4 : Int32} {x5 : Int32} {μ : Mem} {μ' : Mem} (h : X2_finish a0 a1 x2 x3 x4 x5 μ = some μ') : MtV G l yX2_finish cX2_finish 6 none rm_X2_finish false [.ref (gZ G + a0), .ref (gZ G + a1), .int x2, .int x3, .int x4, .int x5] μ μ' := met_V (by decide) rfl (Nat.le_of_ble_eq_true rfl) (fun X _ C _ _ hret => wk_X2_finish C h hret)
def X3_countsSayings_L2 (a0 : Nat) (μ : Mem) : Nat → Int32 → Option (Int32)
  | 0, _ => none
  | n + 1, x1 =>
      (gI 3 0 a0 μ).bind fun v1 =>
      if v1 ≤ x1 then
      some 0
      else
      (gR 3 1 a0 μ).bind fun v3 =>
      (aI v3 x1 μ).bind fun v4 =>
      if v4 = 3 then
      some 1
      else
      X3_countsSayings_L2 a0 μ n (x1 + 1)
set_option maxRecDepth 100000 in
set_option maxHeartbeats 4000000 in
theorem X3_countsSayings_L2_ok {G : GL} {X : CX} (C : Ctx G X cX3_countsSayings 2 RX3 rm_X3_countsSayings) {r : Int32} {μ : Mem} (hret : RtZ G 2 X cX3_countsSayings 0 0 r μ) (a0 : Nat) : ∀ (n : Nat) (x1 : Int32), X3_countsSayings_L2 a0 μ n x1 = some r → AW G 2 X 0 0 2 [(0, .ref (gZ G + a0)), (1, .int x1)] [] μ := by
  intro n
  induction n with
  | zero =>
    intro x1 h
    rw [X3_countsSayings_L2] at h
    cases h
  | succ n ih =>
    intro x1 h
    rw [X3_countsSayings_L2] at h
    refine aw_iload_n C 1 dX3_countsSayings_2 rfl rfl ?_
    refine aw_aload_n C 0 dX3_countsSayings_3 rfl rfl ?_
    obtain ⟨v1, hv1, h⟩ := bindE h
    refine aw_gI C fl_X3_24 rfl hv1 dX3_countsSayings_4 ?_
    refine aw_icmp_ge C 28 dX3_countsSayings_7 (by decide) (fun c2 => ?_) (fun c2 => ?_)
    · rw [if_pos c2] at h
      refine aw_iconst C 0 dX3_countsSayings_28 (by decide) ?_
      have e9 := inj1 h
      subst e9
      exact hret _ _ dX3_countsSayings_29 (Or.inl rfl)
    · rw [if_neg c2] at h
      refine aw_aload_n C 0 dX3_countsSayings_10 rfl rfl ?_
      obtain ⟨v3, hv3, h⟩ := bindE h
      refine aw_gR C fl_X3_9 rfl hv3 dX3_countsSayings_11 ?_
      refine aw_iload_n C 1 dX3_countsSayings_14 rfl rfl ?_
      obtain ⟨v4, hv4, h⟩ := bindE h
      refine aw_aI C hv4 dX3_countsSayings_15 ?_
      refine aw_iconst C 3 dX3_countsSayings_16 (by decide) ?_
      refine aw_icmp_ne C 22 dX3_countsSayings_17 (by decide) (fun c5 => ?_) (fun c5 => ?_)
      · rw [if_neg c5] at h
        refine aw_iinc C (x1 + 1) 1 [(1, .int (x1 + 1)), (0, .ref (gZ G + a0))] dX3_countsSayings_22 rfl rfl (by decide) rfl ?_
        refine aw_goto C 2 dX3_countsSayings_25 (by decide) ?_
        exact aw_sub [1, 0] rfl (ih _ h)
      · rw [if_pos c5] at h
        refine aw_iconst C 1 dX3_countsSayings_20 (by decide) ?_
        have e9 := inj1 h
        subst e9
        exact hret _ _ dX3_countsSayings_21 (Or.inr rfl)
def X3_countsSayings (a0 : Nat) (μ : Mem) : Option Int32 :=
  X3_countsSayings_L2 a0 μ FU 0
set_option maxRecDepth 100000 in
set_option maxHeartbeats 4000000 in
theorem wk_X3_countsSayings {G : GL} {X : CX} {a0 : Nat} {μ : Mem} {r : Int32} (C : Ctx G X cX3_countsSayings 2 RX3 rm_X3_countsSayings) (h : X3_countsSayings a0 μ = some r) (hret : RtZ G 2 X cX3_countsSayings 0 0 r μ) : AW G 2 X 0 0 0 [(0, .ref (gZ G + a0))] [] μ := by
  unfold X3_countsSayings at h
  refine aw_iconst C 0 dX3_countsSayings_0 (by decide) ?_
  refine aw_istore_n C [(1, .int 0), (0, .ref (gZ G + a0))] dX3_countsSayings_1 rfl (by decide) rfl ?_
  refine aw_sub [1, 0] rfl ?_
  exact X3_countsSayings_L2_ok C hret _ _ _ h
set_option maxRecDepth 100000 in
set_option maxHeartbeats 4000000 in
theorem mt_X3_countsSayings {G : GL} {l : Launch} {a0 : Nat} {μ : Mem} {r : Int32} (h : X3_countsSayings a0 μ = some r) : MtI G l yX3_countsSayings cX3_countsSayings 2 (some .boolean) rm_X3_countsSayings false [.ref (gZ G + a0)] μ r μ := met_Z (by decide) rfl (Nat.le_of_ble_eq_true rfl) (fun X _ C _ _ hret => wk_X3_countsSayings C h hret)
def X3_saidWithin_L9 (a0 : Nat) (x2 : Int32) (μ : Mem) : Nat → Int32 → Int32 → Option (Int32 × Int32)
  | 0, _, _ => none
  | n + 1, x3, x4 =>
      if x2 < x4 then
      some ((x3, x4))
      else
      (aL a0 μ).bind fun v2 =>
      if v2 ≤ x4 then
      some ((x3, x4))
      else
      (aI a0 x4 μ).bind fun v4 =>
      (some (x3 + v4 : Int32)).bind fun v5 =>
      X3_saidWithin_L9 a0 x2 μ n v5 (x4 + 1)
set_option maxRecDepth 100000 in
set_option maxHeartbeats 4000000 in
theorem X3_saidWithin_L9_ok {G : GL} {X : CX} (C : Ctx G X cX3_saidWithin 5 RX3 rm_X3_saidWithin) (a0 : Nat) (x2 : Int32) (μ : Mem) : ∀ (n : Nat) (x3 : Int32) (x4 : Int32) (z : Int32 × Int32), X3_saidWithin_L9 a0 x2 μ n x3 x4 = some z → AW G 5 X 0 0 35 [(0, .ref (gZ G + a0)), (2, .int x2), (3, .int z.1), (4, .int z.2)] [] μ → AW G 5 X 0 0 9 [(0, .ref (gZ G + a0)), (2, .int x2), (3, .int x3), (4, .int x4)] [] μ := by
  intro n
  induction n with
  | zero =>
    intro x3 x4 z h kx
    rw [X3_saidWithin_L9] at h
    cases h
  | succ n ih =>
    intro x3 x4 z h kx
    rw [X3_saidWithin_L9] at h
    refine aw_iload C 3 dX3_saidWithin_9 rfl ?_
    refine aw_iload_n C 1 dX3_saidWithin_11 rfl rfl ?_
    refine aw_icmp_gt C 35 dX3_saidWithin_12 (by decide) (fun c1 => ?_) (fun c1 => ?_)
    · rw [if_pos c1] at h
      have e9 := inj1 h
      subst e9
      exact aw_sub [0, 1, 2, 3] rfl kx
    · rw [if_neg c1] at h
      refine aw_iload C 3 dX3_saidWithin_15 rfl ?_
      refine aw_aload_n C 0 dX3_saidWithin_17 rfl rfl ?_
      obtain ⟨v2, hv2, h⟩ := bindE h
      refine aw_aL C hv2 dX3_saidWithin_18 ?_
      refine aw_icmp_ge C 35 dX3_saidWithin_19 (by decide) (fun c3 => ?_) (fun c3 => ?_)
      · rw [if_pos c3] at h
        have e9 := inj1 h
        subst e9
        exact aw_sub [0, 1, 2, 3] rfl kx
      · rw [if_neg c3] at h
        refine aw_iload_n C 2 dX3_saidWithin_22 rfl rfl ?_
        refine aw_aload_n C 0 dX3_saidWithin_23 rfl rfl ?_
        refine aw_iload C 3 dX3_saidWithin_24 rfl ?_
        obtain ⟨v4, hv4, h⟩ := bindE h
        refine aw_aI C hv4 dX3_saidWithin_26 ?_
        refine aw_iadd C dX3_saidWithin_27 ?_
        obtain ⟨v5, ev5, h⟩ := bindS h
        refine aw_topi ev5 ?_
        refine aw_istore_n C [(3, .int v5), (0, .ref (gZ G + a0)), (2, .int x2), (4, .int x4)] dX3_saidWithin_28 rfl (by decide) rfl ?_
        refine aw_iinc C (x4 + 1) 3 [(4, .int (x4 + 1)), (3, .int v5), (0, .ref (gZ G + a0)), (2, .int x2)] dX3_saidWithin_29 rfl rfl (by decide) rfl ?_
        refine aw_goto C 9 dX3_saidWithin_32 (by decide) ?_
        exact aw_sub [2, 3, 1, 0] rfl (ih _ _ _ h kx)
def X3_saidWithin (a0 : Nat) (x1 : Int32) (x2 : Int32) (μ : Mem) : Option Int32 :=
  (some (if (0 : Int32) < x1 then x1 else 0 : Int32)).bind fun v1 =>
  (X3_saidWithin_L9 a0 x2 μ FU 0 v1).bind fun z2 =>
  some (z2.1)
set_option maxRecDepth 100000 in
set_option maxHeartbeats 4000000 in
theorem wk_X3_saidWithin {G : GL} {X : CX} {a0 : Nat} {x1 : Int32} {x2 : Int32} {μ : Mem} {r : Int32} (C : Ctx G X cX3_saidWithin 5 RX3 rm_X3_saidWithin) (h : X3_saidWithin a0 x1 x2 μ = some r) (hret : RtI G 5 X cX3_saidWithin 0 0 r μ) : AW G 5 X 0 0 0 [(0, .ref (gZ G + a0)), (1, .int x1), (2, .int x2)] [] μ := by
  unfold X3_saidWithin at h
  refine aw_iconst C 0 dX3_saidWithin_0 (by decide) ?_
  refine aw_istore_n C [(3, .int 0), (0, .ref (gZ G + a0)), (1, .int x1), (2, .int x2)] dX3_saidWithin_1 rfl (by decide) rfl ?_
  refine aw_iconst C 0 dX3_saidWithin_2 (by decide) ?_
  refine aw_iload_n C 2 dX3_saidWithin_3 rfl rfl ?_
  refine aw_mmax C ml_X3_40 (by decide) (by decide) ⟨Nat.zero_le _, Nat.zero_le _⟩ (Nat.le_of_ble_eq_true rfl) dX3_saidWithin_4 ?_
  obtain ⟨v1, ev1, h⟩ := bindS h
  refine aw_topi ev1 ?_
  refine aw_istore C [(4, .int v1), (3, .int 0), (0, .ref (gZ G + a0)), (1, .int x1), (2, .int x2)] dX3_saidWithin_7 (by decide) rfl ?_
  obtain ⟨z2, hz2, h⟩ := bindE h
  refine aw_sub [2, 4, 1, 0] rfl ?_
  refine X3_saidWithin_L9_ok C _ _ _ _ _ _ _ hz2 ?_
  refine aw_iload_n C 2 dX3_saidWithin_35 rfl rfl ?_
  have e9 := inj1 h
  subst e9
  exact hret _ _ dX3_saidWithin_36
set_option maxRecDepth 100000 in
set_option maxHeartbeats 4000000 in
theorem mt_X3_saidWithin {G : GL} {l : Launch} {a0 : Nat} {x1 : Int32} {x2 : Int32} {μ : Mem} {r : Int32} (h : X3_saidWithin a0 x1 x2 μ = some r) : MtI G l yX3_saidWithin cX3_saidWithin 5 (some .int) rm_X3_saidWithin false [.ref (gZ G + a0), .int x1, .int x2] μ r μ := met_I (by decide) rfl rfl (Nat.le_of_ble_eq_true rfl) (fun X _ C _ _ hret => wk_X3_saidWithin C h hret)
def X3_mostBars_L2 (a0 : Nat) (a1 : Nat) (x2 : Int32) (μ : Mem) : Nat → Int32 → Option (Int32)
  | 0, _ => none
  | n + 1, x3 =>
      (gI 3 0 a0 μ).bind fun v1 =>
      if v1 ≤ x3 then
      some 0
      else
      (gR 3 1 a0 μ).bind fun v3 =>
      (aI v3 x3 μ).bind fun v4 =>
      if v4 = 3 then
      (gR 3 3 a0 μ).bind fun v6 =>
      (aI v6 x3 μ).bind fun v7 =>
      (X3_saidWithin a1 ((x2 - v7) + 1) x2 μ).bind fun v8 =>
      (gR 3 2 a0 μ).bind fun v9 =>
      (aI v9 x3 μ).bind fun v10 =>
      if v8 < v10 then
      X3_mostBars_L2 a0 a1 x2 μ n (x3 + 1)
      else
      some 1
      else
      X3_mostBars_L2 a0 a1 x2 μ n (x3 + 1)
set_option maxRecDepth 100000 in
set_option maxHeartbeats 4000000 in
theorem X3_mostBars_L2_ok {G : GL} {X : CX} (C : Ctx G X cX3_mostBars 4 RX3 rm_X3_mostBars) {r : Int32} {μ : Mem} (hret : RtZ G 4 X cX3_mostBars 0 0 r μ) (a0 : Nat) (a1 : Nat) (x2 : Int32) : ∀ (n : Nat) (x3 : Int32), X3_mostBars_L2 a0 a1 x2 μ n x3 = some r → AW G 4 X 0 0 2 [(0, .ref (gZ G + a0)), (1, .ref (gZ G + a1)), (2, .int x2), (3, .int x3)] [] μ := by
  intro n
  induction n with
  | zero =>
    intro x3 h
    rw [X3_mostBars_L2] at h
    cases h
  | succ n ih =>
    intro x3 h
    rw [X3_mostBars_L2] at h
    refine aw_iload_n C 3 dX3_mostBars_2 rfl rfl ?_
    refine aw_aload_n C 0 dX3_mostBars_3 rfl rfl ?_
    obtain ⟨v1, hv1, h⟩ := bindE h
    refine aw_gI C fl_X3_24 rfl hv1 dX3_mostBars_4 ?_
    refine aw_icmp_ge C 52 dX3_mostBars_7 (by decide) (fun c2 => ?_) (fun c2 => ?_)
    · rw [if_pos c2] at h
      refine aw_iconst C 0 dX3_mostBars_52 (by decide) ?_
      have e9 := inj1 h
      subst e9
      exact hret _ _ dX3_mostBars_53 (Or.inl rfl)
    · rw [if_neg c2] at h
      refine aw_aload_n C 0 dX3_mostBars_10 rfl rfl ?_
      obtain ⟨v3, hv3, h⟩ := bindE h
      refine aw_gR C fl_X3_9 rfl hv3 dX3_mostBars_11 ?_
      refine aw_iload_n C 3 dX3_mostBars_14 rfl rfl ?_
      obtain ⟨v4, hv4, h⟩ := bindE h
      refine aw_aI C hv4 dX3_mostBars_15 ?_
      refine aw_iconst C 3 dX3_mostBars_16 (by decide) ?_
      refine aw_icmp_ne C 46 dX3_mostBars_17 (by decide) (fun c5 => ?_) (fun c5 => ?_)
      · rw [if_neg c5] at h
        refine aw_iinc C (x3 + 1) 3 [(3, .int (x3 + 1)), (0, .ref (gZ G + a0)), (1, .ref (gZ G + a1)), (2, .int x2)] dX3_mostBars_46 rfl rfl (by decide) rfl ?_
        refine aw_goto C 2 dX3_mostBars_49 (by decide) ?_
        exact aw_sub [1, 2, 3, 0] rfl (ih _ h)
      · rw [if_pos c5] at h
        refine aw_aload_n C 1 dX3_mostBars_20 rfl rfl ?_
        refine aw_iload_n C 2 dX3_mostBars_21 rfl rfl ?_
        refine aw_aload_n C 0 dX3_mostBars_22 rfl rfl ?_
        obtain ⟨v6, hv6, h⟩ := bindE h
        refine aw_gR C fl_X3_18 rfl hv6 dX3_mostBars_23 ?_
        refine aw_iload_n C 3 dX3_mostBars_26 rfl rfl ?_
        obtain ⟨v7, hv7, h⟩ := bindE h
        refine aw_aI C hv7 dX3_mostBars_27 ?_
        refine aw_isub C dX3_mostBars_28 ?_
        refine aw_iconst C 1 dX3_mostBars_29 (by decide) ?_
        refine aw_iadd C dX3_mostBars_30 ?_
        refine aw_iload_n C 2 dX3_mostBars_31 rfl rfl ?_
        obtain ⟨v8, hv8, h⟩ := bindE h
        refine aw_cS_I C [.ref (gZ G + a1), .int ((x2 - v7) + 1), .int x2] _ (mt_X3_saidWithin hv8) cs_X3_saidWithin ml_X3_36 st_X3_saidWithin ⟨by decide, by decide⟩ ⟨rfl, rfl⟩ ⟨Nat.zero_le _, Nat.zero_le _⟩ rfl rfl (Nat.le_of_ble_eq_true rfl) dX3_mostBars_32 ?_
        refine aw_aload_n C 0 dX3_mostBars_35 rfl rfl ?_
        obtain ⟨v9, hv9, h⟩ := bindE h
        refine aw_gR C fl_X3_15 rfl hv9 dX3_mostBars_36 ?_
        refine aw_iload_n C 3 dX3_mostBars_39 rfl rfl ?_
        obtain ⟨v10, hv10, h⟩ := bindE h
        refine aw_aI C hv10 dX3_mostBars_40 ?_
        refine aw_icmp_lt C 46 dX3_mostBars_41 (by decide) (fun c11 => ?_) (fun c11 => ?_)
        · rw [if_pos c11] at h
          refine aw_iinc C (x3 + 1) 3 [(3, .int (x3 + 1)), (0, .ref (gZ G + a0)), (1, .ref (gZ G + a1)), (2, .int x2)] dX3_mostBars_46 rfl rfl (by decide) rfl ?_
          refine aw_goto C 2 dX3_mostBars_49 (by decide) ?_
          exact aw_sub [1, 2, 3, 0] rfl (ih _ h)
        · rw [if_neg c11] at h
          refine aw_iconst C 1 dX3_mostBars_44 (by decide) ?_
          have e9 := inj1 h
          subst e9
          exact hret _ _ dX3_mostBars_45 (Or.inr rfl)
def X3_mostBars (a0 : Nat) (a1 : Nat) (x2 : Int32) (μ : Mem) : Option Int32 :=
  X3_mostBars_L2 a0 a1 x2 μ FU 0
set_option maxRecDepth 100000 in
set_option maxHeartbeats 4000000 in
theorem wk_X3_mostBars {G : GL} {X : CX} {a0 : Nat} {a1 : Nat} {x2 : Int32} {μ : Mem} {r : Int32} (C : Ctx G X cX3_mostBars 4 RX3 rm_X3_mostBars) (h : X3_mostBars a0 a1 x2 μ = some r) (hret : RtZ G 4 X cX3_mostBars 0 0 r μ) : AW G 4 X 0 0 0 [(0, .ref (gZ G + a0)), (1, .ref (gZ G + a1)), (2, .int x2)] [] μ := by
  unfold X3_mostBars at h
  refine aw_iconst C 0 dX3_mostBars_0 (by decide) ?_
  refine aw_istore_n C [(3, .int 0), (0, .ref (gZ G + a0)), (1, .ref (gZ G + a1)), (2, .int x2)] dX3_mostBars_1 rfl (by decide) rfl ?_
  refine aw_sub [1, 2, 3, 0] rfl ?_
  exact X3_mostBars_L2_ok C hret _ _ _ _ _ h
set_option maxRecDepth 100000 in
set_option maxHeartbeats 4000000 in
theorem mt_X3_mostBars {G : GL} {l : Launch} {a0 : Nat} {a1 : Nat} {x2 : Int32} {μ : Mem} {r : Int32} (h : X3_mostBars a0 a1 x2 μ = some r) : MtI G l yX3_mostBars cX3_mostBars 4 (some .boolean) rm_X3_mostBars false [.ref (gZ G + a0), .ref (gZ G + a1), .int x2] μ r μ := met_Z (by decide) rfl (Nat.le_of_ble_eq_true rfl) (fun X _ C _ _ hret => wk_X3_mostBars C h hret)
def X4_pick_L7 (a0 : Nat) (x1 : Int32) (x2 : Int32) : Nat → Int32 → Mem → Option (Int32 × Mem)
  | 0, _, _ => none
  | n + 1, x3, μ =>
      (gR 4 5 a0 μ).bind fun v1 =>
      (gI 0 2 v1 μ).bind fun v2 =>
      if v2 ≤ x3 then
      some ((x3, μ))
      else
      (gI 4 16 a0 μ).bind fun v4 =>
      if (6 : Int32) ≤ v4 then
      some ((x3, μ))
      else
      (gR 4 5 a0 μ).bind fun v6 =>
      (gR 0 0 v6 μ).bind fun v7 =>
      (aR 6 v7 x3 μ).bind fun v8 =>
      (gI 6 0 v8 μ).bind fun v9 =>
      ((if (X10_contains v9 x1) = 0 then
      some μ
      else
      (gR 4 5 a0 μ).bind fun v11 =>
      (vO 0 v11 μ).bind fun g12 =>
      (X0_standing v11 x3 x2 μ).bind fun v13 =>
      if v13 = 0 then
      (gR 4 7 a0 μ).bind fun v15 =>
      (gI 4 16 a0 μ).bind fun v16 =>
      (sI v15 v16 x3 μ).bind fun μ17 =>
      (gI 4 16 a0 μ17).bind fun v18 =>
      (pI 4 16 a0 (v18 + 1) μ17).bind fun μ19 =>
      some μ19
      else
      some μ) : Option (Mem)).bind fun z20 =>
      X4_pick_L7 a0 x1 x2 n (x3 + 1) z20
set_option maxRecDepth 100000 in
set_option maxHeartbeats 4000000 in
theorem X4_pick_L7_ok {G : GL} {X : CX} (C : Ctx G X cX4_pick 7 RX4 rm_X4_pick) (a0 : Nat) (x1 : Int32) (x2 : Int32) : ∀ (n : Nat) (x3 : Int32) (μ : Mem) (z : Int32 × Mem), X4_pick_L7 a0 x1 x2 n x3 μ = some z → AW G 7 X 0 0 84 [(0, .ref (gZ G + a0)), (1, .int x1), (2, .int x2), (3, .int z.1)] [] z.2 → AW G 7 X 0 0 7 [(0, .ref (gZ G + a0)), (1, .int x1), (2, .int x2), (3, .int x3)] [] μ := by
  intro n
  induction n with
  | zero =>
    intro x3 μ z h kx
    rw [X4_pick_L7] at h
    cases h
  | succ n ih =>
    intro x3 μ z h kx
    rw [X4_pick_L7] at h
    refine aw_iload_n C 3 dX4_pick_7 rfl rfl ?_
    refine aw_aload_n C 0 dX4_pick_8 rfl rfl ?_
    obtain ⟨v1, hv1, h⟩ := bindE h
    refine aw_gR C fl_X4_60 rfl hv1 dX4_pick_9 ?_
    obtain ⟨v2, hv2, h⟩ := bindE h
    refine aw_gI C fl_X4_121 rfl hv2 dX4_pick_12 ?_
    refine aw_icmp_ge C 84 dX4_pick_15 (by decide) (fun c3 => ?_) (fun c3 => ?_)
    · rw [if_pos c3] at h
      have e9 := inj1 h
      subst e9
      exact aw_sub [0, 1, 2, 3] rfl kx
    · rw [if_neg c3] at h
      refine aw_aload_n C 0 dX4_pick_18 rfl rfl ?_
      obtain ⟨v4, hv4, h⟩ := bindE h
      refine aw_gI C fl_X4_108 rfl hv4 dX4_pick_19 ?_
      refine aw_bipush C 6 dX4_pick_22 (by decide) ?_
      refine aw_icmp_ge C 84 dX4_pick_24 (by decide) (fun c5 => ?_) (fun c5 => ?_)
      · rw [if_pos c5] at h
        have e9 := inj1 h
        subst e9
        exact aw_sub [0, 1, 2, 3] rfl kx
      · rw [if_neg c5] at h
        refine aw_aload_n C 0 dX4_pick_27 rfl rfl ?_
        obtain ⟨v6, hv6, h⟩ := bindE h
        refine aw_gR C fl_X4_60 rfl hv6 dX4_pick_28 ?_
        obtain ⟨v7, hv7, h⟩ := bindE h
        refine aw_gR C fl_X4_124 rfl hv7 dX4_pick_31 ?_
        refine aw_iload_n C 3 dX4_pick_34 rfl rfl ?_
        obtain ⟨v8, hv8, h⟩ := bindE h
        refine aw_aR C (by decide) (ty := .object RX6) rfl rfl hv8 dX4_pick_35 ?_
        obtain ⟨v9, hv9, h⟩ := bindE h
        refine aw_gI C fl_X4_128 rfl hv9 dX4_pick_36 ?_
        refine aw_iload_n C 1 dX4_pick_39 rfl rfl ?_
        refine aw_cSN_I C [.int v9, .int x1] _ (mt_X10_contains _ _) cs_X10_contains ml_X4_133 st_X10_contains ⟨by decide, by decide⟩ ⟨rfl, rfl⟩ ⟨Nat.zero_le _, Nat.zero_le _⟩ rfl rfl (Nat.le_of_ble_eq_true rfl) dX4_pick_40 ?_
        obtain ⟨z20, hz20, h⟩ := bindE h
        have kj43 : AW G 7 X 0 0 78 [(0, .ref (gZ G + a0)), (1, .int x1), (2, .int x2), (3, .int x3)] [] z20 := by
          refine aw_iinc C (x3 + 1) 3 [(3, .int (x3 + 1)), (0, .ref (gZ G + a0)), (1, .int x1), (2, .int x2)] dX4_pick_78 rfl rfl (by decide) rfl ?_
          refine aw_goto C 7 dX4_pick_81 (by decide) ?_
          exact aw_sub [1, 2, 3, 0] rfl (ih _ _ _ h kx)
        replace h := hz20
        refine aw_if_eq C 78 dX4_pick_43 (by decide) (fun c10 => ?_) (fun c10 => ?_)
        · rw [if_pos c10] at h
          have e9 := inj1 h
          subst e9
          exact aw_sub [0, 1, 2, 3] rfl kj43
        · rw [if_neg c10] at h
          refine aw_aload_n C 0 dX4_pick_46 rfl rfl ?_
          obtain ⟨v11, hv11, h⟩ := bindE h
          refine aw_gR C fl_X4_60 rfl hv11 dX4_pick_47 ?_
          refine aw_iload_n C 3 dX4_pick_50 rfl rfl ?_
          refine aw_iload_n C 2 dX4_pick_51 rfl rfl ?_
          obtain ⟨g12, hg12, h⟩ := bindE h
          obtain ⟨v13, hv13, h⟩ := bindE h
          refine aw_cV_I C [.int x3, .int x2] _ (mt_X0_standing hv13) cs_X0_standing ml_X4_137 im_X0_standing se_X0_standing (ci := 0) rfl rfl hg12 ⟨by decide, by decide⟩ ⟨rfl, rfl⟩ ⟨Nat.zero_le _, Nat.zero_le _⟩ rfl rfl (Nat.le_of_ble_eq_true rfl) dX4_pick_52 ?_
          refine aw_if_ne C 78 dX4_pick_55 (by decide) (fun c14 => ?_) (fun c14 => ?_)
          · rw [if_neg c14] at h
            have e9 := inj1 h
            subst e9
            exact aw_sub [0, 1, 2, 3] rfl kj43
          · rw [if_pos c14] at h
            refine aw_aload_n C 0 dX4_pick_58 rfl rfl ?_
            obtain ⟨v15, hv15, h⟩ := bindE h
            refine aw_gR C fl_X4_25 rfl hv15 dX4_pick_59 ?_
            refine aw_aload_n C 0 dX4_pick_62 rfl rfl ?_
            obtain ⟨v16, hv16, h⟩ := bindE h
            refine aw_gI C fl_X4_108 rfl hv16 dX4_pick_63 ?_
            refine aw_iload_n C 3 dX4_pick_66 rfl rfl ?_
            obtain ⟨μ17, hμ17, h⟩ := bindE h
            refine aw_sI C hμ17 dX4_pick_67 ?_
            refine aw_aload_n C 0 dX4_pick_68 rfl rfl ?_
            refine aw_dup C dX4_pick_69 rfl ?_
            obtain ⟨v18, hv18, h⟩ := bindE h
            refine aw_gI C fl_X4_108 rfl hv18 dX4_pick_70 ?_
            refine aw_iconst C 1 dX4_pick_73 (by decide) ?_
            refine aw_iadd C dX4_pick_74 ?_
            obtain ⟨μ19, hμ19, h⟩ := bindE h
            refine aw_pI C fl_X4_108 rfl hμ19 dX4_pick_75 ?_
            have e9 := inj1 h
            subst e9
            exact aw_sub [0, 1, 2, 3] rfl kj43
def X4_pick_L123 (a0 : Nat) (x3 : Int32) (x4 : Int32) : Nat → Int32 → Mem → Option (Int32 × Mem)
  | 0, _, _ => none
  | n + 1, x5, μ =>
      if ((1 : Int32) <<< (x3 &&& 31)) ≤ x5 then
      some ((x5, μ))
      else
      (some (x5 ||| (1 <<< (x3 &&& 31)) : Int32)).bind fun v2 =>
      (gR 4 8 a0 μ).bind fun v3 =>
      (gR 4 8 a0 μ).bind fun v4 =>
      (aI v4 x5 μ).bind fun v5 =>
      (gR 4 7 a0 μ).bind fun v6 =>
      (aI v6 x3 μ).bind fun v7 =>
      (sI v3 v2 (v5 ||| (1 <<< (v7 &&& 31))) μ).bind fun μ8 =>
      (gR 4 9 a0 μ8).bind fun v9 =>
      ((if x5 = 0 then
      some x4
      else
      (gR 4 9 a0 μ8).bind fun v11 =>
      (aI v11 x5 μ8).bind fun v12 =>
      if v12 = x4 then
      some x4
      else
      some ((-1))) : Option (Int32)).bind fun z14 =>
      (sI v9 v2 z14 μ8).bind fun μ15 =>
      X4_pick_L123 a0 x3 x4 n (x5 + 1) μ15
set_option maxRecDepth 100000 in
set_option maxHeartbeats 4000000 in
theorem X4_pick_L123_ok {G : GL} {X : CX} (C : Ctx G X cX4_pick 7 RX4 rm_X4_pick) (a0 : Nat) (x3 : Int32) (x4 : Int32) : ∀ (n : Nat) (x5 : Int32) (μ : Mem) (z : Int32 × Mem), X4_pick_L123 a0 x3 x4 n x5 μ = some z → AW G 7 X 0 0 198 [(0, .ref (gZ G + a0)), (3, .int x3), (4, .int x4), (5, .int z.1)] [] z.2 → AW G 7 X 0 0 123 [(0, .ref (gZ G + a0)), (3, .int x3), (4, .int x4), (5, .int x5)] [] μ := by
  intro n
  induction n with
  | zero =>
    intro x5 μ z h kx
    rw [X4_pick_L123] at h
    cases h
  | succ n ih =>
    intro x5 μ z h kx
    rw [X4_pick_L123] at h
    refine aw_iload C 3 dX4_pick_123 rfl ?_
    refine aw_iconst C 1 dX4_pick_125 (by decide) ?_
    refine aw_iload_n C 1 dX4_pick_126 rfl rfl ?_
    refine aw_ishl C dX4_pick_127 ?_
    refine aw_icmp_ge C 198 dX4_pick_128 (by decide) (fun c1 => ?_) (fun c1 => ?_)
    · rw [if_pos c1] at h
      have e9 := inj1 h
      subst e9
      exact aw_sub [0, 1, 2, 3] rfl kx
    · rw [if_neg c1] at h
      refine aw_iload C 3 dX4_pick_131 rfl ?_
      refine aw_iconst C 1 dX4_pick_133 (by decide) ?_
      refine aw_iload_n C 1 dX4_pick_134 rfl rfl ?_
      refine aw_ishl C dX4_pick_135 ?_
      refine aw_ior C dX4_pick_136 ?_
      obtain ⟨v2, ev2, h⟩ := bindS h
      refine aw_topi ev2 ?_
      refine aw_istore C [(6, .int v2), (0, .ref (gZ G + a0)), (3, .int x3), (4, .int x4), (5, .int x5)] dX4_pick_137 (by decide) rfl ?_
      refine aw_aload_n C 1 dX4_pick_139 rfl rfl ?_
      obtain ⟨v3, hv3, h⟩ := bindE h
      refine aw_gR C fl_X4_28 rfl hv3 dX4_pick_140 ?_
      refine aw_iload C 0 dX4_pick_143 rfl ?_
      refine aw_aload_n C 1 dX4_pick_145 rfl rfl ?_
      obtain ⟨v4, hv4, h⟩ := bindE h
      refine aw_gR C fl_X4_28 rfl hv4 dX4_pick_146 ?_
      refine aw_iload C 4 dX4_pick_149 rfl ?_
      obtain ⟨v5, hv5, h⟩ := bindE h
      refine aw_aI C hv5 dX4_pick_151 ?_
      refine aw_iconst C 1 dX4_pick_152 (by decide) ?_
      refine aw_aload_n C 1 dX4_pick_153 rfl rfl ?_
      obtain ⟨v6, hv6, h⟩ := bindE h
      refine aw_gR C fl_X4_25 rfl hv6 dX4_pick_154 ?_
      refine aw_iload_n C 2 dX4_pick_157 rfl rfl ?_
      obtain ⟨v7, hv7, h⟩ := bindE h
      refine aw_aI C hv7 dX4_pick_158 ?_
      refine aw_ishl C dX4_pick_159 ?_
      refine aw_ior C dX4_pick_160 ?_
      obtain ⟨μ8, hμ8, h⟩ := bindE h
      refine aw_sI C hμ8 dX4_pick_161 ?_
      refine aw_aload_n C 1 dX4_pick_162 rfl rfl ?_
      obtain ⟨v9, hv9, h⟩ := bindE h
      refine aw_gR C fl_X4_31 rfl hv9 dX4_pick_163 ?_
      refine aw_iload C 0 dX4_pick_166 rfl ?_
      refine aw_iload C 4 dX4_pick_168 rfl ?_
      obtain ⟨z14, hz14, h⟩ := bindE h
      have kj170 : AW G 7 X 0 0 191 [(0, .ref (gZ G + a0)), (3, .int x3), (4, .int x4), (5, .int x5)] [.int z14, .int v2, .ref (gZ G + v9)] μ8 := by
        obtain ⟨μ15, hμ15, h⟩ := bindE h
        refine aw_sI C hμ15 dX4_pick_191 ?_
        refine aw_iinc C (x5 + 1) 3 [(5, .int (x5 + 1)), (0, .ref (gZ G + a0)), (3, .int x3), (4, .int x4)] dX4_pick_192 rfl rfl (by decide) rfl ?_
        refine aw_goto C 123 dX4_pick_195 (by decide) ?_
        exact aw_sub [1, 2, 3, 0] rfl (ih _ _ _ h kx)
      replace h := hz14
      refine aw_if_eq C 185 dX4_pick_170 (by decide) (fun c10 => ?_) (fun c10 => ?_)
      · rw [if_pos c10] at h
        refine aw_iload C 3 dX4_pick_185 rfl ?_
        refine aw_goto C 191 dX4_pick_187 (by decide) ?_
        have e9 := inj1 h
        subst e9
        exact aw_sub [1, 2, 3, 4] rfl kj170
      · rw [if_neg c10] at h
        refine aw_aload_n C 1 dX4_pick_173 rfl rfl ?_
        obtain ⟨v11, hv11, h⟩ := bindE h
        refine aw_gR C fl_X4_31 rfl hv11 dX4_pick_174 ?_
        refine aw_iload C 4 dX4_pick_177 rfl ?_
        obtain ⟨v12, hv12, h⟩ := bindE h
        refine aw_aI C hv12 dX4_pick_179 ?_
        refine aw_iload C 3 dX4_pick_180 rfl ?_
        refine aw_icmp_ne C 190 dX4_pick_182 (by decide) (fun c13 => ?_) (fun c13 => ?_)
        · rw [if_neg c13] at h
          refine aw_iconst C ((-1)) dX4_pick_190 (by decide) ?_
          have e9 := inj1 h
          subst e9
          exact aw_sub [1, 2, 3, 4] rfl kj170
        · rw [if_pos c13] at h
          refine aw_iload C 3 dX4_pick_185 rfl ?_
          refine aw_goto C 191 dX4_pick_187 (by decide) ?_
          have e9 := inj1 h
          subst e9
          exact aw_sub [1, 2, 3, 4] rfl kj170
def X4_pick_L93 (a0 : Nat) : Nat → Int32 → Mem → Option (Int32 × Mem)
  | 0, _, _ => none
  | n + 1, x3, μ =>
      (gI 4 16 a0 μ).bind fun v1 =>
      if v1 ≤ x3 then
      some ((x3, μ))
      else
      (gR 4 5 a0 μ).bind fun v3 =>
      (gR 0 0 v3 μ).bind fun v4 =>
      (gR 4 7 a0 μ).bind fun v5 =>
      (aI v5 x3 μ).bind fun v6 =>
      (aR 6 v4 v6 μ).bind fun v7 =>
      (gI 6 2 v7 μ).bind fun v8 =>
      (X4_pick_L123 a0 x3 v8 FU 0 μ).bind fun z9 =>
      X4_pick_L93 a0 n (x3 + 1) z9.2
set_option maxRecDepth 100000 in
set_option maxHeartbeats 4000000 in
theorem X4_pick_L93_ok {G : GL} {X : CX} (C : Ctx G X cX4_pick 7 RX4 rm_X4_pick) (a0 : Nat) : ∀ (n : Nat) (x3 : Int32) (μ : Mem) (z : Int32 × Mem), X4_pick_L93 a0 n x3 μ = some z → AW G 7 X 0 0 204 [(0, .ref (gZ G + a0)), (3, .int z.1)] [] z.2 → AW G 7 X 0 0 93 [(0, .ref (gZ G + a0)), (3, .int x3)] [] μ := by
  intro n
  induction n with
  | zero =>
    intro x3 μ z h kx
    rw [X4_pick_L93] at h
    cases h
  | succ n ih =>
    intro x3 μ z h kx
    rw [X4_pick_L93] at h
    refine aw_iload_n C 1 dX4_pick_93 rfl rfl ?_
    refine aw_aload_n C 0 dX4_pick_94 rfl rfl ?_
    obtain ⟨v1, hv1, h⟩ := bindE h
    refine aw_gI C fl_X4_108 rfl hv1 dX4_pick_95 ?_
    refine aw_icmp_ge C 204 dX4_pick_98 (by decide) (fun c2 => ?_) (fun c2 => ?_)
    · rw [if_pos c2] at h
      have e9 := inj1 h
      subst e9
      exact aw_sub [0, 1] rfl kx
    · rw [if_neg c2] at h
      refine aw_aload_n C 0 dX4_pick_101 rfl rfl ?_
      obtain ⟨v3, hv3, h⟩ := bindE h
      refine aw_gR C fl_X4_60 rfl hv3 dX4_pick_102 ?_
      obtain ⟨v4, hv4, h⟩ := bindE h
      refine aw_gR C fl_X4_124 rfl hv4 dX4_pick_105 ?_
      refine aw_aload_n C 0 dX4_pick_108 rfl rfl ?_
      obtain ⟨v5, hv5, h⟩ := bindE h
      refine aw_gR C fl_X4_25 rfl hv5 dX4_pick_109 ?_
      refine aw_iload_n C 1 dX4_pick_112 rfl rfl ?_
      obtain ⟨v6, hv6, h⟩ := bindE h
      refine aw_aI C hv6 dX4_pick_113 ?_
      obtain ⟨v7, hv7, h⟩ := bindE h
      refine aw_aR C (by decide) (ty := .object RX6) rfl rfl hv7 dX4_pick_114 ?_
      obtain ⟨v8, hv8, h⟩ := bindE h
      refine aw_gI C fl_X4_140 rfl hv8 dX4_pick_115 ?_
      refine aw_istore C [(4, .int v8), (0, .ref (gZ G + a0)), (3, .int x3)] dX4_pick_118 (by decide) rfl ?_
      refine aw_iconst C 0 dX4_pick_120 (by decide) ?_
      refine aw_istore C [(5, .int 0), (4, .int v8), (0, .ref (gZ G + a0)), (3, .int x3)] dX4_pick_121 (by decide) rfl ?_
      obtain ⟨z9, hz9, h⟩ := bindE h
      refine aw_sub [2, 3, 1, 0] rfl ?_
      refine X4_pick_L123_ok C _ _ _ _ _ _ _ hz9 ?_
      refine aw_iinc C (x3 + 1) 1 [(3, .int (x3 + 1)), (0, .ref (gZ G + a0)), (4, .int v8), (5, .int z9.1)] dX4_pick_198 rfl rfl (by decide) rfl ?_
      refine aw_goto C 93 dX4_pick_201 (by decide) ?_
      exact aw_sub [1, 0] rfl (ih _ _ _ h kx)
def X4_pick (a0 : Nat) (x1 : Int32) (x2 : Int32) (μ : Mem) : Option Mem :=
  (pI 4 16 a0 0 μ).bind fun μ1 =>
  (X4_pick_L7 a0 x1 x2 FU 0 μ1).bind fun z2 =>
  (gR 4 8 a0 z2.2).bind fun v3 =>
  (sI v3 0 0 z2.2).bind fun μ4 =>
  (X4_pick_L93 a0 FU 0 μ4).bind fun z5 =>
  some z5.2
set_option maxRecDepth 100000 in
set_option maxHeartbeats 4000000 in
theorem wk_X4_pick {G : GL} {X : CX} {a0 : Nat} {x1 : Int32} {x2 : Int32} {μ : Mem} {μ' : Mem} (C : Ctx G X cX4_pick 7 RX4 rm_X4_pick) (h : X4_pick a0 x1 x2 μ = some μ') (hret : RtV G 7 X cX4_pick 0 0 μ') : AW G 7 X 0 0 0 [(0, .ref (gZ G + a0)), (1, .int x1), (2, .int x2)] [] μ := by
  unfold X4_pick at h
  refine aw_aload_n C 0 dX4_pick_0 rfl rfl ?_
  refine aw_iconst C 0 dX4_pick_1 (by decide) ?_
  obtain ⟨μ1, hμ1, h⟩ := bindE h
  refine aw_pI C fl_X4_108 rfl hμ1 dX4_pick_2 ?_
  refine aw_iconst C 0 dX4_pick_5 (by decide) ?_
  refine aw_istore_n C [(3, .int 0), (0, .ref (gZ G + a0)), (1, .int x1), (2, .int x2)] dX4_pick_6 rfl (by decide) rfl ?_
  obtain ⟨z2, hz2, h⟩ := bindE h
  refine aw_sub [1, 2, 3, 0] rfl ?_
  refine X4_pick_L7_ok C _ _ _ _ _ _ _ hz2 ?_
  refine aw_aload_n C 0 dX4_pick_84 rfl rfl ?_
  obtain ⟨v3, hv3, h⟩ := bindE h
  refine aw_gR C fl_X4_28 rfl hv3 dX4_pick_85 ?_
  refine aw_iconst C 0 dX4_pick_88 (by decide) ?_
  refine aw_iconst C 0 dX4_pick_89 (by decide) ?_
  obtain ⟨μ4, hμ4, h⟩ := bindE h
  refine aw_sI C hμ4 dX4_pick_90 ?_
  refine aw_iconst C 0 dX4_pick_91 (by decide) ?_
  refine aw_istore_n C [(3, .int 0), (0, .ref (gZ G + a0)), (1, .int x1), (2, .int x2)] dX4_pick_92 rfl (by decide) rfl ?_
  obtain ⟨z5, hz5, h⟩ := bindE h
  refine aw_sub [1, 0] rfl ?_
  refine X4_pick_L93_ok C _ _ _ _ _ hz5 ?_
  have e9 := inj1 h
  subst e9
  exact hret _ _ dX4_pick_204
set_option maxRecDepth 100000 in
set_option maxHeartbeats 4000000 in
theorem mt_X4_pick {G : GL} {l : Launch} {a0 : Nat} {x1 : Int32} {x2 : Int32} {μ : Mem} {μ' : Mem} (h : X4_pick a0 x1 x2 μ = some μ') : MtV G l yX4_pick cX4_pick 7 none rm_X4_pick false [.ref (gZ G + a0), .int x1, .int x2] μ μ' := met_V (by decide) rfl (Nat.le_of_ble_eq_true rfl) (fun X _ C _ _ hret => wk_X4_pick C h hret)
def X9_factor (x0 : Int32) (x1 : Int32) : Int64 :=
  (if x1 = 0 then x0.toInt64 else if x0 ≤ 0 then x0.toInt64 else 1)
set_option maxRecDepth 100000 in
set_option maxHeartbeats 4000000 in
theorem wk_X9_factor {G : GL} {X : CX} {x0 : Int32} {x1 : Int32} {μ : Mem} (C : Ctx G X cX9_factor 2 RX9 rm_X9_factor) (hret : RtJ G 2 X cX9_factor 0 0 (X9_factor x0 x1) μ) : AW G 2 X 0 0 0 [(0, .int x0), (1, .int x1)] [] μ := by
  unfold X9_factor at hret
  refine aw_iload_n C 1 dX9_factor_0 rfl rfl ?_
  have kj1 : ∀ (q1_0 : Int64), q1_0 = (if x1 = 0 then x0.toInt64 else if x0 ≤ 0 then x0.toInt64 else 1) → AW G 2 X 0 0 14 [] [.long q1_0] μ := by
    rintro _ rfl
    exact hret _ _ dX9_factor_14
  refine aw_if_eq C 12 dX9_factor_1 (by decide) (fun c1 => ?_) (fun c1 => ?_)
  · refine aw_iload_n C 0 dX9_factor_12 rfl rfl ?_
    refine aw_i2l C dX9_factor_13 ?_
    exact aw_sub [] rfl (kj1 _ (by simp only [if_pos c1]))
  · refine aw_iload_n C 0 dX9_factor_4 rfl rfl ?_
    refine aw_if_le C 12 dX9_factor_5 (by decide) (fun c2 => ?_) (fun c2 => ?_)
    · refine aw_iload_n C 0 dX9_factor_12 rfl rfl ?_
      refine aw_i2l C dX9_factor_13 ?_
      exact aw_sub [] rfl (kj1 _ (by simp only [if_neg c1, if_pos c2]))
    · refine aw_lconst C 1 dX9_factor_8 (by decide) ?_
      refine aw_goto C 14 dX9_factor_9 (by decide) ?_
      exact aw_sub [] rfl (kj1 _ (by simp only [if_neg c1, if_neg c2]))
set_option maxRecDepth 100000 in
set_option maxHeartbeats 4000000 in
theorem mt_X9_factor {G : GL} {l : Launch} (x0 : Int32) (x1 : Int32) {μ : Mem} : MtJ G l yX9_factor cX9_factor 2 (some .long) rm_X9_factor false [.int x0, .int x1] μ (X9_factor x0 x1) μ := met_J (by decide) rfl (Nat.le_of_ble_eq_true rfl) (fun X _ C _ _ hret => wk_X9_factor C hret)
def X9_signFactor (a0 : Nat) (x1 : Int32) (x2 : Int32) (x3 : Int32) (μ : Mem) : Option Int64 :=
  ((if x2 < 0 then
  some 1
  else
  if x2 < 4 then
  (gR 9 1 a0 μ).bind fun v3 =>
  (aR 7 v3 x1 μ).bind fun v4 =>
  (aI v4 x2 μ).bind fun v5 =>
  some (X9_factor v5 x3)
  else
  some 1) : Option (Int64)).bind fun z6 =>
  some (z6)
set_option maxRecDepth 100000 in
set_option maxHeartbeats 4000000 in
theorem wk_X9_signFactor {G : GL} {X : CX} {a0 : Nat} {x1 : Int32} {x2 : Int32} {x3 : Int32} {μ : Mem} {r : Int64} (C : Ctx G X cX9_signFactor 4 RX9 rm_X9_signFactor) (h : X9_signFactor a0 x1 x2 x3 μ = some r) (hret : RtJ G 4 X cX9_signFactor 0 0 r μ) : AW G 4 X 0 0 0 [(0, .ref (gZ G + a0)), (1, .int x1), (2, .int x2), (3, .int x3)] [] μ := by
  unfold X9_signFactor at h
  refine aw_iload_n C 2 dX9_signFactor_0 rfl rfl ?_
  obtain ⟨z6, hz6, h⟩ := bindE h
  have kj1 : AW G 4 X 0 0 25 [] [.long z6] μ := by
    have e9 := inj1 h
    subst e9
    exact hret _ _ dX9_signFactor_25
  replace h := hz6
  refine aw_if_lt C 9 dX9_signFactor_1 (by decide) (fun c1 => ?_) (fun c1 => ?_)
  · rw [if_pos c1] at h
    refine aw_lconst C 1 dX9_signFactor_9 (by decide) ?_
    refine aw_goto C 25 dX9_signFactor_10 (by decide) ?_
    have e9 := inj1 h
    subst e9
    exact aw_sub [] rfl kj1
  · rw [if_neg c1] at h
    refine aw_iload_n C 2 dX9_signFactor_4 rfl rfl ?_
    refine aw_iconst C 4 dX9_signFactor_5 (by decide) ?_
    refine aw_icmp_lt C 13 dX9_signFactor_6 (by decide) (fun c2 => ?_) (fun c2 => ?_)
    · rw [if_pos c2] at h
      refine aw_aload_n C 0 dX9_signFactor_13 rfl rfl ?_
      obtain ⟨v3, hv3, h⟩ := bindE h
      refine aw_gR C fl_X9_16 rfl hv3 dX9_signFactor_14 ?_
      refine aw_iload_n C 1 dX9_signFactor_17 rfl rfl ?_
      obtain ⟨v4, hv4, h⟩ := bindE h
      refine aw_aR C (by decide) (ty := .array .int) rfl rfl hv4 dX9_signFactor_18 ?_
      refine aw_iload_n C 2 dX9_signFactor_19 rfl rfl ?_
      obtain ⟨v5, hv5, h⟩ := bindE h
      refine aw_aI C hv5 dX9_signFactor_20 ?_
      refine aw_iload_n C 3 dX9_signFactor_21 rfl rfl ?_
      refine aw_cS_J C [.int v5, .int x3] _ (mt_X9_factor _ _) cs_X9_factor ml_X9_58 st_X9_factor ⟨by decide, by decide⟩ ⟨rfl, rfl⟩ ⟨Nat.zero_le _, Nat.zero_le _⟩ rfl rfl (Nat.le_of_ble_eq_true rfl) dX9_signFactor_22 ?_
      have e9 := inj1 h
      subst e9
      exact aw_sub [] rfl kj1
    · rw [if_neg c2] at h
      refine aw_lconst C 1 dX9_signFactor_9 (by decide) ?_
      refine aw_goto C 25 dX9_signFactor_10 (by decide) ?_
      have e9 := inj1 h
      subst e9
      exact aw_sub [] rfl kj1
set_option maxRecDepth 100000 in
set_option maxHeartbeats 4000000 in
theorem mt_X9_signFactor {G : GL} {l : Launch} {a0 : Nat} {x1 : Int32} {x2 : Int32} {x3 : Int32} {μ : Mem} {r : Int64} (h : X9_signFactor a0 x1 x2 x3 μ = some r) : MtJ G l yX9_signFactor cX9_signFactor 4 (some .long) rm_X9_signFactor false [.ref (gZ G + a0), .int x1, .int x2, .int x3] μ r μ := met_J (by decide) rfl (Nat.le_of_ble_eq_true rfl) (fun X _ C _ _ hret => wk_X9_signFactor C h hret)
def X9_weigh_L19 (a0 : Nat) (x1 : Int32) (x2 : Int32) (x3 : Int32) (x4 : Int32) : Nat → Int32 → Mem → Option (Int32 × Mem)
  | 0, _, _ => none
  | n + 1, x5, μ =>
      if (4 : Int32) ≤ x5 then
      some ((x5, μ))
      else
      (gR 9 6 a0 μ).bind fun v2 =>
      (gR 9 2 a0 μ).bind fun v3 =>
      (aI v3 x5 μ).bind fun v4 =>
      (gR 9 3 a0 μ).bind fun v5 =>
      (aR 7 v5 x1 μ).bind fun v6 =>
      (aI v6 x4 μ).bind fun v7 =>
      (vO 9 a0 μ).bind fun g8 =>
      (X9_signFactor a0 x5 v7 x3 μ).bind fun v9 =>
      (sJ v2 x5 ((X9_factor v4 x3) * v9) μ).bind fun μ10 =>
      X9_weigh_L19 a0 x1 x2 x3 x4 n (x5 + 1) μ10
set_option maxRecDepth 100000 in
set_option maxHeartbeats 4000000 in
theorem X9_weigh_L19_ok {G : GL} {X : CX} (C : Ctx G X cX9_weigh 10 RX9 rm_X9_weigh) (a0 : Nat) (x1 : Int32) (x2 : Int32) (x3 : Int32) (x4 : Int32) : ∀ (n : Nat) (x5 : Int32) (μ : Mem) (z : Int32 × Mem), X9_weigh_L19 a0 x1 x2 x3 x4 n x5 μ = some z → AW G 10 X 0 0 66 [(0, .ref (gZ G + a0)), (1, .int x1), (2, .int x2), (3, .int x3), (4, .int x4), (5, .int z.1)] [] z.2 → AW G 10 X 0 0 19 [(0, .ref (gZ G + a0)), (1, .int x1), (2, .int x2), (3, .int x3), (4, .int x4), (5, .int x5)] [] μ := by
  intro n
  induction n with
  | zero =>
    intro x5 μ z h kx
    rw [X9_weigh_L19] at h
    cases h
  | succ n ih =>
    intro x5 μ z h kx
    rw [X9_weigh_L19] at h
    refine aw_iload C 5 dX9_weigh_19 rfl ?_
    refine aw_iconst C 4 dX9_weigh_21 (by decide) ?_
    refine aw_icmp_ge C 66 dX9_weigh_22 (by decide) (fun c1 => ?_) (fun c1 => ?_)
    · rw [if_pos c1] at h
      have e9 := inj1 h
      subst e9
      exact aw_sub [0, 1, 2, 3, 4, 5] rfl kx
    · rw [if_neg c1] at h
      refine aw_aload_n C 0 dX9_weigh_25 rfl rfl ?_
      obtain ⟨v2, hv2, h⟩ := bindE h
      refine aw_gR C fl_X9_29 rfl hv2 dX9_weigh_26 ?_
      refine aw_iload C 5 dX9_weigh_29 rfl ?_
      refine aw_aload_n C 0 dX9_weigh_31 rfl rfl ?_
      obtain ⟨v3, hv3, h⟩ := bindE h
      refine aw_gR C fl_X9_19 rfl hv3 dX9_weigh_32 ?_
      refine aw_iload C 5 dX9_weigh_35 rfl ?_
      obtain ⟨v4, hv4, h⟩ := bindE h
      refine aw_aI C hv4 dX9_weigh_37 ?_
      refine aw_iload_n C 3 dX9_weigh_38 rfl rfl ?_
      refine aw_cS_J C [.int v4, .int x3] _ (mt_X9_factor _ _) cs_X9_factor ml_X9_58 st_X9_factor ⟨by decide, by decide⟩ ⟨rfl, rfl⟩ ⟨Nat.zero_le _, Nat.zero_le _⟩ rfl rfl (Nat.le_of_ble_eq_true rfl) dX9_weigh_39 ?_
      refine aw_aload_n C 0 dX9_weigh_42 rfl rfl ?_
      refine aw_iload C 5 dX9_weigh_43 rfl ?_
      refine aw_aload_n C 0 dX9_weigh_45 rfl rfl ?_
      obtain ⟨v5, hv5, h⟩ := bindE h
      refine aw_gR C fl_X9_23 rfl hv5 dX9_weigh_46 ?_
      refine aw_iload_n C 1 dX9_weigh_49 rfl rfl ?_
      obtain ⟨v6, hv6, h⟩ := bindE h
      refine aw_aR C (by decide) (ty := .array .int) rfl rfl hv6 dX9_weigh_50 ?_
      refine aw_iload C 4 dX9_weigh_51 rfl ?_
      obtain ⟨v7, hv7, h⟩ := bindE h
      refine aw_aI C hv7 dX9_weigh_53 ?_
      refine aw_iload_n C 3 dX9_weigh_54 rfl rfl ?_
      obtain ⟨g8, hg8, h⟩ := bindE h
      obtain ⟨v9, hv9, h⟩ := bindE h
      refine aw_cV_J C [.int x5, .int v7, .int x3] _ (mt_X9_signFactor hv9) cs_X9_signFactor ml_X9_62 im_X9_signFactor se_X9_signFactor (ci := 9) rfl rfl hg8 ⟨by decide, by decide⟩ ⟨rfl, rfl⟩ ⟨Nat.zero_le _, Nat.zero_le _⟩ rfl rfl (Nat.le_of_ble_eq_true rfl) dX9_weigh_55 ?_
      refine aw_lmul C dX9_weigh_58 ?_
      obtain ⟨μ10, hμ10, h⟩ := bindE h
      refine aw_sJ C hμ10 dX9_weigh_59 ?_
      refine aw_iinc C (x5 + 1) 5 [(5, .int (x5 + 1)), (0, .ref (gZ G + a0)), (1, .int x1), (2, .int x2), (3, .int x3), (4, .int x4)] dX9_weigh_60 rfl rfl (by decide) rfl ?_
      refine aw_goto C 19 dX9_weigh_63 (by decide) ?_
      exact aw_sub [1, 2, 3, 4, 5, 0] rfl (ih _ _ _ h kx)
def X9_weigh_L93 (a0 : Nat) (x1 : Int32) (x2 : Int32) (x3 : Int32) (x5 : Int32) (x6 : Int32) (μ : Mem) : Nat → Int64 → Int32 → Option (Int64 × Int32)
  | 0, _, _ => none
  | n + 1, j7, x9 =>
      if (4 : Int32) ≤ x9 then
      some ((j7, x9))
      else
      (gR 9 6 a0 μ).bind fun v2 =>
      (aJ v2 x9 μ).bind fun v3 =>
      (gR 9 0 a0 μ).bind fun v4 =>
      (aR 7 v4 x9 μ).bind fun v5 =>
      (aI v5 x6 μ).bind fun v6 =>
      (some (j7 + (v3 * (X9_factor v6 x3)) : Int64)).bind fun v7 =>
      X9_weigh_L93 a0 x1 x2 x3 x5 x6 μ n v7 (x9 + 1)
set_option maxRecDepth 100000 in
set_option maxHeartbeats 4000000 in
theorem X9_weigh_L93_ok {G : GL} {X : CX} (C : Ctx G X cX9_weigh 10 RX9 rm_X9_weigh) (a0 : Nat) (x1 : Int32) (x2 : Int32) (x3 : Int32) (x5 : Int32) (x6 : Int32) (μ : Mem) : ∀ (n : Nat) (j7 : Int64) (x9 : Int32) (z : Int64 × Int32), X9_weigh_L93 a0 x1 x2 x3 x5 x6 μ n j7 x9 = some z → AW G 10 X 0 0 132 [(0, .ref (gZ G + a0)), (1, .int x1), (2, .int x2), (3, .int x3), (5, .int x5), (6, .int x6), (7, .long z.1), (9, .int z.2)] [] μ → AW G 10 X 0 0 93 [(0, .ref (gZ G + a0)), (1, .int x1), (2, .int x2), (3, .int x3), (5, .int x5), (6, .int x6), (7, .long j7), (9, .int x9)] [] μ := by
  intro n
  induction n with
  | zero =>
    intro j7 x9 z h kx
    rw [X9_weigh_L93] at h
    cases h
  | succ n ih =>
    intro j7 x9 z h kx
    rw [X9_weigh_L93] at h
    refine aw_iload C 7 dX9_weigh_93 rfl ?_
    refine aw_iconst C 4 dX9_weigh_95 (by decide) ?_
    refine aw_icmp_ge C 132 dX9_weigh_96 (by decide) (fun c1 => ?_) (fun c1 => ?_)
    · rw [if_pos c1] at h
      have e9 := inj1 h
      subst e9
      exact aw_sub [0, 1, 2, 3, 4, 5, 6, 7] rfl kx
    · rw [if_neg c1] at h
      refine aw_lload C 6 dX9_weigh_99 rfl ?_
      refine aw_aload_n C 0 dX9_weigh_101 rfl rfl ?_
      obtain ⟨v2, hv2, h⟩ := bindE h
      refine aw_gR C fl_X9_29 rfl hv2 dX9_weigh_102 ?_
      refine aw_iload C 7 dX9_weigh_105 rfl ?_
      obtain ⟨v3, hv3, h⟩ := bindE h
      refine aw_aJ C hv3 dX9_weigh_107 ?_
      refine aw_aload_n C 0 dX9_weigh_108 rfl rfl ?_
      obtain ⟨v4, hv4, h⟩ := bindE h
      refine aw_gR C fl_X9_11 rfl hv4 dX9_weigh_109 ?_
      refine aw_iload C 7 dX9_weigh_112 rfl ?_
      obtain ⟨v5, hv5, h⟩ := bindE h
      refine aw_aR C (by decide) (ty := .array .int) rfl rfl hv5 dX9_weigh_114 ?_
      refine aw_iload C 5 dX9_weigh_115 rfl ?_
      obtain ⟨v6, hv6, h⟩ := bindE h
      refine aw_aI C hv6 dX9_weigh_117 ?_
      refine aw_iload_n C 3 dX9_weigh_118 rfl rfl ?_
      refine aw_cS_J C [.int v6, .int x3] _ (mt_X9_factor _ _) cs_X9_factor ml_X9_58 st_X9_factor ⟨by decide, by decide⟩ ⟨rfl, rfl⟩ ⟨Nat.zero_le _, Nat.zero_le _⟩ rfl rfl (Nat.le_of_ble_eq_true rfl) dX9_weigh_119 ?_
      refine aw_lmul C dX9_weigh_122 ?_
      refine aw_ladd C dX9_weigh_123 ?_
      obtain ⟨v7, ev7, h⟩ := bindS h
      refine aw_topj ev7 ?_
      refine aw_lstore C [(7, .long v7), (0, .ref (gZ G + a0)), (1, .int x1), (2, .int x2), (3, .int x3), (5, .int x5), (6, .int x6), (9, .int x9)] dX9_weigh_124 (by decide) rfl ?_
      refine aw_iinc C (x9 + 1) 7 [(9, .int (x9 + 1)), (7, .long v7), (0, .ref (gZ G + a0)), (1, .int x1), (2, .int x2), (3, .int x3), (5, .int x5), (6, .int x6)] dX9_weigh_126 rfl rfl (by decide) rfl ?_
      refine aw_goto C 93 dX9_weigh_129 (by decide) ?_
      exact aw_sub [2, 3, 4, 5, 6, 7, 1, 0] rfl (ih _ _ _ h kx)
def X9_weigh_L81 (a0 : Nat) (x1 : Int32) (x2 : Int32) (x3 : Int32) (x5 : Int32) : Nat → Int32 → Mem → Option (Int32 × Mem)
  | 0, _, _ => none
  | n + 1, x6, μ =>
      if (4 : Int32) ≤ x6 then
      some ((x6, μ))
      else
      (X9_weigh_L93 a0 x1 x2 x3 x5 x6 μ FU 0 0).bind fun z2 =>
      (gR 9 7 a0 μ).bind fun v3 =>
      (gR 9 3 a0 μ).bind fun v4 =>
      (aR 7 v4 x1 μ).bind fun v5 =>
      (aI v5 x5 μ).bind fun v6 =>
      (vO 9 a0 μ).bind fun g7 =>
      (X9_signFactor a0 x6 v6 x3 μ).bind fun v8 =>
      (sJ v3 x6 (z2.1 * v8) μ).bind fun μ9 =>
      X9_weigh_L81 a0 x1 x2 x3 x5 n (x6 + 1) μ9
set_option maxRecDepth 100000 in
set_option maxHeartbeats 4000000 in
theorem X9_weigh_L81_ok {G : GL} {X : CX} (C : Ctx G X cX9_weigh 10 RX9 rm_X9_weigh) (a0 : Nat) (x1 : Int32) (x2 : Int32) (x3 : Int32) (x5 : Int32) : ∀ (n : Nat) (x6 : Int32) (μ : Mem) (z : Int32 × Mem), X9_weigh_L81 a0 x1 x2 x3 x5 n x6 μ = some z → AW G 10 X 0 0 164 [(0, .ref (gZ G + a0)), (1, .int x1), (2, .int x2), (3, .int x3), (5, .int x5), (6, .int z.1)] [] z.2 → AW G 10 X 0 0 81 [(0, .ref (gZ G + a0)), (1, .int x1), (2, .int x2), (3, .int x3), (5, .int x5), (6, .int x6)] [] μ := by
  intro n
  induction n with
  | zero =>
    intro x6 μ z h kx
    rw [X9_weigh_L81] at h
    cases h
  | succ n ih =>
    intro x6 μ z h kx
    rw [X9_weigh_L81] at h
    refine aw_iload C 5 dX9_weigh_81 rfl ?_
    refine aw_iconst C 4 dX9_weigh_83 (by decide) ?_
    refine aw_icmp_ge C 164 dX9_weigh_84 (by decide) (fun c1 => ?_) (fun c1 => ?_)
    · rw [if_pos c1] at h
      have e9 := inj1 h
      subst e9
      exact aw_sub [0, 1, 2, 3, 4, 5] rfl kx
    · rw [if_neg c1] at h
      refine aw_lconst C 0 dX9_weigh_87 (by decide) ?_
      refine aw_lstore C [(7, .long 0), (0, .ref (gZ G + a0)), (1, .int x1), (2, .int x2), (3, .int x3), (5, .int x5), (6, .int x6)] dX9_weigh_88 (by decide) rfl ?_
      refine aw_iconst C 0 dX9_weigh_90 (by decide) ?_
      refine aw_istore C [(9, .int 0), (7, .long 0), (0, .ref (gZ G + a0)), (1, .int x1), (2, .int x2), (3, .int x3), (5, .int x5), (6, .int x6)] dX9_weigh_91 (by decide) rfl ?_
      obtain ⟨z2, hz2, h⟩ := bindE h
      refine aw_sub [2, 3, 4, 5, 6, 7, 1, 0] rfl ?_
      refine X9_weigh_L93_ok C _ _ _ _ _ _ _ _ _ _ _ hz2 ?_
      refine aw_aload_n C 0 dX9_weigh_132 rfl rfl ?_
      obtain ⟨v3, hv3, h⟩ := bindE h
      refine aw_gR C fl_X9_33 rfl hv3 dX9_weigh_133 ?_
      refine aw_iload C 5 dX9_weigh_136 rfl ?_
      refine aw_lload C 6 dX9_weigh_138 rfl ?_
      refine aw_aload_n C 0 dX9_weigh_140 rfl rfl ?_
      refine aw_iload C 5 dX9_weigh_141 rfl ?_
      refine aw_aload_n C 0 dX9_weigh_143 rfl rfl ?_
      obtain ⟨v4, hv4, h⟩ := bindE h
      refine aw_gR C fl_X9_23 rfl hv4 dX9_weigh_144 ?_
      refine aw_iload_n C 1 dX9_weigh_147 rfl rfl ?_
      obtain ⟨v5, hv5, h⟩ := bindE h
      refine aw_aR C (by decide) (ty := .array .int) rfl rfl hv5 dX9_weigh_148 ?_
      refine aw_iload C 4 dX9_weigh_149 rfl ?_
      obtain ⟨v6, hv6, h⟩ := bindE h
      refine aw_aI C hv6 dX9_weigh_151 ?_
      refine aw_iload_n C 3 dX9_weigh_152 rfl rfl ?_
      obtain ⟨g7, hg7, h⟩ := bindE h
      obtain ⟨v8, hv8, h⟩ := bindE h
      refine aw_cV_J C [.int x6, .int v6, .int x3] _ (mt_X9_signFactor hv8) cs_X9_signFactor ml_X9_62 im_X9_signFactor se_X9_signFactor (ci := 9) rfl rfl hg7 ⟨by decide, by decide⟩ ⟨rfl, rfl⟩ ⟨Nat.zero_le _, Nat.zero_le _⟩ rfl rfl (Nat.le_of_ble_eq_true rfl) dX9_weigh_153 ?_
      refine aw_lmul C dX9_weigh_156 ?_
      obtain ⟨μ9, hμ9, h⟩ := bindE h
      refine aw_sJ C hμ9 dX9_weigh_157 ?_
      refine aw_iinc C (x6 + 1) 5 [(6, .int (x6 + 1)), (0, .ref (gZ G + a0)), (1, .int x1), (2, .int x2), (3, .int x3), (5, .int x5), (7, .long z2.1), (9, .int z2.2)] dX9_weigh_158 rfl rfl (by decide) rfl ?_
      refine aw_goto C 81 dX9_weigh_161 (by decide) ?_
      exact aw_sub [1, 2, 3, 4, 5, 0] rfl (ih _ _ _ h kx)
def X9_weigh_L72 (a0 : Nat) (x1 : Int32) (x2 : Int32) (x3 : Int32) : Nat → Int32 → Mem → Option (Int32 × Mem)
  | 0, _, _ => none
  | n + 1, x5, μ =>
      if x2 < x5 then
      some ((x5, μ))
      else
      (X9_weigh_L81 a0 x1 x2 x3 x5 FU 0 μ).bind fun z2 =>
      (gR 9 6 a0 z2.2).bind fun v3 =>
      (gR 9 7 a0 z2.2).bind fun v4 =>
      (pR 9 6 a0 v4 z2.2).bind fun μ5 =>
      (pR 9 7 a0 v3 μ5).bind fun μ6 =>
      X9_weigh_L72 a0 x1 x2 x3 n (x5 + 1) μ6
set_option maxRecDepth 100000 in
set_option maxHeartbeats 4000000 in
theorem X9_weigh_L72_ok {G : GL} {X : CX} (C : Ctx G X cX9_weigh 10 RX9 rm_X9_weigh) (a0 : Nat) (x1 : Int32) (x2 : Int32) (x3 : Int32) : ∀ (n : Nat) (x5 : Int32) (μ : Mem) (z : Int32 × Mem), X9_weigh_L72 a0 x1 x2 x3 n x5 μ = some z → AW G 10 X 0 0 190 [(0, .ref (gZ G + a0)), (1, .int x1), (2, .int x2), (3, .int x3), (5, .int z.1)] [] z.2 → AW G 10 X 0 0 72 [(0, .ref (gZ G + a0)), (1, .int x1), (2, .int x2), (3, .int x3), (5, .int x5)] [] μ := by
  intro n
  induction n with
  | zero =>
    intro x5 μ z h kx
    rw [X9_weigh_L72] at h
    cases h
  | succ n ih =>
    intro x5 μ z h kx
    rw [X9_weigh_L72] at h
    refine aw_iload C 4 dX9_weigh_72 rfl ?_
    refine aw_iload_n C 2 dX9_weigh_74 rfl rfl ?_
    refine aw_icmp_gt C 190 dX9_weigh_75 (by decide) (fun c1 => ?_) (fun c1 => ?_)
    · rw [if_pos c1] at h
      have e9 := inj1 h
      subst e9
      exact aw_sub [0, 1, 2, 3, 4] rfl kx
    · rw [if_neg c1] at h
      refine aw_iconst C 0 dX9_weigh_78 (by decide) ?_
      refine aw_istore C [(6, .int 0), (0, .ref (gZ G + a0)), (1, .int x1), (2, .int x2), (3, .int x3), (5, .int x5)] dX9_weigh_79 (by decide) rfl ?_
      obtain ⟨z2, hz2, h⟩ := bindE h
      refine aw_sub [1, 2, 3, 4, 5, 0] rfl ?_
      refine X9_weigh_L81_ok C _ _ _ _ _ _ _ _ _ hz2 ?_
      refine aw_aload_n C 0 dX9_weigh_164 rfl rfl ?_
      obtain ⟨v3, hv3, h⟩ := bindE h
      refine aw_gR C fl_X9_29 rfl hv3 dX9_weigh_165 ?_
      refine aw_astore C [(6, .ref (gZ G + v3)), (0, .ref (gZ G + a0)), (1, .int x1), (2, .int x2), (3, .int x3), (5, .int x5)] dX9_weigh_168 (by decide) rfl ?_
      refine aw_aload_n C 1 dX9_weigh_170 rfl rfl ?_
      refine aw_aload_n C 1 dX9_weigh_171 rfl rfl ?_
      obtain ⟨v4, hv4, h⟩ := bindE h
      refine aw_gR C fl_X9_33 rfl hv4 dX9_weigh_172 ?_
      obtain ⟨μ5, hμ5, h⟩ := bindE h
      refine aw_pR C fl_X9_29 rfl rfl rfl hμ5 dX9_weigh_175 ?_
      refine aw_aload_n C 1 dX9_weigh_178 rfl rfl ?_
      refine aw_aload C 0 dX9_weigh_179 rfl ?_
      obtain ⟨μ6, hμ6, h⟩ := bindE h
      refine aw_pR C fl_X9_33 rfl rfl rfl hμ6 dX9_weigh_181 ?_
      refine aw_iinc C (x5 + 1) 5 [(5, .int (x5 + 1)), (6, .ref (gZ G + v3)), (0, .ref (gZ G + a0)), (1, .int x1), (2, .int x2), (3, .int x3)] dX9_weigh_184 rfl rfl (by decide) rfl ?_
      refine aw_goto C 72 dX9_weigh_187 (by decide) ?_
      exact aw_sub [2, 3, 4, 5, 0] rfl (ih _ _ _ h kx)
def X9_weigh (a0 : Nat) (x1 : Int32) (x2 : Int32) (x3 : Int32) (μ : Mem) : Option Mem :=
  (some (if x2 ≤ 6 then 0 else x2 - 6 : Int32)).bind fun v2 =>
  (X9_weigh_L19 a0 x1 x2 x3 v2 FU 0 μ).bind fun z3 =>
  (some (v2 + 1 : Int32)).bind fun v4 =>
  (X9_weigh_L72 a0 x1 x2 x3 FU v4 z3.2).bind fun z5 =>
  some z5.2
set_option maxRecDepth 100000 in
set_option maxHeartbeats 4000000 in
theorem wk_X9_weigh {G : GL} {X : CX} {a0 : Nat} {x1 : Int32} {x2 : Int32} {x3 : Int32} {μ : Mem} {μ' : Mem} (C : Ctx G X cX9_weigh 10 RX9 rm_X9_weigh) (h : X9_weigh a0 x1 x2 x3 μ = some μ') (hret : RtV G 10 X cX9_weigh 0 0 μ') : AW G 10 X 0 0 0 [(0, .ref (gZ G + a0)), (1, .int x1), (2, .int x2), (3, .int x3)] [] μ := by
  unfold X9_weigh at h
  refine aw_iload_n C 2 dX9_weigh_0 rfl rfl ?_
  refine aw_bipush C 6 dX9_weigh_1 (by decide) ?_
  obtain ⟨v2, ev2, h⟩ := bindS h
  have kj3 : AW G 10 X 0 0 14 [(0, .ref (gZ G + a0)), (1, .int x1), (2, .int x2), (3, .int x3)] [.int v2] μ := by
    refine aw_istore C [(4, .int v2), (0, .ref (gZ G + a0)), (1, .int x1), (2, .int x2), (3, .int x3)] dX9_weigh_14 (by decide) rfl ?_
    refine aw_iconst C 0 dX9_weigh_16 (by decide) ?_
    refine aw_istore C [(5, .int 0), (4, .int v2), (0, .ref (gZ G + a0)), (1, .int x1), (2, .int x2), (3, .int x3)] dX9_weigh_17 (by decide) rfl ?_
    obtain ⟨z3, hz3, h⟩ := bindE h
    refine aw_sub [2, 3, 4, 5, 1, 0] rfl ?_
    refine X9_weigh_L19_ok C _ _ _ _ _ _ _ _ _ hz3 ?_
    refine aw_iload C 4 dX9_weigh_66 rfl ?_
    refine aw_iconst C 1 dX9_weigh_68 (by decide) ?_
    refine aw_iadd C dX9_weigh_69 ?_
    obtain ⟨v4, ev4, h⟩ := bindS h
    refine aw_topi ev4 ?_
    refine aw_istore C [(5, .int v4), (0, .ref (gZ G + a0)), (1, .int x1), (2, .int x2), (3, .int x3), (4, .int v2)] dX9_weigh_70 (by decide) rfl ?_
    obtain ⟨z5, hz5, h⟩ := bindE h
    refine aw_sub [1, 2, 3, 4, 0] rfl ?_
    refine X9_weigh_L72_ok C _ _ _ _ _ _ _ _ hz5 ?_
    have e9 := inj1 h
    subst e9
    exact hret _ _ dX9_weigh_190
  clear h
  refine aw_icmp_le C 13 dX9_weigh_3 (by decide) (fun c1 => ?_) (fun c1 => ?_)
  · refine aw_iconst C 0 dX9_weigh_13 (by decide) ?_
    rw [if_pos c1] at ev2
    subst ev2
    exact aw_sub [0, 1, 2, 3] rfl kj3
  · refine aw_iload_n C 2 dX9_weigh_6 rfl rfl ?_
    refine aw_bipush C 6 dX9_weigh_7 (by decide) ?_
    refine aw_isub C dX9_weigh_9 ?_
    refine aw_goto C 14 dX9_weigh_10 (by decide) ?_
    rw [if_neg c1] at ev2
    subst ev2
    exact aw_sub [0, 1, 2, 3] rfl kj3
set_option maxRecDepth 100000 in
set_option maxHeartbeats 4000000 in
theorem mt_X9_weigh {G : GL} {l : Launch} {a0 : Nat} {x1 : Int32} {x2 : Int32} {x3 : Int32} {μ : Mem} {μ' : Mem} (h : X9_weigh a0 x1 x2 x3 μ = some μ') : MtV G l yX9_weigh cX9_weigh 10 none rm_X9_weigh false [.ref (gZ G + a0), .int x1, .int x2, .int x3] μ μ' := met_V (by decide) rfl (Nat.le_of_ble_eq_true rfl) (fun X _ C _ _ hret => wk_X9_weigh C h hret)
def X9_allWeights (a0 : Nat) (μ : Mem) : Option Int64 :=
  (gR 9 6 a0 μ).bind fun v1 =>
  (aJ v1 0 μ).bind fun v2 =>
  (gR 9 6 a0 μ).bind fun v3 =>
  (aJ v3 1 μ).bind fun v4 =>
  (gR 9 6 a0 μ).bind fun v5 =>
  (aJ v5 2 μ).bind fun v6 =>
  (gR 9 6 a0 μ).bind fun v7 =>
  (aJ v7 3 μ).bind fun v8 =>
  some (((v2 + v4) + v6) + v8)
set_option maxRecDepth 100000 in
set_option maxHeartbeats 4000000 in
theorem wk_X9_allWeights {G : GL} {X : CX} {a0 : Nat} {μ : Mem} {r : Int64} (C : Ctx G X cX9_allWeights 1 RX9 rm_X9_allWeights) (h : X9_allWeights a0 μ = some r) (hret : RtJ G 1 X cX9_allWeights 0 0 r μ) : AW G 1 X 0 0 0 [(0, .ref (gZ G + a0))] [] μ := by
  unfold X9_allWeights at h
  refine aw_aload_n C 0 dX9_allWeights_0 rfl rfl ?_
  obtain ⟨v1, hv1, h⟩ := bindE h
  refine aw_gR C fl_X9_29 rfl hv1 dX9_allWeights_1 ?_
  refine aw_iconst C 0 dX9_allWeights_4 (by decide) ?_
  obtain ⟨v2, hv2, h⟩ := bindE h
  refine aw_aJ C hv2 dX9_allWeights_5 ?_
  refine aw_aload_n C 0 dX9_allWeights_6 rfl rfl ?_
  obtain ⟨v3, hv3, h⟩ := bindE h
  refine aw_gR C fl_X9_29 rfl hv3 dX9_allWeights_7 ?_
  refine aw_iconst C 1 dX9_allWeights_10 (by decide) ?_
  obtain ⟨v4, hv4, h⟩ := bindE h
  refine aw_aJ C hv4 dX9_allWeights_11 ?_
  refine aw_ladd C dX9_allWeights_12 ?_
  refine aw_aload_n C 0 dX9_allWeights_13 rfl rfl ?_
  obtain ⟨v5, hv5, h⟩ := bindE h
  refine aw_gR C fl_X9_29 rfl hv5 dX9_allWeights_14 ?_
  refine aw_iconst C 2 dX9_allWeights_17 (by decide) ?_
  obtain ⟨v6, hv6, h⟩ := bindE h
  refine aw_aJ C hv6 dX9_allWeights_18 ?_
  refine aw_ladd C dX9_allWeights_19 ?_
  refine aw_aload_n C 0 dX9_allWeights_20 rfl rfl ?_
  obtain ⟨v7, hv7, h⟩ := bindE h
  refine aw_gR C fl_X9_29 rfl hv7 dX9_allWeights_21 ?_
  refine aw_iconst C 3 dX9_allWeights_24 (by decide) ?_
  obtain ⟨v8, hv8, h⟩ := bindE h
  refine aw_aJ C hv8 dX9_allWeights_25 ?_
  refine aw_ladd C dX9_allWeights_26 ?_
  have e9 := inj1 h
  subst e9
  exact hret _ _ dX9_allWeights_27
set_option maxRecDepth 100000 in
set_option maxHeartbeats 4000000 in
theorem mt_X9_allWeights {G : GL} {l : Launch} {a0 : Nat} {μ : Mem} {r : Int64} (h : X9_allWeights a0 μ = some r) : MtJ G l yX9_allWeights cX9_allWeights 1 (some .long) rm_X9_allWeights false [.ref (gZ G + a0)] μ r μ := met_J (by decide) rfl (Nat.le_of_ble_eq_true rfl) (fun X _ C _ _ hret => wk_X9_allWeights C h hret)
def X9_moveOn_L2 (a0 : Nat) (a1 : Nat) (a2 : Nat) : Nat → Int32 → Mem → Option (Int32 × Mem)
  | 0, _, _ => none
  | n + 1, x3, μ =>
      if (4 : Int32) ≤ x3 then
      some ((x3, μ))
      else
      (sI a2 x3 0 μ).bind fun μ2 =>
      X9_moveOn_L2 a0 a1 a2 n (x3 + 1) μ2
set_option maxRecDepth 100000 in
set_option maxHeartbeats 4000000 in
theorem X9_moveOn_L2_ok {G : GL} {X : CX} (C : Ctx G X cX9_moveOn 6 RX9 rm_X9_moveOn) (a0 : Nat) (a1 : Nat) (a2 : Nat) : ∀ (n : Nat) (x3 : Int32) (μ : Mem) (z : Int32 × Mem), X9_moveOn_L2 a0 a1 a2 n x3 μ = some z → AW G 6 X 0 0 17 [(0, .ref (gZ G + a0)), (1, .ref (gZ G + a1)), (2, .ref (gZ G + a2)), (3, .int z.1)] [] z.2 → AW G 6 X 0 0 2 [(0, .ref (gZ G + a0)), (1, .ref (gZ G + a1)), (2, .ref (gZ G + a2)), (3, .int x3)] [] μ := by
  intro n
  induction n with
  | zero =>
    intro x3 μ z h kx
    rw [X9_moveOn_L2] at h
    cases h
  | succ n ih =>
    intro x3 μ z h kx
    rw [X9_moveOn_L2] at h
    refine aw_iload_n C 3 dX9_moveOn_2 rfl rfl ?_
    refine aw_iconst C 4 dX9_moveOn_3 (by decide) ?_
    refine aw_icmp_ge C 17 dX9_moveOn_4 (by decide) (fun c1 => ?_) (fun c1 => ?_)
    · rw [if_pos c1] at h
      have e9 := inj1 h
      subst e9
      exact aw_sub [0, 1, 2, 3] rfl kx
    · rw [if_neg c1] at h
      refine aw_aload_n C 2 dX9_moveOn_7 rfl rfl ?_
      refine aw_iload_n C 3 dX9_moveOn_8 rfl rfl ?_
      refine aw_iconst C 0 dX9_moveOn_9 (by decide) ?_
      obtain ⟨μ2, hμ2, h⟩ := bindE h
      refine aw_sI C hμ2 dX9_moveOn_10 ?_
      refine aw_iinc C (x3 + 1) 3 [(3, .int (x3 + 1)), (0, .ref (gZ G + a0)), (1, .ref (gZ G + a1)), (2, .ref (gZ G + a2))] dX9_moveOn_11 rfl rfl (by decide) rfl ?_
      refine aw_goto C 2 dX9_moveOn_14 (by decide) ?_
      exact aw_sub [1, 2, 3, 0] rfl (ih _ _ _ h kx)
def X9_moveOn_L69 (a0 : Nat) (a1 : Nat) (a2 : Nat) (x3 : Int32) (x4 : Int32) : Nat → Int32 → Mem → Option (Int32 × Mem)
  | 0, _, _ => none
  | n + 1, x5, μ =>
      if (4 : Int32) ≤ x5 then
      some ((x5, μ))
      else
      (aI a2 x5 μ).bind fun v2 =>
      (aI a1 x3 μ).bind fun v3 =>
      (gR 9 0 a0 μ).bind fun v4 =>
      (aR 7 v4 x3 μ).bind fun v5 =>
      (aI v5 x5 μ).bind fun v6 =>
      (dvI (v3 * v6) x4).bind fun v7 =>
      (sI a2 x5 (v2 + v7) μ).bind fun μ8 =>
      X9_moveOn_L69 a0 a1 a2 x3 x4 n (x5 + 1) μ8
set_option maxRecDepth 100000 in
set_option maxHeartbeats 4000000 in
theorem X9_moveOn_L69_ok {G : GL} {X : CX} (C : Ctx G X cX9_moveOn 6 RX9 rm_X9_moveOn) (a0 : Nat) (a1 : Nat) (a2 : Nat) (x3 : Int32) (x4 : Int32) : ∀ (n : Nat) (x5 : Int32) (μ : Mem) (z : Int32 × Mem), X9_moveOn_L69 a0 a1 a2 x3 x4 n x5 μ = some z → AW G 6 X 0 0 104 [(0, .ref (gZ G + a0)), (1, .ref (gZ G + a1)), (2, .ref (gZ G + a2)), (3, .int x3), (4, .int x4), (5, .int z.1)] [] z.2 → AW G 6 X 0 0 69 [(0, .ref (gZ G + a0)), (1, .ref (gZ G + a1)), (2, .ref (gZ G + a2)), (3, .int x3), (4, .int x4), (5, .int x5)] [] μ := by
  intro n
  induction n with
  | zero =>
    intro x5 μ z h kx
    rw [X9_moveOn_L69] at h
    cases h
  | succ n ih =>
    intro x5 μ z h kx
    rw [X9_moveOn_L69] at h
    refine aw_iload C 5 dX9_moveOn_69 rfl ?_
    refine aw_iconst C 4 dX9_moveOn_71 (by decide) ?_
    refine aw_icmp_ge C 104 dX9_moveOn_72 (by decide) (fun c1 => ?_) (fun c1 => ?_)
    · rw [if_pos c1] at h
      have e9 := inj1 h
      subst e9
      exact aw_sub [0, 1, 2, 3, 4, 5] rfl kx
    · rw [if_neg c1] at h
      refine aw_aload_n C 2 dX9_moveOn_75 rfl rfl ?_
      refine aw_iload C 5 dX9_moveOn_76 rfl ?_
      refine aw_dup2 C dX9_moveOn_78 rfl rfl ?_
      obtain ⟨v2, hv2, h⟩ := bindE h
      refine aw_aI C hv2 dX9_moveOn_79 ?_
      refine aw_aload_n C 1 dX9_moveOn_80 rfl rfl ?_
      refine aw_iload_n C 3 dX9_moveOn_81 rfl rfl ?_
      obtain ⟨v3, hv3, h⟩ := bindE h
      refine aw_aI C hv3 dX9_moveOn_82 ?_
      refine aw_aload_n C 0 dX9_moveOn_83 rfl rfl ?_
      obtain ⟨v4, hv4, h⟩ := bindE h
      refine aw_gR C fl_X9_11 rfl hv4 dX9_moveOn_84 ?_
      refine aw_iload_n C 3 dX9_moveOn_87 rfl rfl ?_
      obtain ⟨v5, hv5, h⟩ := bindE h
      refine aw_aR C (by decide) (ty := .array .int) rfl rfl hv5 dX9_moveOn_88 ?_
      refine aw_iload C 5 dX9_moveOn_89 rfl ?_
      obtain ⟨v6, hv6, h⟩ := bindE h
      refine aw_aI C hv6 dX9_moveOn_91 ?_
      refine aw_imul C dX9_moveOn_92 ?_
      refine aw_iload C 4 dX9_moveOn_93 rfl ?_
      obtain ⟨v7, hv7, h⟩ := bindE h
      refine aw_idiv C hv7 dX9_moveOn_95 ?_
      refine aw_iadd C dX9_moveOn_96 ?_
      obtain ⟨μ8, hμ8, h⟩ := bindE h
      refine aw_sI C hμ8 dX9_moveOn_97 ?_
      refine aw_iinc C (x5 + 1) 5 [(5, .int (x5 + 1)), (0, .ref (gZ G + a0)), (1, .ref (gZ G + a1)), (2, .ref (gZ G + a2)), (3, .int x3), (4, .int x4)] dX9_moveOn_98 rfl rfl (by decide) rfl ?_
      refine aw_goto C 69 dX9_moveOn_101 (by decide) ?_
      exact aw_sub [1, 2, 3, 4, 5, 0] rfl (ih _ _ _ h kx)
def X9_moveOn_L19 (a0 : Nat) (a1 : Nat) (a2 : Nat) : Nat → Int32 → Mem → Option (Int32 × Mem)
  | 0, _, _ => none
  | n + 1, x3, μ =>
      if (4 : Int32) ≤ x3 then
      some ((x3, μ))
      else
      (gR 9 0 a0 μ).bind fun v2 =>
      (aR 7 v2 x3 μ).bind fun v3 =>
      (aI v3 0 μ).bind fun v4 =>
      (gR 9 0 a0 μ).bind fun v5 =>
      (aR 7 v5 x3 μ).bind fun v6 =>
      (aI v6 1 μ).bind fun v7 =>
      (gR 9 0 a0 μ).bind fun v8 =>
      (aR 7 v8 x3 μ).bind fun v9 =>
      (aI v9 2 μ).bind fun v10 =>
      (gR 9 0 a0 μ).bind fun v11 =>
      (aR 7 v11 x3 μ).bind fun v12 =>
      (aI v12 3 μ).bind fun v13 =>
      (some (((v4 + v7) + v10) + v13 : Int32)).bind fun v14 =>
      ((if v14 ≤ 0 then
      some μ
      else
      (X9_moveOn_L69 a0 a1 a2 x3 v14 FU 0 μ).bind fun z16 =>
      some z16.2) : Option (Mem)).bind fun z17 =>
      X9_moveOn_L19 a0 a1 a2 n (x3 + 1) z17
set_option maxRecDepth 100000 in
set_option maxHeartbeats 4000000 in
theorem X9_moveOn_L19_ok {G : GL} {X : CX} (C : Ctx G X cX9_moveOn 6 RX9 rm_X9_moveOn) (a0 : Nat) (a1 : Nat) (a2 : Nat) : ∀ (n : Nat) (x3 : Int32) (μ : Mem) (z : Int32 × Mem), X9_moveOn_L19 a0 a1 a2 n x3 μ = some z → AW G 6 X 0 0 110 [(0, .ref (gZ G + a0)), (1, .ref (gZ G + a1)), (2, .ref (gZ G + a2)), (3, .int z.1)] [] z.2 → AW G 6 X 0 0 19 [(0, .ref (gZ G + a0)), (1, .ref (gZ G + a1)), (2, .ref (gZ G + a2)), (3, .int x3)] [] μ := by
  intro n
  induction n with
  | zero =>
    intro x3 μ z h kx
    rw [X9_moveOn_L19] at h
    cases h
  | succ n ih =>
    intro x3 μ z h kx
    rw [X9_moveOn_L19] at h
    refine aw_iload_n C 3 dX9_moveOn_19 rfl rfl ?_
    refine aw_iconst C 4 dX9_moveOn_20 (by decide) ?_
    refine aw_icmp_ge C 110 dX9_moveOn_21 (by decide) (fun c1 => ?_) (fun c1 => ?_)
    · rw [if_pos c1] at h
      have e9 := inj1 h
      subst e9
      exact aw_sub [0, 1, 2, 3] rfl kx
    · rw [if_neg c1] at h
      refine aw_aload_n C 0 dX9_moveOn_24 rfl rfl ?_
      obtain ⟨v2, hv2, h⟩ := bindE h
      refine aw_gR C fl_X9_11 rfl hv2 dX9_moveOn_25 ?_
      refine aw_iload_n C 3 dX9_moveOn_28 rfl rfl ?_
      obtain ⟨v3, hv3, h⟩ := bindE h
      refine aw_aR C (by decide) (ty := .array .int) rfl rfl hv3 dX9_moveOn_29 ?_
      refine aw_iconst C 0 dX9_moveOn_30 (by decide) ?_
      obtain ⟨v4, hv4, h⟩ := bindE h
      refine aw_aI C hv4 dX9_moveOn_31 ?_
      refine aw_aload_n C 0 dX9_moveOn_32 rfl rfl ?_
      obtain ⟨v5, hv5, h⟩ := bindE h
      refine aw_gR C fl_X9_11 rfl hv5 dX9_moveOn_33 ?_
      refine aw_iload_n C 3 dX9_moveOn_36 rfl rfl ?_
      obtain ⟨v6, hv6, h⟩ := bindE h
      refine aw_aR C (by decide) (ty := .array .int) rfl rfl hv6 dX9_moveOn_37 ?_
      refine aw_iconst C 1 dX9_moveOn_38 (by decide) ?_
      obtain ⟨v7, hv7, h⟩ := bindE h
      refine aw_aI C hv7 dX9_moveOn_39 ?_
      refine aw_iadd C dX9_moveOn_40 ?_
      refine aw_aload_n C 0 dX9_moveOn_41 rfl rfl ?_
      obtain ⟨v8, hv8, h⟩ := bindE h
      refine aw_gR C fl_X9_11 rfl hv8 dX9_moveOn_42 ?_
      refine aw_iload_n C 3 dX9_moveOn_45 rfl rfl ?_
      obtain ⟨v9, hv9, h⟩ := bindE h
      refine aw_aR C (by decide) (ty := .array .int) rfl rfl hv9 dX9_moveOn_46 ?_
      refine aw_iconst C 2 dX9_moveOn_47 (by decide) ?_
      obtain ⟨v10, hv10, h⟩ := bindE h
      refine aw_aI C hv10 dX9_moveOn_48 ?_
      refine aw_iadd C dX9_moveOn_49 ?_
      refine aw_aload_n C 0 dX9_moveOn_50 rfl rfl ?_
      obtain ⟨v11, hv11, h⟩ := bindE h
      refine aw_gR C fl_X9_11 rfl hv11 dX9_moveOn_51 ?_
      refine aw_iload_n C 3 dX9_moveOn_54 rfl rfl ?_
      obtain ⟨v12, hv12, h⟩ := bindE h
      refine aw_aR C (by decide) (ty := .array .int) rfl rfl hv12 dX9_moveOn_55 ?_
      refine aw_iconst C 3 dX9_moveOn_56 (by decide) ?_
      obtain ⟨v13, hv13, h⟩ := bindE h
      refine aw_aI C hv13 dX9_moveOn_57 ?_
      refine aw_iadd C dX9_moveOn_58 ?_
      obtain ⟨v14, ev14, h⟩ := bindS h
      refine aw_topi ev14 ?_
      refine aw_istore C [(4, .int v14), (0, .ref (gZ G + a0)), (1, .ref (gZ G + a1)), (2, .ref (gZ G + a2)), (3, .int x3)] dX9_moveOn_59 (by decide) rfl ?_
      refine aw_iload C 0 dX9_moveOn_61 rfl ?_
      obtain ⟨z17, hz17, h⟩ := bindE h
      have kj63 : AW G 6 X 0 0 104 [(0, .ref (gZ G + a0)), (1, .ref (gZ G + a1)), (2, .ref (gZ G + a2)), (3, .int x3)] [] z17 := by
        refine aw_iinc C (x3 + 1) 3 [(3, .int (x3 + 1)), (0, .ref (gZ G + a0)), (1, .ref (gZ G + a1)), (2, .ref (gZ G + a2))] dX9_moveOn_104 rfl rfl (by decide) rfl ?_
        refine aw_goto C 19 dX9_moveOn_107 (by decide) ?_
        exact aw_sub [1, 2, 3, 0] rfl (ih _ _ _ h kx)
      replace h := hz17
      refine aw_if_le C 104 dX9_moveOn_63 (by decide) (fun c15 => ?_) (fun c15 => ?_)
      · rw [if_pos c15] at h
        have e9 := inj1 h
        subst e9
        exact aw_sub [1, 2, 3, 4] rfl kj63
      · rw [if_neg c15] at h
        refine aw_iconst C 0 dX9_moveOn_66 (by decide) ?_
        refine aw_istore C [(5, .int 0), (4, .int v14), (0, .ref (gZ G + a0)), (1, .ref (gZ G + a1)), (2, .ref (gZ G + a2)), (3, .int x3)] dX9_moveOn_67 (by decide) rfl ?_
        obtain ⟨z16, hz16, h⟩ := bindE h
        refine aw_sub [2, 3, 4, 5, 1, 0] rfl ?_
        refine X9_moveOn_L69_ok C _ _ _ _ _ _ _ _ _ hz16 ?_
        have e9 := inj1 h
        subst e9
        exact aw_sub [0, 1, 2, 3] rfl kj63
def X9_moveOn (a0 : Nat) (a1 : Nat) (a2 : Nat) (μ : Mem) : Option Mem :=
  (X9_moveOn_L2 a0 a1 a2 FU 0 μ).bind fun z1 =>
  (X9_moveOn_L19 a0 a1 a2 FU 0 z1.2).bind fun z2 =>
  some z2.2
set_option maxRecDepth 100000 in
set_option maxHeartbeats 4000000 in
theorem wk_X9_moveOn {G : GL} {X : CX} {a0 : Nat} {a1 : Nat} {a2 : Nat} {μ : Mem} {μ' : Mem} (C : Ctx G X cX9_moveOn 6 RX9 rm_X9_moveOn) (h : X9_moveOn a0 a1 a2 μ = some μ') (hret : RtV G 6 X cX9_moveOn 0 0 μ') : AW G 6 X 0 0 0 [(0, .ref (gZ G + a0)), (1, .ref (gZ G + a1)), (2, .ref (gZ G + a2))] [] μ := by
  unfold X9_moveOn at h
  refine aw_iconst C 0 dX9_moveOn_0 (by decide) ?_
  refine aw_istore_n C [(3, .int 0), (0, .ref (gZ G + a0)), (1, .ref (gZ G + a1)), (2, .ref (gZ G + a2))] dX9_moveOn_1 rfl (by decide) rfl ?_
  obtain ⟨z1, hz1, h⟩ := bindE h
  refine aw_sub [1, 2, 3, 0] rfl ?_
  refine X9_moveOn_L2_ok C _ _ _ _ _ _ _ hz1 ?_
  refine aw_iconst C 0 dX9_moveOn_17 (by decide) ?_
  refine aw_istore_n C [(3, .int 0), (0, .ref (gZ G + a0)), (1, .ref (gZ G + a1)), (2, .ref (gZ G + a2))] dX9_moveOn_18 rfl (by decide) rfl ?_
  obtain ⟨z2, hz2, h⟩ := bindE h
  refine aw_sub [1, 2, 3, 0] rfl ?_
  refine X9_moveOn_L19_ok C _ _ _ _ _ _ _ hz2 ?_
  have e9 := inj1 h
  subst e9
  exact hret _ _ dX9_moveOn_110
set_option maxRecDepth 100000 in
set_option maxHeartbeats 4000000 in
theorem mt_X9_moveOn {G : GL} {l : Launch} {a0 : Nat} {a1 : Nat} {a2 : Nat} {μ : Mem} {μ' : Mem} (h : X9_moveOn a0 a1 a2 μ = some μ') : MtV G l yX9_moveOn cX9_moveOn 6 none rm_X9_moveOn false [.ref (gZ G + a0), .ref (gZ G + a1), .ref (gZ G + a2)] μ μ' := met_V (by decide) rfl (Nat.le_of_ble_eq_true rfl) (fun X _ C _ _ hret => wk_X9_moveOn C h hret)
def X9_lookAhead_L16 (a0 : Nat) (x3 : Int32) (j4 : Int64) : Nat → Int32 → Mem → Option (Int32 × Mem)
  | 0, _, _ => none
  | n + 1, x6, μ =>
      if (4 : Int32) ≤ x6 then
      some ((x6, μ))
      else
      (gR 9 4 a0 μ).bind fun v2 =>
      (aR 7 v2 0 μ).bind fun v3 =>
      ((if (0 : Int32) < (lg_cmp j4 0) then
      (gR 9 6 a0 μ).bind fun v5 =>
      (aJ v5 x6 μ).bind fun v6 =>
      (dvJ (v6 * 1000000) j4).bind fun v7 =>
      some v7.toInt32
      else
      some 0) : Option (Int32)).bind fun z8 =>
      (sI v3 x6 z8 μ).bind fun μ9 =>
      X9_lookAhead_L16 a0 x3 j4 n (x6 + 1) μ9
set_option maxRecDepth 100000 in
set_option maxHeartbeats 4000000 in
theorem X9_lookAhead_L16_ok {G : GL} {X : CX} (C : Ctx G X cX9_lookAhead 7 RX9 rm_X9_lookAhead) (a0 : Nat) (x3 : Int32) (j4 : Int64) : ∀ (n : Nat) (x6 : Int32) (μ : Mem) (z : Int32 × Mem), X9_lookAhead_L16 a0 x3 j4 n x6 μ = some z → AW G 7 X 0 0 63 [(0, .ref (gZ G + a0)), (3, .int x3), (4, .long j4), (6, .int z.1)] [] z.2 → AW G 7 X 0 0 16 [(0, .ref (gZ G + a0)), (3, .int x3), (4, .long j4), (6, .int x6)] [] μ := by
  intro n
  induction n with
  | zero =>
    intro x6 μ z h kx
    rw [X9_lookAhead_L16] at h
    cases h
  | succ n ih =>
    intro x6 μ z h kx
    rw [X9_lookAhead_L16] at h
    refine aw_iload C 3 dX9_lookAhead_16 rfl ?_
    refine aw_iconst C 4 dX9_lookAhead_18 (by decide) ?_
    refine aw_icmp_ge C 63 dX9_lookAhead_19 (by decide) (fun c1 => ?_) (fun c1 => ?_)
    · rw [if_pos c1] at h
      have e9 := inj1 h
      subst e9
      exact aw_sub [0, 1, 2, 3] rfl kx
    · rw [if_neg c1] at h
      refine aw_aload_n C 0 dX9_lookAhead_22 rfl rfl ?_
      obtain ⟨v2, hv2, h⟩ := bindE h
      refine aw_gR C fl_X9_26 rfl hv2 dX9_lookAhead_23 ?_
      refine aw_iconst C 0 dX9_lookAhead_26 (by decide) ?_
      obtain ⟨v3, hv3, h⟩ := bindE h
      refine aw_aR C (by decide) (ty := .array .int) rfl rfl hv3 dX9_lookAhead_27 ?_
      refine aw_iload C 3 dX9_lookAhead_28 rfl ?_
      refine aw_lload C 2 dX9_lookAhead_30 rfl ?_
      refine aw_lconst C 0 dX9_lookAhead_32 (by decide) ?_
      refine aw_lcmp C dX9_lookAhead_33 ?_
      obtain ⟨z8, hz8, h⟩ := bindE h
      have kj34 : AW G 7 X 0 0 56 [(0, .ref (gZ G + a0)), (3, .int x3), (4, .long j4), (6, .int x6)] [.int z8, .int x6, .ref (gZ G + v3)] μ := by
        obtain ⟨μ9, hμ9, h⟩ := bindE h
        refine aw_sI C hμ9 dX9_lookAhead_56 ?_
        refine aw_iinc C (x6 + 1) 3 [(6, .int (x6 + 1)), (0, .ref (gZ G + a0)), (3, .int x3), (4, .long j4)] dX9_lookAhead_57 rfl rfl (by decide) rfl ?_
        refine aw_goto C 16 dX9_lookAhead_60 (by decide) ?_
        exact aw_sub [1, 2, 3, 0] rfl (ih _ _ _ h kx)
      replace h := hz8
      refine aw_if_gt C 41 dX9_lookAhead_34 (by decide) (fun c4 => ?_) (fun c4 => ?_)
      · rw [if_pos c4] at h
        refine aw_aload_n C 0 dX9_lookAhead_41 rfl rfl ?_
        obtain ⟨v5, hv5, h⟩ := bindE h
        refine aw_gR C fl_X9_29 rfl hv5 dX9_lookAhead_42 ?_
        refine aw_iload C 3 dX9_lookAhead_45 rfl ?_
        obtain ⟨v6, hv6, h⟩ := bindE h
        refine aw_aJ C hv6 dX9_lookAhead_47 ?_
        refine aw_ldc2 C kl_X9_44 dX9_lookAhead_48 ?_
        refine aw_lmul C dX9_lookAhead_51 ?_
        refine aw_lload C 2 dX9_lookAhead_52 rfl ?_
        obtain ⟨v7, hv7, h⟩ := bindE h
        refine aw_ldiv C hv7 dX9_lookAhead_54 ?_
        refine aw_l2i C dX9_lookAhead_55 ?_
        have e9 := inj1 h
        subst e9
        exact aw_sub [0, 1, 2, 3] rfl kj34
      · rw [if_neg c4] at h
        refine aw_iconst C 0 dX9_lookAhead_37 (by decide) ?_
        refine aw_goto C 56 dX9_lookAhead_38 (by decide) ?_
        have e9 := inj1 h
        subst e9
        exact aw_sub [0, 1, 2, 3] rfl kj34
def X9_lookAhead_L66 (a0 : Nat) (x3 : Int32) : Nat → Int32 → Mem → Option (Int32 × Mem)
  | 0, _, _ => none
  | n + 1, x6, μ =>
      if x3 < x6 then
      some ((x6, μ))
      else
      if (8 : Int32) < x6 then
      some ((x6, μ))
      else
      (gR 9 4 a0 μ).bind fun v3 =>
      (aR 7 v3 (x6 - 1) μ).bind fun v4 =>
      (gR 9 4 a0 μ).bind fun v5 =>
      (aR 7 v5 x6 μ).bind fun v6 =>
      (vO 9 a0 μ).bind fun g7 =>
      (X9_moveOn a0 v4 v6 μ).bind fun μ8 =>
      X9_lookAhead_L66 a0 x3 n (x6 + 1) μ8
set_option maxRecDepth 100000 in
set_option maxHeartbeats 4000000 in
theorem X9_lookAhead_L66_ok {G : GL} {X : CX} (C : Ctx G X cX9_lookAhead 7 RX9 rm_X9_lookAhead) (a0 : Nat) (x3 : Int32) : ∀ (n : Nat) (x6 : Int32) (μ : Mem) (z : Int32 × Mem), X9_lookAhead_L66 a0 x3 n x6 μ = some z → AW G 7 X 0 0 105 [(0, .ref (gZ G + a0)), (3, .int x3), (6, .int z.1)] [] z.2 → AW G 7 X 0 0 66 [(0, .ref (gZ G + a0)), (3, .int x3), (6, .int x6)] [] μ := by
  intro n
  induction n with
  | zero =>
    intro x6 μ z h kx
    rw [X9_lookAhead_L66] at h
    cases h
  | succ n ih =>
    intro x6 μ z h kx
    rw [X9_lookAhead_L66] at h
    refine aw_iload C 2 dX9_lookAhead_66 rfl ?_
    refine aw_iload_n C 1 dX9_lookAhead_68 rfl rfl ?_
    refine aw_icmp_gt C 105 dX9_lookAhead_69 (by decide) (fun c1 => ?_) (fun c1 => ?_)
    · rw [if_pos c1] at h
      have e9 := inj1 h
      subst e9
      exact aw_sub [0, 1, 2] rfl kx
    · rw [if_neg c1] at h
      refine aw_iload C 2 dX9_lookAhead_72 rfl ?_
      refine aw_bipush C 8 dX9_lookAhead_74 (by decide) ?_
      refine aw_icmp_gt C 105 dX9_lookAhead_76 (by decide) (fun c2 => ?_) (fun c2 => ?_)
      · rw [if_pos c2] at h
        have e9 := inj1 h
        subst e9
        exact aw_sub [0, 1, 2] rfl kx
      · rw [if_neg c2] at h
        refine aw_aload_n C 0 dX9_lookAhead_79 rfl rfl ?_
        refine aw_aload_n C 0 dX9_lookAhead_80 rfl rfl ?_
        obtain ⟨v3, hv3, h⟩ := bindE h
        refine aw_gR C fl_X9_26 rfl hv3 dX9_lookAhead_81 ?_
        refine aw_iload C 2 dX9_lookAhead_84 rfl ?_
        refine aw_iconst C 1 dX9_lookAhead_86 (by decide) ?_
        refine aw_isub C dX9_lookAhead_87 ?_
        obtain ⟨v4, hv4, h⟩ := bindE h
        refine aw_aR C (by decide) (ty := .array .int) rfl rfl hv4 dX9_lookAhead_88 ?_
        refine aw_aload_n C 0 dX9_lookAhead_89 rfl rfl ?_
        obtain ⟨v5, hv5, h⟩ := bindE h
        refine aw_gR C fl_X9_26 rfl hv5 dX9_lookAhead_90 ?_
        refine aw_iload C 2 dX9_lookAhead_93 rfl ?_
        obtain ⟨v6, hv6, h⟩ := bindE h
        refine aw_aR C (by decide) (ty := .array .int) rfl rfl hv6 dX9_lookAhead_95 ?_
        obtain ⟨g7, hg7, h⟩ := bindE h
        obtain ⟨μ8, hμ8, h⟩ := bindE h
        refine aw_cV_V C [.ref (gZ G + v4), .ref (gZ G + v6)] _ (mt_X9_moveOn hμ8) cs_X9_moveOn ml_X9_46 im_X9_moveOn se_X9_moveOn (ci := 9) rfl rfl hg7 ⟨by decide, by decide⟩ ⟨rfl, rfl⟩ ⟨Nat.zero_le _, Nat.zero_le _⟩ rfl rfl (Nat.le_of_ble_eq_true rfl) dX9_lookAhead_96 ?_
        refine aw_iinc C (x6 + 1) 2 [(6, .int (x6 + 1)), (0, .ref (gZ G + a0)), (3, .int x3)] dX9_lookAhead_99 rfl rfl (by decide) rfl ?_
        refine aw_goto C 66 dX9_lookAhead_102 (by decide) ?_
        exact aw_sub [1, 2, 0] rfl (ih _ _ _ h kx)
def X9_lookAhead (a0 : Nat) (x1 : Int32) (x2 : Int32) (x3 : Int32) (μ : Mem) : Option Mem :=
  (vO 9 a0 μ).bind fun g1 =>
  (X9_weigh a0 x1 x2 0 μ).bind fun μ2 =>
  (vO 9 a0 μ2).bind fun g3 =>
  (X9_allWeights a0 μ2).bind fun v4 =>
  (X9_lookAhead_L16 a0 x3 v4 FU 0 μ2).bind fun z5 =>
  (X9_lookAhead_L66 a0 x3 FU 1 z5.2).bind fun z6 =>
  some z6.2
set_option maxRecDepth 100000 in
set_option maxHeartbeats 4000000 in
theorem wk_X9_lookAhead {G : GL} {X : CX} {a0 : Nat} {x1 : Int32} {x2 : Int32} {x3 : Int32} {μ : Mem} {μ' : Mem} (C : Ctx G X cX9_lookAhead 7 RX9 rm_X9_lookAhead) (h : X9_lookAhead a0 x1 x2 x3 μ = some μ') (hret : RtV G 7 X cX9_lookAhead 0 0 μ') : AW G 7 X 0 0 0 [(0, .ref (gZ G + a0)), (1, .int x1), (2, .int x2), (3, .int x3)] [] μ := by
  unfold X9_lookAhead at h
  refine aw_aload_n C 0 dX9_lookAhead_0 rfl rfl ?_
  refine aw_iload_n C 1 dX9_lookAhead_1 rfl rfl ?_
  refine aw_iload_n C 2 dX9_lookAhead_2 rfl rfl ?_
  refine aw_iconst C 0 dX9_lookAhead_3 (by decide) ?_
  obtain ⟨g1, hg1, h⟩ := bindE h
  obtain ⟨μ2, hμ2, h⟩ := bindE h
  refine aw_cV_V C [.int x1, .int x2, .int 0] _ (mt_X9_weigh hμ2) cs_X9_weigh ml_X9_36 im_X9_weigh se_X9_weigh (ci := 9) rfl rfl hg1 ⟨by decide, by decide⟩ ⟨rfl, rfl⟩ ⟨Nat.zero_le _, Nat.zero_le _⟩ rfl rfl (Nat.le_of_ble_eq_true rfl) dX9_lookAhead_4 ?_
  refine aw_aload_n C 0 dX9_lookAhead_7 rfl rfl ?_
  obtain ⟨g3, hg3, h⟩ := bindE h
  obtain ⟨v4, hv4, h⟩ := bindE h
  refine aw_cV_J C [] _ (mt_X9_allWeights hv4) cs_X9_allWeights ml_X9_40 im_X9_allWeights se_X9_allWeights (ci := 9) rfl rfl hg3 ⟨by decide, by decide⟩ ⟨rfl, rfl⟩ ⟨Nat.zero_le _, Nat.zero_le _⟩ rfl rfl (Nat.le_of_ble_eq_true rfl) dX9_lookAhead_8 ?_
  refine aw_lstore C [(4, .long v4), (0, .ref (gZ G + a0)), (1, .int x1), (2, .int x2), (3, .int x3)] dX9_lookAhead_11 (by decide) rfl ?_
  refine aw_iconst C 0 dX9_lookAhead_13 (by decide) ?_
  refine aw_istore C [(6, .int 0), (4, .long v4), (0, .ref (gZ G + a0)), (1, .int x1), (2, .int x2), (3, .int x3)] dX9_lookAhead_14 (by decide) rfl ?_
  obtain ⟨z5, hz5, h⟩ := bindE h
  refine aw_sub [2, 5, 1, 0] rfl ?_
  refine X9_lookAhead_L16_ok C _ _ _ _ _ _ _ hz5 ?_
  refine aw_iconst C 1 dX9_lookAhead_63 (by decide) ?_
  refine aw_istore C [(6, .int 1), (0, .ref (gZ G + a0)), (3, .int x3), (4, .long v4)] dX9_lookAhead_64 (by decide) rfl ?_
  obtain ⟨z6, hz6, h⟩ := bindE h
  refine aw_sub [1, 2, 0] rfl ?_
  refine X9_lookAhead_L66_ok C _ _ _ _ _ _ hz6 ?_
  have e9 := inj1 h
  subst e9
  exact hret _ _ dX9_lookAhead_105
set_option maxRecDepth 100000 in
set_option maxHeartbeats 4000000 in
theorem mt_X9_lookAhead {G : GL} {l : Launch} {a0 : Nat} {x1 : Int32} {x2 : Int32} {x3 : Int32} {μ : Mem} {μ' : Mem} (h : X9_lookAhead a0 x1 x2 x3 μ = some μ') : MtV G l yX9_lookAhead cX9_lookAhead 7 none rm_X9_lookAhead false [.ref (gZ G + a0), .int x1, .int x2, .int x3] μ μ' := met_V (by decide) rfl (Nat.le_of_ble_eq_true rfl) (fun X _ C _ _ hret => wk_X9_lookAhead C h hret)
def X8_lossBy_L5 (a0 : Nat) (x1 : Int32) (a2 : Nat) (μ : Mem) : Nat → Int32 → Int32 → Option (Int32 × Int32)
  | 0, _, _ => none
  | n + 1, x3, x4 =>
      if (4 : Int32) ≤ x4 then
      some ((x3, x4))
      else
      (aI a2 x4 μ).bind fun v2 =>
      (gR 8 0 a0 μ).bind fun v3 =>
      (aR 7 v3 x1 μ).bind fun v4 =>
      (aI v4 x4 μ).bind fun v5 =>
      (dvJ (v2.toInt64 * v5.toInt64) 1000000).bind fun v6 =>
      (some (x3 + v6.toInt32 : Int32)).bind fun v7 =>
      X8_lossBy_L5 a0 x1 a2 μ n v7 (x4 + 1)
set_option maxRecDepth 100000 in
set_option maxHeartbeats 4000000 in
theorem X8_lossBy_L5_ok {G : GL} {X : CX} (C : Ctx G X cX8_lossBy 5 RX8 rm_X8_lossBy) (a0 : Nat) (x1 : Int32) (a2 : Nat) (μ : Mem) : ∀ (n : Nat) (x3 : Int32) (x4 : Int32) (z : Int32 × Int32), X8_lossBy_L5 a0 x1 a2 μ n x3 x4 = some z → AW G 5 X 0 0 41 [(0, .ref (gZ G + a0)), (1, .int x1), (2, .ref (gZ G + a2)), (3, .int z.1), (4, .int z.2)] [] μ → AW G 5 X 0 0 5 [(0, .ref (gZ G + a0)), (1, .int x1), (2, .ref (gZ G + a2)), (3, .int x3), (4, .int x4)] [] μ := by
  intro n
  induction n with
  | zero =>
    intro x3 x4 z h kx
    rw [X8_lossBy_L5] at h
    cases h
  | succ n ih =>
    intro x3 x4 z h kx
    rw [X8_lossBy_L5] at h
    refine aw_iload C 4 dX8_lossBy_5 rfl ?_
    refine aw_iconst C 4 dX8_lossBy_7 (by decide) ?_
    refine aw_icmp_ge C 41 dX8_lossBy_8 (by decide) (fun c1 => ?_) (fun c1 => ?_)
    · rw [if_pos c1] at h
      have e9 := inj1 h
      subst e9
      exact aw_sub [0, 1, 2, 3, 4] rfl kx
    · rw [if_neg c1] at h
      refine aw_iload_n C 3 dX8_lossBy_11 rfl rfl ?_
      refine aw_aload_n C 2 dX8_lossBy_12 rfl rfl ?_
      refine aw_iload C 4 dX8_lossBy_13 rfl ?_
      obtain ⟨v2, hv2, h⟩ := bindE h
      refine aw_aI C hv2 dX8_lossBy_15 ?_
      refine aw_i2l C dX8_lossBy_16 ?_
      refine aw_aload_n C 0 dX8_lossBy_17 rfl rfl ?_
      obtain ⟨v3, hv3, h⟩ := bindE h
      refine aw_gR C fl_X8_11 rfl hv3 dX8_lossBy_18 ?_
      refine aw_iload_n C 1 dX8_lossBy_21 rfl rfl ?_
      obtain ⟨v4, hv4, h⟩ := bindE h
      refine aw_aR C (by decide) (ty := .array .int) rfl rfl hv4 dX8_lossBy_22 ?_
      refine aw_iload C 4 dX8_lossBy_23 rfl ?_
      obtain ⟨v5, hv5, h⟩ := bindE h
      refine aw_aI C hv5 dX8_lossBy_25 ?_
      refine aw_i2l C dX8_lossBy_26 ?_
      refine aw_lmul C dX8_lossBy_27 ?_
      refine aw_ldc2 C kl_X8_20 dX8_lossBy_28 ?_
      obtain ⟨v6, hv6, h⟩ := bindE h
      refine aw_ldiv C hv6 dX8_lossBy_31 ?_
      refine aw_l2i C dX8_lossBy_32 ?_
      refine aw_iadd C dX8_lossBy_33 ?_
      obtain ⟨v7, ev7, h⟩ := bindS h
      refine aw_topi ev7 ?_
      refine aw_istore_n C [(3, .int v7), (0, .ref (gZ G + a0)), (1, .int x1), (2, .ref (gZ G + a2)), (4, .int x4)] dX8_lossBy_34 rfl (by decide) rfl ?_
      refine aw_iinc C (x4 + 1) 4 [(4, .int (x4 + 1)), (3, .int v7), (0, .ref (gZ G + a0)), (1, .int x1), (2, .ref (gZ G + a2))] dX8_lossBy_35 rfl rfl (by decide) rfl ?_
      refine aw_goto C 5 dX8_lossBy_38 (by decide) ?_
      exact aw_sub [2, 3, 4, 1, 0] rfl (ih _ _ _ h kx)
def X8_lossBy (a0 : Nat) (x1 : Int32) (a2 : Nat) (μ : Mem) : Option Int32 :=
  (X8_lossBy_L5 a0 x1 a2 μ FU 0 0).bind fun z1 =>
  some (z1.1)
set_option maxRecDepth 100000 in
set_option maxHeartbeats 4000000 in
theorem wk_X8_lossBy {G : GL} {X : CX} {a0 : Nat} {x1 : Int32} {a2 : Nat} {μ : Mem} {r : Int32} (C : Ctx G X cX8_lossBy 5 RX8 rm_X8_lossBy) (h : X8_lossBy a0 x1 a2 μ = some r) (hret : RtI G 5 X cX8_lossBy 0 0 r μ) : AW G 5 X 0 0 0 [(0, .ref (gZ G + a0)), (1, .int x1), (2, .ref (gZ G + a2))] [] μ := by
  unfold X8_lossBy at h
  refine aw_iconst C 0 dX8_lossBy_0 (by decide) ?_
  refine aw_istore_n C [(3, .int 0), (0, .ref (gZ G + a0)), (1, .int x1), (2, .ref (gZ G + a2))] dX8_lossBy_1 rfl (by decide) rfl ?_
  refine aw_iconst C 0 dX8_lossBy_2 (by decide) ?_
  refine aw_istore C [(4, .int 0), (3, .int 0), (0, .ref (gZ G + a0)), (1, .int x1), (2, .ref (gZ G + a2))] dX8_lossBy_3 (by decide) rfl ?_
  obtain ⟨z1, hz1, h⟩ := bindE h
  refine aw_sub [2, 3, 4, 1, 0] rfl ?_
  refine X8_lossBy_L5_ok C _ _ _ _ _ _ _ _ hz1 ?_
  refine aw_iload_n C 3 dX8_lossBy_41 rfl rfl ?_
  have e9 := inj1 h
  subst e9
  exact hret _ _ dX8_lossBy_42
set_option maxRecDepth 100000 in
set_option maxHeartbeats 4000000 in
theorem mt_X8_lossBy {G : GL} {l : Launch} {a0 : Nat} {x1 : Int32} {a2 : Nat} {μ : Mem} {r : Int32} (h : X8_lossBy a0 x1 a2 μ = some r) : MtI G l yX8_lossBy cX8_lossBy 5 (some .int) rm_X8_lossBy false [.ref (gZ G + a0), .int x1, .ref (gZ G + a2)] μ r μ := met_I (by decide) rfl rfl (Nat.le_of_ble_eq_true rfl) (fun X _ C _ _ hret => wk_X8_lossBy C h hret)
def X9_seamOdds_L4 (a0 : Nat) (x1 : Int32) (μ : Mem) : Nat → Int32 → Int32 → Option (Int32 × Int32)
  | 0, _, _ => none
  | n + 1, x2, x3 =>
      if (4 : Int32) ≤ x3 then
      some ((x2, x3))
      else
      (gI 9 5 a0 μ).bind fun v2 =>
      ((if (X10_contains v2 x3) = 0 then
      some x2
      else
      (gR 9 4 a0 μ).bind fun v4 =>
      (aR 7 v4 x1 μ).bind fun v5 =>
      (aI v5 x3 μ).bind fun v6 =>
      some (x2 + v6)) : Option (Int32)).bind fun z7 =>
      X9_seamOdds_L4 a0 x1 μ n z7 (x3 + 1)
set_option maxRecDepth 100000 in
set_option maxHeartbeats 4000000 in
theorem X9_seamOdds_L4_ok {G : GL} {X : CX} (C : Ctx G X cX9_seamOdds 4 RX9 rm_X9_seamOdds) (a0 : Nat) (x1 : Int32) (μ : Mem) : ∀ (n : Nat) (x2 : Int32) (x3 : Int32) (z : Int32 × Int32), X9_seamOdds_L4 a0 x1 μ n x2 x3 = some z → AW G 4 X 0 0 37 [(0, .ref (gZ G + a0)), (1, .int x1), (2, .int z.1), (3, .int z.2)] [] μ → AW G 4 X 0 0 4 [(0, .ref (gZ G + a0)), (1, .int x1), (2, .int x2), (3, .int x3)] [] μ := by
  intro n
  induction n with
  | zero =>
    intro x2 x3 z h kx
    rw [X9_seamOdds_L4] at h
    cases h
  | succ n ih =>
    intro x2 x3 z h kx
    rw [X9_seamOdds_L4] at h
    refine aw_iload_n C 3 dX9_seamOdds_4 rfl rfl ?_
    refine aw_iconst C 4 dX9_seamOdds_5 (by decide) ?_
    refine aw_icmp_ge C 37 dX9_seamOdds_6 (by decide) (fun c1 => ?_) (fun c1 => ?_)
    · rw [if_pos c1] at h
      have e9 := inj1 h
      subst e9
      exact aw_sub [0, 1, 2, 3] rfl kx
    · rw [if_neg c1] at h
      refine aw_aload_n C 0 dX9_seamOdds_9 rfl rfl ?_
      obtain ⟨v2, hv2, h⟩ := bindE h
      refine aw_gI C fl_X9_50 rfl hv2 dX9_seamOdds_10 ?_
      refine aw_iload_n C 3 dX9_seamOdds_13 rfl rfl ?_
      refine aw_cSN_I C [.int v2, .int x3] _ (mt_X10_contains _ _) cs_X10_contains ml_X9_54 st_X10_contains ⟨by decide, by decide⟩ ⟨rfl, rfl⟩ ⟨Nat.zero_le _, Nat.zero_le _⟩ rfl rfl (Nat.le_of_ble_eq_true rfl) dX9_seamOdds_14 ?_
      obtain ⟨z7, hz7, h⟩ := bindE h
      have kj17 : AW G 4 X 0 0 31 [(0, .ref (gZ G + a0)), (1, .int x1), (2, .int z7), (3, .int x3)] [] μ := by
        refine aw_iinc C (x3 + 1) 3 [(3, .int (x3 + 1)), (0, .ref (gZ G + a0)), (1, .int x1), (2, .int z7)] dX9_seamOdds_31 rfl rfl (by decide) rfl ?_
        refine aw_goto C 4 dX9_seamOdds_34 (by decide) ?_
        exact aw_sub [1, 2, 3, 0] rfl (ih _ _ _ h kx)
      replace h := hz7
      refine aw_if_eq C 31 dX9_seamOdds_17 (by decide) (fun c3 => ?_) (fun c3 => ?_)
      · rw [if_pos c3] at h
        have e9 := inj1 h
        subst e9
        exact aw_sub [0, 1, 2, 3] rfl kj17
      · rw [if_neg c3] at h
        refine aw_iload_n C 2 dX9_seamOdds_20 rfl rfl ?_
        refine aw_aload_n C 0 dX9_seamOdds_21 rfl rfl ?_
        obtain ⟨v4, hv4, h⟩ := bindE h
        refine aw_gR C fl_X9_26 rfl hv4 dX9_seamOdds_22 ?_
        refine aw_iload_n C 1 dX9_seamOdds_25 rfl rfl ?_
        obtain ⟨v5, hv5, h⟩ := bindE h
        refine aw_aR C (by decide) (ty := .array .int) rfl rfl hv5 dX9_seamOdds_26 ?_
        refine aw_iload_n C 3 dX9_seamOdds_27 rfl rfl ?_
        obtain ⟨v6, hv6, h⟩ := bindE h
        refine aw_aI C hv6 dX9_seamOdds_28 ?_
        refine aw_iadd C dX9_seamOdds_29 ?_
        refine aw_istore_n C [(2, .int (x2 + v6)), (0, .ref (gZ G + a0)), (1, .int x1), (3, .int x3)] dX9_seamOdds_30 rfl (by decide) rfl ?_
        have e9 := inj1 h
        subst e9
        exact aw_sub [1, 2, 0, 3] rfl kj17
def X9_seamOdds (a0 : Nat) (x1 : Int32) (μ : Mem) : Option Int32 :=
  (X9_seamOdds_L4 a0 x1 μ FU 0 0).bind fun z1 =>
  some (z1.1)
set_option maxRecDepth 100000 in
set_option maxHeartbeats 4000000 in
theorem wk_X9_seamOdds {G : GL} {X : CX} {a0 : Nat} {x1 : Int32} {μ : Mem} {r : Int32} (C : Ctx G X cX9_seamOdds 4 RX9 rm_X9_seamOdds) (h : X9_seamOdds a0 x1 μ = some r) (hret : RtI G 4 X cX9_seamOdds 0 0 r μ) : AW G 4 X 0 0 0 [(0, .ref (gZ G + a0)), (1, .int x1)] [] μ := by
  unfold X9_seamOdds at h
  refine aw_iconst C 0 dX9_seamOdds_0 (by decide) ?_
  refine aw_istore_n C [(2, .int 0), (0, .ref (gZ G + a0)), (1, .int x1)] dX9_seamOdds_1 rfl (by decide) rfl ?_
  refine aw_iconst C 0 dX9_seamOdds_2 (by decide) ?_
  refine aw_istore_n C [(3, .int 0), (2, .int 0), (0, .ref (gZ G + a0)), (1, .int x1)] dX9_seamOdds_3 rfl (by decide) rfl ?_
  obtain ⟨z1, hz1, h⟩ := bindE h
  refine aw_sub [2, 3, 1, 0] rfl ?_
  refine X9_seamOdds_L4_ok C _ _ _ _ _ _ _ hz1 ?_
  refine aw_iload_n C 2 dX9_seamOdds_37 rfl rfl ?_
  have e9 := inj1 h
  subst e9
  exact hret _ _ dX9_seamOdds_38
set_option maxRecDepth 100000 in
set_option maxHeartbeats 4000000 in
theorem mt_X9_seamOdds {G : GL} {l : Launch} {a0 : Nat} {x1 : Int32} {μ : Mem} {r : Int32} (h : X9_seamOdds a0 x1 μ = some r) : MtI G l yX9_seamOdds cX9_seamOdds 4 (some .int) rm_X9_seamOdds false [.ref (gZ G + a0), .int x1] μ r μ := met_I (by decide) rfl rfl (Nat.le_of_ble_eq_true rfl) (fun X _ C _ _ hret => wk_X9_seamOdds C h hret)
def X6_isMust (a0 : Nat) (μ : Mem) : Option Int32 :=
  (gI 6 1 a0 μ).bind fun v1 =>
  ((if v1 = 0 then
  some 1
  else
  (gI 6 1 a0 μ).bind fun v3 =>
  if v3 = 3 then
  some 1
  else
  some 0) : Option (Int32)).bind fun z5 =>
  (zz z5).bind fun v6 =>
  some v6
set_option maxRecDepth 100000 in
set_option maxHeartbeats 4000000 in
theorem wk_X6_isMust {G : GL} {X : CX} {a0 : Nat} {μ : Mem} {r : Int32} (C : Ctx G X cX6_isMust 1 RX6 rm_X6_isMust) (h : X6_isMust a0 μ = some r) (hret : RtZ G 1 X cX6_isMust 0 0 r μ) : AW G 1 X 0 0 0 [(0, .ref (gZ G + a0))] [] μ := by
  unfold X6_isMust at h
  refine aw_aload_n C 0 dX6_isMust_0 rfl rfl ?_
  obtain ⟨v1, hv1, h⟩ := bindE h
  refine aw_gI C fl_X6_34 rfl hv1 dX6_isMust_1 ?_
  obtain ⟨z5, hz5, h⟩ := bindE h
  have kj4 : AW G 1 X 0 0 20 [] [.int z5] μ := by
    obtain ⟨v6, hv6, h⟩ := bindE h
    obtain ⟨ev6, zv6⟩ := zzE hv6
    refine aw_topi ev6 ?_
    have e9 := inj1 h
    subst e9
    exact hret _ _ dX6_isMust_20 zv6
  replace h := hz5
  refine aw_if_eq C 15 dX6_isMust_4 (by decide) (fun c2 => ?_) (fun c2 => ?_)
  · rw [if_pos c2] at h
    refine aw_iconst C 1 dX6_isMust_15 (by decide) ?_
    refine aw_goto C 20 dX6_isMust_16 (by decide) ?_
    have e9 := inj1 h
    subst e9
    exact aw_sub [] rfl kj4
  · rw [if_neg c2] at h
    refine aw_aload_n C 0 dX6_isMust_7 rfl rfl ?_
    obtain ⟨v3, hv3, h⟩ := bindE h
    refine aw_gI C fl_X6_34 rfl hv3 dX6_isMust_8 ?_
    refine aw_iconst C 3 dX6_isMust_11 (by decide) ?_
    refine aw_icmp_ne C 19 dX6_isMust_12 (by decide) (fun c4 => ?_) (fun c4 => ?_)
    · rw [if_neg c4] at h
      refine aw_iconst C 0 dX6_isMust_19 (by decide) ?_
      have e9 := inj1 h
      subst e9
      exact aw_sub [] rfl kj4
    · rw [if_pos c4] at h
      refine aw_iconst C 1 dX6_isMust_15 (by decide) ?_
      refine aw_goto C 20 dX6_isMust_16 (by decide) ?_
      have e9 := inj1 h
      subst e9
      exact aw_sub [] rfl kj4
set_option maxRecDepth 100000 in
set_option maxHeartbeats 4000000 in
theorem mt_X6_isMust {G : GL} {l : Launch} {a0 : Nat} {μ : Mem} {r : Int32} (h : X6_isMust a0 μ = some r) : MtI G l yX6_isMust cX6_isMust 1 (some .boolean) rm_X6_isMust false [.ref (gZ G + a0)] μ r μ := met_Z (by decide) rfl (Nat.le_of_ble_eq_true rfl) (fun X _ C _ _ hret => wk_X6_isMust C h hret)
def X6_valueIn (a0 : Nat) (x1 : Int32) (x2 : Int32) (μ : Mem) : Option Int32 :=
  (gI 6 8 a0 μ).bind fun v1 =>
  if v1 = 0 then
  (gI 6 6 a0 μ).bind fun v3 =>
  if x1 ≤ v3 then
  (gI 6 4 a0 μ).bind fun v5 =>
  (gI 6 5 a0 μ).bind fun v6 =>
  (gI 6 7 a0 μ).bind fun v7 =>
  (some (if (0 : Int32) < (v5 - (v6 * (x1 - v7))) then v5 - (v6 * (x1 - v7)) else 0 : Int32)).bind fun v8 =>
  (gI 6 1 a0 μ).bind fun v9 =>
  ((if v9 = 2 then
  (dvJ (v8.toInt64 * x2.toInt64) 1000000).bind fun v11 =>
  some v11.toInt32
  else
  some v8) : Option (Int32)).bind fun z12 =>
  some (z12)
  else
  some (0)
  else
  some (0)
set_option maxRecDepth 100000 in
set_option maxHeartbeats 4000000 in
theorem wk_X6_valueIn {G : GL} {X : CX} {a0 : Nat} {x1 : Int32} {x2 : Int32} {μ : Mem} {r : Int32} (C : Ctx G X cX6_valueIn 4 RX6 rm_X6_valueIn) (h : X6_valueIn a0 x1 x2 μ = some r) (hret : RtI G 4 X cX6_valueIn 0 0 r μ) : AW G 4 X 0 0 0 [(0, .ref (gZ G + a0)), (1, .int x1), (2, .int x2)] [] μ := by
  unfold X6_valueIn at h
  refine aw_aload_n C 0 dX6_valueIn_0 rfl rfl ?_
  obtain ⟨v1, hv1, h⟩ := bindE h
  refine aw_gI C fl_X6_9 rfl hv1 dX6_valueIn_1 ?_
  refine aw_if_ne C 15 dX6_valueIn_4 (by decide) (fun c2 => ?_) (fun c2 => ?_)
  · rw [if_neg c2] at h
    refine aw_iconst C 0 dX6_valueIn_15 (by decide) ?_
    have e9 := inj1 h
    subst e9
    exact hret _ _ dX6_valueIn_16
  · rw [if_pos c2] at h
    refine aw_iload_n C 1 dX6_valueIn_7 rfl rfl ?_
    refine aw_aload_n C 0 dX6_valueIn_8 rfl rfl ?_
    obtain ⟨v3, hv3, h⟩ := bindE h
    refine aw_gI C fl_X6_15 rfl hv3 dX6_valueIn_9 ?_
    refine aw_icmp_le C 17 dX6_valueIn_12 (by decide) (fun c4 => ?_) (fun c4 => ?_)
    · rw [if_pos c4] at h
      refine aw_iconst C 0 dX6_valueIn_17 (by decide) ?_
      refine aw_aload_n C 0 dX6_valueIn_18 rfl rfl ?_
      obtain ⟨v5, hv5, h⟩ := bindE h
      refine aw_gI C fl_X6_19 rfl hv5 dX6_valueIn_19 ?_
      refine aw_aload_n C 0 dX6_valueIn_22 rfl rfl ?_
      obtain ⟨v6, hv6, h⟩ := bindE h
      refine aw_gI C fl_X6_22 rfl hv6 dX6_valueIn_23 ?_
      refine aw_iload_n C 1 dX6_valueIn_26 rfl rfl ?_
      refine aw_aload_n C 0 dX6_valueIn_27 rfl rfl ?_
      obtain ⟨v7, hv7, h⟩ := bindE h
      refine aw_gI C fl_X6_25 rfl hv7 dX6_valueIn_28 ?_
      refine aw_isub C dX6_valueIn_31 ?_
      refine aw_imul C dX6_valueIn_32 ?_
      refine aw_isub C dX6_valueIn_33 ?_
      refine aw_mmax C ml_X6_28 (by decide) (by decide) ⟨Nat.zero_le _, Nat.zero_le _⟩ (Nat.le_of_ble_eq_true rfl) dX6_valueIn_34 ?_
      obtain ⟨v8, ev8, h⟩ := bindS h
      refine aw_topi ev8 ?_
      refine aw_istore_n C [(3, .int v8), (0, .ref (gZ G + a0)), (1, .int x1), (2, .int x2)] dX6_valueIn_37 rfl (by decide) rfl ?_
      refine aw_aload_n C 1 dX6_valueIn_38 rfl rfl ?_
      obtain ⟨v9, hv9, h⟩ := bindE h
      refine aw_gI C fl_X6_34 rfl hv9 dX6_valueIn_39 ?_
      refine aw_iconst C 2 dX6_valueIn_42 (by decide) ?_
      obtain ⟨z12, hz12, h⟩ := bindE h
      have kj43 : AW G 4 X 0 0 60 [] [.int z12] μ := by
        have e9 := inj1 h
        subst e9
        exact hret _ _ dX6_valueIn_60
      replace h := hz12
      refine aw_icmp_ne C 59 dX6_valueIn_43 (by decide) (fun c10 => ?_) (fun c10 => ?_)
      · rw [if_neg c10] at h
        refine aw_iload_n C 0 dX6_valueIn_59 rfl rfl ?_
        have e9 := inj1 h
        subst e9
        exact aw_sub [] rfl kj43
      · rw [if_pos c10] at h
        refine aw_iload_n C 0 dX6_valueIn_46 rfl rfl ?_
        refine aw_i2l C dX6_valueIn_47 ?_
        refine aw_iload_n C 3 dX6_valueIn_48 rfl rfl ?_
        refine aw_i2l C dX6_valueIn_49 ?_
        refine aw_lmul C dX6_valueIn_50 ?_
        refine aw_ldc2 C kl_X6_37 dX6_valueIn_51 ?_
        obtain ⟨v11, hv11, h⟩ := bindE h
        refine aw_ldiv C hv11 dX6_valueIn_54 ?_
        refine aw_l2i C dX6_valueIn_55 ?_
        refine aw_goto C 60 dX6_valueIn_56 (by decide) ?_
        have e9 := inj1 h
        subst e9
        exact aw_sub [] rfl kj43
    · rw [if_neg c4] at h
      refine aw_iconst C 0 dX6_valueIn_15 (by decide) ?_
      have e9 := inj1 h
      subst e9
      exact hret _ _ dX6_valueIn_16
set_option maxRecDepth 100000 in
set_option maxHeartbeats 4000000 in
theorem mt_X6_valueIn {G : GL} {l : Launch} {a0 : Nat} {x1 : Int32} {x2 : Int32} {μ : Mem} {r : Int32} (h : X6_valueIn a0 x1 x2 μ = some r) : MtI G l yX6_valueIn cX6_valueIn 4 (some .int) rm_X6_valueIn false [.ref (gZ G + a0), .int x1, .int x2] μ r μ := met_I (by decide) rfl rfl (Nat.le_of_ble_eq_true rfl) (fun X _ C _ _ hret => wk_X6_valueIn C h hret)
def X6_planValueIn (a0 : Nat) (x1 : Int32) (x2 : Int32) (μ : Mem) : Option Int32 :=
  (vO 6 a0 μ).bind fun g1 =>
  (X6_isMust a0 μ).bind fun v2 =>
  ((if v2 = 0 then
  some 0
  else
  (gI 6 6 a0 μ).bind fun v4 =>
  if v4 < x1 then
  some 0
  else
  some 2000) : Option (Int32)).bind fun z6 =>
  (vO 6 a0 μ).bind fun g7 =>
  (X6_valueIn a0 x1 x2 μ).bind fun v8 =>
  some (v8 + z6)
set_option maxRecDepth 100000 in
set_option maxHeartbeats 4000000 in
theorem wk_X6_planValueIn {G : GL} {X : CX} {a0 : Nat} {x1 : Int32} {x2 : Int32} {μ : Mem} {r : Int32} (C : Ctx G X cX6_planValueIn 4 RX6 rm_X6_planValueIn) (h : X6_planValueIn a0 x1 x2 μ = some r) (hret : RtI G 4 X cX6_planValueIn 0 0 r μ) : AW G 4 X 0 0 0 [(0, .ref (gZ G + a0)), (1, .int x1), (2, .int x2)] [] μ := by
  unfold X6_planValueIn at h
  refine aw_aload_n C 0 dX6_planValueIn_0 rfl rfl ?_
  obtain ⟨g1, hg1, h⟩ := bindE h
  obtain ⟨v2, hv2, h⟩ := bindE h
  refine aw_cV_I C [] _ (mt_X6_isMust hv2) cs_X6_isMust ml_X6_39 im_X6_isMust se_X6_isMust (ci := 6) rfl rfl hg1 ⟨by decide, by decide⟩ ⟨rfl, rfl⟩ ⟨Nat.zero_le _, Nat.zero_le _⟩ rfl rfl (Nat.le_of_ble_eq_true rfl) dX6_planValueIn_1 ?_
  obtain ⟨z6, hz6, h⟩ := bindE h
  have kj4 : AW G 4 X 0 0 22 [(0, .ref (gZ G + a0)), (1, .int x1), (2, .int x2)] [.int z6] μ := by
    refine aw_istore_n C [(3, .int z6), (0, .ref (gZ G + a0)), (1, .int x1), (2, .int x2)] dX6_planValueIn_22 rfl (by decide) rfl ?_
    refine aw_aload_n C 1 dX6_planValueIn_23 rfl rfl ?_
    refine aw_iload_n C 2 dX6_planValueIn_24 rfl rfl ?_
    refine aw_iload_n C 3 dX6_planValueIn_25 rfl rfl ?_
    obtain ⟨g7, hg7, h⟩ := bindE h
    obtain ⟨v8, hv8, h⟩ := bindE h
    refine aw_cV_I C [.int x1, .int x2] _ (mt_X6_valueIn hv8) cs_X6_valueIn ml_X6_43 im_X6_valueIn se_X6_valueIn (ci := 6) rfl rfl hg7 ⟨by decide, by decide⟩ ⟨rfl, rfl⟩ ⟨Nat.zero_le _, Nat.zero_le _⟩ rfl rfl (Nat.le_of_ble_eq_true rfl) dX6_planValueIn_26 ?_
    refine aw_iload_n C 0 dX6_planValueIn_29 rfl rfl ?_
    refine aw_iadd C dX6_planValueIn_30 ?_
    have e9 := inj1 h
    subst e9
    exact hret _ _ dX6_planValueIn_31
  replace h := hz6
  refine aw_if_eq C 21 dX6_planValueIn_4 (by decide) (fun c3 => ?_) (fun c3 => ?_)
  · rw [if_pos c3] at h
    refine aw_iconst C 0 dX6_planValueIn_21 (by decide) ?_
    have e9 := inj1 h
    subst e9
    exact aw_sub [0, 1, 2] rfl kj4
  · rw [if_neg c3] at h
    refine aw_iload_n C 1 dX6_planValueIn_7 rfl rfl ?_
    refine aw_aload_n C 0 dX6_planValueIn_8 rfl rfl ?_
    obtain ⟨v4, hv4, h⟩ := bindE h
    refine aw_gI C fl_X6_15 rfl hv4 dX6_planValueIn_9 ?_
    refine aw_icmp_gt C 21 dX6_planValueIn_12 (by decide) (fun c5 => ?_) (fun c5 => ?_)
    · rw [if_pos c5] at h
      refine aw_iconst C 0 dX6_planValueIn_21 (by decide) ?_
      have e9 := inj1 h
      subst e9
      exact aw_sub [0, 1, 2] rfl kj4
    · rw [if_neg c5] at h
      refine aw_sipush C 2000 dX6_planValueIn_15 (by decide) ?_
      refine aw_goto C 22 dX6_planValueIn_18 (by decide) ?_
      have e9 := inj1 h
      subst e9
      exact aw_sub [0, 1, 2] rfl kj4
set_option maxRecDepth 100000 in
set_option maxHeartbeats 4000000 in
theorem mt_X6_planValueIn {G : GL} {l : Launch} {a0 : Nat} {x1 : Int32} {x2 : Int32} {μ : Mem} {r : Int32} (h : X6_planValueIn a0 x1 x2 μ = some r) : MtI G l yX6_planValueIn cX6_planValueIn 4 (some .int) rm_X6_planValueIn false [.ref (gZ G + a0), .int x1, .int x2] μ r μ := met_I (by decide) rfl rfl (Nat.le_of_ble_eq_true rfl) (fun X _ C _ _ hret => wk_X6_planValueIn C h hret)
def X4_priceSet_L27 (a0 : Nat) (x1 : Int32) (x2 : Int32) : Nat → Int32 → Mem → Option (Int32 × Mem)
  | 0, _, _ => none
  | n + 1, x3, μ =>
      if (4 : Int32) ≤ x3 then
      some ((x3, μ))
      else
      (gR 4 10 a0 μ).bind fun v2 =>
      (aI v2 x2 μ).bind fun v3 =>
      (gR 4 4 a0 μ).bind fun v4 =>
      (gR 8 1 v4 μ).bind fun v5 =>
      (aI v5 x3 μ).bind fun v6 =>
      (dvI (v3 * v6) 100).bind fun v7 =>
      (gR 4 11 a0 μ).bind fun v8 =>
      (aI v8 x3 μ).bind fun v9 =>
      (some (v7 - v9 : Int32)).bind fun v10 =>
      (gR 4 12 a0 μ).bind fun v11 =>
      (aI v11 x1 μ).bind fun v12 =>
      ((if v10 ≤ v12 then
      some μ
      else
      (gR 4 6 a0 μ).bind fun v14 =>
      (gR 4 8 a0 μ).bind fun v15 =>
      (aI v15 x2 μ).bind fun v16 =>
      (vO 1 v14 μ).bind fun g17 =>
      (X1_bar v14 v16 x3 0 μ).bind fun v18 =>
      if v18 = 0 then
      (gR 4 12 a0 μ).bind fun v20 =>
      (sI v20 x1 v10 μ).bind fun μ21 =>
      (gR 4 13 a0 μ21).bind fun v22 =>
      (sI v22 x1 x3 μ21).bind fun μ23 =>
      some μ23
      else
      some μ) : Option (Mem)).bind fun z24 =>
      X4_priceSet_L27 a0 x1 x2 n (x3 + 1) z24
set_option maxRecDepth 100000 in
set_option maxHeartbeats 4000000 in
theorem X4_priceSet_L27_ok {G : GL} {X : CX} (C : Ctx G X cX4_priceSet 5 RX4 rm_X4_priceSet) (a0 : Nat) (x1 : Int32) (x2 : Int32) : ∀ (n : Nat) (x3 : Int32) (μ : Mem) (z : Int32 × Mem), X4_priceSet_L27 a0 x1 x2 n x3 μ = some z → AW G 5 X 0 0 110 [(0, .ref (gZ G + a0)), (1, .int x1), (2, .int x2), (3, .int z.1)] [] z.2 → AW G 5 X 0 0 27 [(0, .ref (gZ G + a0)), (1, .int x1), (2, .int x2), (3, .int x3)] [] μ := by
  intro n
  induction n with
  | zero =>
    intro x3 μ z h kx
    rw [X4_priceSet_L27] at h
    cases h
  | succ n ih =>
    intro x3 μ z h kx
    rw [X4_priceSet_L27] at h
    refine aw_iload_n C 3 dX4_priceSet_27 rfl rfl ?_
    refine aw_iconst C 4 dX4_priceSet_28 (by decide) ?_
    refine aw_icmp_ge C 110 dX4_priceSet_29 (by decide) (fun c1 => ?_) (fun c1 => ?_)
    · rw [if_pos c1] at h
      have e9 := inj1 h
      subst e9
      exact aw_sub [0, 1, 2, 3] rfl kx
    · rw [if_neg c1] at h
      refine aw_aload_n C 0 dX4_priceSet_32 rfl rfl ?_
      obtain ⟨v2, hv2, h⟩ := bindE h
      refine aw_gR C fl_X4_34 rfl hv2 dX4_priceSet_33 ?_
      refine aw_iload_n C 2 dX4_priceSet_36 rfl rfl ?_
      obtain ⟨v3, hv3, h⟩ := bindE h
      refine aw_aI C hv3 dX4_priceSet_37 ?_
      refine aw_aload_n C 0 dX4_priceSet_38 rfl rfl ?_
      obtain ⟨v4, hv4, h⟩ := bindE h
      refine aw_gR C fl_X4_56 rfl hv4 dX4_priceSet_39 ?_
      obtain ⟨v5, hv5, h⟩ := bindE h
      refine aw_gR C fl_X4_167 rfl hv5 dX4_priceSet_42 ?_
      refine aw_iload_n C 3 dX4_priceSet_45 rfl rfl ?_
      obtain ⟨v6, hv6, h⟩ := bindE h
      refine aw_aI C hv6 dX4_priceSet_46 ?_
      refine aw_imul C dX4_priceSet_47 ?_
      refine aw_bipush C 100 dX4_priceSet_48 (by decide) ?_
      obtain ⟨v7, hv7, h⟩ := bindE h
      refine aw_idiv C hv7 dX4_priceSet_50 ?_
      refine aw_aload_n C 0 dX4_priceSet_51 rfl rfl ?_
      obtain ⟨v8, hv8, h⟩ := bindE h
      refine aw_gR C fl_X4_37 rfl hv8 dX4_priceSet_52 ?_
      refine aw_iload_n C 3 dX4_priceSet_55 rfl rfl ?_
      obtain ⟨v9, hv9, h⟩ := bindE h
      refine aw_aI C hv9 dX4_priceSet_56 ?_
      refine aw_isub C dX4_priceSet_57 ?_
      obtain ⟨v10, ev10, h⟩ := bindS h
      refine aw_topi ev10 ?_
      refine aw_istore C [(4, .int v10), (0, .ref (gZ G + a0)), (1, .int x1), (2, .int x2), (3, .int x3)] dX4_priceSet_58 (by decide) rfl ?_
      refine aw_iload C 0 dX4_priceSet_60 rfl ?_
      refine aw_aload_n C 1 dX4_priceSet_62 rfl rfl ?_
      obtain ⟨v11, hv11, h⟩ := bindE h
      refine aw_gR C fl_X4_40 rfl hv11 dX4_priceSet_63 ?_
      refine aw_iload_n C 2 dX4_priceSet_66 rfl rfl ?_
      obtain ⟨v12, hv12, h⟩ := bindE h
      refine aw_aI C hv12 dX4_priceSet_67 ?_
      obtain ⟨z24, hz24, h⟩ := bindE h
      have kj68 : AW G 5 X 0 0 104 [(0, .ref (gZ G + a0)), (1, .int x1), (2, .int x2), (3, .int x3)] [] z24 := by
        refine aw_iinc C (x3 + 1) 3 [(3, .int (x3 + 1)), (0, .ref (gZ G + a0)), (1, .int x1), (2, .int x2)] dX4_priceSet_104 rfl rfl (by decide) rfl ?_
        refine aw_goto C 27 dX4_priceSet_107 (by decide) ?_
        exact aw_sub [1, 2, 3, 0] rfl (ih _ _ _ h kx)
      replace h := hz24
      refine aw_icmp_le C 104 dX4_priceSet_68 (by decide) (fun c13 => ?_) (fun c13 => ?_)
      · rw [if_pos c13] at h
        have e9 := inj1 h
        subst e9
        exact aw_sub [1, 2, 3, 4] rfl kj68
      · rw [if_neg c13] at h
        refine aw_aload_n C 1 dX4_priceSet_71 rfl rfl ?_
        obtain ⟨v14, hv14, h⟩ := bindE h
        refine aw_gR C fl_X4_21 rfl hv14 dX4_priceSet_72 ?_
        refine aw_aload_n C 1 dX4_priceSet_75 rfl rfl ?_
        obtain ⟨v15, hv15, h⟩ := bindE h
        refine aw_gR C fl_X4_28 rfl hv15 dX4_priceSet_76 ?_
        refine aw_iload_n C 3 dX4_priceSet_79 rfl rfl ?_
        obtain ⟨v16, hv16, h⟩ := bindE h
        refine aw_aI C hv16 dX4_priceSet_80 ?_
        refine aw_iload_n C 4 dX4_priceSet_81 rfl rfl ?_
        refine aw_iconst C 0 dX4_priceSet_82 (by decide) ?_
        obtain ⟨g17, hg17, h⟩ := bindE h
        obtain ⟨v18, hv18, h⟩ := bindE h
        refine aw_cV_I C [.int v16, .int x3, .int 0] _ (mt_X1_bar hv18) cs_X1_bar ml_X4_170 im_X1_bar se_X1_bar (ci := 1) rfl rfl hg17 ⟨by decide, by decide⟩ ⟨rfl, rfl⟩ ⟨Nat.zero_le _, Nat.zero_le _⟩ rfl rfl (Nat.le_of_ble_eq_true rfl) dX4_priceSet_83 ?_
        refine aw_if_ne C 104 dX4_priceSet_86 (by decide) (fun c19 => ?_) (fun c19 => ?_)
        · rw [if_neg c19] at h
          have e9 := inj1 h
          subst e9
          exact aw_sub [1, 2, 3, 4] rfl kj68
        · rw [if_pos c19] at h
          refine aw_aload_n C 1 dX4_priceSet_89 rfl rfl ?_
          obtain ⟨v20, hv20, h⟩ := bindE h
          refine aw_gR C fl_X4_40 rfl hv20 dX4_priceSet_90 ?_
          refine aw_iload_n C 2 dX4_priceSet_93 rfl rfl ?_
          refine aw_iload C 0 dX4_priceSet_94 rfl ?_
          obtain ⟨μ21, hμ21, h⟩ := bindE h
          refine aw_sI C hμ21 dX4_priceSet_96 ?_
          refine aw_aload_n C 1 dX4_priceSet_97 rfl rfl ?_
          obtain ⟨v22, hv22, h⟩ := bindE h
          refine aw_gR C fl_X4_43 rfl hv22 dX4_priceSet_98 ?_
          refine aw_iload_n C 2 dX4_priceSet_101 rfl rfl ?_
          refine aw_iload_n C 4 dX4_priceSet_102 rfl rfl ?_
          obtain ⟨μ23, hμ23, h⟩ := bindE h
          refine aw_sI C hμ23 dX4_priceSet_103 ?_
          have e9 := inj1 h
          subst e9
          exact aw_sub [1, 2, 3, 4] rfl kj68
def X4_priceSet (a0 : Nat) (x1 : Int32) (x2 : Int32) (μ : Mem) : Option Mem :=
  (gR 4 12 a0 μ).bind fun v1 =>
  (sI v1 x1 0 μ).bind fun μ2 =>
  (gR 4 13 a0 μ2).bind fun v3 =>
  (sI v3 x1 ((-1)) μ2).bind fun μ4 =>
  (gR 4 9 a0 μ4).bind fun v5 =>
  (aI v5 x2 μ4).bind fun v6 =>
  if v6 = ((-1)) then
  some μ4
  else
  (X4_priceSet_L27 a0 x1 x2 FU 0 μ4).bind fun z8 =>
  some z8.2
set_option maxRecDepth 100000 in
set_option maxHeartbeats 4000000 in
theorem wk_X4_priceSet {G : GL} {X : CX} {a0 : Nat} {x1 : Int32} {x2 : Int32} {μ : Mem} {μ' : Mem} (C : Ctx G X cX4_priceSet 5 RX4 rm_X4_priceSet) (h : X4_priceSet a0 x1 x2 μ = some μ') (hret : RtV G 5 X cX4_priceSet 0 0 μ') : AW G 5 X 0 0 0 [(0, .ref (gZ G + a0)), (1, .int x1), (2, .int x2)] [] μ := by
  unfold X4_priceSet at h
  refine aw_aload_n C 0 dX4_priceSet_0 rfl rfl ?_
  obtain ⟨v1, hv1, h⟩ := bindE h
  refine aw_gR C fl_X4_40 rfl hv1 dX4_priceSet_1 ?_
  refine aw_iload_n C 1 dX4_priceSet_4 rfl rfl ?_
  refine aw_iconst C 0 dX4_priceSet_5 (by decide) ?_
  obtain ⟨μ2, hμ2, h⟩ := bindE h
  refine aw_sI C hμ2 dX4_priceSet_6 ?_
  refine aw_aload_n C 0 dX4_priceSet_7 rfl rfl ?_
  obtain ⟨v3, hv3, h⟩ := bindE h
  refine aw_gR C fl_X4_43 rfl hv3 dX4_priceSet_8 ?_
  refine aw_iload_n C 1 dX4_priceSet_11 rfl rfl ?_
  refine aw_iconst C ((-1)) dX4_priceSet_12 (by decide) ?_
  obtain ⟨μ4, hμ4, h⟩ := bindE h
  refine aw_sI C hμ4 dX4_priceSet_13 ?_
  refine aw_aload_n C 0 dX4_priceSet_14 rfl rfl ?_
  obtain ⟨v5, hv5, h⟩ := bindE h
  refine aw_gR C fl_X4_31 rfl hv5 dX4_priceSet_15 ?_
  refine aw_iload_n C 2 dX4_priceSet_18 rfl rfl ?_
  obtain ⟨v6, hv6, h⟩ := bindE h
  refine aw_aI C hv6 dX4_priceSet_19 ?_
  refine aw_iconst C ((-1)) dX4_priceSet_20 (by decide) ?_
  refine aw_icmp_ne C 25 dX4_priceSet_21 (by decide) (fun c7 => ?_) (fun c7 => ?_)
  · rw [if_neg c7] at h
    refine aw_iconst C 0 dX4_priceSet_25 (by decide) ?_
    refine aw_istore_n C [(3, .int 0), (0, .ref (gZ G + a0)), (1, .int x1), (2, .int x2)] dX4_priceSet_26 rfl (by decide) rfl ?_
    obtain ⟨z8, hz8, h⟩ := bindE h
    refine aw_sub [1, 2, 3, 0] rfl ?_
    refine X4_priceSet_L27_ok C _ _ _ _ _ _ _ hz8 ?_
    have e9 := inj1 h
    subst e9
    exact hret _ _ dX4_priceSet_110
  · rw [if_pos c7] at h
    have e9 := inj1 h
    subst e9
    exact hret _ _ dX4_priceSet_24
set_option maxRecDepth 100000 in
set_option maxHeartbeats 4000000 in
theorem mt_X4_priceSet {G : GL} {l : Launch} {a0 : Nat} {x1 : Int32} {x2 : Int32} {μ : Mem} {μ' : Mem} (h : X4_priceSet a0 x1 x2 μ = some μ') : MtV G l yX4_priceSet cX4_priceSet 5 none rm_X4_priceSet false [.ref (gZ G + a0), .int x1, .int x2] μ μ' := met_V (by decide) rfl (Nat.le_of_ble_eq_true rfl) (fun X _ C _ _ hret => wk_X4_priceSet C h hret)
def X4_price_L25 (a0 : Nat) (x1 : Int32) (x2 : Int32) : Nat → Int32 → Mem → Option (Int32 × Mem)
  | 0, _, _ => none
  | n + 1, x4, μ =>
      if (4 : Int32) ≤ x4 then
      some ((x4, μ))
      else
      (gR 4 11 a0 μ).bind fun v2 =>
      (gR 4 4 a0 μ).bind fun v3 =>
      (gR 4 3 a0 μ).bind fun v4 =>
      (gR 9 4 v4 μ).bind fun v5 =>
      (aR 7 v5 x1 μ).bind fun v6 =>
      (vO 8 v3 μ).bind fun g7 =>
      (X8_lossBy v3 x4 v6 μ).bind fun v8 =>
      (sI v2 x4 v8 μ).bind fun μ9 =>
      X4_price_L25 a0 x1 x2 n (x4 + 1) μ9
set_option maxRecDepth 100000 in
set_option maxHeartbeats 4000000 in
theorem X4_price_L25_ok {G : GL} {X : CX} (C : Ctx G X cX4_price 7 RX4 rm_X4_price) (a0 : Nat) (x1 : Int32) (x2 : Int32) : ∀ (n : Nat) (x4 : Int32) (μ : Mem) (z : Int32 × Mem), X4_price_L25 a0 x1 x2 n x4 μ = some z → AW G 7 X 0 0 62 [(0, .ref (gZ G + a0)), (1, .int x1), (2, .int x2), (4, .int z.1)] [] z.2 → AW G 7 X 0 0 25 [(0, .ref (gZ G + a0)), (1, .int x1), (2, .int x2), (4, .int x4)] [] μ := by
  intro n
  induction n with
  | zero =>
    intro x4 μ z h kx
    rw [X4_price_L25] at h
    cases h
  | succ n ih =>
    intro x4 μ z h kx
    rw [X4_price_L25] at h
    refine aw_iload C 3 dX4_price_25 rfl ?_
    refine aw_iconst C 4 dX4_price_27 (by decide) ?_
    refine aw_icmp_ge C 62 dX4_price_28 (by decide) (fun c1 => ?_) (fun c1 => ?_)
    · rw [if_pos c1] at h
      have e9 := inj1 h
      subst e9
      exact aw_sub [0, 1, 2, 3] rfl kx
    · rw [if_neg c1] at h
      refine aw_aload_n C 0 dX4_price_31 rfl rfl ?_
      obtain ⟨v2, hv2, h⟩ := bindE h
      refine aw_gR C fl_X4_37 rfl hv2 dX4_price_32 ?_
      refine aw_iload C 3 dX4_price_35 rfl ?_
      refine aw_aload_n C 0 dX4_price_37 rfl rfl ?_
      obtain ⟨v3, hv3, h⟩ := bindE h
      refine aw_gR C fl_X4_56 rfl hv3 dX4_price_38 ?_
      refine aw_iload C 3 dX4_price_41 rfl ?_
      refine aw_aload_n C 0 dX4_price_43 rfl rfl ?_
      obtain ⟨v4, hv4, h⟩ := bindE h
      refine aw_gR C fl_X4_52 rfl hv4 dX4_price_44 ?_
      obtain ⟨v5, hv5, h⟩ := bindE h
      refine aw_gR C fl_X4_143 rfl hv5 dX4_price_47 ?_
      refine aw_iload_n C 1 dX4_price_50 rfl rfl ?_
      obtain ⟨v6, hv6, h⟩ := bindE h
      refine aw_aR C (by decide) (ty := .array .int) rfl rfl hv6 dX4_price_51 ?_
      obtain ⟨g7, hg7, h⟩ := bindE h
      obtain ⟨v8, hv8, h⟩ := bindE h
      refine aw_cV_I C [.int x4, .ref (gZ G + v6)] _ (mt_X8_lossBy hv8) cs_X8_lossBy ml_X4_151 im_X8_lossBy se_X8_lossBy (ci := 8) rfl rfl hg7 ⟨by decide, by decide⟩ ⟨rfl, rfl⟩ ⟨Nat.zero_le _, Nat.zero_le _⟩ rfl rfl (Nat.le_of_ble_eq_true rfl) dX4_price_52 ?_
      obtain ⟨μ9, hμ9, h⟩ := bindE h
      refine aw_sI C hμ9 dX4_price_55 ?_
      refine aw_iinc C (x4 + 1) 3 [(4, .int (x4 + 1)), (0, .ref (gZ G + a0)), (1, .int x1), (2, .int x2)] dX4_price_56 rfl rfl (by decide) rfl ?_
      refine aw_goto C 25 dX4_price_59 (by decide) ?_
      exact aw_sub [1, 2, 3, 0] rfl (ih _ _ _ h kx)
def X4_price_L113 (a0 : Nat) (x1 : Int32) (x2 : Int32) (x4 : Int32) (x5 : Int32) : Nat → Int32 → Mem → Option (Int32 × Mem)
  | 0, _, _ => none
  | n + 1, x6, μ =>
      if ((1 : Int32) <<< (x4 &&& 31)) ≤ x6 then
      some ((x6, μ))
      else
      (gR 4 10 a0 μ).bind fun v2 =>
      (gR 4 10 a0 μ).bind fun v3 =>
      (aI v3 x6 μ).bind fun v4 =>
      (sI v2 (x6 ||| (1 <<< (x4 &&& 31))) (v4 + x5) μ).bind fun μ5 =>
      X4_price_L113 a0 x1 x2 x4 x5 n (x6 + 1) μ5
set_option maxRecDepth 100000 in
set_option maxHeartbeats 4000000 in
theorem X4_price_L113_ok {G : GL} {X : CX} (C : Ctx G X cX4_price 7 RX4 rm_X4_price) (a0 : Nat) (x1 : Int32) (x2 : Int32) (x4 : Int32) (x5 : Int32) : ∀ (n : Nat) (x6 : Int32) (μ : Mem) (z : Int32 × Mem), X4_price_L113 a0 x1 x2 x4 x5 n x6 μ = some z → AW G 7 X 0 0 150 [(0, .ref (gZ G + a0)), (1, .int x1), (2, .int x2), (4, .int x4), (5, .int x5), (6, .int z.1)] [] z.2 → AW G 7 X 0 0 113 [(0, .ref (gZ G + a0)), (1, .int x1), (2, .int x2), (4, .int x4), (5, .int x5), (6, .int x6)] [] μ := by
  intro n
  induction n with
  | zero =>
    intro x6 μ z h kx
    rw [X4_price_L113] at h
    cases h
  | succ n ih =>
    intro x6 μ z h kx
    rw [X4_price_L113] at h
    refine aw_iload C 5 dX4_price_113 rfl ?_
    refine aw_iconst C 1 dX4_price_115 (by decide) ?_
    refine aw_iload C 3 dX4_price_116 rfl ?_
    refine aw_ishl C dX4_price_118 ?_
    refine aw_icmp_ge C 150 dX4_price_119 (by decide) (fun c1 => ?_) (fun c1 => ?_)
    · rw [if_pos c1] at h
      have e9 := inj1 h
      subst e9
      exact aw_sub [0, 1, 2, 3, 4, 5] rfl kx
    · rw [if_neg c1] at h
      refine aw_aload_n C 0 dX4_price_122 rfl rfl ?_
      obtain ⟨v2, hv2, h⟩ := bindE h
      refine aw_gR C fl_X4_34 rfl hv2 dX4_price_123 ?_
      refine aw_iload C 5 dX4_price_126 rfl ?_
      refine aw_iconst C 1 dX4_price_128 (by decide) ?_
      refine aw_iload C 3 dX4_price_129 rfl ?_
      refine aw_ishl C dX4_price_131 ?_
      refine aw_ior C dX4_price_132 ?_
      refine aw_aload_n C 0 dX4_price_133 rfl rfl ?_
      obtain ⟨v3, hv3, h⟩ := bindE h
      refine aw_gR C fl_X4_34 rfl hv3 dX4_price_134 ?_
      refine aw_iload C 5 dX4_price_137 rfl ?_
      obtain ⟨v4, hv4, h⟩ := bindE h
      refine aw_aI C hv4 dX4_price_139 ?_
      refine aw_iload C 4 dX4_price_140 rfl ?_
      refine aw_iadd C dX4_price_142 ?_
      obtain ⟨μ5, hμ5, h⟩ := bindE h
      refine aw_sI C hμ5 dX4_price_143 ?_
      refine aw_iinc C (x6 + 1) 5 [(6, .int (x6 + 1)), (0, .ref (gZ G + a0)), (1, .int x1), (2, .int x2), (4, .int x4), (5, .int x5)] dX4_price_144 rfl rfl (by decide) rfl ?_
      refine aw_goto C 113 dX4_price_147 (by decide) ?_
      exact aw_sub [1, 2, 3, 4, 5, 0] rfl (ih _ _ _ h kx)
def X4_price_L72 (a0 : Nat) (x1 : Int32) (x2 : Int32) : Nat → Int32 → Mem → Option (Int32 × Mem)
  | 0, _, _ => none
  | n + 1, x4, μ =>
      (gI 4 16 a0 μ).bind fun v1 =>
      if v1 ≤ x4 then
      some ((x4, μ))
      else
      (gR 4 5 a0 μ).bind fun v3 =>
      (gR 0 0 v3 μ).bind fun v4 =>
      (gR 4 7 a0 μ).bind fun v5 =>
      (aI v5 x4 μ).bind fun v6 =>
      (aR 6 v4 v6 μ).bind fun v7 =>
      (gR 4 3 a0 μ).bind fun v8 =>
      (vO 9 v8 μ).bind fun g9 =>
      (X9_seamOdds v8 x1 μ).bind fun v10 =>
      (vO 6 v7 μ).bind fun g11 =>
      (X6_planValueIn v7 x2 v10 μ).bind fun v12 =>
      (X4_price_L113 a0 x1 x2 x4 v12 FU 0 μ).bind fun z13 =>
      X4_price_L72 a0 x1 x2 n (x4 + 1) z13.2
set_option maxRecDepth 100000 in
set_option maxHeartbeats 4000000 in
theorem X4_price_L72_ok {G : GL} {X : CX} (C : Ctx G X cX4_price 7 RX4 rm_X4_price) (a0 : Nat) (x1 : Int32) (x2 : Int32) : ∀ (n : Nat) (x4 : Int32) (μ : Mem) (z : Int32 × Mem), X4_price_L72 a0 x1 x2 n x4 μ = some z → AW G 7 X 0 0 156 [(0, .ref (gZ G + a0)), (1, .int x1), (2, .int x2), (4, .int z.1)] [] z.2 → AW G 7 X 0 0 72 [(0, .ref (gZ G + a0)), (1, .int x1), (2, .int x2), (4, .int x4)] [] μ := by
  intro n
  induction n with
  | zero =>
    intro x4 μ z h kx
    rw [X4_price_L72] at h
    cases h
  | succ n ih =>
    intro x4 μ z h kx
    rw [X4_price_L72] at h
    refine aw_iload C 3 dX4_price_72 rfl ?_
    refine aw_aload_n C 0 dX4_price_74 rfl rfl ?_
    obtain ⟨v1, hv1, h⟩ := bindE h
    refine aw_gI C fl_X4_108 rfl hv1 dX4_price_75 ?_
    refine aw_icmp_ge C 156 dX4_price_78 (by decide) (fun c2 => ?_) (fun c2 => ?_)
    · rw [if_pos c2] at h
      have e9 := inj1 h
      subst e9
      exact aw_sub [0, 1, 2, 3] rfl kx
    · rw [if_neg c2] at h
      refine aw_aload_n C 0 dX4_price_81 rfl rfl ?_
      obtain ⟨v3, hv3, h⟩ := bindE h
      refine aw_gR C fl_X4_60 rfl hv3 dX4_price_82 ?_
      obtain ⟨v4, hv4, h⟩ := bindE h
      refine aw_gR C fl_X4_124 rfl hv4 dX4_price_85 ?_
      refine aw_aload_n C 0 dX4_price_88 rfl rfl ?_
      obtain ⟨v5, hv5, h⟩ := bindE h
      refine aw_gR C fl_X4_25 rfl hv5 dX4_price_89 ?_
      refine aw_iload C 3 dX4_price_92 rfl ?_
      obtain ⟨v6, hv6, h⟩ := bindE h
      refine aw_aI C hv6 dX4_price_94 ?_
      obtain ⟨v7, hv7, h⟩ := bindE h
      refine aw_aR C (by decide) (ty := .object RX6) rfl rfl hv7 dX4_price_95 ?_
      refine aw_iload_n C 2 dX4_price_96 rfl rfl ?_
      refine aw_aload_n C 0 dX4_price_97 rfl rfl ?_
      obtain ⟨v8, hv8, h⟩ := bindE h
      refine aw_gR C fl_X4_52 rfl hv8 dX4_price_98 ?_
      refine aw_iload_n C 1 dX4_price_101 rfl rfl ?_
      obtain ⟨g9, hg9, h⟩ := bindE h
      obtain ⟨v10, hv10, h⟩ := bindE h
      refine aw_cV_I C [.int x1] _ (mt_X9_seamOdds hv10) cs_X9_seamOdds ml_X4_157 im_X9_seamOdds se_X9_seamOdds (ci := 9) rfl rfl hg9 ⟨by decide, by decide⟩ ⟨rfl, rfl⟩ ⟨Nat.zero_le _, Nat.zero_le _⟩ rfl rfl (Nat.le_of_ble_eq_true rfl) dX4_price_102 ?_
      obtain ⟨g11, hg11, h⟩ := bindE h
      obtain ⟨v12, hv12, h⟩ := bindE h
      refine aw_cV_I C [.int x2, .int v10] _ (mt_X6_planValueIn hv12) cs_X6_planValueIn ml_X4_161 im_X6_planValueIn se_X6_planValueIn (ci := 6) rfl rfl hg11 ⟨by decide, by decide⟩ ⟨rfl, rfl⟩ ⟨Nat.zero_le _, Nat.zero_le _⟩ rfl rfl (Nat.le_of_ble_eq_true rfl) dX4_price_105 ?_
      refine aw_istore C [(5, .int v12), (0, .ref (gZ G + a0)), (1, .int x1), (2, .int x2), (4, .int x4)] dX4_price_108 (by decide) rfl ?_
      refine aw_iconst C 0 dX4_price_110 (by decide) ?_
      refine aw_istore C [(6, .int 0), (5, .int v12), (0, .ref (gZ G + a0)), (1, .int x1), (2, .int x2), (4, .int x4)] dX4_price_111 (by decide) rfl ?_
      obtain ⟨z13, hz13, h⟩ := bindE h
      refine aw_sub [2, 3, 4, 5, 1, 0] rfl ?_
      refine X4_price_L113_ok C _ _ _ _ _ _ _ _ _ hz13 ?_
      refine aw_iinc C (x4 + 1) 3 [(4, .int (x4 + 1)), (0, .ref (gZ G + a0)), (1, .int x1), (2, .int x2), (5, .int v12), (6, .int z13.1)] dX4_price_150 rfl rfl (by decide) rfl ?_
      refine aw_goto C 72 dX4_price_153 (by decide) ?_
      exact aw_sub [1, 2, 3, 0] rfl (ih _ _ _ h kx)
def X4_price_L159 (a0 : Nat) (x1 : Int32) : Nat → Int32 → Mem → Option (Int32 × Mem)
  | 0, _, _ => none
  | n + 1, x4, μ =>
      (gI 4 16 a0 μ).bind fun v1 =>
      if ((1 : Int32) <<< (v1 &&& 31)) ≤ x4 then
      some ((x4, μ))
      else
      (vO 4 a0 μ).bind fun g3 =>
      (X4_priceSet a0 ((x1 * 64) + x4) x4 μ).bind fun μ4 =>
      X4_price_L159 a0 x1 n (x4 + 1) μ4
set_option maxRecDepth 100000 in
set_option maxHeartbeats 4000000 in
theorem X4_price_L159_ok {G : GL} {X : CX} (C : Ctx G X cX4_price 7 RX4 rm_X4_price) (a0 : Nat) (x1 : Int32) : ∀ (n : Nat) (x4 : Int32) (μ : Mem) (z : Int32 × Mem), X4_price_L159 a0 x1 n x4 μ = some z → AW G 7 X 0 0 189 [(0, .ref (gZ G + a0)), (1, .int x1), (4, .int z.1)] [] z.2 → AW G 7 X 0 0 159 [(0, .ref (gZ G + a0)), (1, .int x1), (4, .int x4)] [] μ := by
  intro n
  induction n with
  | zero =>
    intro x4 μ z h kx
    rw [X4_price_L159] at h
    cases h
  | succ n ih =>
    intro x4 μ z h kx
    rw [X4_price_L159] at h
    refine aw_iload C 2 dX4_price_159 rfl ?_
    refine aw_iconst C 1 dX4_price_161 (by decide) ?_
    refine aw_aload_n C 0 dX4_price_162 rfl rfl ?_
    obtain ⟨v1, hv1, h⟩ := bindE h
    refine aw_gI C fl_X4_108 rfl hv1 dX4_price_163 ?_
    refine aw_ishl C dX4_price_166 ?_
    refine aw_icmp_ge C 189 dX4_price_167 (by decide) (fun c2 => ?_) (fun c2 => ?_)
    · rw [if_pos c2] at h
      have e9 := inj1 h
      subst e9
      exact aw_sub [0, 1, 2] rfl kx
    · rw [if_neg c2] at h
      refine aw_aload_n C 0 dX4_price_170 rfl rfl ?_
      refine aw_iload_n C 1 dX4_price_171 rfl rfl ?_
      refine aw_bipush C 64 dX4_price_172 (by decide) ?_
      refine aw_imul C dX4_price_174 ?_
      refine aw_iload C 2 dX4_price_175 rfl ?_
      refine aw_iadd C dX4_price_177 ?_
      refine aw_iload C 2 dX4_price_178 rfl ?_
      obtain ⟨g3, hg3, h⟩ := bindE h
      obtain ⟨μ4, hμ4, h⟩ := bindE h
      refine aw_cV_V C [.int ((x1 * 64) + x4), .int x4] _ (mt_X4_priceSet hμ4) cs_X4_priceSet ml_X4_164 im_X4_priceSet se_X4_priceSet (ci := 4) rfl rfl hg3 ⟨by decide, by decide⟩ ⟨rfl, rfl⟩ ⟨Nat.zero_le _, Nat.zero_le _⟩ rfl rfl (Nat.le_of_ble_eq_true rfl) dX4_price_180 ?_
      refine aw_iinc C (x4 + 1) 2 [(4, .int (x4 + 1)), (0, .ref (gZ G + a0)), (1, .int x1)] dX4_price_183 rfl rfl (by decide) rfl ?_
      refine aw_goto C 159 dX4_price_186 (by decide) ?_
      exact aw_sub [1, 2, 0] rfl (ih _ _ _ h kx)
def X4_price (a0 : Nat) (x1 : Int32) (x2 : Int32) (a3 : Nat) (μ : Mem) : Option Mem :=
  (gR 4 6 a0 μ).bind fun v1 =>
  (gR 4 5 a0 μ).bind fun v2 =>
  (gR 4 3 a0 μ).bind fun v3 =>
  (gR 9 4 v3 μ).bind fun v4 =>
  (aR 7 v4 x1 μ).bind fun v5 =>
  (vO 1 v1 μ).bind fun g6 =>
  (X1_open v1 a3 v2 x2 v5 μ).bind fun μ7 =>
  (X4_price_L25 a0 x1 x2 FU 0 μ7).bind fun z8 =>
  (gR 4 10 a0 z8.2).bind fun v9 =>
  (sI v9 0 0 z8.2).bind fun μ10 =>
  (X4_price_L72 a0 x1 x2 FU 0 μ10).bind fun z11 =>
  (X4_price_L159 a0 x1 FU 1 z11.2).bind fun z12 =>
  some z12.2
set_option maxRecDepth 100000 in
set_option maxHeartbeats 4000000 in
theorem wk_X4_price {G : GL} {X : CX} {a0 : Nat} {x1 : Int32} {x2 : Int32} {a3 : Nat} {μ : Mem} {μ' : Mem} (C : Ctx G X cX4_price 7 RX4 rm_X4_price) (h : X4_price a0 x1 x2 a3 μ = some μ') (hret : RtV G 7 X cX4_price 0 0 μ') : AW G 7 X 0 0 0 [(0, .ref (gZ G + a0)), (1, .int x1), (2, .int x2), (3, .ref (gZ G + a3))] [] μ := by
  unfold X4_price at h
  refine aw_aload_n C 0 dX4_price_0 rfl rfl ?_
  obtain ⟨v1, hv1, h⟩ := bindE h
  refine aw_gR C fl_X4_21 rfl hv1 dX4_price_1 ?_
  refine aw_aload_n C 3 dX4_price_4 rfl rfl ?_
  refine aw_aload_n C 0 dX4_price_5 rfl rfl ?_
  obtain ⟨v2, hv2, h⟩ := bindE h
  refine aw_gR C fl_X4_60 rfl hv2 dX4_price_6 ?_
  refine aw_iload_n C 2 dX4_price_9 rfl rfl ?_
  refine aw_aload_n C 0 dX4_price_10 rfl rfl ?_
  obtain ⟨v3, hv3, h⟩ := bindE h
  refine aw_gR C fl_X4_52 rfl hv3 dX4_price_11 ?_
  obtain ⟨v4, hv4, h⟩ := bindE h
  refine aw_gR C fl_X4_143 rfl hv4 dX4_price_14 ?_
  refine aw_iload_n C 1 dX4_price_17 rfl rfl ?_
  obtain ⟨v5, hv5, h⟩ := bindE h
  refine aw_aR C (by decide) (ty := .array .int) rfl rfl hv5 dX4_price_18 ?_
  obtain ⟨g6, hg6, h⟩ := bindE h
  obtain ⟨μ7, hμ7, h⟩ := bindE h
  refine aw_cV_V C [.ref (gZ G + a3), .ref (gZ G + v2), .int x2, .ref (gZ G + v5)] _ (mt_X1_open hμ7) cs_X1_open ml_X4_147 im_X1_open se_X1_open (ci := 1) rfl rfl hg6 ⟨by decide, by decide⟩ ⟨rfl, rfl⟩ ⟨Nat.zero_le _, Nat.zero_le _⟩ rfl rfl (Nat.le_of_ble_eq_true rfl) dX4_price_19 ?_
  refine aw_iconst C 0 dX4_price_22 (by decide) ?_
  refine aw_istore C [(4, .int 0), (0, .ref (gZ G + a0)), (1, .int x1), (2, .int x2), (3, .ref (gZ G + a3))] dX4_price_23 (by decide) rfl ?_
  obtain ⟨z8, hz8, h⟩ := bindE h
  refine aw_sub [1, 2, 3, 0] rfl ?_
  refine X4_price_L25_ok C _ _ _ _ _ _ _ hz8 ?_
  refine aw_aload_n C 0 dX4_price_62 rfl rfl ?_
  obtain ⟨v9, hv9, h⟩ := bindE h
  refine aw_gR C fl_X4_34 rfl hv9 dX4_price_63 ?_
  refine aw_iconst C 0 dX4_price_66 (by decide) ?_
  refine aw_iconst C 0 dX4_price_67 (by decide) ?_
  obtain ⟨μ10, hμ10, h⟩ := bindE h
  refine aw_sI C hμ10 dX4_price_68 ?_
  refine aw_iconst C 0 dX4_price_69 (by decide) ?_
  refine aw_istore C [(4, .int 0), (0, .ref (gZ G + a0)), (1, .int x1), (2, .int x2)] dX4_price_70 (by decide) rfl ?_
  obtain ⟨z11, hz11, h⟩ := bindE h
  refine aw_sub [1, 2, 3, 0] rfl ?_
  refine X4_price_L72_ok C _ _ _ _ _ _ _ hz11 ?_
  refine aw_iconst C 1 dX4_price_156 (by decide) ?_
  refine aw_istore C [(4, .int 1), (0, .ref (gZ G + a0)), (1, .int x1), (2, .int x2)] dX4_price_157 (by decide) rfl ?_
  obtain ⟨z12, hz12, h⟩ := bindE h
  refine aw_sub [1, 2, 0] rfl ?_
  refine X4_price_L159_ok C _ _ _ _ _ _ hz12 ?_
  have e9 := inj1 h
  subst e9
  exact hret _ _ dX4_price_189
set_option maxRecDepth 100000 in
set_option maxHeartbeats 4000000 in
theorem mt_X4_price {G : GL} {l : Launch} {a0 : Nat} {x1 : Int32} {x2 : Int32} {a3 : Nat} {μ : Mem} {μ' : Mem} (h : X4_price a0 x1 x2 a3 μ = some μ') : MtV G l yX4_price cX4_price 7 none rm_X4_price false [.ref (gZ G + a0), .int x1, .int x2, .ref (gZ G + a3)] μ μ' := met_V (by decide) rfl (Nat.le_of_ble_eq_true rfl) (fun X _ C _ _ hret => wk_X4_price C h hret)
def X4_mostBarsAt_L23 (a0 : Nat) (x1 : Int32) (x2 : Int32) (x3 : Int32) (x4 : Int32) (a5 : Nat) : Nat → Int32 → Mem → Option (Int32 × Mem)
  | 0, _, _ => none
  | n + 1, x6, μ =>
      if x2 ≤ x6 then
      some ((x6, μ))
      else
      (gR 4 15 a0 μ).bind fun v2 =>
      (sI v2 (x3 + x6) ((x1 >>> (((x2 - 1) - x6) &&& 31)) &&& 1) μ).bind fun μ3 =>
      X4_mostBarsAt_L23 a0 x1 x2 x3 x4 a5 n (x6 + 1) μ3
set_option maxRecDepth 100000 in
set_option maxHeartbeats 4000000 in
theorem X4_mostBarsAt_L23_ok {G : GL} {X : CX} (C : Ctx G X cX4_mostBarsAt 7 RX4 rm_X4_mostBarsAt) (a0 : Nat) (x1 : Int32) (x2 : Int32) (x3 : Int32) (x4 : Int32) (a5 : Nat) : ∀ (n : Nat) (x6 : Int32) (μ : Mem) (z : Int32 × Mem), X4_mostBarsAt_L23 a0 x1 x2 x3 x4 a5 n x6 μ = some z → AW G 7 X 0 0 54 [(0, .ref (gZ G + a0)), (1, .int x1), (2, .int x2), (3, .int x3), (4, .int x4), (5, .ref (gZ G + a5)), (6, .int z.1)] [] z.2 → AW G 7 X 0 0 23 [(0, .ref (gZ G + a0)), (1, .int x1), (2, .int x2), (3, .int x3), (4, .int x4), (5, .ref (gZ G + a5)), (6, .int x6)] [] μ := by
  intro n
  induction n with
  | zero =>
    intro x6 μ z h kx
    rw [X4_mostBarsAt_L23] at h
    cases h
  | succ n ih =>
    intro x6 μ z h kx
    rw [X4_mostBarsAt_L23] at h
    refine aw_iload C 6 dX4_mostBarsAt_23 rfl ?_
    refine aw_iload_n C 2 dX4_mostBarsAt_25 rfl rfl ?_
    refine aw_icmp_ge C 54 dX4_mostBarsAt_26 (by decide) (fun c1 => ?_) (fun c1 => ?_)
    · rw [if_pos c1] at h
      have e9 := inj1 h
      subst e9
      exact aw_sub [0, 1, 2, 3, 4, 5, 6] rfl kx
    · rw [if_neg c1] at h
      refine aw_aload_n C 0 dX4_mostBarsAt_29 rfl rfl ?_
      obtain ⟨v2, hv2, h⟩ := bindE h
      refine aw_gR C fl_X4_49 rfl hv2 dX4_mostBarsAt_30 ?_
      refine aw_iload_n C 3 dX4_mostBarsAt_33 rfl rfl ?_
      refine aw_iload C 6 dX4_mostBarsAt_34 rfl ?_
      refine aw_iadd C dX4_mostBarsAt_36 ?_
      refine aw_iload_n C 1 dX4_mostBarsAt_37 rfl rfl ?_
      refine aw_iload_n C 2 dX4_mostBarsAt_38 rfl rfl ?_
      refine aw_iconst C 1 dX4_mostBarsAt_39 (by decide) ?_
      refine aw_isub C dX4_mostBarsAt_40 ?_
      refine aw_iload C 6 dX4_mostBarsAt_41 rfl ?_
      refine aw_isub C dX4_mostBarsAt_43 ?_
      refine aw_ishr C dX4_mostBarsAt_44 ?_
      refine aw_iconst C 1 dX4_mostBarsAt_45 (by decide) ?_
      refine aw_iand C dX4_mostBarsAt_46 ?_
      obtain ⟨μ3, hμ3, h⟩ := bindE h
      refine aw_sI C hμ3 dX4_mostBarsAt_47 ?_
      refine aw_iinc C (x6 + 1) 6 [(6, .int (x6 + 1)), (0, .ref (gZ G + a0)), (1, .int x1), (2, .int x2), (3, .int x3), (4, .int x4), (5, .ref (gZ G + a5))] dX4_mostBarsAt_48 rfl rfl (by decide) rfl ?_
      refine aw_goto C 23 dX4_mostBarsAt_51 (by decide) ?_
      exact aw_sub [1, 2, 3, 4, 5, 6, 0] rfl (ih _ _ _ h kx)
def X4_mostBarsAt (a0 : Nat) (x1 : Int32) (x2 : Int32) (x3 : Int32) (x4 : Int32) (a5 : Nat) (μ : Mem) : Option (Int32 × Mem) :=
  (gI 4 18 a0 μ).bind fun v1 =>
  if v1 = 0 then
  some (0, μ)
  else
  (gR 4 15 a0 μ).bind fun v3 =>
  (aL v3 μ).bind fun v4 =>
  if (x3 + x2) < v4 then
  (X4_mostBarsAt_L23 a0 x1 x2 x3 x4 a5 FU 0 μ).bind fun z6 =>
  (gR 4 15 a0 z6.2).bind fun v7 =>
  (sI v7 (x3 + x2) 0 z6.2).bind fun μ8 =>
  (gR 4 15 a0 μ8).bind fun v9 =>
  (aI v9 x3 μ8).bind fun v10 =>
  (sI v9 x3 (v10 + x4) μ8).bind fun μ11 =>
  (gR 4 15 a0 μ11).bind fun v12 =>
  (vO 3 a5 μ11).bind fun g13 =>
  (X3_mostBars a5 v12 (x3 + x2) μ11).bind fun v14 =>
  (zz v14).bind fun v15 =>
  some (v15, μ11)
  else
  some (0, μ)
set_option maxRecDepth 100000 in
set_option maxHeartbeats 4000000 in
theorem wk_X4_mostBarsAt {G : GL} {X : CX} {a0 : Nat} {x1 : Int32} {x2 : Int32} {x3 : Int32} {x4 : Int32} {a5 : Nat} {μ : Mem} {r : Int32} {μ' : Mem} (C : Ctx G X cX4_mostBarsAt 7 RX4 rm_X4_mostBarsAt) (h : X4_mostBarsAt a0 x1 x2 x3 x4 a5 μ = some (r, μ')) (hret : RtZ G 7 X cX4_mostBarsAt 0 0 r μ') : AW G 7 X 0 0 0 [(0, .ref (gZ G + a0)), (1, .int x1), (2, .int x2), (3, .int x3), (4, .int x4), (5, .ref (gZ G + a5))] [] μ := by
  unfold X4_mostBarsAt at h
  refine aw_aload_n C 0 dX4_mostBarsAt_0 rfl rfl ?_
  obtain ⟨v1, hv1, h⟩ := bindE h
  refine aw_gI C fl_X4_80 rfl hv1 dX4_mostBarsAt_1 ?_
  refine aw_if_eq C 18 dX4_mostBarsAt_4 (by decide) (fun c2 => ?_) (fun c2 => ?_)
  · rw [if_pos c2] at h
    refine aw_iconst C 0 dX4_mostBarsAt_18 (by decide) ?_
    obtain ⟨e8, e9⟩ := inj2 h
    subst e8
    subst e9
    exact hret _ _ dX4_mostBarsAt_19 (Or.inl rfl)
  · rw [if_neg c2] at h
    refine aw_iload_n C 3 dX4_mostBarsAt_7 rfl rfl ?_
    refine aw_iload_n C 2 dX4_mostBarsAt_8 rfl rfl ?_
    refine aw_iadd C dX4_mostBarsAt_9 ?_
    refine aw_aload_n C 0 dX4_mostBarsAt_10 rfl rfl ?_
    obtain ⟨v3, hv3, h⟩ := bindE h
    refine aw_gR C fl_X4_49 rfl hv3 dX4_mostBarsAt_11 ?_
    obtain ⟨v4, hv4, h⟩ := bindE h
    refine aw_aL C hv4 dX4_mostBarsAt_14 ?_
    refine aw_icmp_lt C 20 dX4_mostBarsAt_15 (by decide) (fun c5 => ?_) (fun c5 => ?_)
    · rw [if_pos c5] at h
      refine aw_iconst C 0 dX4_mostBarsAt_20 (by decide) ?_
      refine aw_istore C [(6, .int 0), (0, .ref (gZ G + a0)), (1, .int x1), (2, .int x2), (3, .int x3), (4, .int x4), (5, .ref (gZ G + a5))] dX4_mostBarsAt_21 (by decide) rfl ?_
      obtain ⟨z6, hz6, h⟩ := bindE h
      refine aw_sub [1, 2, 3, 4, 5, 6, 0] rfl ?_
      refine X4_mostBarsAt_L23_ok C _ _ _ _ _ _ _ _ _ _ hz6 ?_
      refine aw_aload_n C 0 dX4_mostBarsAt_54 rfl rfl ?_
      obtain ⟨v7, hv7, h⟩ := bindE h
      refine aw_gR C fl_X4_49 rfl hv7 dX4_mostBarsAt_55 ?_
      refine aw_iload_n C 3 dX4_mostBarsAt_58 rfl rfl ?_
      refine aw_iload_n C 2 dX4_mostBarsAt_59 rfl rfl ?_
      refine aw_iadd C dX4_mostBarsAt_60 ?_
      refine aw_iconst C 0 dX4_mostBarsAt_61 (by decide) ?_
      obtain ⟨μ8, hμ8, h⟩ := bindE h
      refine aw_sI C hμ8 dX4_mostBarsAt_62 ?_
      refine aw_aload_n C 0 dX4_mostBarsAt_63 rfl rfl ?_
      obtain ⟨v9, hv9, h⟩ := bindE h
      refine aw_gR C fl_X4_49 rfl hv9 dX4_mostBarsAt_64 ?_
      refine aw_iload_n C 3 dX4_mostBarsAt_67 rfl rfl ?_
      refine aw_dup2 C dX4_mostBarsAt_68 rfl rfl ?_
      obtain ⟨v10, hv10, h⟩ := bindE h
      refine aw_aI C hv10 dX4_mostBarsAt_69 ?_
      refine aw_iload C 4 dX4_mostBarsAt_70 rfl ?_
      refine aw_iadd C dX4_mostBarsAt_72 ?_
      obtain ⟨μ11, hμ11, h⟩ := bindE h
      refine aw_sI C hμ11 dX4_mostBarsAt_73 ?_
      refine aw_aload C 5 dX4_mostBarsAt_74 rfl ?_
      refine aw_aload_n C 0 dX4_mostBarsAt_76 rfl rfl ?_
      obtain ⟨v12, hv12, h⟩ := bindE h
      refine aw_gR C fl_X4_49 rfl hv12 dX4_mostBarsAt_77 ?_
      refine aw_iload_n C 3 dX4_mostBarsAt_80 rfl rfl ?_
      refine aw_iload_n C 2 dX4_mostBarsAt_81 rfl rfl ?_
      refine aw_iadd C dX4_mostBarsAt_82 ?_
      obtain ⟨g13, hg13, h⟩ := bindE h
      obtain ⟨v14, hv14, h⟩ := bindE h
      refine aw_cV_I C [.ref (gZ G + v12), .int (x3 + x2)] _ (mt_X3_mostBars hv14) cs_X3_mostBars ml_X4_174 im_X3_mostBars se_X3_mostBars (ci := 3) rfl rfl hg13 ⟨by decide, by decide⟩ ⟨rfl, rfl⟩ ⟨Nat.zero_le _, Nat.zero_le _⟩ rfl rfl (Nat.le_of_ble_eq_true rfl) dX4_mostBarsAt_83 ?_
      obtain ⟨v15, hv15, h⟩ := bindE h
      obtain ⟨ev15, zv15⟩ := zzE hv15
      refine aw_topi ev15 ?_
      obtain ⟨e8, e9⟩ := inj2 h
      subst e8
      subst e9
      exact hret _ _ dX4_mostBarsAt_86 zv15
    · rw [if_neg c5] at h
      refine aw_iconst C 0 dX4_mostBarsAt_18 (by decide) ?_
      obtain ⟨e8, e9⟩ := inj2 h
      subst e8
      subst e9
      exact hret _ _ dX4_mostBarsAt_19 (Or.inl rfl)
set_option maxRecDepth 100000 in
set_option maxHeartbeats 4000000 in
theorem mt_X4_mostBarsAt {G : GL} {l : Launch} {a0 : Nat} {x1 : Int32} {x2 : Int32} {x3 : Int32} {x4 : Int32} {a5 : Nat} {μ : Mem} {r : Int32} {μ' : Mem} (h : X4_mostBarsAt a0 x1 x2 x3 x4 a5 μ = some (r, μ')) : MtI G l yX4_mostBarsAt cX4_mostBarsAt 7 (some .boolean) rm_X4_mostBarsAt false [.ref (gZ G + a0), .int x1, .int x2, .int x3, .int x4, .ref (gZ G + a5)] μ r μ' := met_Z (by decide) rfl (Nat.le_of_ble_eq_true rfl) (fun X _ C _ _ hret => wk_X4_mostBarsAt C h hret)
