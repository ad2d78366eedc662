def X11_in (j0 : Int64) (j2 : Int64) (j4 : Int64) : Int32 :=
  (if (lg_cmp j0 j2) < 0 then 0 else if (0 : Int32) < (lg_cmp j0 j4) then 0 else 1)
set_option maxRecDepth 100000 in
set_option maxHeartbeats 4000000 in
theorem wk_X11_in {G : GL} {X : CX} {j0 : Int64} {j2 : Int64} {j4 : Int64} {μ : Mem} (C : Ctx G X cX11_in 6 RX11 rm_X11_in) (hret : RtZ G 6 X cX11_in 0 0 (X11_in j0 j2 j4) μ) : AW G 6 X 0 0 0 [(0, .long j0), (2, .long j2), (4, .long j4)] [] μ := by
  unfold X11_in at hret
  refine aw_lload_n C 0 dX11_in_0 rfl rfl ?_
  refine aw_lload_n C 1 dX11_in_1 rfl rfl ?_
  refine aw_lcmp C dX11_in_2 ?_
  have kj3 : ∀ (q3_0 : Int32), q3_0 = (if (lg_cmp j0 j2) < 0 then 0 else if (0 : Int32) < (lg_cmp j0 j4) then 0 else 1) → AW G 6 X 0 0 18 [] [.int q3_0] μ := by
    rintro _ rfl
    exact hret _ _ dX11_in_18 (by repeat (first | exact Or.inl rfl | exact Or.inr rfl | split))
  refine aw_if_lt C 17 dX11_in_3 (by decide) (fun c1 => ?_) (fun c1 => ?_)
  · refine aw_iconst C 0 dX11_in_17 (by decide) ?_
    exact aw_sub [] rfl (kj3 _ (by simp only [if_pos c1]))
  · refine aw_lload_n C 0 dX11_in_6 rfl rfl ?_
    refine aw_lload C 2 dX11_in_7 rfl ?_
    refine aw_lcmp C dX11_in_9 ?_
    refine aw_if_gt C 17 dX11_in_10 (by decide) (fun c2 => ?_) (fun c2 => ?_)
    · refine aw_iconst C 0 dX11_in_17 (by decide) ?_
      exact aw_sub [] rfl (kj3 _ (by simp only [if_neg c1, if_pos c2]))
    · refine aw_iconst C 1 dX11_in_13 (by decide) ?_
      refine aw_goto C 18 dX11_in_14 (by decide) ?_
      exact aw_sub [] rfl (kj3 _ (by simp only [if_neg c1, if_neg c2]))
set_option maxRecDepth 100000 in
set_option maxHeartbeats 4000000 in
theorem mt_X11_in {G : GL} {l : Launch} (j0 : Int64) (j2 : Int64) (j4 : Int64) {μ : Mem} : MtI G l yX11_in cX11_in 6 (some .boolean) rm_X11_in false [.long j0, .long j2, .long j4] μ (X11_in j0 j2 j4) μ := met_Z (by decide) rfl (Nat.le_of_ble_eq_true rfl) (fun X _ C _ _ hret => wk_X11_in C hret)
theorem z_X11_in (j0 : Int64) (j2 : Int64) (j4 : Int64) : X11_in j0 j2 j4 = 0 ∨ X11_in j0 j2 j4 = 1 := by
  unfold X11_in
  repeat (first | exact Or.inl rfl | exact Or.inr rfl | split)
def X11_isState (x0 : Int32) : Int32 :=
  X11_in x0.toInt64 0 3
set_option maxRecDepth 100000 in
set_option maxHeartbeats 4000000 in
theorem wk_X11_isState {G : GL} {X : CX} {x0 : Int32} {μ : Mem} (C : Ctx G X cX11_isState 1 RX11 rm_X11_isState) (hret : RtZ G 1 X cX11_isState 0 0 (X11_isState x0) μ) : AW G 1 X 0 0 0 [(0, .int x0)] [] μ := by
  unfold X11_isState at hret
  refine aw_iload_n C 0 dX11_isState_0 rfl rfl ?_
  refine aw_i2l C dX11_isState_1 ?_
  refine aw_lconst C 0 dX11_isState_2 (by decide) ?_
  refine aw_ldc2 C kl_X11_136 dX11_isState_3 ?_
  refine aw_cS_I C [.long x0.toInt64, .long 0, .long 3] _ (mt_X11_in _ _ _) cs_X11_in ml_X11_138 st_X11_in ⟨by decide, by decide⟩ ⟨rfl, rfl⟩ ⟨Nat.zero_le _, Nat.zero_le _⟩ rfl rfl (Nat.le_of_ble_eq_true rfl) dX11_isState_6 ?_
  exact hret _ _ dX11_isState_9 (z_X11_in _ _ _)
set_option maxRecDepth 100000 in
set_option maxHeartbeats 4000000 in
theorem mt_X11_isState {G : GL} {l : Launch} (x0 : Int32) {μ : Mem} : MtI G l yX11_isState cX11_isState 1 (some .boolean) rm_X11_isState false [.int x0] μ (X11_isState x0) μ := met_Z (by decide) rfl (Nat.le_of_ble_eq_true rfl) (fun X _ C _ _ hret => wk_X11_isState C hret)
theorem z_X11_isState (x0 : Int32) : X11_isState x0 = 0 ∨ X11_isState x0 = 1 := by
  unfold X11_isState
  exact z_X11_in _ _ _
def X11_isPerson (x0 : Int32) : Int32 :=
  X11_in x0.toInt64 0 3
set_option maxRecDepth 100000 in
set_option maxHeartbeats 4000000 in
theorem wk_X11_isPerson {G : GL} {X : CX} {x0 : Int32} {μ : Mem} (C : Ctx G X cX11_isPerson 1 RX11 rm_X11_isPerson) (hret : RtZ G 1 X cX11_isPerson 0 0 (X11_isPerson x0) μ) : AW G 1 X 0 0 0 [(0, .int x0)] [] μ := by
  unfold X11_isPerson at hret
  refine aw_iload_n C 0 dX11_isPerson_0 rfl rfl ?_
  refine aw_i2l C dX11_isPerson_1 ?_
  refine aw_lconst C 0 dX11_isPerson_2 (by decide) ?_
  refine aw_ldc2 C kl_X11_136 dX11_isPerson_3 ?_
  refine aw_cS_I C [.long x0.toInt64, .long 0, .long 3] _ (mt_X11_in _ _ _) cs_X11_in ml_X11_138 st_X11_in ⟨by decide, by decide⟩ ⟨rfl, rfl⟩ ⟨Nat.zero_le _, Nat.zero_le _⟩ rfl rfl (Nat.le_of_ble_eq_true rfl) dX11_isPerson_6 ?_
  exact hret _ _ dX11_isPerson_9 (z_X11_in _ _ _)
set_option maxRecDepth 100000 in
set_option maxHeartbeats 4000000 in
theorem mt_X11_isPerson {G : GL} {l : Launch} (x0 : Int32) {μ : Mem} : MtI G l yX11_isPerson cX11_isPerson 1 (some .boolean) rm_X11_isPerson false [.int x0] μ (X11_isPerson x0) μ := met_Z (by decide) rfl (Nat.le_of_ble_eq_true rfl) (fun X _ C _ _ hret => wk_X11_isPerson C hret)
theorem z_X11_isPerson (x0 : Int32) : X11_isPerson x0 = 0 ∨ X11_isPerson x0 = 1 := by
  unfold X11_isPerson
  exact z_X11_in _ _ _
def X11_move (a0 : Nat) (x1 : Int32) (x2 : Int32) (x3 : Int32) (μ : Mem) : Option (Int32 × Mem) :=
  if (X11_isState x1) = 0 then
  some ((-1002), μ)
  else
  if (X11_isState x2) = 0 then
  some ((-1002), μ)
  else
  if (X11_in x3.toInt64 0 4) = 0 then
  some ((-1002), μ)
  else
  (gR 11 0 a0 μ).bind fun v4 =>
  (aI v4 ((4 * x1) + x2) μ).bind fun v5 =>
  (gR 11 0 a0 μ).bind fun v6 =>
  (sI v6 ((4 * x1) + x2) x3 μ).bind fun μ7 =>
  some (v5, μ7)
set_option maxRecDepth 100000 in
set_option maxHeartbeats 4000000 in
theorem wk_X11_move {G : GL} {X : CX} {a0 : Nat} {x1 : Int32} {x2 : Int32} {x3 : Int32} {μ : Mem} {r : Int32} {μ' : Mem} (C : Ctx G X cX11_move 5 RX11 rm_X11_move) (h : X11_move a0 x1 x2 x3 μ = some (r, μ')) (hret : RtI G 5 X cX11_move 0 0 r μ') : AW G 5 X 0 0 0 [(0, .ref (gZ G + a0)), (1, .int x1), (2, .int x2), (3, .int x3)] [] μ := by
  unfold X11_move at h
  refine aw_iload_n C 1 dX11_move_0 rfl rfl ?_
  refine aw_cS_I C [.int x1] _ (mt_X11_isState _) cs_X11_isState ml_X11_142 st_X11_isState ⟨by decide, by decide⟩ ⟨rfl, rfl⟩ ⟨Nat.zero_le _, Nat.zero_le _⟩ rfl rfl (Nat.le_of_ble_eq_true rfl) dX11_move_1 ?_
  refine aw_if_eq C 26 dX11_move_4 (by decide) (fun c1 => ?_) (fun c1 => ?_)
  · rw [if_pos c1] at h
    refine aw_sipush C ((-1002)) dX11_move_26 (by decide) ?_
    obtain ⟨e8, e9⟩ := inj2 h
    subst e8
    subst e9
    exact hret _ _ dX11_move_29
  · rw [if_neg c1] at h
    refine aw_iload_n C 2 dX11_move_7 rfl rfl ?_
    refine aw_cS_I C [.int x2] _ (mt_X11_isState _) cs_X11_isState ml_X11_142 st_X11_isState ⟨by decide, by decide⟩ ⟨rfl, rfl⟩ ⟨Nat.zero_le _, Nat.zero_le _⟩ rfl rfl (Nat.le_of_ble_eq_true rfl) dX11_move_8 ?_
    refine aw_if_eq C 26 dX11_move_11 (by decide) (fun c2 => ?_) (fun c2 => ?_)
    · rw [if_pos c2] at h
      refine aw_sipush C ((-1002)) dX11_move_26 (by decide) ?_
      obtain ⟨e8, e9⟩ := inj2 h
      subst e8
      subst e9
      exact hret _ _ dX11_move_29
    · rw [if_neg c2] at h
      refine aw_iload_n C 3 dX11_move_14 rfl rfl ?_
      refine aw_i2l C dX11_move_15 ?_
      refine aw_lconst C 0 dX11_move_16 (by decide) ?_
      refine aw_ldc2 C kl_X11_146 dX11_move_17 ?_
      refine aw_cS_I C [.long x3.toInt64, .long 0, .long 4] _ (mt_X11_in _ _ _) cs_X11_in ml_X11_138 st_X11_in ⟨by decide, by decide⟩ ⟨rfl, rfl⟩ ⟨Nat.zero_le _, Nat.zero_le _⟩ rfl rfl (Nat.le_of_ble_eq_true rfl) dX11_move_20 ?_
      refine aw_if_ne C 30 dX11_move_23 (by decide) (fun c3 => ?_) (fun c3 => ?_)
      · rw [if_neg c3] at h
        refine aw_aload_n C 0 dX11_move_30 rfl rfl ?_
        obtain ⟨v4, hv4, h⟩ := bindE h
        refine aw_gR C fl_X11_7 rfl hv4 dX11_move_31 ?_
        refine aw_iconst C 4 dX11_move_34 (by decide) ?_
        refine aw_iload_n C 1 dX11_move_35 rfl rfl ?_
        refine aw_imul C dX11_move_36 ?_
        refine aw_iload_n C 2 dX11_move_37 rfl rfl ?_
        refine aw_iadd C dX11_move_38 ?_
        obtain ⟨v5, hv5, h⟩ := bindE h
        refine aw_aI C hv5 dX11_move_39 ?_
        refine aw_istore C [(4, .int v5), (0, .ref (gZ G + a0)), (1, .int x1), (2, .int x2), (3, .int x3)] dX11_move_40 (by decide) rfl ?_
        refine aw_aload_n C 1 dX11_move_42 rfl rfl ?_
        obtain ⟨v6, hv6, h⟩ := bindE h
        refine aw_gR C fl_X11_7 rfl hv6 dX11_move_43 ?_
        refine aw_iconst C 4 dX11_move_46 (by decide) ?_
        refine aw_iload_n C 2 dX11_move_47 rfl rfl ?_
        refine aw_imul C dX11_move_48 ?_
        refine aw_iload_n C 3 dX11_move_49 rfl rfl ?_
        refine aw_iadd C dX11_move_50 ?_
        refine aw_iload_n C 4 dX11_move_51 rfl rfl ?_
        obtain ⟨μ7, hμ7, h⟩ := bindE h
        refine aw_sI C hμ7 dX11_move_52 ?_
        refine aw_iload C 0 dX11_move_53 rfl ?_
        obtain ⟨e8, e9⟩ := inj2 h
        subst e8
        subst e9
        exact hret _ _ dX11_move_55
      · rw [if_pos c3] at h
        refine aw_sipush C ((-1002)) dX11_move_26 (by decide) ?_
        obtain ⟨e8, e9⟩ := inj2 h
        subst e8
        subst e9
        exact hret _ _ dX11_move_29
set_option maxRecDepth 100000 in
set_option maxHeartbeats 4000000 in
theorem mt_X11_move {G : GL} {l : Launch} {a0 : Nat} {x1 : Int32} {x2 : Int32} {x3 : Int32} {μ : Mem} {r : Int32} {μ' : Mem} (h : X11_move a0 x1 x2 x3 μ = some (r, μ')) : MtI G l yX11_move cX11_move 5 (some .int) rm_X11_move false [.ref (gZ G + a0), .int x1, .int x2, .int x3] μ r μ' := met_I (by decide) rfl rfl (Nat.le_of_ble_eq_true rfl) (fun X _ C _ _ hret => wk_X11_move C h hret)
def X11_shows (a0 : Nat) (x1 : Int32) (x2 : Int32) (x3 : Int32) (μ : Mem) : Option (Int32 × Mem) :=
  if (X11_isState x1) = 0 then
  some ((-1002), μ)
  else
  if (X11_isState x2) = 0 then
  some ((-1002), μ)
  else
  if (X11_in x3.toInt64 0 4) = 0 then
  some ((-1002), μ)
  else
  (gR 11 1 a0 μ).bind fun v4 =>
  (aI v4 ((4 * x1) + x2) μ).bind fun v5 =>
  (gR 11 1 a0 μ).bind fun v6 =>
  (sI v6 ((4 * x1) + x2) x3 μ).bind fun μ7 =>
  some (v5, μ7)
set_option maxRecDepth 100000 in
set_option maxHeartbeats 4000000 in
theorem wk_X11_shows {G : GL} {X : CX} {a0 : Nat} {x1 : Int32} {x2 : Int32} {x3 : Int32} {μ : Mem} {r : Int32} {μ' : Mem} (C : Ctx G X cX11_shows 5 RX11 rm_X11_shows) (h : X11_shows a0 x1 x2 x3 μ = some (r, μ')) (hret : RtI G 5 X cX11_shows 0 0 r μ') : AW G 5 X 0 0 0 [(0, .ref (gZ G + a0)), (1, .int x1), (2, .int x2), (3, .int x3)] [] μ := by
  unfold X11_shows at h
  refine aw_iload_n C 1 dX11_shows_0 rfl rfl ?_
  refine aw_cS_I C [.int x1] _ (mt_X11_isState _) cs_X11_isState ml_X11_142 st_X11_isState ⟨by decide, by decide⟩ ⟨rfl, rfl⟩ ⟨Nat.zero_le _, Nat.zero_le _⟩ rfl rfl (Nat.le_of_ble_eq_true rfl) dX11_shows_1 ?_
  refine aw_if_eq C 26 dX11_shows_4 (by decide) (fun c1 => ?_) (fun c1 => ?_)
  · rw [if_pos c1] at h
    refine aw_sipush C ((-1002)) dX11_shows_26 (by decide) ?_
    obtain ⟨e8, e9⟩ := inj2 h
    subst e8
    subst e9
    exact hret _ _ dX11_shows_29
  · rw [if_neg c1] at h
    refine aw_iload_n C 2 dX11_shows_7 rfl rfl ?_
    refine aw_cS_I C [.int x2] _ (mt_X11_isState _) cs_X11_isState ml_X11_142 st_X11_isState ⟨by decide, by decide⟩ ⟨rfl, rfl⟩ ⟨Nat.zero_le _, Nat.zero_le _⟩ rfl rfl (Nat.le_of_ble_eq_true rfl) dX11_shows_8 ?_
    refine aw_if_eq C 26 dX11_shows_11 (by decide) (fun c2 => ?_) (fun c2 => ?_)
    · rw [if_pos c2] at h
      refine aw_sipush C ((-1002)) dX11_shows_26 (by decide) ?_
      obtain ⟨e8, e9⟩ := inj2 h
      subst e8
      subst e9
      exact hret _ _ dX11_shows_29
    · rw [if_neg c2] at h
      refine aw_iload_n C 3 dX11_shows_14 rfl rfl ?_
      refine aw_i2l C dX11_shows_15 ?_
      refine aw_lconst C 0 dX11_shows_16 (by decide) ?_
      refine aw_ldc2 C kl_X11_146 dX11_shows_17 ?_
      refine aw_cS_I C [.long x3.toInt64, .long 0, .long 4] _ (mt_X11_in _ _ _) cs_X11_in ml_X11_138 st_X11_in ⟨by decide, by decide⟩ ⟨rfl, rfl⟩ ⟨Nat.zero_le _, Nat.zero_le _⟩ rfl rfl (Nat.le_of_ble_eq_true rfl) dX11_shows_20 ?_
      refine aw_if_ne C 30 dX11_shows_23 (by decide) (fun c3 => ?_) (fun c3 => ?_)
      · rw [if_neg c3] at h
        refine aw_aload_n C 0 dX11_shows_30 rfl rfl ?_
        obtain ⟨v4, hv4, h⟩ := bindE h
        refine aw_gR C fl_X11_13 rfl hv4 dX11_shows_31 ?_
        refine aw_iconst C 4 dX11_shows_34 (by decide) ?_
        refine aw_iload_n C 1 dX11_shows_35 rfl rfl ?_
        refine aw_imul C dX11_shows_36 ?_
        refine aw_iload_n C 2 dX11_shows_37 rfl rfl ?_
        refine aw_iadd C dX11_shows_38 ?_
        obtain ⟨v5, hv5, h⟩ := bindE h
        refine aw_aI C hv5 dX11_shows_39 ?_
        refine aw_istore C [(4, .int v5), (0, .ref (gZ G + a0)), (1, .int x1), (2, .int x2), (3, .int x3)] dX11_shows_40 (by decide) rfl ?_
        refine aw_aload_n C 1 dX11_shows_42 rfl rfl ?_
        obtain ⟨v6, hv6, h⟩ := bindE h
        refine aw_gR C fl_X11_13 rfl hv6 dX11_shows_43 ?_
        refine aw_iconst C 4 dX11_shows_46 (by decide) ?_
        refine aw_iload_n C 2 dX11_shows_47 rfl rfl ?_
        refine aw_imul C dX11_shows_48 ?_
        refine aw_iload_n C 3 dX11_shows_49 rfl rfl ?_
        refine aw_iadd C dX11_shows_50 ?_
        refine aw_iload_n C 4 dX11_shows_51 rfl rfl ?_
        obtain ⟨μ7, hμ7, h⟩ := bindE h
        refine aw_sI C hμ7 dX11_shows_52 ?_
        refine aw_iload C 0 dX11_shows_53 rfl ?_
        obtain ⟨e8, e9⟩ := inj2 h
        subst e8
        subst e9
        exact hret _ _ dX11_shows_55
      · rw [if_pos c3] at h
        refine aw_sipush C ((-1002)) dX11_shows_26 (by decide) ?_
        obtain ⟨e8, e9⟩ := inj2 h
        subst e8
        subst e9
        exact hret _ _ dX11_shows_29
set_option maxRecDepth 100000 in
set_option maxHeartbeats 4000000 in
theorem mt_X11_shows {G : GL} {l : Launch} {a0 : Nat} {x1 : Int32} {x2 : Int32} {x3 : Int32} {μ : Mem} {r : Int32} {μ' : Mem} (h : X11_shows a0 x1 x2 x3 μ = some (r, μ')) : MtI G l yX11_shows cX11_shows 5 (some .int) rm_X11_shows false [.ref (gZ G + a0), .int x1, .int x2, .int x3] μ r μ' := met_I (by decide) rfl rfl (Nat.le_of_ble_eq_true rfl) (fun X _ C _ _ hret => wk_X11_shows C h hret)
def X11_begins (a0 : Nat) (x1 : Int32) (x2 : Int32) (μ : Mem) : Option (Int32 × Mem) :=
  if (X11_isState x1) = 0 then
  some ((-1002), μ)
  else
  if (X11_in x2.toInt64 0 4) = 0 then
  some ((-1002), μ)
  else
  (gR 11 2 a0 μ).bind fun v3 =>
  (aI v3 x1 μ).bind fun v4 =>
  (gR 11 2 a0 μ).bind fun v5 =>
  (sI v5 x1 x2 μ).bind fun μ6 =>
  some (v4, μ6)
set_option maxRecDepth 100000 in
set_option maxHeartbeats 4000000 in
theorem wk_X11_begins {G : GL} {X : CX} {a0 : Nat} {x1 : Int32} {x2 : Int32} {μ : Mem} {r : Int32} {μ' : Mem} (C : Ctx G X cX11_begins 4 RX11 rm_X11_begins) (h : X11_begins a0 x1 x2 μ = some (r, μ')) (hret : RtI G 4 X cX11_begins 0 0 r μ') : AW G 4 X 0 0 0 [(0, .ref (gZ G + a0)), (1, .int x1), (2, .int x2)] [] μ := by
  unfold X11_begins at h
  refine aw_iload_n C 1 dX11_begins_0 rfl rfl ?_
  refine aw_cS_I C [.int x1] _ (mt_X11_isState _) cs_X11_isState ml_X11_142 st_X11_isState ⟨by decide, by decide⟩ ⟨rfl, rfl⟩ ⟨Nat.zero_le _, Nat.zero_le _⟩ rfl rfl (Nat.le_of_ble_eq_true rfl) dX11_begins_1 ?_
  refine aw_if_eq C 19 dX11_begins_4 (by decide) (fun c1 => ?_) (fun c1 => ?_)
  · rw [if_pos c1] at h
    refine aw_sipush C ((-1002)) dX11_begins_19 (by decide) ?_
    obtain ⟨e8, e9⟩ := inj2 h
    subst e8
    subst e9
    exact hret _ _ dX11_begins_22
  · rw [if_neg c1] at h
    refine aw_iload_n C 2 dX11_begins_7 rfl rfl ?_
    refine aw_i2l C dX11_begins_8 ?_
    refine aw_lconst C 0 dX11_begins_9 (by decide) ?_
    refine aw_ldc2 C kl_X11_146 dX11_begins_10 ?_
    refine aw_cS_I C [.long x2.toInt64, .long 0, .long 4] _ (mt_X11_in _ _ _) cs_X11_in ml_X11_138 st_X11_in ⟨by decide, by decide⟩ ⟨rfl, rfl⟩ ⟨Nat.zero_le _, Nat.zero_le _⟩ rfl rfl (Nat.le_of_ble_eq_true rfl) dX11_begins_13 ?_
    refine aw_if_ne C 23 dX11_begins_16 (by decide) (fun c2 => ?_) (fun c2 => ?_)
    · rw [if_neg c2] at h
      refine aw_aload_n C 0 dX11_begins_23 rfl rfl ?_
      obtain ⟨v3, hv3, h⟩ := bindE h
      refine aw_gR C fl_X11_16 rfl hv3 dX11_begins_24 ?_
      refine aw_iload_n C 1 dX11_begins_27 rfl rfl ?_
      obtain ⟨v4, hv4, h⟩ := bindE h
      refine aw_aI C hv4 dX11_begins_28 ?_
      refine aw_istore_n C [(3, .int v4), (0, .ref (gZ G + a0)), (1, .int x1), (2, .int x2)] dX11_begins_29 rfl (by decide) rfl ?_
      refine aw_aload_n C 1 dX11_begins_30 rfl rfl ?_
      obtain ⟨v5, hv5, h⟩ := bindE h
      refine aw_gR C fl_X11_16 rfl hv5 dX11_begins_31 ?_
      refine aw_iload_n C 2 dX11_begins_34 rfl rfl ?_
      refine aw_iload_n C 3 dX11_begins_35 rfl rfl ?_
      obtain ⟨μ6, hμ6, h⟩ := bindE h
      refine aw_sI C hμ6 dX11_begins_36 ?_
      refine aw_iload_n C 0 dX11_begins_37 rfl rfl ?_
      obtain ⟨e8, e9⟩ := inj2 h
      subst e8
      subst e9
      exact hret _ _ dX11_begins_38
    · rw [if_pos c2] at h
      refine aw_sipush C ((-1002)) dX11_begins_19 (by decide) ?_
      obtain ⟨e8, e9⟩ := inj2 h
      subst e8
      subst e9
      exact hret _ _ dX11_begins_22
set_option maxRecDepth 100000 in
set_option maxHeartbeats 4000000 in
theorem mt_X11_begins {G : GL} {l : Launch} {a0 : Nat} {x1 : Int32} {x2 : Int32} {μ : Mem} {r : Int32} {μ' : Mem} (h : X11_begins a0 x1 x2 μ = some (r, μ')) : MtI G l yX11_begins cX11_begins 4 (some .int) rm_X11_begins false [.ref (gZ G + a0), .int x1, .int x2] μ r μ' := met_I (by decide) rfl rfl (Nat.le_of_ble_eq_true rfl) (fun X _ C _ _ hret => wk_X11_begins C h hret)
def X11_seams (a0 : Nat) (x1 : Int32) (μ : Mem) : Option (Int32 × Mem) :=
  if (X11_in x1.toInt64 0 15) = 0 then
  some ((-1002), μ)
  else
  (gI 11 3 a0 μ).bind fun v2 =>
  (pI 11 3 a0 x1 μ).bind fun μ3 =>
  some (v2, μ3)
set_option maxRecDepth 100000 in
set_option maxHeartbeats 4000000 in
theorem wk_X11_seams {G : GL} {X : CX} {a0 : Nat} {x1 : Int32} {μ : Mem} {r : Int32} {μ' : Mem} (C : Ctx G X cX11_seams 3 RX11 rm_X11_seams) (h : X11_seams a0 x1 μ = some (r, μ')) (hret : RtI G 3 X cX11_seams 0 0 r μ') : AW G 3 X 0 0 0 [(0, .ref (gZ G + a0)), (1, .int x1)] [] μ := by
  unfold X11_seams at h
  refine aw_iload_n C 1 dX11_seams_0 rfl rfl ?_
  refine aw_i2l C dX11_seams_1 ?_
  refine aw_lconst C 0 dX11_seams_2 (by decide) ?_
  refine aw_ldc2 C kl_X11_148 dX11_seams_3 ?_
  refine aw_cS_I C [.long x1.toInt64, .long 0, .long 15] _ (mt_X11_in _ _ _) cs_X11_in ml_X11_138 st_X11_in ⟨by decide, by decide⟩ ⟨rfl, rfl⟩ ⟨Nat.zero_le _, Nat.zero_le _⟩ rfl rfl (Nat.le_of_ble_eq_true rfl) dX11_seams_6 ?_
  refine aw_if_ne C 16 dX11_seams_9 (by decide) (fun c1 => ?_) (fun c1 => ?_)
  · rw [if_neg c1] at h
    refine aw_aload_n C 0 dX11_seams_16 rfl rfl ?_
    obtain ⟨v2, hv2, h⟩ := bindE h
    refine aw_gI C fl_X11_150 rfl hv2 dX11_seams_17 ?_
    refine aw_istore_n C [(2, .int v2), (0, .ref (gZ G + a0)), (1, .int x1)] dX11_seams_20 rfl (by decide) rfl ?_
    refine aw_aload_n C 1 dX11_seams_21 rfl rfl ?_
    refine aw_iload_n C 2 dX11_seams_22 rfl rfl ?_
    obtain ⟨μ3, hμ3, h⟩ := bindE h
    refine aw_pI C fl_X11_150 rfl hμ3 dX11_seams_23 ?_
    refine aw_iload_n C 0 dX11_seams_26 rfl rfl ?_
    obtain ⟨e8, e9⟩ := inj2 h
    subst e8
    subst e9
    exact hret _ _ dX11_seams_27
  · rw [if_pos c1] at h
    refine aw_sipush C ((-1002)) dX11_seams_12 (by decide) ?_
    obtain ⟨e8, e9⟩ := inj2 h
    subst e8
    subst e9
    exact hret _ _ dX11_seams_15
set_option maxRecDepth 100000 in
set_option maxHeartbeats 4000000 in
theorem mt_X11_seams {G : GL} {l : Launch} {a0 : Nat} {x1 : Int32} {μ : Mem} {r : Int32} {μ' : Mem} (h : X11_seams a0 x1 μ = some (r, μ')) : MtI G l yX11_seams cX11_seams 3 (some .int) rm_X11_seams false [.ref (gZ G + a0), .int x1] μ r μ' := met_I (by decide) rfl rfl (Nat.le_of_ble_eq_true rfl) (fun X _ C _ _ hret => wk_X11_seams C h hret)
def X11_sign (a0 : Nat) (x1 : Int32) (x2 : Int32) (μ : Mem) : Option (Int32 × Mem) :=
  if (X11_isPerson x1) = 0 then
  some ((-1001), μ)
  else
  if (X11_in x2.toInt64 ((-1)) 3) = 0 then
  some ((-1002), μ)
  else
  (gR 11 4 a0 μ).bind fun v3 =>
  (gI 11 5 a0 μ).bind fun v4 =>
  (sI v3 ((61 * x1) + v4) x2 μ).bind fun μ5 =>
  some (1, μ5)
set_option maxRecDepth 100000 in
set_option maxHeartbeats 4000000 in
theorem wk_X11_sign {G : GL} {X : CX} {a0 : Nat} {x1 : Int32} {x2 : Int32} {μ : Mem} {r : Int32} {μ' : Mem} (C : Ctx G X cX11_sign 3 RX11 rm_X11_sign) (h : X11_sign a0 x1 x2 μ = some (r, μ')) (hret : RtI G 3 X cX11_sign 0 0 r μ') : AW G 3 X 0 0 0 [(0, .ref (gZ G + a0)), (1, .int x1), (2, .int x2)] [] μ := by
  unfold X11_sign at h
  refine aw_iload_n C 1 dX11_sign_0 rfl rfl ?_
  refine aw_cS_I C [.int x1] _ (mt_X11_isPerson _) cs_X11_isPerson ml_X11_153 st_X11_isPerson ⟨by decide, by decide⟩ ⟨rfl, rfl⟩ ⟨Nat.zero_le _, Nat.zero_le _⟩ rfl rfl (Nat.le_of_ble_eq_true rfl) dX11_sign_1 ?_
  refine aw_if_ne C 11 dX11_sign_4 (by decide) (fun c1 => ?_) (fun c1 => ?_)
  · rw [if_neg c1] at h
    refine aw_iload_n C 2 dX11_sign_11 rfl rfl ?_
    refine aw_i2l C dX11_sign_12 ?_
    refine aw_ldc2 C kl_X11_156 dX11_sign_13 ?_
    refine aw_ldc2 C kl_X11_136 dX11_sign_16 ?_
    refine aw_cS_I C [.long x2.toInt64, .long ((-1)), .long 3] _ (mt_X11_in _ _ _) cs_X11_in ml_X11_138 st_X11_in ⟨by decide, by decide⟩ ⟨rfl, rfl⟩ ⟨Nat.zero_le _, Nat.zero_le _⟩ rfl rfl (Nat.le_of_ble_eq_true rfl) dX11_sign_19 ?_
    refine aw_if_ne C 29 dX11_sign_22 (by decide) (fun c2 => ?_) (fun c2 => ?_)
    · rw [if_neg c2] at h
      refine aw_aload_n C 0 dX11_sign_29 rfl rfl ?_
      obtain ⟨v3, hv3, h⟩ := bindE h
      refine aw_gR C fl_X11_19 rfl hv3 dX11_sign_30 ?_
      refine aw_bipush C 61 dX11_sign_33 (by decide) ?_
      refine aw_iload_n C 1 dX11_sign_35 rfl rfl ?_
      refine aw_imul C dX11_sign_36 ?_
      refine aw_aload_n C 0 dX11_sign_37 rfl rfl ?_
      obtain ⟨v4, hv4, h⟩ := bindE h
      refine aw_gI C fl_X11_158 rfl hv4 dX11_sign_38 ?_
      refine aw_iadd C dX11_sign_41 ?_
      refine aw_iload_n C 2 dX11_sign_42 rfl rfl ?_
      obtain ⟨μ5, hμ5, h⟩ := bindE h
      refine aw_sI C hμ5 dX11_sign_43 ?_
      refine aw_iconst C 1 dX11_sign_44 (by decide) ?_
      obtain ⟨e8, e9⟩ := inj2 h
      subst e8
      subst e9
      exact hret _ _ dX11_sign_45
    · rw [if_pos c2] at h
      refine aw_sipush C ((-1002)) dX11_sign_25 (by decide) ?_
      obtain ⟨e8, e9⟩ := inj2 h
      subst e8
      subst e9
      exact hret _ _ dX11_sign_28
  · rw [if_pos c1] at h
    refine aw_sipush C ((-1001)) dX11_sign_7 (by decide) ?_
    obtain ⟨e8, e9⟩ := inj2 h
    subst e8
    subst e9
    exact hret _ _ dX11_sign_10
set_option maxRecDepth 100000 in
set_option maxHeartbeats 4000000 in
theorem mt_X11_sign {G : GL} {l : Launch} {a0 : Nat} {x1 : Int32} {x2 : Int32} {μ : Mem} {r : Int32} {μ' : Mem} (h : X11_sign a0 x1 x2 μ = some (r, μ')) : MtI G l yX11_sign cX11_sign 3 (some .int) rm_X11_sign false [.ref (gZ G + a0), .int x1, .int x2] μ r μ' := met_I (by decide) rfl rfl (Nat.le_of_ble_eq_true rfl) (fun X _ C _ _ hret => wk_X11_sign C h hret)
def X11_go (a0 : Nat) (x1 : Int32) (μ : Mem) : Option (Int32 × Mem) :=
  if (X11_in x1.toInt64 0 20) = 0 then
  some ((-1002), μ)
  else
  (gI 11 5 a0 μ).bind fun v2 =>
  if (v2 + x1) ≤ 60 then
  (gI 11 5 a0 μ).bind fun v4 =>
  (pI 11 5 a0 (v4 + x1) μ).bind fun μ5 =>
  (gI 11 5 a0 μ5).bind fun v6 =>
  some (v6, μ5)
  else
  some ((-1003), μ)
set_option maxRecDepth 100000 in
set_option maxHeartbeats 4000000 in
theorem wk_X11_go {G : GL} {X : CX} {a0 : Nat} {x1 : Int32} {μ : Mem} {r : Int32} {μ' : Mem} (C : Ctx G X cX11_go 2 RX11 rm_X11_go) (h : X11_go a0 x1 μ = some (r, μ')) (hret : RtI G 2 X cX11_go 0 0 r μ') : AW G 2 X 0 0 0 [(0, .ref (gZ G + a0)), (1, .int x1)] [] μ := by
  unfold X11_go at h
  refine aw_iload_n C 1 dX11_go_0 rfl rfl ?_
  refine aw_i2l C dX11_go_1 ?_
  refine aw_lconst C 0 dX11_go_2 (by decide) ?_
  refine aw_ldc2 C kl_X11_161 dX11_go_3 ?_
  refine aw_cS_I C [.long x1.toInt64, .long 0, .long 20] _ (mt_X11_in _ _ _) cs_X11_in ml_X11_138 st_X11_in ⟨by decide, by decide⟩ ⟨rfl, rfl⟩ ⟨Nat.zero_le _, Nat.zero_le _⟩ rfl rfl (Nat.le_of_ble_eq_true rfl) dX11_go_6 ?_
  refine aw_if_ne C 16 dX11_go_9 (by decide) (fun c1 => ?_) (fun c1 => ?_)
  · rw [if_neg c1] at h
    refine aw_aload_n C 0 dX11_go_16 rfl rfl ?_
    obtain ⟨v2, hv2, h⟩ := bindE h
    refine aw_gI C fl_X11_158 rfl hv2 dX11_go_17 ?_
    refine aw_iload_n C 1 dX11_go_20 rfl rfl ?_
    refine aw_iadd C dX11_go_21 ?_
    refine aw_bipush C 60 dX11_go_22 (by decide) ?_
    refine aw_icmp_le C 31 dX11_go_24 (by decide) (fun c3 => ?_) (fun c3 => ?_)
    · rw [if_pos c3] at h
      refine aw_aload_n C 0 dX11_go_31 rfl rfl ?_
      refine aw_dup C dX11_go_32 rfl ?_
      obtain ⟨v4, hv4, h⟩ := bindE h
      refine aw_gI C fl_X11_158 rfl hv4 dX11_go_33 ?_
      refine aw_iload_n C 1 dX11_go_36 rfl rfl ?_
      refine aw_iadd C dX11_go_37 ?_
      obtain ⟨μ5, hμ5, h⟩ := bindE h
      refine aw_pI C fl_X11_158 rfl hμ5 dX11_go_38 ?_
      refine aw_aload_n C 0 dX11_go_41 rfl rfl ?_
      obtain ⟨v6, hv6, h⟩ := bindE h
      refine aw_gI C fl_X11_158 rfl hv6 dX11_go_42 ?_
      obtain ⟨e8, e9⟩ := inj2 h
      subst e8
      subst e9
      exact hret _ _ dX11_go_45
    · rw [if_neg c3] at h
      refine aw_sipush C ((-1003)) dX11_go_27 (by decide) ?_
      obtain ⟨e8, e9⟩ := inj2 h
      subst e8
      subst e9
      exact hret _ _ dX11_go_30
  · rw [if_pos c1] at h
    refine aw_sipush C ((-1002)) dX11_go_12 (by decide) ?_
    obtain ⟨e8, e9⟩ := inj2 h
    subst e8
    subst e9
    exact hret _ _ dX11_go_15
set_option maxRecDepth 100000 in
set_option maxHeartbeats 4000000 in
theorem mt_X11_go {G : GL} {l : Launch} {a0 : Nat} {x1 : Int32} {μ : Mem} {r : Int32} {μ' : Mem} (h : X11_go a0 x1 μ = some (r, μ')) : MtI G l yX11_go cX11_go 2 (some .int) rm_X11_go false [.ref (gZ G + a0), .int x1] μ r μ' := met_I (by decide) rfl rfl (Nat.le_of_ble_eq_true rfl) (fun X _ C _ _ hret => wk_X11_go C h hret)
def X11_showsAt (a0 : Nat) (x1 : Int32) (x2 : Int32) (x3 : Int32) (μ : Mem) : Option Int32 :=
  (gR 11 4 a0 μ).bind fun v1 =>
  (aI v1 ((61 * x1) + x2) μ).bind fun v2 =>
  ((if (0 : Int32) ≤ v2 then
  (gR 11 1 a0 μ).bind fun v4 =>
  (aI v4 ((4 * x3) + v2) μ).bind fun v5 =>
  some v5
  else
  some 1) : Option (Int32)).bind fun z6 =>
  some (z6)
set_option maxRecDepth 100000 in
set_option maxHeartbeats 4000000 in
theorem wk_X11_showsAt {G : GL} {X : CX} {a0 : Nat} {x1 : Int32} {x2 : Int32} {x3 : Int32} {μ : Mem} {r : Int32} (C : Ctx G X cX11_showsAt 5 RX11 rm_X11_showsAt) (h : X11_showsAt a0 x1 x2 x3 μ = some r) (hret : RtI G 5 X cX11_showsAt 0 0 r μ) : AW G 5 X 0 0 0 [(0, .ref (gZ G + a0)), (1, .int x1), (2, .int x2), (3, .int x3)] [] μ := by
  unfold X11_showsAt at h
  refine aw_aload_n C 0 dX11_showsAt_0 rfl rfl ?_
  obtain ⟨v1, hv1, h⟩ := bindE h
  refine aw_gR C fl_X11_19 rfl hv1 dX11_showsAt_1 ?_
  refine aw_bipush C 61 dX11_showsAt_4 (by decide) ?_
  refine aw_iload_n C 1 dX11_showsAt_6 rfl rfl ?_
  refine aw_imul C dX11_showsAt_7 ?_
  refine aw_iload_n C 2 dX11_showsAt_8 rfl rfl ?_
  refine aw_iadd C dX11_showsAt_9 ?_
  obtain ⟨v2, hv2, h⟩ := bindE h
  refine aw_aI C hv2 dX11_showsAt_10 ?_
  refine aw_istore C [(4, .int v2), (0, .ref (gZ G + a0)), (1, .int x1), (2, .int x2), (3, .int x3)] dX11_showsAt_11 (by decide) rfl ?_
  refine aw_iload C 0 dX11_showsAt_13 rfl ?_
  obtain ⟨z6, hz6, h⟩ := bindE h
  have kj15 : AW G 5 X 0 0 33 [] [.int z6] μ := by
    have e9 := inj1 h
    subst e9
    exact hret _ _ dX11_showsAt_33
  replace h := hz6
  refine aw_if_ge C 22 dX11_showsAt_15 (by decide) (fun c3 => ?_) (fun c3 => ?_)
  · rw [if_pos c3] at h
    refine aw_aload_n C 1 dX11_showsAt_22 rfl rfl ?_
    obtain ⟨v4, hv4, h⟩ := bindE h
    refine aw_gR C fl_X11_13 rfl hv4 dX11_showsAt_23 ?_
    refine aw_iconst C 4 dX11_showsAt_26 (by decide) ?_
    refine aw_iload_n C 4 dX11_showsAt_27 rfl rfl ?_
    refine aw_imul C dX11_showsAt_28 ?_
    refine aw_iload C 0 dX11_showsAt_29 rfl ?_
    refine aw_iadd C dX11_showsAt_31 ?_
    obtain ⟨v5, hv5, h⟩ := bindE h
    refine aw_aI C hv5 dX11_showsAt_32 ?_
    have e9 := inj1 h
    subst e9
    exact aw_sub [] rfl kj15
  · rw [if_neg c3] at h
    refine aw_iconst C 1 dX11_showsAt_18 (by decide) ?_
    refine aw_goto C 33 dX11_showsAt_19 (by decide) ?_
    have e9 := inj1 h
    subst e9
    exact aw_sub [] rfl kj15
set_option maxRecDepth 100000 in
set_option maxHeartbeats 4000000 in
theorem mt_X11_showsAt {G : GL} {l : Launch} {a0 : Nat} {x1 : Int32} {x2 : Int32} {x3 : Int32} {μ : Mem} {r : Int32} (h : X11_showsAt a0 x1 x2 x3 μ = some r) : MtI G l yX11_showsAt cX11_showsAt 5 (some .int) rm_X11_showsAt false [.ref (gZ G + a0), .int x1, .int x2, .int x3] μ r μ := met_I (by decide) rfl rfl (Nat.le_of_ble_eq_true rfl) (fun X _ C _ _ hret => wk_X11_showsAt C h hret)
def X11_findRows_L18 (a0 : Nat) (x1 : Int32) (x2 : Int32) (x3 : Int32) : Nat → Int32 → Mem → Option (Int32 × Mem)
  | 0, _, _ => none
  | n + 1, x4, μ =>
      if (4 : Int32) ≤ x4 then
      some ((x4, μ))
      else
      (gR 11 6 a0 μ).bind fun v2 =>
      (gR 11 2 a0 μ).bind fun v3 =>
      (aI v3 x4 μ).bind fun v4 =>
      (vO 11 a0 μ).bind fun g5 =>
      (X11_showsAt a0 x1 x3 x4 μ).bind fun v6 =>
      (sJ v2 x4 (v4.toInt64 * v6.toInt64) μ).bind fun μ7 =>
      (gR 11 8 a0 μ7).bind fun v8 =>
      (gR 11 6 a0 μ7).bind fun v9 =>
      (aJ v9 x4 μ7).bind fun v10 =>
      (some (if (lg_cmp v10 0) ≤ 0 then 0 else 1 : Int32)).bind fun v12 =>
      (sI v8 x4 v12 μ7).bind fun μ13 =>
      X11_findRows_L18 a0 x1 x2 x3 n (x4 + 1) μ13
set_option maxRecDepth 100000 in
set_option maxHeartbeats 4000000 in
theorem X11_findRows_L18_ok {G : GL} {X : CX} (C : Ctx G X cX11_findRows 8 RX11 rm_X11_findRows) (a0 : Nat) (x1 : Int32) (x2 : Int32) (x3 : Int32) : ∀ (n : Nat) (x4 : Int32) (μ : Mem) (z : Int32 × Mem), X11_findRows_L18 a0 x1 x2 x3 n x4 μ = some z → AW G 8 X 0 0 79 [(0, .ref (gZ G + a0)), (1, .int x1), (2, .int x2), (3, .int x3), (4, .int z.1)] [] z.2 → AW G 8 X 0 0 18 [(0, .ref (gZ G + a0)), (1, .int x1), (2, .int x2), (3, .int x3), (4, .int x4)] [] μ := by
  intro n
  induction n with
  | zero =>
    intro x4 μ z h kx
    rw [X11_findRows_L18] at h
    cases h
  | succ n ih =>
    intro x4 μ z h kx
    rw [X11_findRows_L18] at h
    refine aw_iload C 4 dX11_findRows_18 rfl ?_
    refine aw_iconst C 4 dX11_findRows_20 (by decide) ?_
    refine aw_icmp_ge C 79 dX11_findRows_21 (by decide) (fun c1 => ?_) (fun c1 => ?_)
    · rw [if_pos c1] at h
      have e9 := inj1 h
      subst e9
      exact aw_sub [0, 1, 2, 3, 4] rfl kx
    · rw [if_neg c1] at h
      refine aw_aload_n C 0 dX11_findRows_24 rfl rfl ?_
      obtain ⟨v2, hv2, h⟩ := bindE h
      refine aw_gR C fl_X11_22 rfl hv2 dX11_findRows_25 ?_
      refine aw_iload C 4 dX11_findRows_28 rfl ?_
      refine aw_aload_n C 0 dX11_findRows_30 rfl rfl ?_
      obtain ⟨v3, hv3, h⟩ := bindE h
      refine aw_gR C fl_X11_16 rfl hv3 dX11_findRows_31 ?_
      refine aw_iload C 4 dX11_findRows_34 rfl ?_
      obtain ⟨v4, hv4, h⟩ := bindE h
      refine aw_aI C hv4 dX11_findRows_36 ?_
      refine aw_i2l C dX11_findRows_37 ?_
      refine aw_aload_n C 0 dX11_findRows_38 rfl rfl ?_
      refine aw_iload_n C 1 dX11_findRows_39 rfl rfl ?_
      refine aw_iload_n C 3 dX11_findRows_40 rfl rfl ?_
      refine aw_iload C 4 dX11_findRows_41 rfl ?_
      obtain ⟨g5, hg5, h⟩ := bindE h
      obtain ⟨v6, hv6, h⟩ := bindE h
      refine aw_cV_I C [.int x1, .int x3, .int x4] _ (mt_X11_showsAt hv6) cs_X11_showsAt ml_X11_163 im_X11_showsAt se_X11_showsAt (ci := 11) rfl rfl hg5 ⟨by decide, by decide⟩ ⟨rfl, rfl⟩ ⟨Nat.zero_le _, Nat.zero_le _⟩ rfl rfl (Nat.le_of_ble_eq_true rfl) dX11_findRows_43 ?_
      refine aw_i2l C dX11_findRows_46 ?_
      refine aw_lmul C dX11_findRows_47 ?_
      obtain ⟨μ7, hμ7, h⟩ := bindE h
      refine aw_sJ C hμ7 dX11_findRows_48 ?_
      refine aw_aload_n C 0 dX11_findRows_49 rfl rfl ?_
      obtain ⟨v8, hv8, h⟩ := bindE h
      refine aw_gR C fl_X11_29 rfl hv8 dX11_findRows_50 ?_
      refine aw_iload C 4 dX11_findRows_53 rfl ?_
      refine aw_aload_n C 0 dX11_findRows_55 rfl rfl ?_
      obtain ⟨v9, hv9, h⟩ := bindE h
      refine aw_gR C fl_X11_22 rfl hv9 dX11_findRows_56 ?_
      refine aw_iload C 4 dX11_findRows_59 rfl ?_
      obtain ⟨v10, hv10, h⟩ := bindE h
      refine aw_aJ C hv10 dX11_findRows_61 ?_
      refine aw_lconst C 0 dX11_findRows_62 (by decide) ?_
      refine aw_lcmp C dX11_findRows_63 ?_
      obtain ⟨v12, ev12, h⟩ := bindS h
      have kj64 : AW G 8 X 0 0 72 [(0, .ref (gZ G + a0)), (1, .int x1), (2, .int x2), (3, .int x3), (4, .int x4)] [.int v12, .int x4, .ref (gZ G + v8)] μ7 := by
        obtain ⟨μ13, hμ13, h⟩ := bindE h
        refine aw_sI C hμ13 dX11_findRows_72 ?_
        refine aw_iinc C (x4 + 1) 4 [(4, .int (x4 + 1)), (0, .ref (gZ G + a0)), (1, .int x1), (2, .int x2), (3, .int x3)] dX11_findRows_73 rfl rfl (by decide) rfl ?_
        refine aw_goto C 18 dX11_findRows_76 (by decide) ?_
        exact aw_sub [1, 2, 3, 4, 0] rfl (ih _ _ _ h kx)
      clear h
      refine aw_if_le C 71 dX11_findRows_64 (by decide) (fun c11 => ?_) (fun c11 => ?_)
      · refine aw_iconst C 0 dX11_findRows_71 (by decide) ?_
        rw [if_pos c11] at ev12
        subst ev12
        exact aw_sub [0, 1, 2, 3, 4] rfl kj64
      · refine aw_iconst C 1 dX11_findRows_67 (by decide) ?_
        refine aw_goto C 72 dX11_findRows_68 (by decide) ?_
        rw [if_neg c11] at ev12
        subst ev12
        exact aw_sub [0, 1, 2, 3, 4] rfl kj64
def X11_findRows_L118 (a0 : Nat) (x1 : Int32) (x2 : Int32) (x4 : Int32) (x5 : Int32) : Nat → Int32 → Mem → Option (Int32 × Mem)
  | 0, _, _ => none
  | n + 1, x6, μ =>
      if (4 : Int32) ≤ x6 then
      some ((x6, μ))
      else
      (gR 11 0 a0 μ).bind fun v2 =>
      (aI v2 ((4 * x6) + x5) μ).bind fun v3 =>
      (vO 11 a0 μ).bind fun g4 =>
      (X11_showsAt a0 x1 x4 x5 μ).bind fun v5 =>
      (some (v3 * v5 : Int32)).bind fun v6 =>
      (gR 11 7 a0 μ).bind fun v7 =>
      (aJ v7 x5 μ).bind fun v8 =>
      (gR 11 6 a0 μ).bind fun v9 =>
      (aJ v9 x6 μ).bind fun v10 =>
      (sJ v7 x5 (v8 + (v10 * v6.toInt64)) μ).bind fun μ11 =>
      (gR 11 9 a0 μ11).bind fun v12 =>
      (aI v12 x5 μ11).bind fun v13 =>
      ((if v6 ≤ 0 then
      some 0
      else
      (gR 11 8 a0 μ11).bind fun v15 =>
      (aI v15 x6 μ11).bind fun v16 =>
      some v16) : Option (Int32)).bind fun z17 =>
      (sI v12 x5 (v13 + z17) μ11).bind fun μ18 =>
      X11_findRows_L118 a0 x1 x2 x4 x5 n (x6 + 1) μ18
set_option maxRecDepth 100000 in
set_option maxHeartbeats 4000000 in
theorem X11_findRows_L118_ok {G : GL} {X : CX} (C : Ctx G X cX11_findRows 8 RX11 rm_X11_findRows) (a0 : Nat) (x1 : Int32) (x2 : Int32) (x4 : Int32) (x5 : Int32) : ∀ (n : Nat) (x6 : Int32) (μ : Mem) (z : Int32 × Mem), X11_findRows_L118 a0 x1 x2 x4 x5 n x6 μ = some z → AW G 8 X 0 0 201 [(0, .ref (gZ G + a0)), (1, .int x1), (2, .int x2), (4, .int x4), (5, .int x5), (6, .int z.1)] [] z.2 → AW G 8 X 0 0 118 [(0, .ref (gZ G + a0)), (1, .int x1), (2, .int x2), (4, .int x4), (5, .int x5), (6, .int x6)] [] μ := by
  intro n
  induction n with
  | zero =>
    intro x6 μ z h kx
    rw [X11_findRows_L118] at h
    cases h
  | succ n ih =>
    intro x6 μ z h kx
    rw [X11_findRows_L118] at h
    refine aw_iload C 5 dX11_findRows_118 rfl ?_
    refine aw_iconst C 4 dX11_findRows_120 (by decide) ?_
    refine aw_icmp_ge C 201 dX11_findRows_121 (by decide) (fun c1 => ?_) (fun c1 => ?_)
    · rw [if_pos c1] at h
      have e9 := inj1 h
      subst e9
      exact aw_sub [0, 1, 2, 3, 4, 5] rfl kx
    · rw [if_neg c1] at h
      refine aw_aload_n C 0 dX11_findRows_124 rfl rfl ?_
      obtain ⟨v2, hv2, h⟩ := bindE h
      refine aw_gR C fl_X11_7 rfl hv2 dX11_findRows_125 ?_
      refine aw_iconst C 4 dX11_findRows_128 (by decide) ?_
      refine aw_iload C 5 dX11_findRows_129 rfl ?_
      refine aw_imul C dX11_findRows_131 ?_
      refine aw_iload C 4 dX11_findRows_132 rfl ?_
      refine aw_iadd C dX11_findRows_134 ?_
      obtain ⟨v3, hv3, h⟩ := bindE h
      refine aw_aI C hv3 dX11_findRows_135 ?_
      refine aw_aload_n C 0 dX11_findRows_136 rfl rfl ?_
      refine aw_iload_n C 1 dX11_findRows_137 rfl rfl ?_
      refine aw_iload C 3 dX11_findRows_138 rfl ?_
      refine aw_iload C 4 dX11_findRows_140 rfl ?_
      obtain ⟨g4, hg4, h⟩ := bindE h
      obtain ⟨v5, hv5, h⟩ := bindE h
      refine aw_cV_I C [.int x1, .int x4, .int x5] _ (mt_X11_showsAt hv5) cs_X11_showsAt ml_X11_163 im_X11_showsAt se_X11_showsAt (ci := 11) rfl rfl hg4 ⟨by decide, by decide⟩ ⟨rfl, rfl⟩ ⟨Nat.zero_le _, Nat.zero_le _⟩ rfl rfl (Nat.le_of_ble_eq_true rfl) dX11_findRows_142 ?_
      refine aw_imul C dX11_findRows_145 ?_
      obtain ⟨v6, ev6, h⟩ := bindS h
      refine aw_topi ev6 ?_
      refine aw_istore C [(7, .int v6), (0, .ref (gZ G + a0)), (1, .int x1), (2, .int x2), (4, .int x4), (5, .int x5), (6, .int x6)] dX11_findRows_146 (by decide) rfl ?_
      refine aw_aload_n C 1 dX11_findRows_148 rfl rfl ?_
      obtain ⟨v7, hv7, h⟩ := bindE h
      refine aw_gR C fl_X11_26 rfl hv7 dX11_findRows_149 ?_
      refine aw_iload C 5 dX11_findRows_152 rfl ?_
      refine aw_dup2 C dX11_findRows_154 rfl rfl ?_
      obtain ⟨v8, hv8, h⟩ := bindE h
      refine aw_aJ C hv8 dX11_findRows_155 ?_
      refine aw_aload_n C 1 dX11_findRows_156 rfl rfl ?_
      obtain ⟨v9, hv9, h⟩ := bindE h
      refine aw_gR C fl_X11_22 rfl hv9 dX11_findRows_157 ?_
      refine aw_iload C 6 dX11_findRows_160 rfl ?_
      obtain ⟨v10, hv10, h⟩ := bindE h
      refine aw_aJ C hv10 dX11_findRows_162 ?_
      refine aw_iload C 0 dX11_findRows_163 rfl ?_
      refine aw_i2l C dX11_findRows_165 ?_
      refine aw_lmul C dX11_findRows_166 ?_
      refine aw_ladd C dX11_findRows_167 ?_
      obtain ⟨μ11, hμ11, h⟩ := bindE h
      refine aw_sJ C hμ11 dX11_findRows_168 ?_
      refine aw_aload_n C 1 dX11_findRows_169 rfl rfl ?_
      obtain ⟨v12, hv12, h⟩ := bindE h
      refine aw_gR C fl_X11_32 rfl hv12 dX11_findRows_170 ?_
      refine aw_iload C 5 dX11_findRows_173 rfl ?_
      refine aw_dup2 C dX11_findRows_175 rfl rfl ?_
      obtain ⟨v13, hv13, h⟩ := bindE h
      refine aw_aI C hv13 dX11_findRows_176 ?_
      refine aw_iload C 0 dX11_findRows_177 rfl ?_
      obtain ⟨z17, hz17, h⟩ := bindE h
      have kj179 : AW G 8 X 0 0 193 [(0, .ref (gZ G + a0)), (1, .int x1), (2, .int x2), (4, .int x4), (5, .int x5), (6, .int x6)] [.int z17, .int v13, .int x5, .ref (gZ G + v12)] μ11 := by
        refine aw_iadd C dX11_findRows_193 ?_
        obtain ⟨μ18, hμ18, h⟩ := bindE h
        refine aw_sI C hμ18 dX11_findRows_194 ?_
        refine aw_iinc C (x6 + 1) 5 [(6, .int (x6 + 1)), (0, .ref (gZ G + a0)), (1, .int x1), (2, .int x2), (4, .int x4), (5, .int x5)] dX11_findRows_195 rfl rfl (by decide) rfl ?_
        refine aw_goto C 118 dX11_findRows_198 (by decide) ?_
        exact aw_sub [1, 2, 3, 4, 5, 0] rfl (ih _ _ _ h kx)
      replace h := hz17
      refine aw_if_le C 192 dX11_findRows_179 (by decide) (fun c14 => ?_) (fun c14 => ?_)
      · rw [if_pos c14] at h
        refine aw_iconst C 0 dX11_findRows_192 (by decide) ?_
        have e9 := inj1 h
        subst e9
        exact aw_sub [1, 2, 3, 4, 5, 6] rfl kj179
      · rw [if_neg c14] at h
        refine aw_aload_n C 1 dX11_findRows_182 rfl rfl ?_
        obtain ⟨v15, hv15, h⟩ := bindE h
        refine aw_gR C fl_X11_29 rfl hv15 dX11_findRows_183 ?_
        refine aw_iload C 6 dX11_findRows_186 rfl ?_
        obtain ⟨v16, hv16, h⟩ := bindE h
        refine aw_aI C hv16 dX11_findRows_188 ?_
        refine aw_goto C 193 dX11_findRows_189 (by decide) ?_
        have e9 := inj1 h
        subst e9
        exact aw_sub [1, 2, 3, 4, 5, 6] rfl kj179
def X11_findRows_L93 (a0 : Nat) (x1 : Int32) (x2 : Int32) (x4 : Int32) : Nat → Int32 → Mem → Option (Int32 × Mem)
  | 0, _, _ => none
  | n + 1, x5, μ =>
      if (4 : Int32) ≤ x5 then
      some ((x5, μ))
      else
      (gR 11 7 a0 μ).bind fun v2 =>
      (sJ v2 x5 0 μ).bind fun μ3 =>
      (gR 11 9 a0 μ3).bind fun v4 =>
      (sI v4 x5 0 μ3).bind fun μ5 =>
      (X11_findRows_L118 a0 x1 x2 x4 x5 FU 0 μ5).bind fun z6 =>
      X11_findRows_L93 a0 x1 x2 x4 n (x5 + 1) z6.2
set_option maxRecDepth 100000 in
set_option maxHeartbeats 4000000 in
theorem X11_findRows_L93_ok {G : GL} {X : CX} (C : Ctx G X cX11_findRows 8 RX11 rm_X11_findRows) (a0 : Nat) (x1 : Int32) (x2 : Int32) (x4 : Int32) : ∀ (n : Nat) (x5 : Int32) (μ : Mem) (z : Int32 × Mem), X11_findRows_L93 a0 x1 x2 x4 n x5 μ = some z → AW G 8 X 0 0 207 [(0, .ref (gZ G + a0)), (1, .int x1), (2, .int x2), (4, .int x4), (5, .int z.1)] [] z.2 → AW G 8 X 0 0 93 [(0, .ref (gZ G + a0)), (1, .int x1), (2, .int x2), (4, .int x4), (5, .int x5)] [] μ := by
  intro n
  induction n with
  | zero =>
    intro x5 μ z h kx
    rw [X11_findRows_L93] at h
    cases h
  | succ n ih =>
    intro x5 μ z h kx
    rw [X11_findRows_L93] at h
    refine aw_iload C 4 dX11_findRows_93 rfl ?_
    refine aw_iconst C 4 dX11_findRows_95 (by decide) ?_
    refine aw_icmp_ge C 207 dX11_findRows_96 (by decide) (fun c1 => ?_) (fun c1 => ?_)
    · rw [if_pos c1] at h
      have e9 := inj1 h
      subst e9
      exact aw_sub [0, 1, 2, 3, 4] rfl kx
    · rw [if_neg c1] at h
      refine aw_aload_n C 0 dX11_findRows_99 rfl rfl ?_
      obtain ⟨v2, hv2, h⟩ := bindE h
      refine aw_gR C fl_X11_26 rfl hv2 dX11_findRows_100 ?_
      refine aw_iload C 4 dX11_findRows_103 rfl ?_
      refine aw_lconst C 0 dX11_findRows_105 (by decide) ?_
      obtain ⟨μ3, hμ3, h⟩ := bindE h
      refine aw_sJ C hμ3 dX11_findRows_106 ?_
      refine aw_aload_n C 0 dX11_findRows_107 rfl rfl ?_
      obtain ⟨v4, hv4, h⟩ := bindE h
      refine aw_gR C fl_X11_32 rfl hv4 dX11_findRows_108 ?_
      refine aw_iload C 4 dX11_findRows_111 rfl ?_
      refine aw_iconst C 0 dX11_findRows_113 (by decide) ?_
      obtain ⟨μ5, hμ5, h⟩ := bindE h
      refine aw_sI C hμ5 dX11_findRows_114 ?_
      refine aw_iconst C 0 dX11_findRows_115 (by decide) ?_
      refine aw_istore C [(6, .int 0), (0, .ref (gZ G + a0)), (1, .int x1), (2, .int x2), (4, .int x4), (5, .int x5)] dX11_findRows_116 (by decide) rfl ?_
      obtain ⟨z6, hz6, h⟩ := bindE h
      refine aw_sub [1, 2, 3, 4, 5, 0] rfl ?_
      refine X11_findRows_L118_ok C _ _ _ _ _ _ _ _ _ hz6 ?_
      refine aw_iinc C (x5 + 1) 4 [(5, .int (x5 + 1)), (0, .ref (gZ G + a0)), (1, .int x1), (2, .int x2), (4, .int x4), (6, .int z6.1)] dX11_findRows_201 rfl rfl (by decide) rfl ?_
      refine aw_goto C 93 dX11_findRows_204 (by decide) ?_
      exact aw_sub [1, 2, 3, 4, 0] rfl (ih _ _ _ h kx)
def X11_findRows_L210 (a0 : Nat) (x1 : Int32) (x2 : Int32) (x4 : Int32) : Nat → Int32 → Mem → Option (Int32 × Mem)
  | 0, _, _ => none
  | n + 1, x5, μ =>
      if (4 : Int32) ≤ x5 then
      some ((x5, μ))
      else
      (gR 11 6 a0 μ).bind fun v2 =>
      (gR 11 7 a0 μ).bind fun v3 =>
      (aJ v3 x5 μ).bind fun v4 =>
      (sJ v2 x5 v4 μ).bind fun μ5 =>
      (gR 11 8 a0 μ5).bind fun v6 =>
      (gR 11 9 a0 μ5).bind fun v7 =>
      (aI v7 x5 μ5).bind fun v8 =>
      (sI v6 x5 v8 μ5).bind fun μ9 =>
      X11_findRows_L210 a0 x1 x2 x4 n (x5 + 1) μ9
set_option maxRecDepth 100000 in
set_option maxHeartbeats 4000000 in
theorem X11_findRows_L210_ok {G : GL} {X : CX} (C : Ctx G X cX11_findRows 8 RX11 rm_X11_findRows) (a0 : Nat) (x1 : Int32) (x2 : Int32) (x4 : Int32) : ∀ (n : Nat) (x5 : Int32) (μ : Mem) (z : Int32 × Mem), X11_findRows_L210 a0 x1 x2 x4 n x5 μ = some z → AW G 8 X 0 0 250 [(0, .ref (gZ G + a0)), (1, .int x1), (2, .int x2), (4, .int x4), (5, .int z.1)] [] z.2 → AW G 8 X 0 0 210 [(0, .ref (gZ G + a0)), (1, .int x1), (2, .int x2), (4, .int x4), (5, .int x5)] [] μ := by
  intro n
  induction n with
  | zero =>
    intro x5 μ z h kx
    rw [X11_findRows_L210] at h
    cases h
  | succ n ih =>
    intro x5 μ z h kx
    rw [X11_findRows_L210] at h
    refine aw_iload C 4 dX11_findRows_210 rfl ?_
    refine aw_iconst C 4 dX11_findRows_212 (by decide) ?_
    refine aw_icmp_ge C 250 dX11_findRows_213 (by decide) (fun c1 => ?_) (fun c1 => ?_)
    · rw [if_pos c1] at h
      have e9 := inj1 h
      subst e9
      exact aw_sub [0, 1, 2, 3, 4] rfl kx
    · rw [if_neg c1] at h
      refine aw_aload_n C 0 dX11_findRows_216 rfl rfl ?_
      obtain ⟨v2, hv2, h⟩ := bindE h
      refine aw_gR C fl_X11_22 rfl hv2 dX11_findRows_217 ?_
      refine aw_iload C 4 dX11_findRows_220 rfl ?_
      refine aw_aload_n C 0 dX11_findRows_222 rfl rfl ?_
      obtain ⟨v3, hv3, h⟩ := bindE h
      refine aw_gR C fl_X11_26 rfl hv3 dX11_findRows_223 ?_
      refine aw_iload C 4 dX11_findRows_226 rfl ?_
      obtain ⟨v4, hv4, h⟩ := bindE h
      refine aw_aJ C hv4 dX11_findRows_228 ?_
      obtain ⟨μ5, hμ5, h⟩ := bindE h
      refine aw_sJ C hμ5 dX11_findRows_229 ?_
      refine aw_aload_n C 0 dX11_findRows_230 rfl rfl ?_
      obtain ⟨v6, hv6, h⟩ := bindE h
      refine aw_gR C fl_X11_29 rfl hv6 dX11_findRows_231 ?_
      refine aw_iload C 4 dX11_findRows_234 rfl ?_
      refine aw_aload_n C 0 dX11_findRows_236 rfl rfl ?_
      obtain ⟨v7, hv7, h⟩ := bindE h
      refine aw_gR C fl_X11_32 rfl hv7 dX11_findRows_237 ?_
      refine aw_iload C 4 dX11_findRows_240 rfl ?_
      obtain ⟨v8, hv8, h⟩ := bindE h
      refine aw_aI C hv8 dX11_findRows_242 ?_
      obtain ⟨μ9, hμ9, h⟩ := bindE h
      refine aw_sI C hμ9 dX11_findRows_243 ?_
      refine aw_iinc C (x5 + 1) 4 [(5, .int (x5 + 1)), (0, .ref (gZ G + a0)), (1, .int x1), (2, .int x2), (4, .int x4)] dX11_findRows_244 rfl rfl (by decide) rfl ?_
      refine aw_goto C 210 dX11_findRows_247 (by decide) ?_
      exact aw_sub [1, 2, 3, 4, 0] rfl (ih _ _ _ h kx)
def X11_findRows_L84 (a0 : Nat) (x1 : Int32) (x2 : Int32) : Nat → Int32 → Mem → Option (Int32 × Mem)
  | 0, _, _ => none
  | n + 1, x4, μ =>
      if x2 < x4 then
      some ((x4, μ))
      else
      (X11_findRows_L93 a0 x1 x2 x4 FU 0 μ).bind fun z2 =>
      (X11_findRows_L210 a0 x1 x2 x4 FU 0 z2.2).bind fun z3 =>
      X11_findRows_L84 a0 x1 x2 n (x4 + 1) z3.2
set_option maxRecDepth 100000 in
set_option maxHeartbeats 4000000 in
theorem X11_findRows_L84_ok {G : GL} {X : CX} (C : Ctx G X cX11_findRows 8 RX11 rm_X11_findRows) (a0 : Nat) (x1 : Int32) (x2 : Int32) : ∀ (n : Nat) (x4 : Int32) (μ : Mem) (z : Int32 × Mem), X11_findRows_L84 a0 x1 x2 n x4 μ = some z → AW G 8 X 0 0 256 [(0, .ref (gZ G + a0)), (1, .int x1), (2, .int x2), (4, .int z.1)] [] z.2 → AW G 8 X 0 0 84 [(0, .ref (gZ G + a0)), (1, .int x1), (2, .int x2), (4, .int x4)] [] μ := by
  intro n
  induction n with
  | zero =>
    intro x4 μ z h kx
    rw [X11_findRows_L84] at h
    cases h
  | succ n ih =>
    intro x4 μ z h kx
    rw [X11_findRows_L84] at h
    refine aw_iload C 3 dX11_findRows_84 rfl ?_
    refine aw_iload_n C 2 dX11_findRows_86 rfl rfl ?_
    refine aw_icmp_gt C 256 dX11_findRows_87 (by decide) (fun c1 => ?_) (fun c1 => ?_)
    · rw [if_pos c1] at h
      have e9 := inj1 h
      subst e9
      exact aw_sub [0, 1, 2, 3] rfl kx
    · rw [if_neg c1] at h
      refine aw_iconst C 0 dX11_findRows_90 (by decide) ?_
      refine aw_istore C [(5, .int 0), (0, .ref (gZ G + a0)), (1, .int x1), (2, .int x2), (4, .int x4)] dX11_findRows_91 (by decide) rfl ?_
      obtain ⟨z2, hz2, h⟩ := bindE h
      refine aw_sub [1, 2, 3, 4, 0] rfl ?_
      refine X11_findRows_L93_ok C _ _ _ _ _ _ _ _ hz2 ?_
      refine aw_iconst C 0 dX11_findRows_207 (by decide) ?_
      refine aw_istore C [(5, .int 0), (0, .ref (gZ G + a0)), (1, .int x1), (2, .int x2), (4, .int x4)] dX11_findRows_208 (by decide) rfl ?_
      obtain ⟨z3, hz3, h⟩ := bindE h
      refine aw_sub [1, 2, 3, 4, 0] rfl ?_
      refine X11_findRows_L210_ok C _ _ _ _ _ _ _ _ hz3 ?_
      refine aw_iinc C (x4 + 1) 3 [(4, .int (x4 + 1)), (0, .ref (gZ G + a0)), (1, .int x1), (2, .int x2), (5, .int z3.1)] dX11_findRows_250 rfl rfl (by decide) rfl ?_
      refine aw_goto C 84 dX11_findRows_253 (by decide) ?_
      exact aw_sub [1, 2, 3, 0] rfl (ih _ _ _ h kx)
def X11_findRows (a0 : Nat) (x1 : Int32) (x2 : Int32) (μ : Mem) : Option Mem :=
  (some (if (6 : Int32) ≤ x2 then x2 - 6 else 0 : Int32)).bind fun v2 =>
  (X11_findRows_L18 a0 x1 x2 v2 FU 0 μ).bind fun z3 =>
  (some (v2 + 1 : Int32)).bind fun v4 =>
  (X11_findRows_L84 a0 x1 x2 FU v4 z3.2).bind fun z5 =>
  some z5.2
set_option maxRecDepth 100000 in
set_option maxHeartbeats 4000000 in
theorem wk_X11_findRows {G : GL} {X : CX} {a0 : Nat} {x1 : Int32} {x2 : Int32} {μ : Mem} {μ' : Mem} (C : Ctx G X cX11_findRows 8 RX11 rm_X11_findRows) (h : X11_findRows a0 x1 x2 μ = some μ') (hret : RtV G 8 X cX11_findRows 0 0 μ') : AW G 8 X 0 0 0 [(0, .ref (gZ G + a0)), (1, .int x1), (2, .int x2)] [] μ := by
  unfold X11_findRows at h
  refine aw_iload_n C 2 dX11_findRows_0 rfl rfl ?_
  refine aw_bipush C 6 dX11_findRows_1 (by decide) ?_
  obtain ⟨v2, ev2, h⟩ := bindS h
  have kj3 : AW G 8 X 0 0 14 [(0, .ref (gZ G + a0)), (1, .int x1), (2, .int x2)] [.int v2] μ := by
    refine aw_istore_n C [(3, .int v2), (0, .ref (gZ G + a0)), (1, .int x1), (2, .int x2)] dX11_findRows_14 rfl (by decide) rfl ?_
    refine aw_iconst C 0 dX11_findRows_15 (by decide) ?_
    refine aw_istore C [(4, .int 0), (3, .int v2), (0, .ref (gZ G + a0)), (1, .int x1), (2, .int x2)] dX11_findRows_16 (by decide) rfl ?_
    obtain ⟨z3, hz3, h⟩ := bindE h
    refine aw_sub [2, 3, 4, 1, 0] rfl ?_
    refine X11_findRows_L18_ok C _ _ _ _ _ _ _ _ hz3 ?_
    refine aw_iload_n C 3 dX11_findRows_79 rfl rfl ?_
    refine aw_iconst C 1 dX11_findRows_80 (by decide) ?_
    refine aw_iadd C dX11_findRows_81 ?_
    obtain ⟨v4, ev4, h⟩ := bindS h
    refine aw_topi ev4 ?_
    refine aw_istore C [(4, .int v4), (0, .ref (gZ G + a0)), (1, .int x1), (2, .int x2), (3, .int v2)] dX11_findRows_82 (by decide) rfl ?_
    obtain ⟨z5, hz5, h⟩ := bindE h
    refine aw_sub [1, 2, 3, 0] rfl ?_
    refine X11_findRows_L84_ok C _ _ _ _ _ _ _ hz5 ?_
    have e9 := inj1 h
    subst e9
    exact hret _ _ dX11_findRows_256
  clear h
  refine aw_icmp_ge C 10 dX11_findRows_3 (by decide) (fun c1 => ?_) (fun c1 => ?_)
  · refine aw_iload_n C 2 dX11_findRows_10 rfl rfl ?_
    refine aw_bipush C 6 dX11_findRows_11 (by decide) ?_
    refine aw_isub C dX11_findRows_13 ?_
    rw [if_pos c1] at ev2
    subst ev2
    exact aw_sub [0, 1, 2] rfl kj3
  · refine aw_iconst C 0 dX11_findRows_6 (by decide) ?_
    refine aw_goto C 14 dX11_findRows_7 (by decide) ?_
    rw [if_neg c1] at ev2
    subst ev2
    exact aw_sub [0, 1, 2] rfl kj3
set_option maxRecDepth 100000 in
set_option maxHeartbeats 4000000 in
theorem mt_X11_findRows {G : GL} {l : Launch} {a0 : Nat} {x1 : Int32} {x2 : Int32} {μ : Mem} {μ' : Mem} (h : X11_findRows a0 x1 x2 μ = some μ') : MtV G l yX11_findRows cX11_findRows 8 none rm_X11_findRows false [.ref (gZ G + a0), .int x1, .int x2] μ μ' := met_V (by decide) rfl (Nat.le_of_ble_eq_true rfl) (fun X _ C _ _ hret => wk_X11_findRows C h hret)
def X11_findOdds_L38 (a0 : Nat) (x3 : Int32) (j4 : Int64) : Nat → Int32 → Mem → Option (Int32 × Mem)
  | 0, _, _ => none
  | n + 1, x6, μ =>
      if (4 : Int32) ≤ x6 then
      some ((x6, μ))
      else
      (gR 11 10 a0 μ).bind fun v2 =>
      ((if (lg_cmp j4 0) = 0 then
      some 0
      else
      (gR 11 6 a0 μ).bind fun v4 =>
      (aJ v4 x6 μ).bind fun v5 =>
      (dvJ (v5 * 1000000) j4).bind fun v6 =>
      some v6.toInt32) : Option (Int32)).bind fun z7 =>
      (sI v2 x6 z7 μ).bind fun μ8 =>
      X11_findOdds_L38 a0 x3 j4 n (x6 + 1) μ8
set_option maxRecDepth 100000 in
set_option maxHeartbeats 4000000 in
theorem X11_findOdds_L38_ok {G : GL} {X : CX} (C : Ctx G X cX11_findOdds 10 RX11 rm_X11_findOdds) (a0 : Nat) (x3 : Int32) (j4 : Int64) : ∀ (n : Nat) (x6 : Int32) (μ : Mem) (z : Int32 × Mem), X11_findOdds_L38 a0 x3 j4 n x6 μ = some z → AW G 10 X 0 0 83 [(0, .ref (gZ G + a0)), (3, .int x3), (4, .long j4), (6, .int z.1)] [] z.2 → AW G 10 X 0 0 38 [(0, .ref (gZ G + a0)), (3, .int x3), (4, .long j4), (6, .int x6)] [] μ := by
  intro n
  induction n with
  | zero =>
    intro x6 μ z h kx
    rw [X11_findOdds_L38] at h
    cases h
  | succ n ih =>
    intro x6 μ z h kx
    rw [X11_findOdds_L38] at h
    refine aw_iload C 3 dX11_findOdds_38 rfl ?_
    refine aw_iconst C 4 dX11_findOdds_40 (by decide) ?_
    refine aw_icmp_ge C 83 dX11_findOdds_41 (by decide) (fun c1 => ?_) (fun c1 => ?_)
    · rw [if_pos c1] at h
      have e9 := inj1 h
      subst e9
      exact aw_sub [0, 1, 2, 3] rfl kx
    · rw [if_neg c1] at h
      refine aw_aload_n C 0 dX11_findOdds_44 rfl rfl ?_
      obtain ⟨v2, hv2, h⟩ := bindE h
      refine aw_gR C fl_X11_35 rfl hv2 dX11_findOdds_45 ?_
      refine aw_iload C 3 dX11_findOdds_48 rfl ?_
      refine aw_lload C 2 dX11_findOdds_50 rfl ?_
      refine aw_lconst C 0 dX11_findOdds_52 (by decide) ?_
      refine aw_lcmp C dX11_findOdds_53 ?_
      obtain ⟨z7, hz7, h⟩ := bindE h
      have kj54 : AW G 10 X 0 0 76 [(0, .ref (gZ G + a0)), (3, .int x3), (4, .long j4), (6, .int x6)] [.int z7, .int x6, .ref (gZ G + v2)] μ := by
        obtain ⟨μ8, hμ8, h⟩ := bindE h
        refine aw_sI C hμ8 dX11_findOdds_76 ?_
        refine aw_iinc C (x6 + 1) 3 [(6, .int (x6 + 1)), (0, .ref (gZ G + a0)), (3, .int x3), (4, .long j4)] dX11_findOdds_77 rfl rfl (by decide) rfl ?_
        refine aw_goto C 38 dX11_findOdds_80 (by decide) ?_
        exact aw_sub [1, 2, 3, 0] rfl (ih _ _ _ h kx)
      replace h := hz7
      refine aw_if_ne C 61 dX11_findOdds_54 (by decide) (fun c3 => ?_) (fun c3 => ?_)
      · rw [if_neg c3] at h
        refine aw_aload_n C 0 dX11_findOdds_61 rfl rfl ?_
        obtain ⟨v4, hv4, h⟩ := bindE h
        refine aw_gR C fl_X11_22 rfl hv4 dX11_findOdds_62 ?_
        refine aw_iload C 3 dX11_findOdds_65 rfl ?_
        obtain ⟨v5, hv5, h⟩ := bindE h
        refine aw_aJ C hv5 dX11_findOdds_67 ?_
        refine aw_ldc2 C kl_X11_171 dX11_findOdds_68 ?_
        refine aw_lmul C dX11_findOdds_71 ?_
        refine aw_lload C 2 dX11_findOdds_72 rfl ?_
        obtain ⟨v6, hv6, h⟩ := bindE h
        refine aw_ldiv C hv6 dX11_findOdds_74 ?_
        refine aw_l2i C dX11_findOdds_75 ?_
        have e9 := inj1 h
        subst e9
        exact aw_sub [0, 1, 2, 3] rfl kj54
      · rw [if_pos c3] at h
        refine aw_iconst C 0 dX11_findOdds_57 (by decide) ?_
        refine aw_goto C 76 dX11_findOdds_58 (by decide) ?_
        have e9 := inj1 h
        subst e9
        exact aw_sub [0, 1, 2, 3] rfl kj54
def X11_findOdds_L112 (a0 : Nat) (x3 : Int32) (x6 : Int32) (x7 : Int32) : Nat → Int32 → Mem → Option (Int32 × Mem)
  | 0, _, _ => none
  | n + 1, x8, μ =>
      if (4 : Int32) ≤ x8 then
      some ((x8, μ))
      else
      (gR 11 0 a0 μ).bind fun v2 =>
      (aI v2 (4 * x8) μ).bind fun v3 =>
      (gR 11 0 a0 μ).bind fun v4 =>
      (aI v4 ((4 * x8) + 1) μ).bind fun v5 =>
      (gR 11 0 a0 μ).bind fun v6 =>
      (aI v6 ((4 * x8) + 2) μ).bind fun v7 =>
      (gR 11 0 a0 μ).bind fun v8 =>
      (aI v8 ((4 * x8) + 3) μ).bind fun v9 =>
      (some (((v3 + v5) + v7) + v9 : Int32)).bind fun v10 =>
      (gR 11 11 a0 μ).bind fun v11 =>
      (aI v11 x7 μ).bind fun v12 =>
      ((if v10 = 0 then
      some 0
      else
      (gR 11 10 a0 μ).bind fun v14 =>
      (aI v14 x8 μ).bind fun v15 =>
      (gR 11 0 a0 μ).bind fun v16 =>
      (aI v16 ((4 * x8) + x7) μ).bind fun v17 =>
      (dvI (v15 * v17) v10).bind fun v18 =>
      some v18) : Option (Int32)).bind fun z19 =>
      (sI v11 x7 (v12 + z19) μ).bind fun μ20 =>
      X11_findOdds_L112 a0 x3 x6 x7 n (x8 + 1) μ20
set_option maxRecDepth 100000 in
set_option maxHeartbeats 4000000 in
theorem X11_findOdds_L112_ok {G : GL} {X : CX} (C : Ctx G X cX11_findOdds 10 RX11 rm_X11_findOdds) (a0 : Nat) (x3 : Int32) (x6 : Int32) (x7 : Int32) : ∀ (n : Nat) (x8 : Int32) (μ : Mem) (z : Int32 × Mem), X11_findOdds_L112 a0 x3 x6 x7 n x8 μ = some z → AW G 10 X 0 0 213 [(0, .ref (gZ G + a0)), (3, .int x3), (6, .int x6), (7, .int x7), (8, .int z.1)] [] z.2 → AW G 10 X 0 0 112 [(0, .ref (gZ G + a0)), (3, .int x3), (6, .int x6), (7, .int x7), (8, .int x8)] [] μ := by
  intro n
  induction n with
  | zero =>
    intro x8 μ z h kx
    rw [X11_findOdds_L112] at h
    cases h
  | succ n ih =>
    intro x8 μ z h kx
    rw [X11_findOdds_L112] at h
    refine aw_iload C 4 dX11_findOdds_112 rfl ?_
    refine aw_iconst C 4 dX11_findOdds_114 (by decide) ?_
    refine aw_icmp_ge C 213 dX11_findOdds_115 (by decide) (fun c1 => ?_) (fun c1 => ?_)
    · rw [if_pos c1] at h
      have e9 := inj1 h
      subst e9
      exact aw_sub [0, 1, 2, 3, 4] rfl kx
    · rw [if_neg c1] at h
      refine aw_aload_n C 0 dX11_findOdds_118 rfl rfl ?_
      obtain ⟨v2, hv2, h⟩ := bindE h
      refine aw_gR C fl_X11_7 rfl hv2 dX11_findOdds_119 ?_
      refine aw_iconst C 4 dX11_findOdds_122 (by decide) ?_
      refine aw_iload C 4 dX11_findOdds_123 rfl ?_
      refine aw_imul C dX11_findOdds_125 ?_
      obtain ⟨v3, hv3, h⟩ := bindE h
      refine aw_aI C hv3 dX11_findOdds_126 ?_
      refine aw_aload_n C 0 dX11_findOdds_127 rfl rfl ?_
      obtain ⟨v4, hv4, h⟩ := bindE h
      refine aw_gR C fl_X11_7 rfl hv4 dX11_findOdds_128 ?_
      refine aw_iconst C 4 dX11_findOdds_131 (by decide) ?_
      refine aw_iload C 4 dX11_findOdds_132 rfl ?_
      refine aw_imul C dX11_findOdds_134 ?_
      refine aw_iconst C 1 dX11_findOdds_135 (by decide) ?_
      refine aw_iadd C dX11_findOdds_136 ?_
      obtain ⟨v5, hv5, h⟩ := bindE h
      refine aw_aI C hv5 dX11_findOdds_137 ?_
      refine aw_iadd C dX11_findOdds_138 ?_
      refine aw_aload_n C 0 dX11_findOdds_139 rfl rfl ?_
      obtain ⟨v6, hv6, h⟩ := bindE h
      refine aw_gR C fl_X11_7 rfl hv6 dX11_findOdds_140 ?_
      refine aw_iconst C 4 dX11_findOdds_143 (by decide) ?_
      refine aw_iload C 4 dX11_findOdds_144 rfl ?_
      refine aw_imul C dX11_findOdds_146 ?_
      refine aw_iconst C 2 dX11_findOdds_147 (by decide) ?_
      refine aw_iadd C dX11_findOdds_148 ?_
      obtain ⟨v7, hv7, h⟩ := bindE h
      refine aw_aI C hv7 dX11_findOdds_149 ?_
      refine aw_iadd C dX11_findOdds_150 ?_
      refine aw_aload_n C 0 dX11_findOdds_151 rfl rfl ?_
      obtain ⟨v8, hv8, h⟩ := bindE h
      refine aw_gR C fl_X11_7 rfl hv8 dX11_findOdds_152 ?_
      refine aw_iconst C 4 dX11_findOdds_155 (by decide) ?_
      refine aw_iload C 4 dX11_findOdds_156 rfl ?_
      refine aw_imul C dX11_findOdds_158 ?_
      refine aw_iconst C 3 dX11_findOdds_159 (by decide) ?_
      refine aw_iadd C dX11_findOdds_160 ?_
      obtain ⟨v9, hv9, h⟩ := bindE h
      refine aw_aI C hv9 dX11_findOdds_161 ?_
      refine aw_iadd C dX11_findOdds_162 ?_
      obtain ⟨v10, ev10, h⟩ := bindS h
      refine aw_topi ev10 ?_
      refine aw_istore C [(9, .int v10), (0, .ref (gZ G + a0)), (3, .int x3), (6, .int x6), (7, .int x7), (8, .int x8)] dX11_findOdds_163 (by decide) rfl ?_
      refine aw_aload_n C 1 dX11_findOdds_165 rfl rfl ?_
      obtain ⟨v11, hv11, h⟩ := bindE h
      refine aw_gR C fl_X11_38 rfl hv11 dX11_findOdds_166 ?_
      refine aw_iload C 4 dX11_findOdds_169 rfl ?_
      refine aw_dup2 C dX11_findOdds_171 rfl rfl ?_
      obtain ⟨v12, hv12, h⟩ := bindE h
      refine aw_aI C hv12 dX11_findOdds_172 ?_
      refine aw_iload C 0 dX11_findOdds_173 rfl ?_
      obtain ⟨z19, hz19, h⟩ := bindE h
      have kj175 : AW G 10 X 0 0 205 [(0, .ref (gZ G + a0)), (3, .int x3), (6, .int x6), (7, .int x7), (8, .int x8)] [.int z19, .int v12, .int x7, .ref (gZ G + v11)] μ := by
        refine aw_iadd C dX11_findOdds_205 ?_
        obtain ⟨μ20, hμ20, h⟩ := bindE h
        refine aw_sI C hμ20 dX11_findOdds_206 ?_
        refine aw_iinc C (x8 + 1) 4 [(8, .int (x8 + 1)), (0, .ref (gZ G + a0)), (3, .int x3), (6, .int x6), (7, .int x7)] dX11_findOdds_207 rfl rfl (by decide) rfl ?_
        refine aw_goto C 112 dX11_findOdds_210 (by decide) ?_
        exact aw_sub [1, 2, 3, 4, 0] rfl (ih _ _ _ h kx)
      replace h := hz19
      refine aw_if_ne C 182 dX11_findOdds_175 (by decide) (fun c13 => ?_) (fun c13 => ?_)
      · rw [if_neg c13] at h
        refine aw_aload_n C 1 dX11_findOdds_182 rfl rfl ?_
        obtain ⟨v14, hv14, h⟩ := bindE h
        refine aw_gR C fl_X11_35 rfl hv14 dX11_findOdds_183 ?_
        refine aw_iload C 5 dX11_findOdds_186 rfl ?_
        obtain ⟨v15, hv15, h⟩ := bindE h
        refine aw_aI C hv15 dX11_findOdds_188 ?_
        refine aw_aload_n C 1 dX11_findOdds_189 rfl rfl ?_
        obtain ⟨v16, hv16, h⟩ := bindE h
        refine aw_gR C fl_X11_7 rfl hv16 dX11_findOdds_190 ?_
        refine aw_iconst C 4 dX11_findOdds_193 (by decide) ?_
        refine aw_iload C 5 dX11_findOdds_194 rfl ?_
        refine aw_imul C dX11_findOdds_196 ?_
        refine aw_iload C 4 dX11_findOdds_197 rfl ?_
        refine aw_iadd C dX11_findOdds_199 ?_
        obtain ⟨v17, hv17, h⟩ := bindE h
        refine aw_aI C hv17 dX11_findOdds_200 ?_
        refine aw_imul C dX11_findOdds_201 ?_
        refine aw_iload C 0 dX11_findOdds_202 rfl ?_
        obtain ⟨v18, hv18, h⟩ := bindE h
        refine aw_idiv C hv18 dX11_findOdds_204 ?_
        have e9 := inj1 h
        subst e9
        exact aw_sub [1, 2, 3, 4, 5] rfl kj175
      · rw [if_pos c13] at h
        refine aw_iconst C 0 dX11_findOdds_178 (by decide) ?_
        refine aw_goto C 205 dX11_findOdds_179 (by decide) ?_
        have e9 := inj1 h
        subst e9
        exact aw_sub [1, 2, 3, 4, 5] rfl kj175
def X11_findOdds_L95 (a0 : Nat) (x3 : Int32) (x6 : Int32) : Nat → Int32 → Mem → Option (Int32 × Mem)
  | 0, _, _ => none
  | n + 1, x7, μ =>
      if (4 : Int32) ≤ x7 then
      some ((x7, μ))
      else
      (gR 11 11 a0 μ).bind fun v2 =>
      (sI v2 x7 0 μ).bind fun μ3 =>
      (X11_findOdds_L112 a0 x3 x6 x7 FU 0 μ3).bind fun z4 =>
      X11_findOdds_L95 a0 x3 x6 n (x7 + 1) z4.2
set_option maxRecDepth 100000 in
set_option maxHeartbeats 4000000 in
theorem X11_findOdds_L95_ok {G : GL} {X : CX} (C : Ctx G X cX11_findOdds 10 RX11 rm_X11_findOdds) (a0 : Nat) (x3 : Int32) (x6 : Int32) : ∀ (n : Nat) (x7 : Int32) (μ : Mem) (z : Int32 × Mem), X11_findOdds_L95 a0 x3 x6 n x7 μ = some z → AW G 10 X 0 0 219 [(0, .ref (gZ G + a0)), (3, .int x3), (6, .int x6), (7, .int z.1)] [] z.2 → AW G 10 X 0 0 95 [(0, .ref (gZ G + a0)), (3, .int x3), (6, .int x6), (7, .int x7)] [] μ := by
  intro n
  induction n with
  | zero =>
    intro x7 μ z h kx
    rw [X11_findOdds_L95] at h
    cases h
  | succ n ih =>
    intro x7 μ z h kx
    rw [X11_findOdds_L95] at h
    refine aw_iload C 3 dX11_findOdds_95 rfl ?_
    refine aw_iconst C 4 dX11_findOdds_97 (by decide) ?_
    refine aw_icmp_ge C 219 dX11_findOdds_98 (by decide) (fun c1 => ?_) (fun c1 => ?_)
    · rw [if_pos c1] at h
      have e9 := inj1 h
      subst e9
      exact aw_sub [0, 1, 2, 3] rfl kx
    · rw [if_neg c1] at h
      refine aw_aload_n C 0 dX11_findOdds_101 rfl rfl ?_
      obtain ⟨v2, hv2, h⟩ := bindE h
      refine aw_gR C fl_X11_38 rfl hv2 dX11_findOdds_102 ?_
      refine aw_iload C 3 dX11_findOdds_105 rfl ?_
      refine aw_iconst C 0 dX11_findOdds_107 (by decide) ?_
      obtain ⟨μ3, hμ3, h⟩ := bindE h
      refine aw_sI C hμ3 dX11_findOdds_108 ?_
      refine aw_iconst C 0 dX11_findOdds_109 (by decide) ?_
      refine aw_istore C [(8, .int 0), (0, .ref (gZ G + a0)), (3, .int x3), (6, .int x6), (7, .int x7)] dX11_findOdds_110 (by decide) rfl ?_
      obtain ⟨z4, hz4, h⟩ := bindE h
      refine aw_sub [1, 2, 3, 4, 0] rfl ?_
      refine X11_findOdds_L112_ok C _ _ _ _ _ _ _ _ hz4 ?_
      refine aw_iinc C (x7 + 1) 3 [(7, .int (x7 + 1)), (0, .ref (gZ G + a0)), (3, .int x3), (6, .int x6), (8, .int z4.1)] dX11_findOdds_213 rfl rfl (by decide) rfl ?_
      refine aw_goto C 95 dX11_findOdds_216 (by decide) ?_
      exact aw_sub [1, 2, 3, 0] rfl (ih _ _ _ h kx)
def X11_findOdds_L222 (a0 : Nat) (x3 : Int32) (x6 : Int32) : Nat → Int32 → Mem → Option (Int32 × Mem)
  | 0, _, _ => none
  | n + 1, x7, μ =>
      if (4 : Int32) ≤ x7 then
      some ((x7, μ))
      else
      (gR 11 10 a0 μ).bind fun v2 =>
      (gR 11 11 a0 μ).bind fun v3 =>
      (aI v3 x7 μ).bind fun v4 =>
      (sI v2 x7 v4 μ).bind fun μ5 =>
      X11_findOdds_L222 a0 x3 x6 n (x7 + 1) μ5
set_option maxRecDepth 100000 in
set_option maxHeartbeats 4000000 in
theorem X11_findOdds_L222_ok {G : GL} {X : CX} (C : Ctx G X cX11_findOdds 10 RX11 rm_X11_findOdds) (a0 : Nat) (x3 : Int32) (x6 : Int32) : ∀ (n : Nat) (x7 : Int32) (μ : Mem) (z : Int32 × Mem), X11_findOdds_L222 a0 x3 x6 n x7 μ = some z → AW G 10 X 0 0 248 [(0, .ref (gZ G + a0)), (3, .int x3), (6, .int x6), (7, .int z.1)] [] z.2 → AW G 10 X 0 0 222 [(0, .ref (gZ G + a0)), (3, .int x3), (6, .int x6), (7, .int x7)] [] μ := by
  intro n
  induction n with
  | zero =>
    intro x7 μ z h kx
    rw [X11_findOdds_L222] at h
    cases h
  | succ n ih =>
    intro x7 μ z h kx
    rw [X11_findOdds_L222] at h
    refine aw_iload C 3 dX11_findOdds_222 rfl ?_
    refine aw_iconst C 4 dX11_findOdds_224 (by decide) ?_
    refine aw_icmp_ge C 248 dX11_findOdds_225 (by decide) (fun c1 => ?_) (fun c1 => ?_)
    · rw [if_pos c1] at h
      have e9 := inj1 h
      subst e9
      exact aw_sub [0, 1, 2, 3] rfl kx
    · rw [if_neg c1] at h
      refine aw_aload_n C 0 dX11_findOdds_228 rfl rfl ?_
      obtain ⟨v2, hv2, h⟩ := bindE h
      refine aw_gR C fl_X11_35 rfl hv2 dX11_findOdds_229 ?_
      refine aw_iload C 3 dX11_findOdds_232 rfl ?_
      refine aw_aload_n C 0 dX11_findOdds_234 rfl rfl ?_
      obtain ⟨v3, hv3, h⟩ := bindE h
      refine aw_gR C fl_X11_38 rfl hv3 dX11_findOdds_235 ?_
      refine aw_iload C 3 dX11_findOdds_238 rfl ?_
      obtain ⟨v4, hv4, h⟩ := bindE h
      refine aw_aI C hv4 dX11_findOdds_240 ?_
      obtain ⟨μ5, hμ5, h⟩ := bindE h
      refine aw_sI C hμ5 dX11_findOdds_241 ?_
      refine aw_iinc C (x7 + 1) 3 [(7, .int (x7 + 1)), (0, .ref (gZ G + a0)), (3, .int x3), (6, .int x6)] dX11_findOdds_242 rfl rfl (by decide) rfl ?_
      refine aw_goto C 222 dX11_findOdds_245 (by decide) ?_
      exact aw_sub [1, 2, 3, 0] rfl (ih _ _ _ h kx)
def X11_findOdds_L86 (a0 : Nat) (x3 : Int32) : Nat → Int32 → Mem → Option (Int32 × Mem)
  | 0, _, _ => none
  | n + 1, x6, μ =>
      if x3 ≤ x6 then
      some ((x6, μ))
      else
      (X11_findOdds_L95 a0 x3 x6 FU 0 μ).bind fun z2 =>
      (X11_findOdds_L222 a0 x3 x6 FU 0 z2.2).bind fun z3 =>
      X11_findOdds_L86 a0 x3 n (x6 + 1) z3.2
set_option maxRecDepth 100000 in
set_option maxHeartbeats 4000000 in
theorem X11_findOdds_L86_ok {G : GL} {X : CX} (C : Ctx G X cX11_findOdds 10 RX11 rm_X11_findOdds) (a0 : Nat) (x3 : Int32) : ∀ (n : Nat) (x6 : Int32) (μ : Mem) (z : Int32 × Mem), X11_findOdds_L86 a0 x3 n x6 μ = some z → AW G 10 X 0 0 254 [(0, .ref (gZ G + a0)), (3, .int x3), (6, .int z.1)] [] z.2 → AW G 10 X 0 0 86 [(0, .ref (gZ G + a0)), (3, .int x3), (6, .int x6)] [] μ := by
  intro n
  induction n with
  | zero =>
    intro x6 μ z h kx
    rw [X11_findOdds_L86] at h
    cases h
  | succ n ih =>
    intro x6 μ z h kx
    rw [X11_findOdds_L86] at h
    refine aw_iload C 2 dX11_findOdds_86 rfl ?_
    refine aw_iload_n C 1 dX11_findOdds_88 rfl rfl ?_
    refine aw_icmp_ge C 254 dX11_findOdds_89 (by decide) (fun c1 => ?_) (fun c1 => ?_)
    · rw [if_pos c1] at h
      have e9 := inj1 h
      subst e9
      exact aw_sub [0, 1, 2] rfl kx
    · rw [if_neg c1] at h
      refine aw_iconst C 0 dX11_findOdds_92 (by decide) ?_
      refine aw_istore C [(7, .int 0), (0, .ref (gZ G + a0)), (3, .int x3), (6, .int x6)] dX11_findOdds_93 (by decide) rfl ?_
      obtain ⟨z2, hz2, h⟩ := bindE h
      refine aw_sub [1, 2, 3, 0] rfl ?_
      refine X11_findOdds_L95_ok C _ _ _ _ _ _ _ hz2 ?_
      refine aw_iconst C 0 dX11_findOdds_219 (by decide) ?_
      refine aw_istore C [(7, .int 0), (0, .ref (gZ G + a0)), (3, .int x3), (6, .int x6)] dX11_findOdds_220 (by decide) rfl ?_
      obtain ⟨z3, hz3, h⟩ := bindE h
      refine aw_sub [1, 2, 3, 0] rfl ?_
      refine X11_findOdds_L222_ok C _ _ _ _ _ _ _ hz3 ?_
      refine aw_iinc C (x6 + 1) 2 [(6, .int (x6 + 1)), (0, .ref (gZ G + a0)), (3, .int x3), (7, .int z3.1)] dX11_findOdds_248 rfl rfl (by decide) rfl ?_
      refine aw_goto C 86 dX11_findOdds_251 (by decide) ?_
      exact aw_sub [1, 2, 0] rfl (ih _ _ _ h kx)
def X11_findOdds (a0 : Nat) (x1 : Int32) (x2 : Int32) (x3 : Int32) (μ : Mem) : Option Mem :=
  (vO 11 a0 μ).bind fun g1 =>
  (X11_findRows a0 x1 x2 μ).bind fun μ2 =>
  (gR 11 6 a0 μ2).bind fun v3 =>
  (aJ v3 0 μ2).bind fun v4 =>
  (gR 11 6 a0 μ2).bind fun v5 =>
  (aJ v5 1 μ2).bind fun v6 =>
  (gR 11 6 a0 μ2).bind fun v7 =>
  (aJ v7 2 μ2).bind fun v8 =>
  (gR 11 6 a0 μ2).bind fun v9 =>
  (aJ v9 3 μ2).bind fun v10 =>
  (some (((v4 + v6) + v8) + v10 : Int64)).bind fun v11 =>
  (X11_findOdds_L38 a0 x3 v11 FU 0 μ2).bind fun z12 =>
  (X11_findOdds_L86 a0 x3 FU 0 z12.2).bind fun z13 =>
  some z13.2
set_option maxRecDepth 100000 in
set_option maxHeartbeats 4000000 in
theorem wk_X11_findOdds {G : GL} {X : CX} {a0 : Nat} {x1 : Int32} {x2 : Int32} {x3 : Int32} {μ : Mem} {μ' : Mem} (C : Ctx G X cX11_findOdds 10 RX11 rm_X11_findOdds) (h : X11_findOdds a0 x1 x2 x3 μ = some μ') (hret : RtV G 10 X cX11_findOdds 0 0 μ') : AW G 10 X 0 0 0 [(0, .ref (gZ G + a0)), (1, .int x1), (2, .int x2), (3, .int x3)] [] μ := by
  unfold X11_findOdds at h
  refine aw_aload_n C 0 dX11_findOdds_0 rfl rfl ?_
  refine aw_iload_n C 1 dX11_findOdds_1 rfl rfl ?_
  refine aw_iload_n C 2 dX11_findOdds_2 rfl rfl ?_
  obtain ⟨g1, hg1, h⟩ := bindE h
  obtain ⟨μ2, hμ2, h⟩ := bindE h
  refine aw_cV_V C [.int x1, .int x2] _ (mt_X11_findRows hμ2) cs_X11_findRows ml_X11_167 im_X11_findRows se_X11_findRows (ci := 11) rfl rfl hg1 ⟨by decide, by decide⟩ ⟨rfl, rfl⟩ ⟨Nat.zero_le _, Nat.zero_le _⟩ rfl rfl (Nat.le_of_ble_eq_true rfl) dX11_findOdds_3 ?_
  refine aw_aload_n C 0 dX11_findOdds_6 rfl rfl ?_
  obtain ⟨v3, hv3, h⟩ := bindE h
  refine aw_gR C fl_X11_22 rfl hv3 dX11_findOdds_7 ?_
  refine aw_iconst C 0 dX11_findOdds_10 (by decide) ?_
  obtain ⟨v4, hv4, h⟩ := bindE h
  refine aw_aJ C hv4 dX11_findOdds_11 ?_
  refine aw_aload_n C 0 dX11_findOdds_12 rfl rfl ?_
  obtain ⟨v5, hv5, h⟩ := bindE h
  refine aw_gR C fl_X11_22 rfl hv5 dX11_findOdds_13 ?_
  refine aw_iconst C 1 dX11_findOdds_16 (by decide) ?_
  obtain ⟨v6, hv6, h⟩ := bindE h
  refine aw_aJ C hv6 dX11_findOdds_17 ?_
  refine aw_ladd C dX11_findOdds_18 ?_
  refine aw_aload_n C 0 dX11_findOdds_19 rfl rfl ?_
  obtain ⟨v7, hv7, h⟩ := bindE h
  refine aw_gR C fl_X11_22 rfl hv7 dX11_findOdds_20 ?_
  refine aw_iconst C 2 dX11_findOdds_23 (by decide) ?_
  obtain ⟨v8, hv8, h⟩ := bindE h
  refine aw_aJ C hv8 dX11_findOdds_24 ?_
  refine aw_ladd C dX11_findOdds_25 ?_
  refine aw_aload_n C 0 dX11_findOdds_26 rfl rfl ?_
  obtain ⟨v9, hv9, h⟩ := bindE h
  refine aw_gR C fl_X11_22 rfl hv9 dX11_findOdds_27 ?_
  refine aw_iconst C 3 dX11_findOdds_30 (by decide) ?_
  obtain ⟨v10, hv10, h⟩ := bindE h
  refine aw_aJ C hv10 dX11_findOdds_31 ?_
  refine aw_ladd C dX11_findOdds_32 ?_
  obtain ⟨v11, ev11, h⟩ := bindS h
  refine aw_topj ev11 ?_
  refine aw_lstore C [(4, .long v11), (0, .ref (gZ G + a0)), (1, .int x1), (2, .int x2), (3, .int x3)] dX11_findOdds_33 (by decide) rfl ?_
  refine aw_iconst C 0 dX11_findOdds_35 (by decide) ?_
  refine aw_istore C [(6, .int 0), (4, .long v11), (0, .ref (gZ G + a0)), (1, .int x1), (2, .int x2), (3, .int x3)] dX11_findOdds_36 (by decide) rfl ?_
  obtain ⟨z12, hz12, h⟩ := bindE h
  refine aw_sub [2, 5, 1, 0] rfl ?_
  refine X11_findOdds_L38_ok C _ _ _ _ _ _ _ hz12 ?_
  refine aw_iconst C 0 dX11_findOdds_83 (by decide) ?_
  refine aw_istore C [(6, .int 0), (0, .ref (gZ G + a0)), (3, .int x3), (4, .long v11)] dX11_findOdds_84 (by decide) rfl ?_
  obtain ⟨z13, hz13, h⟩ := bindE h
  refine aw_sub [1, 2, 0] rfl ?_
  refine X11_findOdds_L86_ok C _ _ _ _ _ _ hz13 ?_
  have e9 := inj1 h
  subst e9
  exact hret _ _ dX11_findOdds_254
set_option maxRecDepth 100000 in
set_option maxHeartbeats 4000000 in
theorem mt_X11_findOdds {G : GL} {l : Launch} {a0 : Nat} {x1 : Int32} {x2 : Int32} {x3 : Int32} {μ : Mem} {μ' : Mem} (h : X11_findOdds a0 x1 x2 x3 μ = some μ') : MtV G l yX11_findOdds cX11_findOdds 10 none rm_X11_findOdds false [.ref (gZ G + a0), .int x1, .int x2, .int x3] μ μ' := met_V (by decide) rfl (Nat.le_of_ble_eq_true rfl) (fun X _ C _ _ hret => wk_X11_findOdds C h hret)
def X11_seamOdds_L13 (a0 : Nat) (μ : Mem) : Nat → Int32 → Int32 → Option (Int32 × Int32)
  | 0, _, _ => none
  | n + 1, x4, x5 =>
      if (4 : Int32) ≤ x5 then
      some ((x4, x5))
      else
      (gI 11 3 a0 μ).bind fun v2 =>
      (gR 11 10 a0 μ).bind fun v3 =>
      (aI v3 x5 μ).bind fun v4 =>
      (some (x4 + (((v2 >>> (x5 &&& 31)) &&& 1) * v4) : Int32)).bind fun v5 =>
      X11_seamOdds_L13 a0 μ n v5 (x5 + 1)
set_option maxRecDepth 100000 in
set_option maxHeartbeats 4000000 in
theorem X11_seamOdds_L13_ok {G : GL} {X : CX} (C : Ctx G X cX11_seamOdds 6 RX11 rm_X11_seamOdds) (a0 : Nat) (μ : Mem) : ∀ (n : Nat) (x4 : Int32) (x5 : Int32) (z : Int32 × Int32), X11_seamOdds_L13 a0 μ n x4 x5 = some z → AW G 6 X 0 0 47 [(0, .ref (gZ G + a0)), (4, .int z.1), (5, .int z.2)] [] μ → AW G 6 X 0 0 13 [(0, .ref (gZ G + a0)), (4, .int x4), (5, .int x5)] [] μ := by
  intro n
  induction n with
  | zero =>
    intro x4 x5 z h kx
    rw [X11_seamOdds_L13] at h
    cases h
  | succ n ih =>
    intro x4 x5 z h kx
    rw [X11_seamOdds_L13] at h
    refine aw_iload C 2 dX11_seamOdds_13 rfl ?_
    refine aw_iconst C 4 dX11_seamOdds_15 (by decide) ?_
    refine aw_icmp_ge C 47 dX11_seamOdds_16 (by decide) (fun c1 => ?_) (fun c1 => ?_)
    · rw [if_pos c1] at h
      have e9 := inj1 h
      subst e9
      exact aw_sub [0, 1, 2] rfl kx
    · rw [if_neg c1] at h
      refine aw_iload C 1 dX11_seamOdds_19 rfl ?_
      refine aw_aload_n C 0 dX11_seamOdds_21 rfl rfl ?_
      obtain ⟨v2, hv2, h⟩ := bindE h
      refine aw_gI C fl_X11_150 rfl hv2 dX11_seamOdds_22 ?_
      refine aw_iload C 2 dX11_seamOdds_25 rfl ?_
      refine aw_ishr C dX11_seamOdds_27 ?_
      refine aw_iconst C 1 dX11_seamOdds_28 (by decide) ?_
      refine aw_iand C dX11_seamOdds_29 ?_
      refine aw_aload_n C 0 dX11_seamOdds_30 rfl rfl ?_
      obtain ⟨v3, hv3, h⟩ := bindE h
      refine aw_gR C fl_X11_35 rfl hv3 dX11_seamOdds_31 ?_
      refine aw_iload C 2 dX11_seamOdds_34 rfl ?_
      obtain ⟨v4, hv4, h⟩ := bindE h
      refine aw_aI C hv4 dX11_seamOdds_36 ?_
      refine aw_imul C dX11_seamOdds_37 ?_
      refine aw_iadd C dX11_seamOdds_38 ?_
      obtain ⟨v5, ev5, h⟩ := bindS h
      refine aw_topi ev5 ?_
      refine aw_istore C [(4, .int v5), (0, .ref (gZ G + a0)), (5, .int x5)] dX11_seamOdds_39 (by decide) rfl ?_
      refine aw_iinc C (x5 + 1) 2 [(5, .int (x5 + 1)), (4, .int v5), (0, .ref (gZ G + a0))] dX11_seamOdds_41 rfl rfl (by decide) rfl ?_
      refine aw_goto C 13 dX11_seamOdds_44 (by decide) ?_
      exact aw_sub [2, 1, 0] rfl (ih _ _ _ h kx)
def X11_seamOdds (a0 : Nat) (x1 : Int32) (x2 : Int32) (x3 : Int32) (μ : Mem) : Option (Int32 × Mem) :=
  (vO 11 a0 μ).bind fun g1 =>
  (X11_findOdds a0 x1 x2 x3 μ).bind fun μ2 =>
  (X11_seamOdds_L13 a0 μ2 FU 0 0).bind fun z3 =>
  some (z3.1, μ2)
set_option maxRecDepth 100000 in
set_option maxHeartbeats 4000000 in
theorem wk_X11_seamOdds {G : GL} {X : CX} {a0 : Nat} {x1 : Int32} {x2 : Int32} {x3 : Int32} {μ : Mem} {r : Int32} {μ' : Mem} (C : Ctx G X cX11_seamOdds 6 RX11 rm_X11_seamOdds) (h : X11_seamOdds a0 x1 x2 x3 μ = some (r, μ')) (hret : RtI G 6 X cX11_seamOdds 0 0 r μ') : AW G 6 X 0 0 0 [(0, .ref (gZ G + a0)), (1, .int x1), (2, .int x2), (3, .int x3)] [] μ := by
  unfold X11_seamOdds at h
  refine aw_aload_n C 0 dX11_seamOdds_0 rfl rfl ?_
  refine aw_iload_n C 1 dX11_seamOdds_1 rfl rfl ?_
  refine aw_iload_n C 2 dX11_seamOdds_2 rfl rfl ?_
  refine aw_iload_n C 3 dX11_seamOdds_3 rfl rfl ?_
  obtain ⟨g1, hg1, h⟩ := bindE h
  obtain ⟨μ2, hμ2, h⟩ := bindE h
  refine aw_cV_V C [.int x1, .int x2, .int x3] _ (mt_X11_findOdds hμ2) cs_X11_findOdds ml_X11_173 im_X11_findOdds se_X11_findOdds (ci := 11) rfl rfl hg1 ⟨by decide, by decide⟩ ⟨rfl, rfl⟩ ⟨Nat.zero_le _, Nat.zero_le _⟩ rfl rfl (Nat.le_of_ble_eq_true rfl) dX11_seamOdds_4 ?_
  refine aw_iconst C 0 dX11_seamOdds_7 (by decide) ?_
  refine aw_istore C [(4, .int 0), (0, .ref (gZ G + a0)), (1, .int x1), (2, .int x2), (3, .int x3)] dX11_seamOdds_8 (by decide) rfl ?_
  refine aw_iconst C 0 dX11_seamOdds_10 (by decide) ?_
  refine aw_istore C [(5, .int 0), (4, .int 0), (0, .ref (gZ G + a0)), (1, .int x1), (2, .int x2), (3, .int x3)] dX11_seamOdds_11 (by decide) rfl ?_
  obtain ⟨z3, hz3, h⟩ := bindE h
  refine aw_sub [2, 1, 0] rfl ?_
  refine X11_seamOdds_L13_ok C _ _ _ _ _ _ hz3 ?_
  refine aw_iload C 1 dX11_seamOdds_47 rfl ?_
  obtain ⟨e8, e9⟩ := inj2 h
  subst e8
  subst e9
  exact hret _ _ dX11_seamOdds_49
set_option maxRecDepth 100000 in
set_option maxHeartbeats 4000000 in
theorem mt_X11_seamOdds {G : GL} {l : Launch} {a0 : Nat} {x1 : Int32} {x2 : Int32} {x3 : Int32} {μ : Mem} {r : Int32} {μ' : Mem} (h : X11_seamOdds a0 x1 x2 x3 μ = some (r, μ')) : MtI G l yX11_seamOdds cX11_seamOdds 6 (some .int) rm_X11_seamOdds false [.ref (gZ G + a0), .int x1, .int x2, .int x3] μ r μ' := met_I (by decide) rfl rfl (Nat.le_of_ble_eq_true rfl) (fun X _ C _ _ hret => wk_X11_seamOdds C h hret)
def X11_fits (a0 : Nat) (x1 : Int32) (x2 : Int32) (μ : Mem) : Option (Int32 × Mem) :=
  if (X11_isPerson x1) = 0 then
  some ((-1001), μ)
  else
  (gI 11 5 a0 μ).bind fun v2 =>
  if (X11_in x2.toInt64 0 v2.toInt64) = 0 then
  some ((-1002), μ)
  else
  (vO 11 a0 μ).bind fun g4 =>
  (X11_findRows a0 x1 x2 μ).bind fun μ5 =>
  (gR 11 8 a0 μ5).bind fun v6 =>
  (aI v6 0 μ5).bind fun v7 =>
  (gR 11 8 a0 μ5).bind fun v8 =>
  (aI v8 1 μ5).bind fun v9 =>
  (gR 11 8 a0 μ5).bind fun v10 =>
  (aI v10 2 μ5).bind fun v11 =>
  (gR 11 8 a0 μ5).bind fun v12 =>
  (aI v12 3 μ5).bind fun v13 =>
  some (((v7 + v9) + v11) + v13, μ5)
set_option maxRecDepth 100000 in
set_option maxHeartbeats 4000000 in
theorem wk_X11_fits {G : GL} {X : CX} {a0 : Nat} {x1 : Int32} {x2 : Int32} {μ : Mem} {r : Int32} {μ' : Mem} (C : Ctx G X cX11_fits 3 RX11 rm_X11_fits) (h : X11_fits a0 x1 x2 μ = some (r, μ')) (hret : RtI G 3 X cX11_fits 0 0 r μ') : AW G 3 X 0 0 0 [(0, .ref (gZ G + a0)), (1, .int x1), (2, .int x2)] [] μ := by
  unfold X11_fits at h
  refine aw_iload_n C 1 dX11_fits_0 rfl rfl ?_
  refine aw_cS_I C [.int x1] _ (mt_X11_isPerson _) cs_X11_isPerson ml_X11_153 st_X11_isPerson ⟨by decide, by decide⟩ ⟨rfl, rfl⟩ ⟨Nat.zero_le _, Nat.zero_le _⟩ rfl rfl (Nat.le_of_ble_eq_true rfl) dX11_fits_1 ?_
  refine aw_if_ne C 11 dX11_fits_4 (by decide) (fun c1 => ?_) (fun c1 => ?_)
  · rw [if_neg c1] at h
    refine aw_iload_n C 2 dX11_fits_11 rfl rfl ?_
    refine aw_i2l C dX11_fits_12 ?_
    refine aw_lconst C 0 dX11_fits_13 (by decide) ?_
    refine aw_aload_n C 0 dX11_fits_14 rfl rfl ?_
    obtain ⟨v2, hv2, h⟩ := bindE h
    refine aw_gI C fl_X11_158 rfl hv2 dX11_fits_15 ?_
    refine aw_i2l C dX11_fits_18 ?_
    refine aw_cS_I C [.long x2.toInt64, .long 0, .long v2.toInt64] _ (mt_X11_in _ _ _) cs_X11_in ml_X11_138 st_X11_in ⟨by decide, by decide⟩ ⟨rfl, rfl⟩ ⟨Nat.zero_le _, Nat.zero_le _⟩ rfl rfl (Nat.le_of_ble_eq_true rfl) dX11_fits_19 ?_
    refine aw_if_ne C 29 dX11_fits_22 (by decide) (fun c3 => ?_) (fun c3 => ?_)
    · rw [if_neg c3] at h
      refine aw_aload_n C 0 dX11_fits_29 rfl rfl ?_
      refine aw_iload_n C 1 dX11_fits_30 rfl rfl ?_
      refine aw_iload_n C 2 dX11_fits_31 rfl rfl ?_
      obtain ⟨g4, hg4, h⟩ := bindE h
      obtain ⟨μ5, hμ5, h⟩ := bindE h
      refine aw_cV_V C [.int x1, .int x2] _ (mt_X11_findRows hμ5) cs_X11_findRows ml_X11_167 im_X11_findRows se_X11_findRows (ci := 11) rfl rfl hg4 ⟨by decide, by decide⟩ ⟨rfl, rfl⟩ ⟨Nat.zero_le _, Nat.zero_le _⟩ rfl rfl (Nat.le_of_ble_eq_true rfl) dX11_fits_32 ?_
      refine aw_aload_n C 0 dX11_fits_35 rfl rfl ?_
      obtain ⟨v6, hv6, h⟩ := bindE h
      refine aw_gR C fl_X11_29 rfl hv6 dX11_fits_36 ?_
      refine aw_iconst C 0 dX11_fits_39 (by decide) ?_
      obtain ⟨v7, hv7, h⟩ := bindE h
      refine aw_aI C hv7 dX11_fits_40 ?_
      refine aw_aload_n C 0 dX11_fits_41 rfl rfl ?_
      obtain ⟨v8, hv8, h⟩ := bindE h
      refine aw_gR C fl_X11_29 rfl hv8 dX11_fits_42 ?_
      refine aw_iconst C 1 dX11_fits_45 (by decide) ?_
      obtain ⟨v9, hv9, h⟩ := bindE h
      refine aw_aI C hv9 dX11_fits_46 ?_
      refine aw_iadd C dX11_fits_47 ?_
      refine aw_aload_n C 0 dX11_fits_48 rfl rfl ?_
      obtain ⟨v10, hv10, h⟩ := bindE h
      refine aw_gR C fl_X11_29 rfl hv10 dX11_fits_49 ?_
      refine aw_iconst C 2 dX11_fits_52 (by decide) ?_
      obtain ⟨v11, hv11, h⟩ := bindE h
      refine aw_aI C hv11 dX11_fits_53 ?_
      refine aw_iadd C dX11_fits_54 ?_
      refine aw_aload_n C 0 dX11_fits_55 rfl rfl ?_
      obtain ⟨v12, hv12, h⟩ := bindE h
      refine aw_gR C fl_X11_29 rfl hv12 dX11_fits_56 ?_
      refine aw_iconst C 3 dX11_fits_59 (by decide) ?_
      obtain ⟨v13, hv13, h⟩ := bindE h
      refine aw_aI C hv13 dX11_fits_60 ?_
      refine aw_iadd C dX11_fits_61 ?_
      obtain ⟨e8, e9⟩ := inj2 h
      subst e8
      subst e9
      exact hret _ _ dX11_fits_62
    · rw [if_pos c3] at h
      refine aw_sipush C ((-1002)) dX11_fits_25 (by decide) ?_
      obtain ⟨e8, e9⟩ := inj2 h
      subst e8
      subst e9
      exact hret _ _ dX11_fits_28
  · rw [if_pos c1] at h
    refine aw_sipush C ((-1001)) dX11_fits_7 (by decide) ?_
    obtain ⟨e8, e9⟩ := inj2 h
    subst e8
    subst e9
    exact hret _ _ dX11_fits_10
set_option maxRecDepth 100000 in
set_option maxHeartbeats 4000000 in
theorem mt_X11_fits {G : GL} {l : Launch} {a0 : Nat} {x1 : Int32} {x2 : Int32} {μ : Mem} {r : Int32} {μ' : Mem} (h : X11_fits a0 x1 x2 μ = some (r, μ')) : MtI G l yX11_fits cX11_fits 3 (some .int) rm_X11_fits false [.ref (gZ G + a0), .int x1, .int x2] μ r μ' := met_I (by decide) rfl rfl (Nat.le_of_ble_eq_true rfl) (fun X _ C _ _ hret => wk_X11_fits C h hret)
def X11_odds (a0 : Nat) (x1 : Int32) (x2 : Int32) (x3 : Int32) (μ : Mem) : Option (Int32 × Mem) :=
  if (X11_isPerson x1) = 0 then
  some ((-1001), μ)
  else
  if (X11_isState x2) = 0 then
  some ((-1002), μ)
  else
  if (X11_in x3.toInt64 0 8) = 0 then
  some ((-1002), μ)
  else
  (gI 11 5 a0 μ).bind fun v4 =>
  (vO 11 a0 μ).bind fun g5 =>
  (X11_findOdds a0 x1 v4 x3 μ).bind fun μ6 =>
  (gR 11 10 a0 μ6).bind fun v7 =>
  (aI v7 x2 μ6).bind fun v8 =>
  some (v8, μ6)
set_option maxRecDepth 100000 in
set_option maxHeartbeats 4000000 in
theorem wk_X11_odds {G : GL} {X : CX} {a0 : Nat} {x1 : Int32} {x2 : Int32} {x3 : Int32} {μ : Mem} {r : Int32} {μ' : Mem} (C : Ctx G X cX11_odds 4 RX11 rm_X11_odds) (h : X11_odds a0 x1 x2 x3 μ = some (r, μ')) (hret : RtI G 4 X cX11_odds 0 0 r μ') : AW G 4 X 0 0 0 [(0, .ref (gZ G + a0)), (1, .int x1), (2, .int x2), (3, .int x3)] [] μ := by
  unfold X11_odds at h
  refine aw_iload_n C 1 dX11_odds_0 rfl rfl ?_
  refine aw_cS_I C [.int x1] _ (mt_X11_isPerson _) cs_X11_isPerson ml_X11_153 st_X11_isPerson ⟨by decide, by decide⟩ ⟨rfl, rfl⟩ ⟨Nat.zero_le _, Nat.zero_le _⟩ rfl rfl (Nat.le_of_ble_eq_true rfl) dX11_odds_1 ?_
  refine aw_if_ne C 11 dX11_odds_4 (by decide) (fun c1 => ?_) (fun c1 => ?_)
  · rw [if_neg c1] at h
    refine aw_iload_n C 2 dX11_odds_11 rfl rfl ?_
    refine aw_cS_I C [.int x2] _ (mt_X11_isState _) cs_X11_isState ml_X11_142 st_X11_isState ⟨by decide, by decide⟩ ⟨rfl, rfl⟩ ⟨Nat.zero_le _, Nat.zero_le _⟩ rfl rfl (Nat.le_of_ble_eq_true rfl) dX11_odds_12 ?_
    refine aw_if_eq C 30 dX11_odds_15 (by decide) (fun c2 => ?_) (fun c2 => ?_)
    · rw [if_pos c2] at h
      refine aw_sipush C ((-1002)) dX11_odds_30 (by decide) ?_
      obtain ⟨e8, e9⟩ := inj2 h
      subst e8
      subst e9
      exact hret _ _ dX11_odds_33
    · rw [if_neg c2] at h
      refine aw_iload_n C 3 dX11_odds_18 rfl rfl ?_
      refine aw_i2l C dX11_odds_19 ?_
      refine aw_lconst C 0 dX11_odds_20 (by decide) ?_
      refine aw_ldc2 C kl_X11_177 dX11_odds_21 ?_
      refine aw_cS_I C [.long x3.toInt64, .long 0, .long 8] _ (mt_X11_in _ _ _) cs_X11_in ml_X11_138 st_X11_in ⟨by decide, by decide⟩ ⟨rfl, rfl⟩ ⟨Nat.zero_le _, Nat.zero_le _⟩ rfl rfl (Nat.le_of_ble_eq_true rfl) dX11_odds_24 ?_
      refine aw_if_ne C 34 dX11_odds_27 (by decide) (fun c3 => ?_) (fun c3 => ?_)
      · rw [if_neg c3] at h
        refine aw_aload_n C 0 dX11_odds_34 rfl rfl ?_
        refine aw_iload_n C 1 dX11_odds_35 rfl rfl ?_
        refine aw_aload_n C 0 dX11_odds_36 rfl rfl ?_
        obtain ⟨v4, hv4, h⟩ := bindE h
        refine aw_gI C fl_X11_158 rfl hv4 dX11_odds_37 ?_
        refine aw_iload_n C 3 dX11_odds_40 rfl rfl ?_
        obtain ⟨g5, hg5, h⟩ := bindE h
        obtain ⟨μ6, hμ6, h⟩ := bindE h
        refine aw_cV_V C [.int x1, .int v4, .int x3] _ (mt_X11_findOdds hμ6) cs_X11_findOdds ml_X11_173 im_X11_findOdds se_X11_findOdds (ci := 11) rfl rfl hg5 ⟨by decide, by decide⟩ ⟨rfl, rfl⟩ ⟨Nat.zero_le _, Nat.zero_le _⟩ rfl rfl (Nat.le_of_ble_eq_true rfl) dX11_odds_41 ?_
        refine aw_aload_n C 0 dX11_odds_44 rfl rfl ?_
        obtain ⟨v7, hv7, h⟩ := bindE h
        refine aw_gR C fl_X11_35 rfl hv7 dX11_odds_45 ?_
        refine aw_iload_n C 2 dX11_odds_48 rfl rfl ?_
        obtain ⟨v8, hv8, h⟩ := bindE h
        refine aw_aI C hv8 dX11_odds_49 ?_
        obtain ⟨e8, e9⟩ := inj2 h
        subst e8
        subst e9
        exact hret _ _ dX11_odds_50
      · rw [if_pos c3] at h
        refine aw_sipush C ((-1002)) dX11_odds_30 (by decide) ?_
        obtain ⟨e8, e9⟩ := inj2 h
        subst e8
        subst e9
        exact hret _ _ dX11_odds_33
  · rw [if_pos c1] at h
    refine aw_sipush C ((-1001)) dX11_odds_7 (by decide) ?_
    obtain ⟨e8, e9⟩ := inj2 h
    subst e8
    subst e9
    exact hret _ _ dX11_odds_10
set_option maxRecDepth 100000 in
set_option maxHeartbeats 4000000 in
theorem mt_X11_odds {G : GL} {l : Launch} {a0 : Nat} {x1 : Int32} {x2 : Int32} {x3 : Int32} {μ : Mem} {r : Int32} {μ' : Mem} (h : X11_odds a0 x1 x2 x3 μ = some (r, μ')) : MtI G l yX11_odds cX11_odds 4 (some .int) rm_X11_odds false [.ref (gZ G + a0), .int x1, .int x2, .int x3] μ r μ' := met_I (by decide) rfl rfl (Nat.le_of_ble_eq_true rfl) (fun X _ C _ _ hret => wk_X11_odds C h hret)
def X11_seam (a0 : Nat) (x1 : Int32) (x2 : Int32) (μ : Mem) : Option (Int32 × Mem) :=
  if (X11_isPerson x1) = 0 then
  some ((-1001), μ)
  else
  ((if (X11_in x2.toInt64 0 8) = 0 then
  some (((-1002), μ))
  else
  (gI 11 5 a0 μ).bind fun v3 =>
  (vO 11 a0 μ).bind fun g4 =>
  (X11_seamOdds a0 x1 v3 x2 μ).bind fun z5 =>
  some ((z5.1, z5.2))) : Option (Int32 × Mem)).bind fun z6 =>
  some (z6.1, z6.2)
set_option maxRecDepth 100000 in
set_option maxHeartbeats 4000000 in
theorem wk_X11_seam {G : GL} {X : CX} {a0 : Nat} {x1 : Int32} {x2 : Int32} {μ : Mem} {r : Int32} {μ' : Mem} (C : Ctx G X cX11_seam 3 RX11 rm_X11_seam) (h : X11_seam a0 x1 x2 μ = some (r, μ')) (hret : RtI G 3 X cX11_seam 0 0 r μ') : AW G 3 X 0 0 0 [(0, .ref (gZ G + a0)), (1, .int x1), (2, .int x2)] [] μ := by
  unfold X11_seam at h
  refine aw_iload_n C 1 dX11_seam_0 rfl rfl ?_
  refine aw_cS_I C [.int x1] _ (mt_X11_isPerson _) cs_X11_isPerson ml_X11_153 st_X11_isPerson ⟨by decide, by decide⟩ ⟨rfl, rfl⟩ ⟨Nat.zero_le _, Nat.zero_le _⟩ rfl rfl (Nat.le_of_ble_eq_true rfl) dX11_seam_1 ?_
  refine aw_if_ne C 11 dX11_seam_4 (by decide) (fun c1 => ?_) (fun c1 => ?_)
  · rw [if_neg c1] at h
    refine aw_iload_n C 2 dX11_seam_11 rfl rfl ?_
    refine aw_i2l C dX11_seam_12 ?_
    refine aw_lconst C 0 dX11_seam_13 (by decide) ?_
    refine aw_ldc2 C kl_X11_177 dX11_seam_14 ?_
    refine aw_cS_I C [.long x2.toInt64, .long 0, .long 8] _ (mt_X11_in _ _ _) cs_X11_in ml_X11_138 st_X11_in ⟨by decide, by decide⟩ ⟨rfl, rfl⟩ ⟨Nat.zero_le _, Nat.zero_le _⟩ rfl rfl (Nat.le_of_ble_eq_true rfl) dX11_seam_17 ?_
    obtain ⟨z6, hz6, h⟩ := bindE h
    have kj20 : AW G 3 X 0 0 39 [] [.int z6.1] z6.2 := by
      obtain ⟨e8, e9⟩ := inj2 h
      subst e8
      subst e9
      exact hret _ _ dX11_seam_39
    replace h := hz6
    refine aw_if_eq C 36 dX11_seam_20 (by decide) (fun c2 => ?_) (fun c2 => ?_)
    · rw [if_pos c2] at h
      refine aw_sipush C ((-1002)) dX11_seam_36 (by decide) ?_
      have e9 := inj1 h
      subst e9
      exact aw_sub [] rfl kj20
    · rw [if_neg c2] at h
      refine aw_aload_n C 0 dX11_seam_23 rfl rfl ?_
      refine aw_iload_n C 1 dX11_seam_24 rfl rfl ?_
      refine aw_aload_n C 0 dX11_seam_25 rfl rfl ?_
      obtain ⟨v3, hv3, h⟩ := bindE h
      refine aw_gI C fl_X11_158 rfl hv3 dX11_seam_26 ?_
      refine aw_iload_n C 2 dX11_seam_29 rfl rfl ?_
      obtain ⟨g4, hg4, h⟩ := bindE h
      obtain ⟨z5, hz5, h⟩ := bindE h
      refine aw_cV_I C [.int x1, .int v3, .int x2] _ (mt_X11_seamOdds hz5) cs_X11_seamOdds ml_X11_179 im_X11_seamOdds se_X11_seamOdds (ci := 11) rfl rfl hg4 ⟨by decide, by decide⟩ ⟨rfl, rfl⟩ ⟨Nat.zero_le _, Nat.zero_le _⟩ rfl rfl (Nat.le_of_ble_eq_true rfl) dX11_seam_30 ?_
      refine aw_goto C 39 dX11_seam_33 (by decide) ?_
      have e9 := inj1 h
      subst e9
      exact aw_sub [] rfl kj20
  · rw [if_pos c1] at h
    refine aw_sipush C ((-1001)) dX11_seam_7 (by decide) ?_
    obtain ⟨e8, e9⟩ := inj2 h
    subst e8
    subst e9
    exact hret _ _ dX11_seam_10
set_option maxRecDepth 100000 in
set_option maxHeartbeats 4000000 in
theorem mt_X11_seam {G : GL} {l : Launch} {a0 : Nat} {x1 : Int32} {x2 : Int32} {μ : Mem} {r : Int32} {μ' : Mem} (h : X11_seam a0 x1 x2 μ = some (r, μ')) : MtI G l yX11_seam cX11_seam 3 (some .int) rm_X11_seam false [.ref (gZ G + a0), .int x1, .int x2] μ r μ' := met_I (by decide) rfl rfl (Nat.le_of_ble_eq_true rfl) (fun X _ C _ _ hret => wk_X11_seam C h hret)
def X11_until_L29 (a0 : Nat) (x1 : Int32) (x2 : Int32) : Nat → Int32 → Mem → Option (Int32 × Mem)
  | 0, _, _ => none
  | n + 1, x3, μ =>
      if (8 : Int32) < x3 then
      some ((-1), μ)
      else
      (gI 11 5 a0 μ).bind fun v2 =>
      (vO 11 a0 μ).bind fun g3 =>
      (X11_seamOdds a0 x1 v2 x3 μ).bind fun z4 =>
      if z4.1 < x2 then
      X11_until_L29 a0 x1 x2 n (x3 + 1) z4.2
      else
      some (x3, z4.2)
set_option maxRecDepth 100000 in
set_option maxHeartbeats 4000000 in
theorem X11_until_L29_ok {G : GL} {X : CX} (C : Ctx G X cX11_until 4 RX11 rm_X11_until) {r : Int32} {μ' : Mem} (hret : RtI G 4 X cX11_until 0 0 r μ') (a0 : Nat) (x1 : Int32) (x2 : Int32) : ∀ (n : Nat) (x3 : Int32) (μ : Mem), X11_until_L29 a0 x1 x2 n x3 μ = some (r, μ') → AW G 4 X 0 0 29 [(0, .ref (gZ G + a0)), (1, .int x1), (2, .int x2), (3, .int x3)] [] μ := by
  intro n
  induction n with
  | zero =>
    intro x3 μ h
    rw [X11_until_L29] at h
    cases h
  | succ n ih =>
    intro x3 μ h
    rw [X11_until_L29] at h
    refine aw_iload_n C 3 dX11_until_29 rfl rfl ?_
    refine aw_bipush C 8 dX11_until_30 (by decide) ?_
    refine aw_icmp_gt C 57 dX11_until_32 (by decide) (fun c1 => ?_) (fun c1 => ?_)
    · rw [if_pos c1] at h
      refine aw_iconst C ((-1)) dX11_until_57 (by decide) ?_
      obtain ⟨e8, e9⟩ := inj2 h
      subst e8
      subst e9
      exact hret _ _ dX11_until_58
    · rw [if_neg c1] at h
      refine aw_aload_n C 0 dX11_until_35 rfl rfl ?_
      refine aw_iload_n C 1 dX11_until_36 rfl rfl ?_
      refine aw_aload_n C 0 dX11_until_37 rfl rfl ?_
      obtain ⟨v2, hv2, h⟩ := bindE h
      refine aw_gI C fl_X11_158 rfl hv2 dX11_until_38 ?_
      refine aw_iload_n C 3 dX11_until_41 rfl rfl ?_
      obtain ⟨g3, hg3, h⟩ := bindE h
      obtain ⟨z4, hz4, h⟩ := bindE h
      refine aw_cV_I C [.int x1, .int v2, .int x3] _ (mt_X11_seamOdds hz4) cs_X11_seamOdds ml_X11_179 im_X11_seamOdds se_X11_seamOdds (ci := 11) rfl rfl hg3 ⟨by decide, by decide⟩ ⟨rfl, rfl⟩ ⟨Nat.zero_le _, Nat.zero_le _⟩ rfl rfl (Nat.le_of_ble_eq_true rfl) dX11_until_42 ?_
      refine aw_iload_n C 2 dX11_until_45 rfl rfl ?_
      refine aw_icmp_lt C 51 dX11_until_46 (by decide) (fun c5 => ?_) (fun c5 => ?_)
      · rw [if_pos c5] at h
        refine aw_iinc C (x3 + 1) 3 [(3, .int (x3 + 1)), (0, .ref (gZ G + a0)), (1, .int x1), (2, .int x2)] dX11_until_51 rfl rfl (by decide) rfl ?_
        refine aw_goto C 29 dX11_until_54 (by decide) ?_
        exact aw_sub [1, 2, 3, 0] rfl (ih _ _ h)
      · rw [if_neg c5] at h
        refine aw_iload_n C 3 dX11_until_49 rfl rfl ?_
        obtain ⟨e8, e9⟩ := inj2 h
        subst e8
        subst e9
        exact hret _ _ dX11_until_50
def X11_until (a0 : Nat) (x1 : Int32) (x2 : Int32) (μ : Mem) : Option (Int32 × Mem) :=
  if (X11_isPerson x1) = 0 then
  some ((-1001), μ)
  else
  if (X11_in x2.toInt64 0 1000000) = 0 then
  some ((-1002), μ)
  else
  X11_until_L29 a0 x1 x2 FU 0 μ
set_option maxRecDepth 100000 in
set_option maxHeartbeats 4000000 in
theorem wk_X11_until {G : GL} {X : CX} {a0 : Nat} {x1 : Int32} {x2 : Int32} {μ : Mem} {r : Int32} {μ' : Mem} (C : Ctx G X cX11_until 4 RX11 rm_X11_until) (h : X11_until a0 x1 x2 μ = some (r, μ')) (hret : RtI G 4 X cX11_until 0 0 r μ') : AW G 4 X 0 0 0 [(0, .ref (gZ G + a0)), (1, .int x1), (2, .int x2)] [] μ := by
  unfold X11_until at h
  refine aw_iload_n C 1 dX11_until_0 rfl rfl ?_
  refine aw_cS_I C [.int x1] _ (mt_X11_isPerson _) cs_X11_isPerson ml_X11_153 st_X11_isPerson ⟨by decide, by decide⟩ ⟨rfl, rfl⟩ ⟨Nat.zero_le _, Nat.zero_le _⟩ rfl rfl (Nat.le_of_ble_eq_true rfl) dX11_until_1 ?_
  refine aw_if_ne C 11 dX11_until_4 (by decide) (fun c1 => ?_) (fun c1 => ?_)
  · rw [if_neg c1] at h
    refine aw_iload_n C 2 dX11_until_11 rfl rfl ?_
    refine aw_i2l C dX11_until_12 ?_
    refine aw_lconst C 0 dX11_until_13 (by decide) ?_
    refine aw_ldc2 C kl_X11_171 dX11_until_14 ?_
    refine aw_cS_I C [.long x2.toInt64, .long 0, .long 1000000] _ (mt_X11_in _ _ _) cs_X11_in ml_X11_138 st_X11_in ⟨by decide, by decide⟩ ⟨rfl, rfl⟩ ⟨Nat.zero_le _, Nat.zero_le _⟩ rfl rfl (Nat.le_of_ble_eq_true rfl) dX11_until_17 ?_
    refine aw_if_ne C 27 dX11_until_20 (by decide) (fun c2 => ?_) (fun c2 => ?_)
    · rw [if_neg c2] at h
      refine aw_iconst C 0 dX11_until_27 (by decide) ?_
      refine aw_istore_n C [(3, .int 0), (0, .ref (gZ G + a0)), (1, .int x1), (2, .int x2)] dX11_until_28 rfl (by decide) rfl ?_
      refine aw_sub [1, 2, 3, 0] rfl ?_
      exact X11_until_L29_ok C hret _ _ _ _ _ _ h
    · rw [if_pos c2] at h
      refine aw_sipush C ((-1002)) dX11_until_23 (by decide) ?_
      obtain ⟨e8, e9⟩ := inj2 h
      subst e8
      subst e9
      exact hret _ _ dX11_until_26
  · rw [if_pos c1] at h
    refine aw_sipush C ((-1001)) dX11_until_7 (by decide) ?_
    obtain ⟨e8, e9⟩ := inj2 h
    subst e8
    subst e9
    exact hret _ _ dX11_until_10
set_option maxRecDepth 100000 in
set_option maxHeartbeats 4000000 in
theorem mt_X11_until {G : GL} {l : Launch} {a0 : Nat} {x1 : Int32} {x2 : Int32} {μ : Mem} {r : Int32} {μ' : Mem} (h : X11_until a0 x1 x2 μ = some (r, μ')) : MtI G l yX11_until cX11_until 4 (some .int) rm_X11_until false [.ref (gZ G + a0), .int x1, .int x2] μ r μ' := met_I (by decide) rfl rfl (Nat.le_of_ble_eq_true rfl) (fun X _ C _ _ hret => wk_X11_until C h hret)
def X11_isThing (a0 : Nat) (x1 : Int32) (μ : Mem) : Option Int32 :=
  (gI 11 12 a0 μ).bind fun v1 =>
  (zz (X11_in x1.toInt64 0 ((v1 - 1).toInt64))).bind fun v2 =>
  some v2
set_option maxRecDepth 100000 in
set_option maxHeartbeats 4000000 in
theorem wk_X11_isThing {G : GL} {X : CX} {a0 : Nat} {x1 : Int32} {μ : Mem} {r : Int32} (C : Ctx G X cX11_isThing 2 RX11 rm_X11_isThing) (h : X11_isThing a0 x1 μ = some r) (hret : RtZ G 2 X cX11_isThing 0 0 r μ) : AW G 2 X 0 0 0 [(0, .ref (gZ G + a0)), (1, .int x1)] [] μ := by
  unfold X11_isThing at h
  refine aw_iload_n C 1 dX11_isThing_0 rfl rfl ?_
  refine aw_i2l C dX11_isThing_1 ?_
  refine aw_lconst C 0 dX11_isThing_2 (by decide) ?_
  refine aw_aload_n C 0 dX11_isThing_3 rfl rfl ?_
  obtain ⟨v1, hv1, h⟩ := bindE h
  refine aw_gI C fl_X11_182 rfl hv1 dX11_isThing_4 ?_
  refine aw_iconst C 1 dX11_isThing_7 (by decide) ?_
  refine aw_isub C dX11_isThing_8 ?_
  refine aw_i2l C dX11_isThing_9 ?_
  refine aw_cS_I C [.long x1.toInt64, .long 0, .long ((v1 - 1).toInt64)] _ (mt_X11_in _ _ _) cs_X11_in ml_X11_138 st_X11_in ⟨by decide, by decide⟩ ⟨rfl, rfl⟩ ⟨Nat.zero_le _, Nat.zero_le _⟩ rfl rfl (Nat.le_of_ble_eq_true rfl) dX11_isThing_10 ?_
  obtain ⟨v2, hv2, h⟩ := bindE h
  obtain ⟨ev2, zv2⟩ := zzE hv2
  refine aw_topi ev2 ?_
  have e9 := inj1 h
  subst e9
  exact hret _ _ dX11_isThing_13 zv2
set_option maxRecDepth 100000 in
set_option maxHeartbeats 4000000 in
theorem mt_X11_isThing {G : GL} {l : Launch} {a0 : Nat} {x1 : Int32} {μ : Mem} {r : Int32} (h : X11_isThing a0 x1 μ = some r) : MtI G l yX11_isThing cX11_isThing 2 (some .boolean) rm_X11_isThing false [.ref (gZ G + a0), .int x1] μ r μ := met_Z (by decide) rfl (Nat.le_of_ble_eq_true rfl) (fun X _ C _ _ hret => wk_X11_isThing C h hret)
def X11_isMust (a0 : Nat) (x1 : Int32) (μ : Mem) : Option Int32 :=
  (gR 11 14 a0 μ).bind fun v1 =>
  (aI v1 x1 μ).bind fun v2 =>
  ((if v2 = 0 then
  some 1
  else
  (gR 11 14 a0 μ).bind fun v4 =>
  (aI v4 x1 μ).bind fun v5 =>
  if v5 = 3 then
  some 1
  else
  some 0) : Option (Int32)).bind fun z7 =>
  (zz z7).bind fun v8 =>
  some v8
set_option maxRecDepth 100000 in
set_option maxHeartbeats 4000000 in
theorem wk_X11_isMust {G : GL} {X : CX} {a0 : Nat} {x1 : Int32} {μ : Mem} {r : Int32} (C : Ctx G X cX11_isMust 2 RX11 rm_X11_isMust) (h : X11_isMust a0 x1 μ = some r) (hret : RtZ G 2 X cX11_isMust 0 0 r μ) : AW G 2 X 0 0 0 [(0, .ref (gZ G + a0)), (1, .int x1)] [] μ := by
  unfold X11_isMust at h
  refine aw_aload_n C 0 dX11_isMust_0 rfl rfl ?_
  obtain ⟨v1, hv1, h⟩ := bindE h
  refine aw_gR C fl_X11_44 rfl hv1 dX11_isMust_1 ?_
  refine aw_iload_n C 1 dX11_isMust_4 rfl rfl ?_
  obtain ⟨v2, hv2, h⟩ := bindE h
  refine aw_aI C hv2 dX11_isMust_5 ?_
  obtain ⟨z7, hz7, h⟩ := bindE h
  have kj6 : AW G 2 X 0 0 24 [] [.int z7] μ := by
    obtain ⟨v8, hv8, h⟩ := bindE h
    obtain ⟨ev8, zv8⟩ := zzE hv8
    refine aw_topi ev8 ?_
    have e9 := inj1 h
    subst e9
    exact hret _ _ dX11_isMust_24 zv8
  replace h := hz7
  refine aw_if_eq C 19 dX11_isMust_6 (by decide) (fun c3 => ?_) (fun c3 => ?_)
  · rw [if_pos c3] at h
    refine aw_iconst C 1 dX11_isMust_19 (by decide) ?_
    refine aw_goto C 24 dX11_isMust_20 (by decide) ?_
    have e9 := inj1 h
    subst e9
    exact aw_sub [] rfl kj6
  · rw [if_neg c3] at h
    refine aw_aload_n C 0 dX11_isMust_9 rfl rfl ?_
    obtain ⟨v4, hv4, h⟩ := bindE h
    refine aw_gR C fl_X11_44 rfl hv4 dX11_isMust_10 ?_
    refine aw_iload_n C 1 dX11_isMust_13 rfl rfl ?_
    obtain ⟨v5, hv5, h⟩ := bindE h
    refine aw_aI C hv5 dX11_isMust_14 ?_
    refine aw_iconst C 3 dX11_isMust_15 (by decide) ?_
    refine aw_icmp_ne C 23 dX11_isMust_16 (by decide) (fun c6 => ?_) (fun c6 => ?_)
    · rw [if_neg c6] at h
      refine aw_iconst C 0 dX11_isMust_23 (by decide) ?_
      have e9 := inj1 h
      subst e9
      exact aw_sub [] rfl kj6
    · rw [if_pos c6] at h
      refine aw_iconst C 1 dX11_isMust_19 (by decide) ?_
      refine aw_goto C 24 dX11_isMust_20 (by decide) ?_
      have e9 := inj1 h
      subst e9
      exact aw_sub [] rfl kj6
set_option maxRecDepth 100000 in
set_option maxHeartbeats 4000000 in
theorem mt_X11_isMust {G : GL} {l : Launch} {a0 : Nat} {x1 : Int32} {μ : Mem} {r : Int32} (h : X11_isMust a0 x1 μ = some r) : MtI G l yX11_isMust cX11_isMust 2 (some .boolean) rm_X11_isMust false [.ref (gZ G + a0), .int x1] μ r μ := met_Z (by decide) rfl (Nat.le_of_ble_eq_true rfl) (fun X _ C _ _ hret => wk_X11_isMust C h hret)
def X11_thing (a0 : Nat) (x1 : Int32) (x2 : Int32) (x3 : Int32) (x4 : Int32) (x5 : Int32) (x6 : Int32) (x7 : Int32) (μ : Mem) : Option (Int32 × Mem) :=
  if (X11_in x1.toInt64 1 15) = 0 then
  some ((-1001), μ)
  else
  if (X11_in x2.toInt64 0 3) = 0 then
  some ((-1002), μ)
  else
  if (X11_in x3.toInt64 0 5) = 0 then
  some ((-1002), μ)
  else
  if (X11_in x4.toInt64 0 9) = 0 then
  some ((-1002), μ)
  else
  if (X11_in x5.toInt64 0 999) = 0 then
  some ((-1002), μ)
  else
  if (X11_in x6.toInt64 0 99) = 0 then
  some ((-1002), μ)
  else
  (gI 11 5 a0 μ).bind fun v7 =>
  if (X11_in x7.toInt64 v7.toInt64 60) = 0 then
  some ((-1002), μ)
  else
  (gI 11 12 a0 μ).bind fun v9 =>
  if v9 = 10 then
  some ((-1004), μ)
  else
  (gR 11 13 a0 μ).bind fun v11 =>
  (gI 11 12 a0 μ).bind fun v12 =>
  (sI v11 v12 x1 μ).bind fun μ13 =>
  (gR 11 14 a0 μ13).bind fun v14 =>
  (gI 11 12 a0 μ13).bind fun v15 =>
  (sI v14 v15 x2 μ13).bind fun μ16 =>
  (gR 11 15 a0 μ16).bind fun v17 =>
  (gI 11 12 a0 μ16).bind fun v18 =>
  (sI v17 v18 x3 μ16).bind fun μ19 =>
  (gR 11 16 a0 μ19).bind fun v20 =>
  (gI 11 12 a0 μ19).bind fun v21 =>
  (sI v20 v21 x4 μ19).bind fun μ22 =>
  (gR 11 17 a0 μ22).bind fun v23 =>
  (gI 11 12 a0 μ22).bind fun v24 =>
  (sI v23 v24 x5 μ22).bind fun μ25 =>
  (gR 11 18 a0 μ25).bind fun v26 =>
  (gI 11 12 a0 μ25).bind fun v27 =>
  (sI v26 v27 x6 μ25).bind fun μ28 =>
  (gR 11 19 a0 μ28).bind fun v29 =>
  (gI 11 12 a0 μ28).bind fun v30 =>
  (sI v29 v30 x7 μ28).bind fun μ31 =>
  (gR 11 20 a0 μ31).bind fun v32 =>
  (gI 11 12 a0 μ31).bind fun v33 =>
  (gI 11 5 a0 μ31).bind fun v34 =>
  (sI v32 v33 v34 μ31).bind fun μ35 =>
  (gR 11 21 a0 μ35).bind fun v36 =>
  (gI 11 12 a0 μ35).bind fun v37 =>
  (sZ v36 v37 0 μ35).bind fun μ38 =>
  (gI 11 12 a0 μ38).bind fun v39 =>
  (pI 11 12 a0 (v39 + 1) μ38).bind fun μ40 =>
  (gI 11 12 a0 μ40).bind fun v41 =>
  some (v41 - 1, μ40)
set_option maxRecDepth 100000 in
set_option maxHeartbeats 4000000 in
theorem wk_X11_thing {G : GL} {X : CX} {a0 : Nat} {x1 : Int32} {x2 : Int32} {x3 : Int32} {x4 : Int32} {x5 : Int32} {x6 : Int32} {x7 : Int32} {μ : Mem} {r : Int32} {μ' : Mem} (C : Ctx G X cX11_thing 8 RX11 rm_X11_thing) (h : X11_thing a0 x1 x2 x3 x4 x5 x6 x7 μ = some (r, μ')) (hret : RtI G 8 X cX11_thing 0 0 r μ') : AW G 8 X 0 0 0 [(0, .ref (gZ G + a0)), (1, .int x1), (2, .int x2), (3, .int x3), (4, .int x4), (5, .int x5), (6, .int x6), (7, .int x7)] [] μ := by
  unfold X11_thing at h
  refine aw_iload_n C 1 dX11_thing_0 rfl rfl ?_
  refine aw_i2l C dX11_thing_1 ?_
  refine aw_lconst C 1 dX11_thing_2 (by decide) ?_
  refine aw_ldc2 C kl_X11_148 dX11_thing_3 ?_
  refine aw_cS_I C [.long x1.toInt64, .long 1, .long 15] _ (mt_X11_in _ _ _) cs_X11_in ml_X11_138 st_X11_in ⟨by decide, by decide⟩ ⟨rfl, rfl⟩ ⟨Nat.zero_le _, Nat.zero_le _⟩ rfl rfl (Nat.le_of_ble_eq_true rfl) dX11_thing_6 ?_
  refine aw_if_ne C 16 dX11_thing_9 (by decide) (fun c1 => ?_) (fun c1 => ?_)
  · rw [if_neg c1] at h
    refine aw_iload_n C 2 dX11_thing_16 rfl rfl ?_
    refine aw_i2l C dX11_thing_17 ?_
    refine aw_lconst C 0 dX11_thing_18 (by decide) ?_
    refine aw_ldc2 C kl_X11_136 dX11_thing_19 ?_
    refine aw_cS_I C [.long x2.toInt64, .long 0, .long 3] _ (mt_X11_in _ _ _) cs_X11_in ml_X11_138 st_X11_in ⟨by decide, by decide⟩ ⟨rfl, rfl⟩ ⟨Nat.zero_le _, Nat.zero_le _⟩ rfl rfl (Nat.le_of_ble_eq_true rfl) dX11_thing_22 ?_
    refine aw_if_eq C 96 dX11_thing_25 (by decide) (fun c2 => ?_) (fun c2 => ?_)
    · rw [if_pos c2] at h
      refine aw_sipush C ((-1002)) dX11_thing_96 (by decide) ?_
      obtain ⟨e8, e9⟩ := inj2 h
      subst e8
      subst e9
      exact hret _ _ dX11_thing_99
    · rw [if_neg c2] at h
      refine aw_iload_n C 3 dX11_thing_28 rfl rfl ?_
      refine aw_i2l C dX11_thing_29 ?_
      refine aw_lconst C 0 dX11_thing_30 (by decide) ?_
      refine aw_ldc2 C kl_X11_185 dX11_thing_31 ?_
      refine aw_cS_I C [.long x3.toInt64, .long 0, .long 5] _ (mt_X11_in _ _ _) cs_X11_in ml_X11_138 st_X11_in ⟨by decide, by decide⟩ ⟨rfl, rfl⟩ ⟨Nat.zero_le _, Nat.zero_le _⟩ rfl rfl (Nat.le_of_ble_eq_true rfl) dX11_thing_34 ?_
      refine aw_if_eq C 96 dX11_thing_37 (by decide) (fun c3 => ?_) (fun c3 => ?_)
      · rw [if_pos c3] at h
        refine aw_sipush C ((-1002)) dX11_thing_96 (by decide) ?_
        obtain ⟨e8, e9⟩ := inj2 h
        subst e8
        subst e9
        exact hret _ _ dX11_thing_99
      · rw [if_neg c3] at h
        refine aw_iload C 4 dX11_thing_40 rfl ?_
        refine aw_i2l C dX11_thing_42 ?_
        refine aw_lconst C 0 dX11_thing_43 (by decide) ?_
        refine aw_ldc2 C kl_X11_187 dX11_thing_44 ?_
        refine aw_cS_I C [.long x4.toInt64, .long 0, .long 9] _ (mt_X11_in _ _ _) cs_X11_in ml_X11_138 st_X11_in ⟨by decide, by decide⟩ ⟨rfl, rfl⟩ ⟨Nat.zero_le _, Nat.zero_le _⟩ rfl rfl (Nat.le_of_ble_eq_true rfl) dX11_thing_47 ?_
        refine aw_if_eq C 96 dX11_thing_50 (by decide) (fun c4 => ?_) (fun c4 => ?_)
        · rw [if_pos c4] at h
          refine aw_sipush C ((-1002)) dX11_thing_96 (by decide) ?_
          obtain ⟨e8, e9⟩ := inj2 h
          subst e8
          subst e9
          exact hret _ _ dX11_thing_99
        · rw [if_neg c4] at h
          refine aw_iload C 5 dX11_thing_53 rfl ?_
          refine aw_i2l C dX11_thing_55 ?_
          refine aw_lconst C 0 dX11_thing_56 (by decide) ?_
          refine aw_ldc2 C kl_X11_189 dX11_thing_57 ?_
          refine aw_cS_I C [.long x5.toInt64, .long 0, .long 999] _ (mt_X11_in _ _ _) cs_X11_in ml_X11_138 st_X11_in ⟨by decide, by decide⟩ ⟨rfl, rfl⟩ ⟨Nat.zero_le _, Nat.zero_le _⟩ rfl rfl (Nat.le_of_ble_eq_true rfl) dX11_thing_60 ?_
          refine aw_if_eq C 96 dX11_thing_63 (by decide) (fun c5 => ?_) (fun c5 => ?_)
          · rw [if_pos c5] at h
            refine aw_sipush C ((-1002)) dX11_thing_96 (by decide) ?_
            obtain ⟨e8, e9⟩ := inj2 h
            subst e8
            subst e9
            exact hret _ _ dX11_thing_99
          · rw [if_neg c5] at h
            refine aw_iload C 6 dX11_thing_66 rfl ?_
            refine aw_i2l C dX11_thing_68 ?_
            refine aw_lconst C 0 dX11_thing_69 (by decide) ?_
            refine aw_ldc2 C kl_X11_191 dX11_thing_70 ?_
            refine aw_cS_I C [.long x6.toInt64, .long 0, .long 99] _ (mt_X11_in _ _ _) cs_X11_in ml_X11_138 st_X11_in ⟨by decide, by decide⟩ ⟨rfl, rfl⟩ ⟨Nat.zero_le _, Nat.zero_le _⟩ rfl rfl (Nat.le_of_ble_eq_true rfl) dX11_thing_73 ?_
            refine aw_if_eq C 96 dX11_thing_76 (by decide) (fun c6 => ?_) (fun c6 => ?_)
            · rw [if_pos c6] at h
              refine aw_sipush C ((-1002)) dX11_thing_96 (by decide) ?_
              obtain ⟨e8, e9⟩ := inj2 h
              subst e8
              subst e9
              exact hret _ _ dX11_thing_99
            · rw [if_neg c6] at h
              refine aw_iload C 7 dX11_thing_79 rfl ?_
              refine aw_i2l C dX11_thing_81 ?_
              refine aw_aload_n C 0 dX11_thing_82 rfl rfl ?_
              obtain ⟨v7, hv7, h⟩ := bindE h
              refine aw_gI C fl_X11_158 rfl hv7 dX11_thing_83 ?_
              refine aw_i2l C dX11_thing_86 ?_
              refine aw_ldc2 C kl_X11_193 dX11_thing_87 ?_
              refine aw_cS_I C [.long x7.toInt64, .long v7.toInt64, .long 60] _ (mt_X11_in _ _ _) cs_X11_in ml_X11_138 st_X11_in ⟨by decide, by decide⟩ ⟨rfl, rfl⟩ ⟨Nat.zero_le _, Nat.zero_le _⟩ rfl rfl (Nat.le_of_ble_eq_true rfl) dX11_thing_90 ?_
              refine aw_if_ne C 100 dX11_thing_93 (by decide) (fun c8 => ?_) (fun c8 => ?_)
              · rw [if_neg c8] at h
                refine aw_aload_n C 0 dX11_thing_100 rfl rfl ?_
                obtain ⟨v9, hv9, h⟩ := bindE h
                refine aw_gI C fl_X11_182 rfl hv9 dX11_thing_101 ?_
                refine aw_bipush C 10 dX11_thing_104 (by decide) ?_
                refine aw_icmp_ne C 113 dX11_thing_106 (by decide) (fun c10 => ?_) (fun c10 => ?_)
                · rw [if_neg c10] at h
                  refine aw_aload_n C 0 dX11_thing_113 rfl rfl ?_
                  obtain ⟨v11, hv11, h⟩ := bindE h
                  refine aw_gR C fl_X11_41 rfl hv11 dX11_thing_114 ?_
                  refine aw_aload_n C 0 dX11_thing_117 rfl rfl ?_
                  obtain ⟨v12, hv12, h⟩ := bindE h
                  refine aw_gI C fl_X11_182 rfl hv12 dX11_thing_118 ?_
                  refine aw_iload_n C 1 dX11_thing_121 rfl rfl ?_
                  obtain ⟨μ13, hμ13, h⟩ := bindE h
                  refine aw_sI C hμ13 dX11_thing_122 ?_
                  refine aw_aload_n C 0 dX11_thing_123 rfl rfl ?_
                  obtain ⟨v14, hv14, h⟩ := bindE h
                  refine aw_gR C fl_X11_44 rfl hv14 dX11_thing_124 ?_
                  refine aw_aload_n C 0 dX11_thing_127 rfl rfl ?_
                  obtain ⟨v15, hv15, h⟩ := bindE h
                  refine aw_gI C fl_X11_182 rfl hv15 dX11_thing_128 ?_
                  refine aw_iload_n C 2 dX11_thing_131 rfl rfl ?_
                  obtain ⟨μ16, hμ16, h⟩ := bindE h
                  refine aw_sI C hμ16 dX11_thing_132 ?_
                  refine aw_aload_n C 0 dX11_thing_133 rfl rfl ?_
                  obtain ⟨v17, hv17, h⟩ := bindE h
                  refine aw_gR C fl_X11_47 rfl hv17 dX11_thing_134 ?_
                  refine aw_aload_n C 0 dX11_thing_137 rfl rfl ?_
                  obtain ⟨v18, hv18, h⟩ := bindE h
                  refine aw_gI C fl_X11_182 rfl hv18 dX11_thing_138 ?_
                  refine aw_iload_n C 3 dX11_thing_141 rfl rfl ?_
                  obtain ⟨μ19, hμ19, h⟩ := bindE h
                  refine aw_sI C hμ19 dX11_thing_142 ?_
                  refine aw_aload_n C 0 dX11_thing_143 rfl rfl ?_
                  obtain ⟨v20, hv20, h⟩ := bindE h
                  refine aw_gR C fl_X11_50 rfl hv20 dX11_thing_144 ?_
                  refine aw_aload_n C 0 dX11_thing_147 rfl rfl ?_
                  obtain ⟨v21, hv21, h⟩ := bindE h
                  refine aw_gI C fl_X11_182 rfl hv21 dX11_thing_148 ?_
                  refine aw_iload C 4 dX11_thing_151 rfl ?_
                  obtain ⟨μ22, hμ22, h⟩ := bindE h
                  refine aw_sI C hμ22 dX11_thing_153 ?_
                  refine aw_aload_n C 0 dX11_thing_154 rfl rfl ?_
                  obtain ⟨v23, hv23, h⟩ := bindE h
                  refine aw_gR C fl_X11_53 rfl hv23 dX11_thing_155 ?_
                  refine aw_aload_n C 0 dX11_thing_158 rfl rfl ?_
                  obtain ⟨v24, hv24, h⟩ := bindE h
                  refine aw_gI C fl_X11_182 rfl hv24 dX11_thing_159 ?_
                  refine aw_iload C 5 dX11_thing_162 rfl ?_
                  obtain ⟨μ25, hμ25, h⟩ := bindE h
                  refine aw_sI C hμ25 dX11_thing_164 ?_
                  refine aw_aload_n C 0 dX11_thing_165 rfl rfl ?_
                  obtain ⟨v26, hv26, h⟩ := bindE h
                  refine aw_gR C fl_X11_56 rfl hv26 dX11_thing_166 ?_
                  refine aw_aload_n C 0 dX11_thing_169 rfl rfl ?_
                  obtain ⟨v27, hv27, h⟩ := bindE h
                  refine aw_gI C fl_X11_182 rfl hv27 dX11_thing_170 ?_
                  refine aw_iload C 6 dX11_thing_173 rfl ?_
                  obtain ⟨μ28, hμ28, h⟩ := bindE h
                  refine aw_sI C hμ28 dX11_thing_175 ?_
                  refine aw_aload_n C 0 dX11_thing_176 rfl rfl ?_
                  obtain ⟨v29, hv29, h⟩ := bindE h
                  refine aw_gR C fl_X11_59 rfl hv29 dX11_thing_177 ?_
                  refine aw_aload_n C 0 dX11_thing_180 rfl rfl ?_
                  obtain ⟨v30, hv30, h⟩ := bindE h
                  refine aw_gI C fl_X11_182 rfl hv30 dX11_thing_181 ?_
                  refine aw_iload C 7 dX11_thing_184 rfl ?_
                  obtain ⟨μ31, hμ31, h⟩ := bindE h
                  refine aw_sI C hμ31 dX11_thing_186 ?_
                  refine aw_aload_n C 0 dX11_thing_187 rfl rfl ?_
                  obtain ⟨v32, hv32, h⟩ := bindE h
                  refine aw_gR C fl_X11_62 rfl hv32 dX11_thing_188 ?_
                  refine aw_aload_n C 0 dX11_thing_191 rfl rfl ?_
                  obtain ⟨v33, hv33, h⟩ := bindE h
                  refine aw_gI C fl_X11_182 rfl hv33 dX11_thing_192 ?_
                  refine aw_aload_n C 0 dX11_thing_195 rfl rfl ?_
                  obtain ⟨v34, hv34, h⟩ := bindE h
                  refine aw_gI C fl_X11_158 rfl hv34 dX11_thing_196 ?_
                  obtain ⟨μ35, hμ35, h⟩ := bindE h
                  refine aw_sI C hμ35 dX11_thing_199 ?_
                  refine aw_aload_n C 0 dX11_thing_200 rfl rfl ?_
                  obtain ⟨v36, hv36, h⟩ := bindE h
                  refine aw_gR C fl_X11_65 rfl hv36 dX11_thing_201 ?_
                  refine aw_aload_n C 0 dX11_thing_204 rfl rfl ?_
                  obtain ⟨v37, hv37, h⟩ := bindE h
                  refine aw_gI C fl_X11_182 rfl hv37 dX11_thing_205 ?_
                  refine aw_iconst C 0 dX11_thing_208 (by decide) ?_
                  obtain ⟨μ38, hμ38, h⟩ := bindE h
                  refine aw_sZ C hμ38 dX11_thing_209 ?_
                  refine aw_aload_n C 0 dX11_thing_210 rfl rfl ?_
                  refine aw_dup C dX11_thing_211 rfl ?_
                  obtain ⟨v39, hv39, h⟩ := bindE h
                  refine aw_gI C fl_X11_182 rfl hv39 dX11_thing_212 ?_
                  refine aw_iconst C 1 dX11_thing_215 (by decide) ?_
                  refine aw_iadd C dX11_thing_216 ?_
                  obtain ⟨μ40, hμ40, h⟩ := bindE h
                  refine aw_pI C fl_X11_182 rfl hμ40 dX11_thing_217 ?_
                  refine aw_aload_n C 0 dX11_thing_220 rfl rfl ?_
                  obtain ⟨v41, hv41, h⟩ := bindE h
                  refine aw_gI C fl_X11_182 rfl hv41 dX11_thing_221 ?_
                  refine aw_iconst C 1 dX11_thing_224 (by decide) ?_
                  refine aw_isub C dX11_thing_225 ?_
                  obtain ⟨e8, e9⟩ := inj2 h
                  subst e8
                  subst e9
                  exact hret _ _ dX11_thing_226
                · rw [if_pos c10] at h
                  refine aw_sipush C ((-1004)) dX11_thing_109 (by decide) ?_
                  obtain ⟨e8, e9⟩ := inj2 h
                  subst e8
                  subst e9
                  exact hret _ _ dX11_thing_112
              · rw [if_pos c8] at h
                refine aw_sipush C ((-1002)) dX11_thing_96 (by decide) ?_
                obtain ⟨e8, e9⟩ := inj2 h
                subst e8
                subst e9
                exact hret _ _ dX11_thing_99
  · rw [if_pos c1] at h
    refine aw_sipush C ((-1001)) dX11_thing_12 (by decide) ?_
    obtain ⟨e8, e9⟩ := inj2 h
    subst e8
    subst e9
    exact hret _ _ dX11_thing_15
set_option maxRecDepth 100000 in
set_option maxHeartbeats 4000000 in
theorem mt_X11_thing {G : GL} {l : Launch} {a0 : Nat} {x1 : Int32} {x2 : Int32} {x3 : Int32} {x4 : Int32} {x5 : Int32} {x6 : Int32} {x7 : Int32} {μ : Mem} {r : Int32} {μ' : Mem} (h : X11_thing a0 x1 x2 x3 x4 x5 x6 x7 μ = some (r, μ')) : MtI G l yX11_thing cX11_thing 8 (some .int) rm_X11_thing false [.ref (gZ G + a0), .int x1, .int x2, .int x3, .int x4, .int x5, .int x6, .int x7] μ r μ' := met_I (by decide) rfl rfl (Nat.le_of_ble_eq_true rfl) (fun X _ C _ _ hret => wk_X11_thing C h hret)
def X11_sayingsOf_L4 (a0 : Nat) (x1 : Int32) (μ : Mem) : Nat → Int32 → Int32 → Option (Int32 × Int32)
  | 0, _, _ => none
  | n + 1, x2, x3 =>
      (gI 11 45 a0 μ).bind fun v1 =>
      if v1 ≤ x3 then
      some ((x2, x3))
      else
      (gR 11 47 a0 μ).bind fun v3 =>
      (aI v3 x3 μ).bind fun v4 =>
      (some (x2 + ((v4 >>> (x1 &&& 31)) &&& 1) : Int32)).bind fun v5 =>
      X11_sayingsOf_L4 a0 x1 μ n v5 (x3 + 1)
set_option maxRecDepth 100000 in
set_option maxHeartbeats 4000000 in
theorem X11_sayingsOf_L4_ok {G : GL} {X : CX} (C : Ctx G X cX11_sayingsOf 4 RX11 rm_X11_sayingsOf) (a0 : Nat) (x1 : Int32) (μ : Mem) : ∀ (n : Nat) (x2 : Int32) (x3 : Int32) (z : Int32 × Int32), X11_sayingsOf_L4 a0 x1 μ n x2 x3 = some z → AW G 4 X 0 0 31 [(0, .ref (gZ G + a0)), (1, .int x1), (2, .int z.1), (3, .int z.2)] [] μ → AW G 4 X 0 0 4 [(0, .ref (gZ G + a0)), (1, .int x1), (2, .int x2), (3, .int x3)] [] μ := by
  intro n
  induction n with
  | zero =>
    intro x2 x3 z h kx
    rw [X11_sayingsOf_L4] at h
    cases h
  | succ n ih =>
    intro x2 x3 z h kx
    rw [X11_sayingsOf_L4] at h
    refine aw_iload_n C 3 dX11_sayingsOf_4 rfl rfl ?_
    refine aw_aload_n C 0 dX11_sayingsOf_5 rfl rfl ?_
    obtain ⟨v1, hv1, h⟩ := bindE h
    refine aw_gI C fl_X11_195 rfl hv1 dX11_sayingsOf_6 ?_
    refine aw_icmp_ge C 31 dX11_sayingsOf_9 (by decide) (fun c2 => ?_) (fun c2 => ?_)
    · rw [if_pos c2] at h
      have e9 := inj1 h
      subst e9
      exact aw_sub [0, 1, 2, 3] rfl kx
    · rw [if_neg c2] at h
      refine aw_iload_n C 2 dX11_sayingsOf_12 rfl rfl ?_
      refine aw_aload_n C 0 dX11_sayingsOf_13 rfl rfl ?_
      obtain ⟨v3, hv3, h⟩ := bindE h
      refine aw_gR C fl_X11_124 rfl hv3 dX11_sayingsOf_14 ?_
      refine aw_iload_n C 3 dX11_sayingsOf_17 rfl rfl ?_
      obtain ⟨v4, hv4, h⟩ := bindE h
      refine aw_aI C hv4 dX11_sayingsOf_18 ?_
      refine aw_iload_n C 1 dX11_sayingsOf_19 rfl rfl ?_
      refine aw_ishr C dX11_sayingsOf_20 ?_
      refine aw_iconst C 1 dX11_sayingsOf_21 (by decide) ?_
      refine aw_iand C dX11_sayingsOf_22 ?_
      refine aw_iadd C dX11_sayingsOf_23 ?_
      obtain ⟨v5, ev5, h⟩ := bindS h
      refine aw_topi ev5 ?_
      refine aw_istore_n C [(2, .int v5), (0, .ref (gZ G + a0)), (1, .int x1), (3, .int x3)] dX11_sayingsOf_24 rfl (by decide) rfl ?_
      refine aw_iinc C (x3 + 1) 3 [(3, .int (x3 + 1)), (2, .int v5), (0, .ref (gZ G + a0)), (1, .int x1)] dX11_sayingsOf_25 rfl rfl (by decide) rfl ?_
      refine aw_goto C 4 dX11_sayingsOf_28 (by decide) ?_
      exact aw_sub [2, 3, 1, 0] rfl (ih _ _ _ h kx)
def X11_sayingsOf (a0 : Nat) (x1 : Int32) (μ : Mem) : Option Int32 :=
  (X11_sayingsOf_L4 a0 x1 μ FU 0 0).bind fun z1 =>
  some (z1.1)
set_option maxRecDepth 100000 in
set_option maxHeartbeats 4000000 in
theorem wk_X11_sayingsOf {G : GL} {X : CX} {a0 : Nat} {x1 : Int32} {μ : Mem} {r : Int32} (C : Ctx G X cX11_sayingsOf 4 RX11 rm_X11_sayingsOf) (h : X11_sayingsOf a0 x1 μ = some r) (hret : RtI G 4 X cX11_sayingsOf 0 0 r μ) : AW G 4 X 0 0 0 [(0, .ref (gZ G + a0)), (1, .int x1)] [] μ := by
  unfold X11_sayingsOf at h
  refine aw_iconst C 0 dX11_sayingsOf_0 (by decide) ?_
  refine aw_istore_n C [(2, .int 0), (0, .ref (gZ G + a0)), (1, .int x1)] dX11_sayingsOf_1 rfl (by decide) rfl ?_
  refine aw_iconst C 0 dX11_sayingsOf_2 (by decide) ?_
  refine aw_istore_n C [(3, .int 0), (2, .int 0), (0, .ref (gZ G + a0)), (1, .int x1)] dX11_sayingsOf_3 rfl (by decide) rfl ?_
  obtain ⟨z1, hz1, h⟩ := bindE h
  refine aw_sub [2, 3, 1, 0] rfl ?_
  refine X11_sayingsOf_L4_ok C _ _ _ _ _ _ _ hz1 ?_
  refine aw_iload_n C 2 dX11_sayingsOf_31 rfl rfl ?_
  have e9 := inj1 h
  subst e9
  exact hret _ _ dX11_sayingsOf_32
set_option maxRecDepth 100000 in
set_option maxHeartbeats 4000000 in
theorem mt_X11_sayingsOf {G : GL} {l : Launch} {a0 : Nat} {x1 : Int32} {μ : Mem} {r : Int32} (h : X11_sayingsOf a0 x1 μ = some r) : MtI G l yX11_sayingsOf cX11_sayingsOf 4 (some .int) rm_X11_sayingsOf false [.ref (gZ G + a0), .int x1] μ r μ := met_I (by decide) rfl rfl (Nat.le_of_ble_eq_true rfl) (fun X _ C _ _ hret => wk_X11_sayingsOf C h hret)
def X11_dead (a0 : Nat) (x1 : Int32) (μ : Mem) : Option (Int32 × Mem) :=
  (vO 11 a0 μ).bind fun g1 =>
  (X11_isThing a0 x1 μ).bind fun v2 =>
  if v2 = 0 then
  some ((-1001), μ)
  else
  (gR 11 21 a0 μ).bind fun v4 =>
  (aZ v4 x1 μ).bind fun v5 =>
  if v5 = 0 then
  (gR 11 21 a0 μ).bind fun v7 =>
  (sZ v7 x1 1 μ).bind fun μ8 =>
  (vO 11 a0 μ8).bind fun g9 =>
  (X11_sayingsOf a0 x1 μ8).bind fun v10 =>
  some (v10, μ8)
  else
  some ((-1003), μ)
set_option maxRecDepth 100000 in
set_option maxHeartbeats 4000000 in
theorem wk_X11_dead {G : GL} {X : CX} {a0 : Nat} {x1 : Int32} {μ : Mem} {r : Int32} {μ' : Mem} (C : Ctx G X cX11_dead 2 RX11 rm_X11_dead) (h : X11_dead a0 x1 μ = some (r, μ')) (hret : RtI G 2 X cX11_dead 0 0 r μ') : AW G 2 X 0 0 0 [(0, .ref (gZ G + a0)), (1, .int x1)] [] μ := by
  unfold X11_dead at h
  refine aw_aload_n C 0 dX11_dead_0 rfl rfl ?_
  refine aw_iload_n C 1 dX11_dead_1 rfl rfl ?_
  obtain ⟨g1, hg1, h⟩ := bindE h
  obtain ⟨v2, hv2, h⟩ := bindE h
  refine aw_cV_I C [.int x1] _ (mt_X11_isThing hv2) cs_X11_isThing ml_X11_198 im_X11_isThing se_X11_isThing (ci := 11) rfl rfl hg1 ⟨by decide, by decide⟩ ⟨rfl, rfl⟩ ⟨Nat.zero_le _, Nat.zero_le _⟩ rfl rfl (Nat.le_of_ble_eq_true rfl) dX11_dead_2 ?_
  refine aw_if_ne C 12 dX11_dead_5 (by decide) (fun c3 => ?_) (fun c3 => ?_)
  · rw [if_neg c3] at h
    refine aw_aload_n C 0 dX11_dead_12 rfl rfl ?_
    obtain ⟨v4, hv4, h⟩ := bindE h
    refine aw_gR C fl_X11_65 rfl hv4 dX11_dead_13 ?_
    refine aw_iload_n C 1 dX11_dead_16 rfl rfl ?_
    obtain ⟨v5, hv5, h⟩ := bindE h
    refine aw_aZ C hv5 dX11_dead_17 ?_
    refine aw_if_eq C 25 dX11_dead_18 (by decide) (fun c6 => ?_) (fun c6 => ?_)
    · rw [if_pos c6] at h
      refine aw_aload_n C 0 dX11_dead_25 rfl rfl ?_
      obtain ⟨v7, hv7, h⟩ := bindE h
      refine aw_gR C fl_X11_65 rfl hv7 dX11_dead_26 ?_
      refine aw_iload_n C 1 dX11_dead_29 rfl rfl ?_
      refine aw_iconst C 1 dX11_dead_30 (by decide) ?_
      obtain ⟨μ8, hμ8, h⟩ := bindE h
      refine aw_sZ C hμ8 dX11_dead_31 ?_
      refine aw_aload_n C 0 dX11_dead_32 rfl rfl ?_
      refine aw_iload_n C 1 dX11_dead_33 rfl rfl ?_
      obtain ⟨g9, hg9, h⟩ := bindE h
      obtain ⟨v10, hv10, h⟩ := bindE h
      refine aw_cV_I C [.int x1] _ (mt_X11_sayingsOf hv10) cs_X11_sayingsOf ml_X11_201 im_X11_sayingsOf se_X11_sayingsOf (ci := 11) rfl rfl hg9 ⟨by decide, by decide⟩ ⟨rfl, rfl⟩ ⟨Nat.zero_le _, Nat.zero_le _⟩ rfl rfl (Nat.le_of_ble_eq_true rfl) dX11_dead_34 ?_
      obtain ⟨e8, e9⟩ := inj2 h
      subst e8
      subst e9
      exact hret _ _ dX11_dead_37
    · rw [if_neg c6] at h
      refine aw_sipush C ((-1003)) dX11_dead_21 (by decide) ?_
      obtain ⟨e8, e9⟩ := inj2 h
      subst e8
      subst e9
      exact hret _ _ dX11_dead_24
  · rw [if_pos c3] at h
    refine aw_sipush C ((-1001)) dX11_dead_8 (by decide) ?_
    obtain ⟨e8, e9⟩ := inj2 h
    subst e8
    subst e9
    exact hret _ _ dX11_dead_11
set_option maxRecDepth 100000 in
set_option maxHeartbeats 4000000 in
theorem mt_X11_dead {G : GL} {l : Launch} {a0 : Nat} {x1 : Int32} {μ : Mem} {r : Int32} {μ' : Mem} (h : X11_dead a0 x1 μ = some (r, μ')) : MtI G l yX11_dead cX11_dead 2 (some .int) rm_X11_dead false [.ref (gZ G + a0), .int x1] μ r μ' := met_I (by decide) rfl rfl (Nat.le_of_ble_eq_true rfl) (fun X _ C _ _ hret => wk_X11_dead C h hret)
def X11_isTold_L7 (a0 : Nat) (x1 : Int32) (μ : Mem) : Nat → Int32 → Int32 → Int32 → Option (Int32 × Int32 × Int32)
  | 0, _, _, _ => none
  | n + 1, x2, x3, x4 =>
      (gI 11 45 a0 μ).bind fun v1 =>
      if v1 ≤ x4 then
      some ((x2, x3, x4))
      else
      (gR 11 47 a0 μ).bind fun v3 =>
      (aI v3 x4 μ).bind fun v4 =>
      (some (if ((v4 >>> (x1 &&& 31)) &&& 1) = 1 then 1 else 0 : Int32)).bind fun v6 =>
      ((if x2 = 0 then
      if v6 = 0 then
      some 0
      else
      (gR 11 50 a0 μ).bind fun v9 =>
      (aI v9 x4 μ).bind fun v10 =>
      if v10 = 3 then
      some 0
      else
      some 1
      else
      some 1) : Option (Int32)).bind fun z12 =>
      ((if v6 = 0 then
      some 0
      else
      (gR 11 50 a0 μ).bind fun v14 =>
      (aI v14 x4 μ).bind fun v15 =>
      if v15 = 1 then
      (gR 11 46 a0 μ).bind fun v17 =>
      (aI v17 x4 μ).bind fun v18 =>
      some (1 <<< (v18 &&& 31))
      else
      some 0) : Option (Int32)).bind fun z19 =>
      (some (x3 ||| z19 : Int32)).bind fun v20 =>
      X11_isTold_L7 a0 x1 μ n z12 v20 (x4 + 1)
set_option maxRecDepth 100000 in
set_option maxHeartbeats 4000000 in
theorem X11_isTold_L7_ok {G : GL} {X : CX} (C : Ctx G X cX11_isTold 6 RX11 rm_X11_isTold) (a0 : Nat) (x1 : Int32) (μ : Mem) : ∀ (n : Nat) (x2 : Int32) (x3 : Int32) (x4 : Int32) (z : Int32 × Int32 × Int32), X11_isTold_L7 a0 x1 μ n x2 x3 x4 = some z → AW G 6 X 0 0 102 [(0, .ref (gZ G + a0)), (1, .int x1), (2, .int z.1), (3, .int z.2.1), (4, .int z.2.2)] [] μ → AW G 6 X 0 0 7 [(0, .ref (gZ G + a0)), (1, .int x1), (2, .int x2), (3, .int x3), (4, .int x4)] [] μ := by
  intro n
  induction n with
  | zero =>
    intro x2 x3 x4 z h kx
    rw [X11_isTold_L7] at h
    cases h
  | succ n ih =>
    intro x2 x3 x4 z h kx
    rw [X11_isTold_L7] at h
    refine aw_iload C 4 dX11_isTold_7 rfl ?_
    refine aw_aload_n C 0 dX11_isTold_9 rfl rfl ?_
    obtain ⟨v1, hv1, h⟩ := bindE h
    refine aw_gI C fl_X11_195 rfl hv1 dX11_isTold_10 ?_
    refine aw_icmp_ge C 102 dX11_isTold_13 (by decide) (fun c2 => ?_) (fun c2 => ?_)
    · rw [if_pos c2] at h
      have e9 := inj1 h
      subst e9
      exact aw_sub [0, 1, 2, 3, 4] rfl kx
    · rw [if_neg c2] at h
      refine aw_aload_n C 0 dX11_isTold_16 rfl rfl ?_
      obtain ⟨v3, hv3, h⟩ := bindE h
      refine aw_gR C fl_X11_124 rfl hv3 dX11_isTold_17 ?_
      refine aw_iload C 4 dX11_isTold_20 rfl ?_
      obtain ⟨v4, hv4, h⟩ := bindE h
      refine aw_aI C hv4 dX11_isTold_22 ?_
      refine aw_iload_n C 1 dX11_isTold_23 rfl rfl ?_
      refine aw_ishr C dX11_isTold_24 ?_
      refine aw_iconst C 1 dX11_isTold_25 (by decide) ?_
      refine aw_iand C dX11_isTold_26 ?_
      refine aw_iconst C 1 dX11_isTold_27 (by decide) ?_
      obtain ⟨v6, ev6, h⟩ := bindS h
      have kj28 : AW G 6 X 0 0 36 [(0, .ref (gZ G + a0)), (1, .int x1), (2, .int x2), (3, .int x3), (4, .int x4)] [.int v6] μ := by
        refine aw_istore C [(5, .int v6), (0, .ref (gZ G + a0)), (1, .int x1), (2, .int x2), (3, .int x3), (4, .int x4)] dX11_isTold_36 (by decide) rfl ?_
        refine aw_iload_n C 3 dX11_isTold_38 rfl rfl ?_
        obtain ⟨z12, hz12, h⟩ := bindE h
        have kj39 : AW G 6 X 0 0 63 [(0, .ref (gZ G + a0)), (1, .int x1), (3, .int x3), (4, .int x4), (5, .int v6)] [.int z12] μ := by
          refine aw_istore_n C [(2, .int z12), (0, .ref (gZ G + a0)), (1, .int x1), (3, .int x3), (4, .int x4), (5, .int v6)] dX11_isTold_63 rfl (by decide) rfl ?_
          refine aw_iload_n C 3 dX11_isTold_64 rfl rfl ?_
          refine aw_iload C 5 dX11_isTold_65 rfl ?_
          obtain ⟨z19, hz19, h⟩ := bindE h
          have kj67 : AW G 6 X 0 0 94 [(0, .ref (gZ G + a0)), (1, .int x1), (2, .int z12), (4, .int x4)] [.int z19, .int x3] μ := by
            refine aw_ior C dX11_isTold_94 ?_
            obtain ⟨v20, ev20, h⟩ := bindS h
            refine aw_topi ev20 ?_
            refine aw_istore_n C [(3, .int v20), (0, .ref (gZ G + a0)), (1, .int x1), (2, .int z12), (4, .int x4)] dX11_isTold_95 rfl (by decide) rfl ?_
            refine aw_iinc C (x4 + 1) 4 [(4, .int (x4 + 1)), (3, .int v20), (0, .ref (gZ G + a0)), (1, .int x1), (2, .int z12)] dX11_isTold_96 rfl rfl (by decide) rfl ?_
            refine aw_goto C 7 dX11_isTold_99 (by decide) ?_
            exact aw_sub [2, 3, 4, 1, 0] rfl (ih _ _ _ _ h kx)
          replace h := hz19
          refine aw_if_eq C 93 dX11_isTold_67 (by decide) (fun c13 => ?_) (fun c13 => ?_)
          · rw [if_pos c13] at h
            refine aw_iconst C 0 dX11_isTold_93 (by decide) ?_
            have e9 := inj1 h
            subst e9
            exact aw_sub [1, 2, 0, 4] rfl kj67
          · rw [if_neg c13] at h
            refine aw_aload_n C 1 dX11_isTold_70 rfl rfl ?_
            obtain ⟨v14, hv14, h⟩ := bindE h
            refine aw_gR C fl_X11_133 rfl hv14 dX11_isTold_71 ?_
            refine aw_iload C 4 dX11_isTold_74 rfl ?_
            obtain ⟨v15, hv15, h⟩ := bindE h
            refine aw_aI C hv15 dX11_isTold_76 ?_
            refine aw_iconst C 1 dX11_isTold_77 (by decide) ?_
            refine aw_icmp_ne C 93 dX11_isTold_78 (by decide) (fun c16 => ?_) (fun c16 => ?_)
            · rw [if_neg c16] at h
              refine aw_iconst C 0 dX11_isTold_93 (by decide) ?_
              have e9 := inj1 h
              subst e9
              exact aw_sub [1, 2, 0, 4] rfl kj67
            · rw [if_pos c16] at h
              refine aw_iconst C 1 dX11_isTold_81 (by decide) ?_
              refine aw_aload_n C 1 dX11_isTold_82 rfl rfl ?_
              obtain ⟨v17, hv17, h⟩ := bindE h
              refine aw_gR C fl_X11_121 rfl hv17 dX11_isTold_83 ?_
              refine aw_iload C 4 dX11_isTold_86 rfl ?_
              obtain ⟨v18, hv18, h⟩ := bindE h
              refine aw_aI C hv18 dX11_isTold_88 ?_
              refine aw_ishl C dX11_isTold_89 ?_
              refine aw_goto C 94 dX11_isTold_90 (by decide) ?_
              have e9 := inj1 h
              subst e9
              exact aw_sub [1, 2, 0, 4] rfl kj67
        replace h := hz12
        refine aw_if_ne C 58 dX11_isTold_39 (by decide) (fun c7 => ?_) (fun c7 => ?_)
        · rw [if_neg c7] at h
          refine aw_iconst C 1 dX11_isTold_58 (by decide) ?_
          refine aw_goto C 63 dX11_isTold_59 (by decide) ?_
          have e9 := inj1 h
          subst e9
          exact aw_sub [1, 2, 4, 5, 0] rfl kj39
        · rw [if_pos c7] at h
          refine aw_iload C 0 dX11_isTold_42 rfl ?_
          refine aw_if_eq C 62 dX11_isTold_44 (by decide) (fun c8 => ?_) (fun c8 => ?_)
          · rw [if_pos c8] at h
            refine aw_iconst C 0 dX11_isTold_62 (by decide) ?_
            have e9 := inj1 h
            subst e9
            exact aw_sub [1, 2, 4, 5, 0] rfl kj39
          · rw [if_neg c8] at h
            refine aw_aload_n C 1 dX11_isTold_47 rfl rfl ?_
            obtain ⟨v9, hv9, h⟩ := bindE h
            refine aw_gR C fl_X11_133 rfl hv9 dX11_isTold_48 ?_
            refine aw_iload C 5 dX11_isTold_51 rfl ?_
            obtain ⟨v10, hv10, h⟩ := bindE h
            refine aw_aI C hv10 dX11_isTold_53 ?_
            refine aw_iconst C 3 dX11_isTold_54 (by decide) ?_
            refine aw_icmp_eq C 62 dX11_isTold_55 (by decide) (fun c11 => ?_) (fun c11 => ?_)
            · rw [if_pos c11] at h
              refine aw_iconst C 0 dX11_isTold_62 (by decide) ?_
              have e9 := inj1 h
              subst e9
              exact aw_sub [1, 2, 4, 5, 0] rfl kj39
            · rw [if_neg c11] at h
              refine aw_iconst C 1 dX11_isTold_58 (by decide) ?_
              refine aw_goto C 63 dX11_isTold_59 (by decide) ?_
              have e9 := inj1 h
              subst e9
              exact aw_sub [1, 2, 4, 5, 0] rfl kj39
      clear h
      refine aw_icmp_ne C 35 dX11_isTold_28 (by decide) (fun c5 => ?_) (fun c5 => ?_)
      · refine aw_iconst C 0 dX11_isTold_35 (by decide) ?_
        rw [if_neg c5] at ev6
        subst ev6
        exact aw_sub [0, 1, 2, 3, 4] rfl kj28
      · refine aw_iconst C 1 dX11_isTold_31 (by decide) ?_
        refine aw_goto C 36 dX11_isTold_32 (by decide) ?_
        rw [if_pos c5] at ev6
        subst ev6
        exact aw_sub [0, 1, 2, 3, 4] rfl kj28
def X11_isTold (a0 : Nat) (x1 : Int32) (μ : Mem) : Option Int32 :=
  (X11_isTold_L7 a0 x1 μ FU 0 0 0).bind fun z1 =>
  (gR 11 14 a0 μ).bind fun v2 =>
  (aI v2 x1 μ).bind fun v3 =>
  (some (if v3 = 3 then if (z1.2.1 &&& (z1.2.1 - 1)) = 0 then 0 else 1 else z1.1 : Int32)).bind fun v5 =>
  (zz v5).bind fun v6 =>
  some v6
set_option maxRecDepth 100000 in
set_option maxHeartbeats 4000000 in
theorem wk_X11_isTold {G : GL} {X : CX} {a0 : Nat} {x1 : Int32} {μ : Mem} {r : Int32} (C : Ctx G X cX11_isTold 6 RX11 rm_X11_isTold) (h : X11_isTold a0 x1 μ = some r) (hret : RtZ G 6 X cX11_isTold 0 0 r μ) : AW G 6 X 0 0 0 [(0, .ref (gZ G + a0)), (1, .int x1)] [] μ := by
  unfold X11_isTold at h
  refine aw_iconst C 0 dX11_isTold_0 (by decide) ?_
  refine aw_istore_n C [(2, .int 0), (0, .ref (gZ G + a0)), (1, .int x1)] dX11_isTold_1 rfl (by decide) rfl ?_
  refine aw_iconst C 0 dX11_isTold_2 (by decide) ?_
  refine aw_istore_n C [(3, .int 0), (2, .int 0), (0, .ref (gZ G + a0)), (1, .int x1)] dX11_isTold_3 rfl (by decide) rfl ?_
  refine aw_iconst C 0 dX11_isTold_4 (by decide) ?_
  refine aw_istore C [(4, .int 0), (3, .int 0), (2, .int 0), (0, .ref (gZ G + a0)), (1, .int x1)] dX11_isTold_5 (by decide) rfl ?_
  obtain ⟨z1, hz1, h⟩ := bindE h
  refine aw_sub [3, 4, 2, 1, 0] rfl ?_
  refine X11_isTold_L7_ok C _ _ _ _ _ _ _ _ hz1 ?_
  refine aw_aload_n C 0 dX11_isTold_102 rfl rfl ?_
  obtain ⟨v2, hv2, h⟩ := bindE h
  refine aw_gR C fl_X11_44 rfl hv2 dX11_isTold_103 ?_
  refine aw_iload_n C 1 dX11_isTold_106 rfl rfl ?_
  obtain ⟨v3, hv3, h⟩ := bindE h
  refine aw_aI C hv3 dX11_isTold_107 ?_
  refine aw_iconst C 3 dX11_isTold_108 (by decide) ?_
  obtain ⟨v5, ev5, h⟩ := bindS h
  have kj109 : AW G 6 X 0 0 129 [] [.int v5] μ := by
    obtain ⟨v6, hv6, h⟩ := bindE h
    obtain ⟨ev6, zv6⟩ := zzE hv6
    refine aw_topi ev6 ?_
    have e9 := inj1 h
    subst e9
    exact hret _ _ dX11_isTold_129 zv6
  clear h
  refine aw_icmp_ne C 128 dX11_isTold_109 (by decide) (fun c4 => ?_) (fun c4 => ?_)
  · refine aw_iload_n C 2 dX11_isTold_128 rfl rfl ?_
    rw [if_neg c4] at ev5
    subst ev5
    exact aw_sub [] rfl kj109
  · refine aw_iload_n C 3 dX11_isTold_112 rfl rfl ?_
    refine aw_iload_n C 3 dX11_isTold_113 rfl rfl ?_
    refine aw_iconst C 1 dX11_isTold_114 (by decide) ?_
    refine aw_isub C dX11_isTold_115 ?_
    refine aw_iand C dX11_isTold_116 ?_
    refine aw_if_eq C 124 dX11_isTold_117 (by decide) (fun c7 => ?_) (fun c7 => ?_)
    · refine aw_iconst C 0 dX11_isTold_124 (by decide) ?_
      refine aw_goto C 129 dX11_isTold_125 (by decide) ?_
      rw [if_pos c4, if_pos c7] at ev5
      subst ev5
      exact aw_sub [] rfl kj109
    · refine aw_iconst C 1 dX11_isTold_120 (by decide) ?_
      refine aw_goto C 129 dX11_isTold_121 (by decide) ?_
      rw [if_pos c4, if_neg c7] at ev5
      subst ev5
      exact aw_sub [] rfl kj109
set_option maxRecDepth 100000 in
set_option maxHeartbeats 4000000 in
theorem mt_X11_isTold {G : GL} {l : Launch} {a0 : Nat} {x1 : Int32} {μ : Mem} {r : Int32} (h : X11_isTold a0 x1 μ = some r) : MtI G l yX11_isTold cX11_isTold 6 (some .boolean) rm_X11_isTold false [.ref (gZ G + a0), .int x1] μ r μ := met_Z (by decide) rfl (Nat.le_of_ble_eq_true rfl) (fun X _ C _ _ hret => wk_X11_isTold C h hret)
