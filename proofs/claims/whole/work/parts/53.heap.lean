/-! ===== fields and rows: the rules ===== -/
def FL (own : String) (idx ci k : Nat) (ty : FieldType) (fin : Bool) : Prop := ∃ (C : String) (T : u_T) (N : Nat) (t0 : Nat → FieldType), vwCl[ci]? = some (C, T, N) ∧ (∀ w ∈ u_ws C T N, w ∈ gw) ∧ (∀ j, j < N → parseFieldDescriptor (T j).2.2.1 = some (t0 j)) ∧ (∀ a, a < N → ∀ b, b < N → a ≠ b → (T a).2.1 ≠ (T b).2.1) ∧ N = fN ci ∧ k < N ∧ Cond.fieldLink own idx (T k).1 (T k).2.1 (T k).2.2.1 ∈ gw ∧ parseFieldDescriptor (T k).2.2.1 = some ty ∧ (T k).2.2.2 = fin ∧ (T k).1 = C
theorem cel_o {G : GL} {μ : Mem} {a c : Nat} (h : mS μ a = (0, c)) : cel G μ a = .inr (c, (List.range (fN c)).map (fv G μ a c)) := by
  unfold cel
  rw [h]
  rfl
theorem cel_1 {G : GL} {μ : Mem} {a : Nat} (h : (mS μ a).1 = 1) : cel G μ a = .inl (gC G 1, (mS μ a).2, .inl (mI μ a)) := by
  unfold cel
  rw [show mS μ a = (1, (mS μ a).2) from Prod.ext h rfl]
  rfl
theorem cel_2 {G : GL} {μ : Mem} {a : Nat} (h : (mS μ a).1 = 2) : cel G μ a = .inl (gC G 2, (mS μ a).2, .inr (.inl (mJ μ a))) := by
  unfold cel
  rw [show mS μ a = (2, (mS μ a).2) from Prod.ext h rfl]
  rfl
theorem cel_3 {G : GL} {μ : Mem} {a : Nat} (h : (mS μ a).1 = 3) : cel G μ a = .inl (gC G 3, (mS μ a).2, .inl (mI μ a)) := by
  unfold cel
  rw [show mS μ a = (3, (mS μ a).2) from Prod.ext h rfl]
  rfl
theorem cel_r {G : GL} {μ : Mem} {a kd : Nat} (h : (mS μ a).1 = kd) (hk : kd = 4 ∨ kd = 5 ∨ kd = 6 ∨ kd = 7) : cel G μ a = .inl (gC G kd, (mS μ a).2, .inr (.inr (.inr (.inr (fun j => (mR μ a j).map (gZ G + ·)))))) := by
  unfold cel
  rw [show mS μ a = (kd, (mS μ a).2) from Prod.ext h rfl]
  rcases hk with rfl | rfl | rfl | rfl <;> rfl
theorem fs_at {G : GL} {μ : Mem} {a c k : Nat} (h : k < fN c) : ((List.range (fN c)).map (fv G μ a c))[k]? = some (fv G μ a c k) := by
  rw [List.getElem?_map, List.getElem?_range h]
  rfl
theorem fs_set {G : GL} {μ μ' : Mem} {a c k : Nat} {v : Value} (hv : fv G μ' a c k = v) (h : ∀ j, j ≠ k → fv G μ' a c j = fv G μ a c j) : ((List.range (fN c)).map (fv G μ a c)).set k v = (List.range (fN c)).map (fv G μ' a c) := by
  apply List.ext_getElem?
  intro i
  rw [List.getElem?_set]
  by_cases e : k = i
  · subst e
    by_cases hl : k < fN c
    · rw [if_pos rfl, if_pos (by simpa using hl), fs_at hl, hv]
    · rw [if_pos rfl, if_neg (by simpa using hl), List.getElem?_eq_none (by simpa using hl)]
  · rw [if_neg e]
    by_cases hl : i < fN c
    · rw [fs_at hl, fs_at hl, h i (fun q => e q.symm)]
    · rw [List.getElem?_eq_none (by simpa using hl), List.getElem?_eq_none (by simpa using hl)]
theorem up2_s {α : Type} (f : Nat → Nat → α) (a k : Nat) (v : α) : up2 f a k v a k = v := if_pos ⟨rfl, rfl⟩
theorem up2_n {α : Type} (f : Nat → Nat → α) {a k b j : Nat} (v : α) (h : ¬ (b = a ∧ j = k)) : up2 f a k v b j = f b j := if_neg h
theorem up2_a {α : Type} (f : Nat → Nat → α) {a k b : Nat} (v : α) (h : b ≠ a) : up2 f a k v b = f b := funext fun _ => if_neg fun q => h q.1
theorem cel_ne {G : GL} {μ μ' : Mem} {b : Nat} (e1 : mS μ' b = mS μ b) (e2 : mI μ' b = mI μ b) (e3 : mJ μ' b = mJ μ b) (e4 : mR μ' b = mR μ b) : cel G μ' b = cel G μ b := by
  have e5 : fv G μ' b = fv G μ b := by
    funext c k
    simp only [fv, e2, e3, e4]
  simp only [cel, e1, e2, e3, e4, e5]
theorem wI_ne {G : GL} {μ : Mem} {a k b : Nat} {x : Int32} (h : b ≠ a) : cel G (wI μ a k x) b = cel G μ b := cel_ne rfl (up2_a _ _ h) rfl rfl
theorem wJ_ne {G : GL} {μ : Mem} {a k b : Nat} {x : Int64} (h : b ≠ a) : cel G (wJ μ a k x) b = cel G μ b := cel_ne rfl rfl (up2_a _ _ h) rfl
theorem wR_ne {G : GL} {μ : Mem} {a k b : Nat} {x : Nat} (h : b ≠ a) : cel G (wR μ a k x) b = cel G μ b := cel_ne rfl rfl rfl (up2_a _ _ h)
theorem wI_set {G : GL} {μ : Mem} {a c k : Nat} {x : Int32} (hs : mS μ a = (0, c)) (ht : fTy c k = 0) : (wsOf G μ).set a (gZ G + a, .inr (c, ((List.range (fN c)).map (fv G μ a c)).set k (.int x))) = wsOf G (wI μ a k x) := by
  have h1 : cel G (wI μ a k x) a = .inr (c, (List.range (fN c)).map (fv G (wI μ a k x) a c)) := cel_o hs
  rw [fs_set (μ' := wI μ a k x), ← h1]
  · exact ws_set rfl (fun b hb => wI_ne hb)
  · unfold fv
    rw [ht]
    exact congrArg Value.int (up2_s _ _ _ _)
  · intro j hj
    have e : mI (wI μ a k x) a j = mI μ a j := up2_n _ _ (fun q => hj q.2)
    simp only [fv, e]
    rfl
theorem wJ_set {G : GL} {μ : Mem} {a c k : Nat} {x : Int64} (hs : mS μ a = (0, c)) (ht : fTy c k = 1) : (wsOf G μ).set a (gZ G + a, .inr (c, ((List.range (fN c)).map (fv G μ a c)).set k (.long x))) = wsOf G (wJ μ a k x) := by
  have h1 : cel G (wJ μ a k x) a = .inr (c, (List.range (fN c)).map (fv G (wJ μ a k x) a c)) := cel_o hs
  rw [fs_set (μ' := wJ μ a k x), ← h1]
  · exact ws_set rfl (fun b hb => wJ_ne hb)
  · unfold fv
    rw [ht]
    exact congrArg Value.long (up2_s _ _ _ _)
  · intro j hj
    have e : mJ (wJ μ a k x) a j = mJ μ a j := up2_n _ _ (fun q => hj q.2)
    simp only [fv, e]
    rfl
theorem wR_set {G : GL} {μ : Mem} {a c k : Nat} {x : Nat} (hs : mS μ a = (0, c)) (ht : fTy c k = 2) : (wsOf G μ).set a (gZ G + a, .inr (c, ((List.range (fN c)).map (fv G μ a c)).set k (.ref (gZ G + x)))) = wsOf G (wR μ a k x) := by
  have h1 : cel G (wR μ a k x) a = .inr (c, (List.range (fN c)).map (fv G (wR μ a k x) a c)) := cel_o hs
  rw [fs_set (μ' := wR μ a k x), ← h1]
  · exact ws_set rfl (fun b hb => wR_ne hb)
  · have e : mR (wR μ a k x) a k = some x := up2_s _ _ _ _
    unfold fv
    rw [ht]
    show va_rf ((mR (wR μ a k x) a k).map (gZ G + ·)) = _
    rw [e]
    rfl
  · intro j hj
    have e : mR (wR μ a k x) a j = mR μ a j := up2_n _ _ (fun q => hj q.2)
    simp only [fv, e]
    rfl
section AWH
variable {G : GL} {X : CX} {cc : ByteArray} {nL : Nat} {own : String} {rm : Room} {cells slots pc : Nat} {L L' : List (Nat × Value)} {st : List Value} {μ μ' : Mem}
theorem aw_lcmp (C : Ctx G X cc nL own rm) {x y : Int64} (d : decode cc pc = .ok (.lcmp, 1)) (k : AW G nL X cells slots (pc + 1) L (.int (lg_cmp x y) :: st) μ) : AW G nL X cells slots pc L (.long y :: .long x :: st) μ := fun H locs ls a b e => W.lcmp C.1 C.2.1 d (k H locs ls a b e)
theorem aw_gI (C : Ctx G X cc nL own rm) {ci k a idx : Nat} {x : Int32} {ty : FieldType} {fin : Bool} (F : FL own idx ci k ty fin) (hty : fTy ci k = 0) (h : gI ci k a μ = some x) (d : decode cc pc = .ok (.getfield idx, 3)) (kk : AW G nL X cells slots (pc + 3) L (.int x :: st) μ) : AW G nL X cells slots pc L (.ref (gZ G + a) :: st) μ := by
  unfold gI at h
  split at h
  · rename_i ha
    cases h
    obtain ⟨Cn, T, N, t0, h1, h2, h3, h4, h5, h6, h7, h8, h9, h10⟩ := F
    subst h5
    intro H locs ls a1 b e
    refine va_get C.1 C.2.1 C.2.2.2.2.1 h2 C.2.2.2.1 C.2.2.2.2.2.1.1 b a (he := by rw [ws_at ha.1, cel_o ha.2]) h1 k h6 (C.2.2.2.2.1 _ h7) (fun _ q => q) (v := .int (mI μ a k)) (by rw [fs_at h6]; unfold fv; rw [hty]; rfl) d (kk H locs ls a1 b e)
  · cases h
theorem aw_gJ (C : Ctx G X cc nL own rm) {ci k a idx : Nat} {x : Int64} {ty : FieldType} {fin : Bool} (F : FL own idx ci k ty fin) (hty : fTy ci k = 1) (h : gJ ci k a μ = some x) (d : decode cc pc = .ok (.getfield idx, 3)) (kk : AW G nL X cells slots (pc + 3) L (.long x :: st) μ) : AW G nL X cells slots pc L (.ref (gZ G + a) :: st) μ := by
  unfold gJ at h
  split at h
  · rename_i ha
    cases h
    obtain ⟨Cn, T, N, t0, h1, h2, h3, h4, h5, h6, h7, h8, h9, h10⟩ := F
    subst h5
    intro H locs ls a1 b e
    refine va_get C.1 C.2.1 C.2.2.2.2.1 h2 C.2.2.2.1 C.2.2.2.2.2.1.1 b a (he := by rw [ws_at ha.1, cel_o ha.2]) h1 k h6 (C.2.2.2.2.1 _ h7) (fun _ q => q) (v := .long (mJ μ a k)) (by rw [fs_at h6]; unfold fv; rw [hty]; rfl) d (kk H locs ls a1 b e)
  · cases h
theorem aw_gR (C : Ctx G X cc nL own rm) {ci k a idx x : Nat} {ty : FieldType} {fin : Bool} (F : FL own idx ci k ty fin) (hty : fTy ci k = 2) (h : gR ci k a μ = some x) (d : decode cc pc = .ok (.getfield idx, 3)) (kk : AW G nL X cells slots (pc + 3) L (.ref (gZ G + x) :: st) μ) : AW G nL X cells slots pc L (.ref (gZ G + a) :: st) μ := by
  unfold gR at h
  split at h
  · rename_i ha
    obtain ⟨Cn, T, N, t0, h1, h2, h3, h4, h5, h6, h7, h8, h9, h10⟩ := F
    subst h5
    intro H locs ls a1 b e
    refine va_get C.1 C.2.1 C.2.2.2.2.1 h2 C.2.2.2.1 C.2.2.2.2.2.1.1 b a (he := by rw [ws_at ha.1, cel_o ha.2]) h1 k h6 (C.2.2.2.2.1 _ h7) (fun _ q => q) (v := .ref (gZ G + x)) (by rw [fs_at h6]; unfold fv; rw [hty, h]; rfl) d (kk H locs ls a1 b e)
  · cases h
theorem aw_pI (C : Ctx G X cc nL own rm) {ci k a idx : Nat} {x : Int32} (F : FL own idx ci k .int false) (hty : fTy ci k = 0) (h : pI ci k a x μ = some μ') (d : decode cc pc = .ok (.putfield idx, 3)) (kk : AW G nL X cells slots (pc + 3) L st μ') : AW G nL X cells slots pc L (.int x :: .ref (gZ G + a) :: st) μ := by
  unfold pI at h
  split at h
  · rename_i ha
    cases h
    obtain ⟨Cn, T, N, t0, h1, h2, h3, h4, h5, h6, h7, h8, h9, h10⟩ := F
    subst h5
    intro H locs ls a1 b e
    refine va_put C.1 C.2.1 C.2.2.2.2.1 h2 t0 h3 h4 C.2.2.2.1 C.2.2.2.2.2.1.1 b (ws_D G μ) e a (he := by rw [ws_at ha.1, cel_o ha.2]) h1 k h6 (C.2.2.2.2.1 _ h7) (fun _ q => q) h9 h8 rfl rfl (by simpa using h6) d (fun H1 locs1 hP hD hS => kk H1 locs1 ls a1 ?_ hS)
    rw [wI_set ha.2 hty] at hP
    exact hP
  · cases h
theorem aw_pZ (C : Ctx G X cc nL own rm) {ci k a idx : Nat} {x : Int32} (F : FL own idx ci k .boolean false) (hty : fTy ci k = 0) (h : pZ ci k a x μ = some μ') (d : decode cc pc = .ok (.putfield idx, 3)) (kk : AW G nL X cells slots (pc + 3) L st μ') : AW G nL X cells slots pc L (.int x :: .ref (gZ G + a) :: st) μ := by
  unfold pZ at h
  split at h
  · rename_i ha
    cases h
    obtain ⟨ha, hx⟩ := ha
    obtain ⟨Cn, T, N, t0, h1, h2, h3, h4, h5, h6, h7, h8, h9, h10⟩ := F
    subst h5
    intro H locs ls a1 b e
    refine va_put C.1 C.2.1 C.2.2.2.2.1 h2 t0 h3 h4 C.2.2.2.1 C.2.2.2.2.2.1.1 b (ws_D G μ) e a (he := by rw [ws_at ha.1, cel_o ha.2]) h1 k h6 (C.2.2.2.2.1 _ h7) (fun _ q => q) h9 h8 (by rcases hx with rfl | rfl <;> rfl) (by rcases hx with rfl | rfl <;> rfl) (by simpa using h6) d (fun H1 locs1 hP hD hS => kk H1 locs1 ls a1 ?_ hS)
    rw [wI_set ha.2 hty] at hP
    exact hP
  · cases h
theorem aw_pJ (C : Ctx G X cc nL own rm) {ci k a idx : Nat} {x : Int64} (F : FL own idx ci k .long false) (hty : fTy ci k = 1) (h : pJ ci k a x μ = some μ') (d : decode cc pc = .ok (.putfield idx, 3)) (kk : AW G nL X cells slots (pc + 3) L st μ') : AW G nL X cells slots pc L (.long x :: .ref (gZ G + a) :: st) μ := by
  unfold pJ at h
  split at h
  · rename_i ha
    cases h
    obtain ⟨Cn, T, N, t0, h1, h2, h3, h4, h5, h6, h7, h8, h9, h10⟩ := F
    subst h5
    intro H locs ls a1 b e
    refine va_put C.1 C.2.1 C.2.2.2.2.1 h2 t0 h3 h4 C.2.2.2.1 C.2.2.2.2.2.1.1 b (ws_D G μ) e a (he := by rw [ws_at ha.1, cel_o ha.2]) h1 k h6 (C.2.2.2.2.1 _ h7) (fun _ q => q) h9 h8 rfl rfl (by simpa using h6) d (fun H1 locs1 hP hD hS => kk H1 locs1 ls a1 ?_ hS)
    rw [wJ_set ha.2 hty] at hP
    exact hP
  · cases h
theorem aw_pR (C : Ctx G X cc nL own rm) {ci k a idx x : Nat} {ty : FieldType} (F : FL own idx ci k ty false) (hr : fits ty (.ref (gZ G + x)) = true) (hn : narrow ty (.ref (gZ G + x)) = .ref (gZ G + x)) (hty : fTy ci k = 2) (h : pR ci k a x μ = some μ') (d : decode cc pc = .ok (.putfield idx, 3)) (kk : AW G nL X cells slots (pc + 3) L st μ') : AW G nL X cells slots pc L (.ref (gZ G + x) :: .ref (gZ G + a) :: st) μ := by
  unfold pR at h
  split at h
  · rename_i ha
    cases h
    obtain ⟨Cn, T, N, t0, h1, h2, h3, h4, h5, h6, h7, h8, h9, h10⟩ := F
    subst h5
    intro H locs ls a1 b e
    refine va_put C.1 C.2.1 C.2.2.2.2.1 h2 t0 h3 h4 C.2.2.2.1 C.2.2.2.2.2.1.1 b (ws_D G μ) e a (he := by rw [ws_at ha.1, cel_o ha.2]) h1 k h6 (C.2.2.2.2.1 _ h7) (fun _ q => q) h9 h8 hn hr (by simpa using h6) d (fun H1 locs1 hP hD hS => kk H1 locs1 ls a1 ?_ hS)
    rw [wR_set ha.2 hty] at hP
    exact hP
  · cases h
theorem aw_pRF (C : Ctx G X cc nL own rm) {ci k a idx x : Nat} {ty : FieldType} (F : FL own idx ci k ty true) (hi : (xT X).name = "<init>") (ho : vwCl[ci]? = some (own, (vwCl.getD ci ("", fun _ => ("", "", "", false), 0)).2)) (hr : fits ty (.ref (gZ G + x)) = true) (hn : narrow ty (.ref (gZ G + x)) = .ref (gZ G + x)) (hty : fTy ci k = 2) (h : pR ci k a x μ = some μ') (d : decode cc pc = .ok (.putfield idx, 3)) (kk : AW G nL X cells slots (pc + 3) L st μ') : AW G nL X cells slots pc L (.ref (gZ G + x) :: .ref (gZ G + a) :: st) μ := by
  unfold pR at h
  split at h
  · rename_i ha
    cases h
    obtain ⟨Cn, T, N, t0, h1, h2, h3, h4, h5, h6, h7, h8, h9, h10⟩ := F
    subst h5
    rw [h1] at ho
    have ho1 : Cn = own := congrArg Prod.fst (Option.some.inj ho)
    intro H locs ls a1 b e
    refine va_putF C.1 C.2.1 C.2.2.2.2.1 h2 t0 h3 h4 C.2.2.2.1 C.2.2.2.2.2.1.1 b (ws_D G μ) e a (he := by rw [ws_at ha.1, cel_o ha.2]) h1 k h6 (C.2.2.2.2.1 _ h7) (fun _ q => q) h9 hi (h10.trans ho1) h8 hn hr (by simpa using h6) d (fun H1 locs1 hP hD hS => kk H1 locs1 ls a1 ?_ hS)
    rw [wR_set ha.2 hty] at hP
    exact hP
  · cases h
theorem aw_aI (C : Ctx G X cc nL own rm) {a : Nat} {i x : Int32} (h : aI a i μ = some x) (d : decode cc pc = .ok (.iaload, 1)) (kk : AW G nL X cells slots (pc + 1) L (.int x :: st) μ) : AW G nL X cells slots pc L (.int i :: .ref (gZ G + a) :: st) μ := by
  unfold aI at h
  split at h
  · rename_i ha
    cases h
    intro H locs ls a1 b e
    exact va_iald C.1 C.2.1 C.2.2.2.2.2.1.1 b a 0 (by rw [ws_at ha.1, cel_1 ha.2.1]) rfl ha.2.2 d (kk H locs ls a1 b e)
  · cases h
theorem aw_aJ (C : Ctx G X cc nL own rm) {a : Nat} {i : Int32} {x : Int64} (h : aJ a i μ = some x) (d : decode cc pc = .ok (.laload, 1)) (kk : AW G nL X cells slots (pc + 1) L (.long x :: st) μ) : AW G nL X cells slots pc L (.int i :: .ref (gZ G + a) :: st) μ := by
  unfold aJ at h
  split at h
  · rename_i ha
    cases h
    intro H locs ls a1 b e
    exact va_lald C.1 C.2.1 C.2.2.2.2.2.1.1 b a 1 (by rw [ws_at ha.1, cel_2 ha.2.1]) rfl ha.2.2 d (kk H locs ls a1 b e)
  · cases h
theorem aw_aZ (C : Ctx G X cc nL own rm) {a : Nat} {i x : Int32} (h : aZ a i μ = some x) (d : decode cc pc = .ok (.baload, 1)) (kk : AW G nL X cells slots (pc + 1) L (.int x :: st) μ) : AW G nL X cells slots pc L (.int i :: .ref (gZ G + a) :: st) μ := by
  unfold aZ at h
  split at h
  · rename_i ha
    cases h
    intro H locs ls a1 b e
    exact va_zald C.1 C.2.1 C.2.2.2.2.2.1.1 b a 2 (by rw [ws_at ha.1, cel_3 ha.2.1]) rfl ha.2.2 d (kk H locs ls a1 b e)
  · cases h
theorem aw_aR (C : Ctx G X cc nL own rm) {kd a x : Nat} {i : Int32} {ty : FieldType} (hk : kd = 4 ∨ kd = 5 ∨ kd = 6 ∨ kd = 7) (ht : (tysOf G)[kd - 1]? = some (gC G kd, ty)) (hr : ty.isReference = true) (h : aR kd a i μ = some x) (d : decode cc pc = .ok (.aaload, 1)) (kk : AW G nL X cells slots (pc + 1) L (.ref (gZ G + x) :: st) μ) : AW G nL X cells slots pc L (.int i :: .ref (gZ G + a) :: st) μ := by
  unfold aR at h
  split at h
  · rename_i ha
    intro H locs ls a1 b e
    have hlt : i.toNatClampNeg < (mS μ a).2 := Nat.not_le.mp fun q => ha.2.2 (Or.inr q)
    have hat : va_at (gD G) vwCl (gZ G + a, cel G μ a) H := b a _ (ws_at ha.1)
    rw [cel_r ha.2.1 hk] at hat
    exact W.aald (v := .ref (gZ G + x)) (ty := ty) C.1 C.2.1 hat ((C.2.2.2.2.2.1.1.2 _ _ ht).1 (mS μ a).2 (fun j => va_rf ((mR μ a j).map (gZ G + ·)))) hr (fun q => by cases q) (by show ¬ (i < 0 ∨ (arrV _ _ _).slots.size ≤ _); rw [arrV_size]; exact ha.2.2) (by show (arrV _ _ _).slots[_]? = _; rw [arrV_read _ _ hlt]; show some (va_rf ((mR μ a i.toNatClampNeg).map _)) = _; rw [h]; rfl) rfl rfl d (kk H locs ls a1 b e)
  · cases h
theorem aw_aL (C : Ctx G X cc nL own rm) {a : Nat} {x : Int32} (h : aL a μ = some x) (d : decode cc pc = .ok (.arraylength, 1)) (kk : AW G nL X cells slots (pc + 1) L (.int x :: st) μ) : AW G nL X cells slots pc L (.ref (gZ G + a) :: st) μ := by
  unfold aL at h
  split at h
  · rename_i ha
    cases h
    intro H locs ls a1 b e
    have key : ∃ (cA : ClassId) (y : vp_A) (t0 : Nat) (ty : FieldType), cel G μ a = .inl (cA, y) ∧ y.1 = (mS μ a).2 ∧ (tysOf G)[t0]? = some (cA, ty) := by
      obtain ⟨-, h0, h7⟩ := ha
      rcases (show (mS μ a).1 = 1 ∨ (mS μ a).1 = 2 ∨ (mS μ a).1 = 3 ∨ (mS μ a).1 = 4 ∨ (mS μ a).1 = 5 ∨ (mS μ a).1 = 6 ∨ (mS μ a).1 = 7 by omega) with q | q | q | q | q | q | q
      · exact ⟨_, _, 0, _, cel_1 q, rfl, rfl⟩
      · exact ⟨_, _, 1, _, cel_2 q, rfl, rfl⟩
      · exact ⟨_, _, 2, _, cel_3 q, rfl, rfl⟩
      · exact ⟨_, _, 3, _, cel_r q (by omega), rfl, rfl⟩
      · exact ⟨_, _, 4, _, cel_r q (by omega), rfl, rfl⟩
      · exact ⟨_, _, 5, _, cel_r q (by omega), rfl, rfl⟩
      · exact ⟨_, _, 6, _, cel_r q (by omega), rfl, rfl⟩
    obtain ⟨cA, y, t0, ty, k1, k2, k3⟩ := key
    exact va_alen C.1 C.2.1 C.2.2.2.2.2.1.1 b a t0 (by rw [ws_at ha.1, k1]) k3 (by rw [k2]) d (kk H locs ls a1 b e)
  · cases h
theorem aw_sI (C : Ctx G X cc nL own rm) {a : Nat} {i x : Int32} (h : sI a i x μ = some μ') (d : decode cc pc = .ok (.iastore, 1)) (kk : AW G nL X cells slots (pc + 1) L st μ') : AW G nL X cells slots pc L (.int x :: .int i :: .ref (gZ G + a) :: st) μ := by
  unfold sI at h
  split at h
  · rename_i ha
    cases h
    intro H locs ls a1 b e
    refine va_iast C.1 C.2.1 C.2.2.2.2.2.1.1 b (ws_D G μ) e a 0 (by rw [ws_at ha.1, cel_1 ha.2.1]) rfl ha.2.2 d (fun H1 locs1 hP hD hS => kk H1 locs1 ls a1 ?_ hS)
    have h1 : cel G (wI μ a i.toNatClampNeg x) a = .inl (gC G 1, (mS μ a).2, .inl (upd (mI μ a) i.toNatClampNeg x)) := by
      rw [cel_1 (μ := wI μ a i.toNatClampNeg x) ha.2.1]
      have e2 : mI (wI μ a i.toNatClampNeg x) a = upd (mI μ a) i.toNatClampNeg x := funext fun j => by
        by_cases q : j = i.toNatClampNeg
        · subst q; exact (up2_s _ _ _ _).trans (if_pos rfl).symm
        · exact (up2_n _ _ (fun z => q z.2)).trans (if_neg q).symm
      rw [e2]
      rfl
    have e9 := ws_set (G := G) (μ := μ) (μ' := wI μ a i.toNatClampNeg x) (a := a) rfl (fun b hb => wI_ne hb)
    rw [h1] at e9
    show va_P _ _ _ _
    rw [← e9]
    exact hP
  · cases h
theorem aw_sZ (C : Ctx G X cc nL own rm) {a : Nat} {i x : Int32} (h : sZ a i x μ = some μ') (d : decode cc pc = .ok (.bastore, 1)) (kk : AW G nL X cells slots (pc + 1) L st μ') : AW G nL X cells slots pc L (.int x :: .int i :: .ref (gZ G + a) :: st) μ := by
  unfold sZ at h
  split at h
  · rename_i ha
    cases h
    obtain ⟨ha, hx⟩ := ha
    intro H locs ls a1 b e
    refine va_zast C.1 C.2.1 C.2.2.2.2.2.1.1 b (ws_D G μ) e a 2 (by rw [ws_at ha.1, cel_3 ha.2.1]) rfl ha.2.2 d (fun H1 locs1 hP hD hS => kk H1 locs1 ls a1 ?_ hS)
    have hx2 : vp_nar .boolean x = x := by rcases hx with rfl | rfl <;> rfl
    rw [hx2] at hP
    have h1 : cel G (wI μ a i.toNatClampNeg x) a = .inl (gC G 3, (mS μ a).2, .inl (upd (mI μ a) i.toNatClampNeg x)) := by
      rw [cel_3 (μ := wI μ a i.toNatClampNeg x) ha.2.1]
      have e2 : mI (wI μ a i.toNatClampNeg x) a = upd (mI μ a) i.toNatClampNeg x := funext fun j => by
        by_cases q : j = i.toNatClampNeg
        · subst q; exact (up2_s _ _ _ _).trans (if_pos rfl).symm
        · exact (up2_n _ _ (fun z => q z.2)).trans (if_neg q).symm
      rw [e2]
      rfl
    have e9 := ws_set (G := G) (μ := μ) (μ' := wI μ a i.toNatClampNeg x) (a := a) rfl (fun b hb => wI_ne hb)
    rw [h1] at e9
    show va_P _ _ _ _
    rw [← e9]
    exact hP
  · cases h
theorem aw_sJ (C : Ctx G X cc nL own rm) {a : Nat} {i : Int32} {x : Int64} (h : sJ a i x μ = some μ') (d : decode cc pc = .ok (.lastore, 1)) (kk : AW G nL X cells slots (pc + 1) L st μ') : AW G nL X cells slots pc L (.long x :: .int i :: .ref (gZ G + a) :: st) μ := by
  unfold sJ at h
  split at h
  · rename_i ha
    cases h
    intro H locs ls a1 b e
    refine va_last C.1 C.2.1 C.2.2.2.2.2.1.1 b (ws_D G μ) e a 1 (by rw [ws_at ha.1, cel_2 ha.2.1]) rfl ha.2.2 d (fun H1 locs1 hP hD hS => kk H1 locs1 ls a1 ?_ hS)
    have h1 : cel G (wJ μ a i.toNatClampNeg x) a = .inl (gC G 2, (mS μ a).2, .inr (.inl (vp_updL (mJ μ a) i.toNatClampNeg x))) := by
      rw [cel_2 (μ := wJ μ a i.toNatClampNeg x) ha.2.1]
      have e2 : mJ (wJ μ a i.toNatClampNeg x) a = vp_updL (mJ μ a) i.toNatClampNeg x := funext fun j => by
        by_cases q : j = i.toNatClampNeg
        · subst q; exact (up2_s _ _ _ _).trans (if_pos rfl).symm
        · exact (up2_n _ _ (fun z => q z.2)).trans (if_neg q).symm
      rw [e2]
      rfl
    have e9 := ws_set (G := G) (μ := μ) (μ' := wJ μ a i.toNatClampNeg x) (a := a) rfl (fun b hb => wJ_ne hb)
    rw [h1] at e9
    show va_P _ _ _ _
    rw [← e9]
    exact hP
  · cases h
theorem aw_sR (C : Ctx G X cc nL own rm) {kd ci a x : Nat} {i : Int32} {r : vw_C} (hk : kd = 4 ∨ kd = 5 ∨ kd = 6 ∨ kd = 7) (hc : vwCl[ci]? = some r) (ht : (tysOf G)[kd - 1]? = some (gC G kd, .object r.1)) (h : sR kd ci a i x μ = some μ') (d : decode cc pc = .ok (.aastore, 1)) (kk : AW G nL X cells slots (pc + 1) L st μ') : AW G nL X cells slots pc L (.ref (gZ G + x) :: .int i :: .ref (gZ G + a) :: st) μ := by
  unfold sR at h
  split at h
  · rename_i ha
    cases h
    obtain ⟨ha, hx⟩ := ha
    intro H locs ls a1 b e
    refine va_astq C.1 C.2.1 C.2.2.2.2.2.1.1 b (ws_D G μ) e a (kd - 1) x ci (by rw [ws_at ha.1, cel_r ha.2.1 hk]) ht (by rw [ws_at hx.1, cel_o hx.2]) hc ha.2.2 d (fun H1 locs1 hP hD hS => kk H1 locs1 ls a1 ?_ hS)
    have h1 : cel G (wR μ a i.toNatClampNeg x) a = .inl (gC G kd, (mS μ a).2, .inr (.inr (.inr (.inr (va_up (fun j => (mR μ a j).map (gZ G + ·)) i.toNatClampNeg (some (gZ G + x))))))) := by
      rw [cel_r (μ := wR μ a i.toNatClampNeg x) ha.2.1 hk]
      have e2 : (fun j => (mR (wR μ a i.toNatClampNeg x) a j).map (gZ G + ·)) = va_up (fun j => (mR μ a j).map (gZ G + ·)) i.toNatClampNeg (some (gZ G + x)) := funext fun j => by
        by_cases q : j = i.toNatClampNeg
        · subst q
          have e3 : mR (wR μ a i.toNatClampNeg x) a i.toNatClampNeg = some x := up2_s _ _ _ _
          rw [e3]
          exact (if_pos rfl).symm
        · have e3 : mR (wR μ a i.toNatClampNeg x) a j = mR μ a j := up2_n _ _ (fun z => q z.2)
          rw [e3]
          exact (if_neg q).symm
      rw [e2]
      rfl
    have e9 := ws_set (G := G) (μ := μ) (μ' := wR μ a i.toNatClampNeg x) (a := a) rfl (fun b hb => wR_ne hb)
    rw [h1] at e9
    show va_P _ _ _ _
    rw [← e9]
    exact hP
  · cases h
end AWH
