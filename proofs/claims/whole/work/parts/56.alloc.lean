/-! ===== new cells, constructors' calls ===== -/
def dfl (c k : Nat) : Value := match fTy c k with
  | 0 => .int 0
  | 1 => .long 0
  | _ => .null
theorem mNew_I {μ : Mem} {sh : Nat × Nat} : mI (mNew μ sh) (mN μ) = fun _ => 0 := if_pos rfl
theorem mNew_J {μ : Mem} {sh : Nat × Nat} : mJ (mNew μ sh) (mN μ) = fun _ => 0 := if_pos rfl
theorem mNew_R {μ : Mem} {sh : Nat × Nat} : mR (mNew μ sh) (mN μ) = fun _ => none := if_pos rfl
theorem mNew_S {μ : Mem} {sh : Nat × Nat} : mS (mNew μ sh) (mN μ) = sh := if_pos rfl
theorem fv_new {G : GL} {μ : Mem} {sh : Nat × Nat} {c k : Nat} : fv G (mNew μ sh) (mN μ) c k = dfl c k := by
  simp only [fv, dfl, mNew_I, mNew_J, mNew_R]
  rfl
section AWN
variable {G : GL} {X : CX} {cc : ByteArray} {nL : Nat} {own : String} {rm : Room} {cells slots pc : Nat} {L L' : List (Nat × Value)} {st : List Value} {μ μ' : Mem}
variable {y : MethodName} {cc' : ByteArray} {nL' n idx : Nat} {ret' : Option FieldType} {rm' : Room} {b : Bool} {As : List Value}
theorem aw_oinit (C : Ctx G X cc nL own rm) {a : Nat} (hl : Cond.methodLink own idx Lib.objectInit ∈ gw) (hi : Cond.instanceMethod Lib.objectInit ∈ gw) (hc : Cond.code Lib.objectInit ⟨#[0xb1]⟩ 1 none ∈ gw) (hf : 1 ≤ rm.frames) (ho : 20 ≤ rm.locals) (hW : (st.map fun v => v.category).sum ≤ 8) (d : decode cc pc = .ok (.invokespecial idx, 3)) (k : AW G nL X cells slots (pc + 3) L st μ) : AW G nL X cells slots pc L (.ref a :: st) μ := fun H locs ls a1 b1 e =>
  W.objInit C.1 C.2.1 C.2.2.2.1 (C.2.2.2.2.1 _ hl) (C.2.2.2.2.1 _ hi) (C.2.2.2.2.1 _ hc) rfl (a1.1.trans C.2.2.1.symm) rfl d (by rw [C.2.2.2.2.2.2.1]; exact hf) (by
    have h9 := lv_room (m := xM X) (pc := pc) (ls := ls) (rest := .ref a :: st) hW
    rw [C.2.2.2.2.2.2.1]
    omega) (k H locs ls a1 b1 e)
theorem aw_new (C : Ctx G X cc nL own rm) {ci N : Nat} {Cn : String} {T : u_T} (c1 s1 : Nat) (t0 : Nat → FieldType) (hc : vwCl[ci]? = some (Cn, T, N)) (hws : ∀ w ∈ u_ws Cn T N, w ∈ gw) (hty : ∀ k, k < N → parseFieldDescriptor (T k).2.2.1 = some (t0 k)) (hN : N = fN ci) (hdf : ∀ j, j < N → defaultValue (t0 j) = dfl ci j) (hcl : Cond.classLink own idx Cn ∈ gw) (hin : Cond.instantiable Cn N ∈ gw) (hini : Cond.initialized Cn ∈ gw) {n0 : Nat} (hb : (xS X).heap.size = gZ G + n0) (h : nO ci (n0 + cells) μ = some μ') (hcells : c1 ≤ rm.cells) (hslots : s1 ≤ rm.slots) (e1 : cells + 1 = c1) (e2 : slots + N = s1) (d : decode cc pc = .ok (.new idx, 3)) (k : AW G nL X c1 s1 (pc + 3) L (.ref (gZ G + (n0 + cells)) :: st) μ') : AW G nL X cells slots pc L st μ := by
  subst e1
  subst e2
  subst hN
  unfold nO at h
  split at h
  · rename_i hm
    cases h
    intro H locs ls a1 b1 e
    refine W.size fun hs => ?_
    have hH : H.size = gZ G + mN μ := szW (b := true) C b1 e (fun _ => by rw [hb, hm]; omega) hs rfl
    have hKn := C.2.2.2.2.2.1.1.1 ci _ hc
    refine W.newcK C.1 C.2.1 C.2.2.2.1 (C.2.2.2.2.1 _ hcl) (C.2.2.2.2.1 _ hin) (C.2.2.2.2.1 _ hini) rfl d (by rw [C.2.2.2.2.2.2.1]; exact hcells) (by rw [C.2.2.2.2.2.2.1]; exact hslots) hKn.2.1 hH fun H1 kC hkC e1 z1 o1 => ?_
    have hk : ∀ (k : Nat) (x : Nat × va_E), (wsOf G μ)[k]? = some x → H1[x.1]? = H[x.1]? := fun k x hx => o1 x.1 (by rw [← hH]; exact (b1 k x hx).lt)
    have hP : Wd G (mNew μ (0, ci)) H1 := by
      show va_P _ _ _ _
      rw [ws_push]
      refine va_P.app (va_P.kept b1 hk) (fun k x hx => ?_)
      have hz : k < 1 := (List.getElem?_eq_some_iff.mp hx).1
      rw [show k = 0 by omega] at hx
      cases hx
      show va_at _ _ _ _
      rw [cel_o (c := ci) mNew_S]
      refine ⟨_, hc, (u_born t0 C.2.2.2.2.1 hws hKn hkC e1 hty).to (fun j hj => ?_)⟩
      rw [hdf j hj]
      show dfl ci j = ((List.range (fN ci)).map (fv G (mNew μ (0, ci)) (mN μ) ci)).getD j .null
      rw [List.getD_eq_getElem?_getD, fs_at hj, fv_new]
      rfl
    have k2 := k H1 locs ls a1 hP ⟨Nat.le_trans e.1 (by omega), fun x h1 h2 => (o1 x (by have := e.1; omega)).trans (e.2.1 x h1 h2), e.2.2⟩
    rw [← hm] at k2
    exact k2
  · cases h
theorem aw_newa (C : Ctx G X cc nL own rm) {kd N' : Nat} {nn : Int32} {ty : FieldType} {at0 : ArrayType} {y0 : (Nat → Int32) ⊕ (Nat → Int64) ⊕ (Nat → UInt32) ⊕ (Nat → UInt64) ⊕ (Nat → Option Nat)} (c1 s1 : Nat) (hat : newarray.typeOf at0 = ty) (ht : (tysOf G)[kd - 1]? = some (gC G kd, ty)) (hra : ∀ (U : State) (cA : ClassId), va_RA U cA ty → U.vm.findClass ("[" ++ ty.toString) = some cA) (hcv : cel G (mNew μ (kd, N')) (mN μ) = .inl (gC G kd, N', y0)) (hvp : vp_cell (gC G kd) (N', y0) = arrV (gC G kd) N' (fun _ => defaultValue ty)) (hcl : Cond.arrayClass ty ∈ gw) {n0 : Nat} (hb : (xS X).heap.size = gZ G + n0) (h : nA kd (n0 + cells) nn μ = some μ') (hNN : nn.toNatClampNeg = N') (hby : N' * componentBytes ty ≤ 536870912) (hcells : c1 ≤ rm.cells) (hslots : s1 ≤ rm.slots) (e1 : cells + 1 = c1) (e2 : slots + N' = s1) (d : decode cc pc = .ok (.newarray at0, 2)) (k : AW G nL X c1 s1 (pc + 2) L (.ref (gZ G + (n0 + cells)) :: st) μ') : AW G nL X cells slots pc L (.int nn :: st) μ := by
  subst e1
  subst e2
  subst hNN
  subst hat
  unfold nA at h
  split at h
  · rename_i hm
    obtain ⟨hm, hnn⟩ := hm
    cases h
    intro H locs ls a1 b1 e
    refine W.size fun hs => ?_
    have hH : H.size = gZ G + mN μ := szW (b := true) C b1 e (fun _ => by rw [hb, hm]; omega) hs rfl
    refine va_newaK C.1 C.2.1 (C.2.2.2.2.1 _ hcl) (g := F0 (xM X) pc ls (.int nn :: st)) rfl d rfl hnn rfl hby (by rw [C.2.2.2.2.2.2.1]; exact hcells) (by rw [C.2.2.2.2.2.2.1]; exact hslots) hH (fun H1 cA e1 z1 o1 _ hf => ?_)
    have hcA : cA = gC G kd := Option.some.inj (hf.symm.trans (hra _ _ (C.2.2.2.2.2.1.1.2 _ _ ht).2))
    subst hcA
    have hk : ∀ (k : Nat) (x : Nat × va_E), (wsOf G μ)[k]? = some x → H1[x.1]? = H[x.1]? := fun k x hx => o1 x.1 (by rw [← hH]; exact (b1 k x hx).lt)
    have hP : Wd G (mNew μ (kd, nn.toNatClampNeg)) H1 := by
      show va_P _ _ _ _
      rw [ws_push]
      refine va_P.app (va_P.kept b1 hk) (fun k x hx => ?_)
      have hz : k < 1 := (List.getElem?_eq_some_iff.mp hx).1
      rw [show k = 0 by omega] at hx
      cases hx
      show va_at _ _ _ _
      rw [hcv]
      show H1[gZ G + mN μ]? = some (vp_cell _ _)
      rw [hvp]
      exact e1
    have k2 := k H1 locs ls a1 hP ⟨Nat.le_trans e.1 (by omega), fun x h1 h2 => (o1 x (by have := e.1; omega)).trans (e.2.1 x h1 h2), e.2.2⟩
    rw [← hm] at k2
    exact k2
  · cases h
theorem cv_1 {N : Nat} : cel G (mNew μ (1, N)) (mN μ) = .inl (gC G 1, N, .inl (fun _ => 0)) := by
  rw [cel_1 (by rw [mNew_S]), mNew_I, mNew_S]
theorem cv_2 {N : Nat} : cel G (mNew μ (2, N)) (mN μ) = .inl (gC G 2, N, .inr (.inl (fun _ => 0))) := by
  rw [cel_2 (by rw [mNew_S]), mNew_J, mNew_S]
theorem cv_3 {N : Nat} : cel G (mNew μ (3, N)) (mN μ) = .inl (gC G 3, N, .inl (fun _ => 0)) := by
  rw [cel_3 (by rw [mNew_S]), mNew_I, mNew_S]
theorem cv_r {kd N : Nat} (hk : kd = 4 ∨ kd = 5 ∨ kd = 6 ∨ kd = 7) : cel G (mNew μ (kd, N)) (mN μ) = .inl (gC G kd, N, .inr (.inr (.inr (.inr (fun _ => none))))) := by
  rw [cel_r (kd := kd) (by rw [mNew_S]) hk, mNew_R, mNew_S]
  rfl
theorem aw_anew (C : Ctx G X cc nL own rm) {kd N' : Nat} {nn : Int32} {Cn : String} (c1 s1 : Nat) (hk : kd = 4 ∨ kd = 5 ∨ kd = 6 ∨ kd = 7) (ht : (tysOf G)[kd - 1]? = some (gC G kd, .object Cn)) (hao : KK G (xS X) → va_AO Cn (xS X)) (hcl : Cond.classLink own idx Cn ∈ gw) {n0 : Nat} (hb : (xS X).heap.size = gZ G + n0) (h : nA kd (n0 + cells) nn μ = some μ') (hNN : nn.toNatClampNeg = N') (hby : N' * 4 ≤ 536870912) (hcells : c1 ≤ rm.cells) (hslots : s1 ≤ rm.slots) (e1 : cells + 1 = c1) (e2 : slots + N' = s1) (d : decode cc pc = .ok (.anewarray idx, 3)) (k : AW G nL X c1 s1 (pc + 3) L (.ref (gZ G + (n0 + cells)) :: st) μ') : AW G nL X cells slots pc L (.int nn :: st) μ := by
  subst e1
  subst e2
  subst hNN
  unfold nA at h
  split at h
  · rename_i hm
    obtain ⟨hm, hnn⟩ := hm
    cases h
    intro H locs ls a1 b1 e
    refine W.size fun hs => ?_
    have hH : H.size = gZ G + mN μ := szW (b := true) C b1 e (fun _ => by rw [hb, hm]; omega) hs rfl
    refine W.anew C.1 C.2.1 C.2.2.2.1 (C.2.2.2.2.1 _ hcl) (va_AO.use (hao C.2.2.2.2.2.1)) rfl d rfl hnn hby (by rw [C.2.2.2.2.2.2.1]; exact hcells) (by rw [C.2.2.2.2.2.2.1]; exact hslots) fun cA kA comp f1 f2 f3 f4 => ?_
    have hra := (C.2.2.2.2.2.1.1.2 _ _ ht).2
    obtain ⟨kB, cB, -, -, -, g4⟩ := hra
    have hcA : cA = gC G kd := Option.some.inj (f1.symm.trans g4)
    subst hcA
    generalize hH1 : H.push ({ cls := gC G kd, slots := Array.replicate nn.toNatClampNeg .null, vm := .none } : Cell) = H1
    have z1 : H1.size = H.size + 1 := by rw [← hH1, Array.size_push]
    have e1 : H1[H.size]? = some (arrV (gC G kd) nn.toNatClampNeg (fun _ => .null)) := by rw [← hH1, Array.getElem?_push_size, ← arrV_new]
    have o1 : ∀ q : Nat, q < H.size → H1[q]? = H[q]? := fun q hq => by rw [← hH1, Array.getElem?_push, if_neg (Nat.ne_of_lt hq)]
    have hk2 : ∀ (k : Nat) (x : Nat × va_E), (wsOf G μ)[k]? = some x → H1[x.1]? = H[x.1]? := fun k x hx => o1 x.1 ((b1 k x hx).lt)
    have hP : Wd G (mNew μ (kd, nn.toNatClampNeg)) H1 := by
      show va_P _ _ _ _
      rw [ws_push]
      refine va_P.app (va_P.kept b1 hk2) (fun k x hx => ?_)
      have hz : k < 1 := (List.getElem?_eq_some_iff.mp hx).1
      rw [show k = 0 by omega] at hx
      cases hx
      show va_at _ _ _ _
      rw [cv_r hk]
      show H1[gZ G + mN μ]? = some (vp_cell _ _)
      rw [vp_cell_q, ← hH]
      exact e1
    have k2 := k H1 locs ls a1 hP ⟨Nat.le_trans e.1 (by omega), fun x h1 h2 => (o1 x (by have := e.1; omega)).trans (e.2.1 x h1 h2), e.2.2⟩
    rw [← hm, ← hH] at k2
    exact k2
  · cases h
theorem ws_grid {N K : Nat} : wsOf G (mGrid μ N K) = (wsOf G μ ++ [(gZ G + mN μ, .inl (gC G 7, N, .inr (.inr (.inr (.inr (fun j => if j < N then some (gZ G + mN μ + 1 + j) else none))))))]) ++ (List.range N).map (fun i => (gZ G + mN μ + 1 + i, .inl (gC G 1, K, .inl (fun _ => 0)))) := by
  apply List.ext_getElem?
  intro i
  have hl : (wsOf G μ).length = mN μ := by simp [wsOf]
  have hN : mN (mGrid μ N K) = mN μ + 1 + N := rfl
  by_cases h1 : i < mN μ
  · rw [ws_at (by rw [hN]; omega), List.getElem?_append_left (by simp [hl]; omega), List.getElem?_append_left (by rw [hl]; exact h1), ws_at h1]
    have q1 : ¬ i = μ.1 := Nat.ne_of_lt h1
    have q2 : ¬ (μ.1 < i ∧ i ≤ μ.1 + N) := fun q => by have := q.1; have h9 : i < μ.1 := h1; omega
    have q3 : ¬ (μ.1 ≤ i ∧ i ≤ μ.1 + N) := fun q => by have := q.1; have h9 : i < μ.1 := h1; omega
    rw [cel_ne (μ := μ) (μ' := mGrid μ N K)]
    · exact (if_neg q1).trans (if_neg q2)
    · exact if_neg q3
    · exact if_neg q3
    · exact (if_neg q1).trans (if_neg q2)
  · by_cases h2 : i = mN μ
    · subst h2
      rw [ws_at (by rw [hN]; omega), List.getElem?_append_left (by simp [hl]), List.getElem?_append_right (by rw [hl]; exact Nat.le_refl _), hl, Nat.sub_self]
      have e1 : mS (mGrid μ N K) (mN μ) = (7, N) := if_pos rfl
      have e2 : mR (mGrid μ N K) (mN μ) = fun j => if j < N then some (mN μ + 1 + j) else none := if_pos rfl
      rw [cel_r (kd := 7) (by rw [e1]) (by decide), e1, e2]
      refine congrArg (fun z => some (gZ G + mN μ, Sum.inl (gC G 7, N, Sum.inr (Sum.inr (Sum.inr (Sum.inr z)))))) (funext fun j => ?_)
      show Option.map (fun x => gZ G + x) (if j < N then some (mN μ + 1 + j) else none) = (if j < N then some (gZ G + mN μ + 1 + j) else none)
      by_cases hj : j < N
      · rw [if_pos hj, if_pos hj]
        show some (gZ G + (mN μ + 1 + j)) = some (gZ G + mN μ + 1 + j)
        rw [show gZ G + (mN μ + 1 + j) = gZ G + mN μ + 1 + j by omega]
      · rw [if_neg hj, if_neg hj]
        rfl
    · by_cases h3 : i < mN μ + 1 + N
      · rw [ws_at (by rw [hN]; exact h3), List.getElem?_append_right (by simp [hl]; omega), List.length_append, hl, List.length_singleton, List.getElem?_map, List.getElem?_range (by omega)]
        have e0 : mN μ < i ∧ i ≤ mN μ + N := ⟨by omega, by omega⟩
        have e1 : mS (mGrid μ N K) i = (1, K) := (if_neg h2).trans (if_pos e0)
        have e2 : mI (mGrid μ N K) i = fun _ => 0 := if_pos ⟨Nat.le_of_lt e0.1, e0.2⟩
        rw [cel_1 (by rw [e1]), e1, e2]
        exact congrArg (fun z => some (z, _)) (by omega)
      · rw [List.getElem?_eq_none (by simp [wsOf, hN]; omega), List.getElem?_eq_none (by simp [hl]; omega)]
theorem aw_mna (C : Ctx G X cc nL own rm) {N K : Nat} {nn kk : Int32} (c1 s1 : Nat) (hcl : Cond.classLink own idx ("[" ++ (FieldType.array .int).toString) ∈ gw) (hac : Cond.arrayClass .int ∈ gw) {n0 : Nat} (hb : (xS X).heap.size = gZ G + n0) (h : nM (n0 + cells) nn kk μ = some μ') (hNN : nn.toNatClampNeg = N) (hKK : kk.toNatClampNeg = K) (hb1 : N * 4 ≤ 536870912) (hb2 : K * 4 ≤ 536870912) (hb3 : K ≤ 536870912) (hcells : c1 ≤ rm.cells) (hslots : s1 ≤ rm.slots) (e1 : cells + 1 + N = c1) (e2 : slots + N + N * K = s1) (d : decode cc pc = .ok (.multianewarray idx 2, 4)) (k : AW G nL X c1 s1 (pc + 4) L (.ref (gZ G + (n0 + cells)) :: st) μ') : AW G nL X cells slots pc L (.int kk :: .int nn :: st) μ := by
  subst e1
  subst e2
  subst hNN
  subst hKK
  unfold nM at h
  split at h
  · rename_i hm
    obtain ⟨hm, hnn, hkk⟩ := hm
    cases h
    intro H locs ls a1 b1 e
    refine W.size fun hs => ?_
    have hH : H.size = gZ G + mN μ := szW (b := true) C b1 e (fun _ => by rw [hb, hm]; omega) hs rfl
    intro T hT Xs
    obtain ⟨vm₁, cA, comp, -, fA, fC, -, -, X', step⟩ := Xs.multianewarray2F C.1 C.2.2.2.1 (C.2.2.2.2.1 _ hcl) C.2.2.2.2.2.1.2.2.1.2.2.2 (C.2.2.2.2.1 _ hac) (ty := .int) (g := F0 (xM X) pc ls (.int kk :: .int nn :: st)) rfl (by rw [C.2.1]; exact d) rfl hnn hkk hb1 hb2 hb3 rfl rfl (by rw [C.2.2.2.2.2.2.1]; omega) (by rw [C.2.2.2.2.2.2.1]; omega)
    have hc7 : cA = gC G 7 := Option.some.inj (fA.symm.trans (C.2.2.2.2.2.1.1.2 6 (gC G 7, .array .int) rfl).2)
    have hc1 : comp = gC G 1 := Option.some.inj (fC.symm.trans (C.2.2.2.2.2.1.1.2 0 (gC G 1, .int) rfl).2)
    subst hc7
    subst hc1
    generalize hF : Jvm.Free.Multi.fill (T.setVm vm₁) (gC G 7) (gC G 1) nn.toNatClampNeg kk.toNatClampNeg (defaultValue .int) nn.toNatClampNeg = F at X' step
    have hTh : (T.setVm vm₁).heap = H := hT
    obtain ⟨f1, f2, -, -⟩ := Jvm.Free.Multi.fill_facts (T.setVm vm₁) (gC G 7) (gC G 1) nn.toNatClampNeg kk.toNatClampNeg (defaultValue .int) nn.toNatClampNeg
    rw [hF, hTh] at f1 f2
    have hold : ∀ x : Nat, x < H.size → F.heap[x]? = H[x]? := fun x hx => by
      have := Jvm.Free.Multi.fill_old (T.setVm vm₁) (gC G 7) (gC G 1) nn.toNatClampNeg kk.toNatClampNeg (defaultValue .int) (a := x) (by rw [hTh]; exact hx) nn.toNatClampNeg
      rw [hF, hTh] at this
      exact this
    have hrow : ∀ j : Nat, j < nn.toNatClampNeg → F.heap[H.size + 1 + j]? = some (vp_cell (gC G 1) (kk.toNatClampNeg, .inl (fun _ => 0))) := fun j hj => by
      have := Jvm.Free.Multi.fill_inner (T.setVm vm₁) (gC G 7) (gC G 1) nn.toNatClampNeg kk.toNatClampNeg (defaultValue .int) nn.toNatClampNeg j hj
      rw [hF, hTh] at this
      rw [this]
      exact congrArg some (arrV_new _ _ _)
    have hout : ∀ (cx : ClassId) (N9 h9 i : Nat), Jvm.Free.Multi.outerC cx N9 h9 i = arrV cx N9 (fun j => va_rf (if j < i then some (h9 + 1 + j) else none)) := by
      intro cx N9 h9 i
      induction i with
      | zero =>
        show ({ cls := cx, slots := Array.replicate N9 .null, vm := .none } : Cell) = _
        rw [arrV_new]
        refine congrArg (arrV cx N9) (funext fun j => ?_)
        simp [va_rf]
      | succ i ih =>
        show (Jvm.Free.Multi.outerC cx N9 h9 i).setSlot i (.ref (h9 + 1 + i)) = _
        rw [ih, arrV_store]
        refine congrArg (arrV cx N9) (funext fun j => ?_)
        by_cases e : j = i
        · subst e
          simp [updV, va_rf]
        · by_cases h : j < i
          · simp [updV, e, h, Nat.lt_succ_of_lt h]
          · simp [updV, e, h, show ¬ j < i + 1 by omega]
    rw [hout] at f2
    have hP : Wd G (mGrid μ nn.toNatClampNeg kk.toNatClampNeg) F.heap := by
      show va_P _ _ _ _
      rw [ws_grid]
      refine va_P.app (va_P.app (va_P.kept b1 (fun k x hx => hold x.1 ((b1 k x hx).lt))) (fun k x hx => ?_)) (fun k x hx => ?_)
      · have hz : k < 1 := (List.getElem?_eq_some_iff.mp hx).1
        rw [show k = 0 by omega] at hx
        cases hx
        show F.heap[gZ G + mN μ]? = some (vp_cell _ _)
        rw [vp_cell_q, ← hH]
        exact f2
      · obtain ⟨i, hi, rfl⟩ := List.mem_map.mp (List.mem_of_getElem? hx)
        show F.heap[gZ G + mN μ + 1 + i]? = some (vp_cell _ _)
        rw [← hH]
        exact hrow i (List.mem_range.mp hi)
    have k2 := k F.heap locs ls a1 hP ⟨by rw [f1]; have := e.1; omega, fun x h1 h2 => (hold x (by have := e.1; omega)).trans (e.2.1 x h1 h2), e.2.2⟩ F rfl X'
    rw [← hm, ← hH] at k2
    obtain ⟨t, g1, g2⟩ := k2
    refine ⟨t, step t ?_, g2⟩
    have e9 : T.heap.size = H.size := by rw [hT]
    rw [e9]
    exact g1
  · cases h
theorem gnE {n0 : Nat} (h : gN n0 μ = some ()) : mN μ = n0 := by
  unfold gN at h
  split at h
  · assumption
  · cases h
theorem aw_cI_V (C : Ctx G X cc nL own rm) {a n0 : Nat} (c1 s1 : Nat) (As : List Value) (st0 : List Value) (hM : MtV G (xL X) y cc' nL' none rm' true (.ref (gZ G + a) :: As) μ μ') (S : CS y cc' nL' none n) (hl : Cond.methodLink own idx y ∈ gw) (hi : Cond.instanceMethod y ∈ gw) (hnm : y.name = "<init>") (hR : rm'.frames + 1 ≤ rm.frames ∧ 8 + (nL' + 11) + rm'.locals ≤ rm.locals) (hb : (xS X).heap.size = gZ G + n0) (hg : gN (n0 + cells) μ = some ()) (hc1 : c1 ≤ rm.cells) (hs1 : s1 ≤ rm.slots) (e1 : cells + rm'.cells = c1) (e2 : slots + rm'.slots = s1) (hn : As.length = n) (hst : st0 = As.reverse ++ .ref (gZ G + a) :: st) (hW : (st.map fun v => v.category).sum ≤ 8) (d : decode cc pc = .ok (.invokespecial idx, 3)) (k : AW G nL X c1 s1 (pc + 3) L st μ') : AW G nL X cells slots pc L st0 μ := by
  subst e1
  subst e2
  exact aw_callI_V C As st0 hM S hl hi hnm hR ⟨hc1, hs1⟩ hn hst hW (fun _ => by rw [hb, gnE hg]; omega) d k
theorem aw_cIN_V (C : Ctx G X cc nL own rm) {a n0 : Nat} {host : String} (c1 s1 : Nat) (As : List Value) (st0 : List Value) (hM : MtV G (xL X) y cc' nL' none rm' true (.ref (gZ G + a) :: As) μ μ') (S : CS y cc' nL' none n) (hl : Cond.methodLinkNest own idx y host ∈ nestW) (hi : Cond.instanceMethod y ∈ gw) (hnm : y.name = "<init>") (hR : rm'.frames + 1 ≤ rm.frames ∧ 8 + (nL' + 11) + rm'.locals ≤ rm.locals) (hb : (xS X).heap.size = gZ G + n0) (hg : gN (n0 + cells) μ = some ()) (hc1 : c1 ≤ rm.cells) (hs1 : s1 ≤ rm.slots) (e1 : cells + rm'.cells = c1) (e2 : slots + rm'.slots = s1) (hn : As.length = n) (hst : st0 = As.reverse ++ .ref (gZ G + a) :: st) (hW : (st.map fun v => v.category).sum ≤ 8) (d : decode cc pc = .ok (.invokespecial idx, 3)) (k : AW G nL X c1 s1 (pc + 3) L st μ') : AW G nL X cells slots pc L st0 μ := by
  subst e1
  subst e2
  exact aw_callIN_V C As st0 hM S hl hi hnm hR ⟨hc1, hs1⟩ hn hst hW (fun _ => by rw [hb, gnE hg]; omega) d k
end AWN
