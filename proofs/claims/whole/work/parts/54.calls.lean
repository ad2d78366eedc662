/-! ===== contracts, calls, returns ===== -/
def PreW (G : GL) (b : Bool) (μ : Mem) (U : State) : Prop := Wd G μ U.heap ∧ KK G U ∧ gZ G ≤ U.heap.size ∧ EX G U U.heap ∧ (b = true → U.heap.size = gZ G + mN μ)
abbrev MtI (G : GL) (l : Launch) (y : MethodName) (cc : ByteArray) (nL : Nat) (ret : Option FieldType) (rm : Room) (b : Bool) (av : List Value) (μ : Mem) (r : Int32) (μ' : Mem) : Prop :=
  Met l y (mws y cc nL ret) rm (va_Pc av (PreW G b μ)) (va_Qi (fun r' (_ : Unit) => r' = r) (fun _ t => Wd G μ' t.heap) (gAd G)) rm.cells rm.slots (gAd G)
abbrev MtJ (G : GL) (l : Launch) (y : MethodName) (cc : ByteArray) (nL : Nat) (ret : Option FieldType) (rm : Room) (b : Bool) (av : List Value) (μ : Mem) (r : Int64) (μ' : Mem) : Prop :=
  Met l y (mws y cc nL ret) rm (va_Pc av (PreW G b μ)) (va_Ql (fun r' (_ : Unit) => r' = r) (fun _ t => Wd G μ' t.heap) (gAd G)) rm.cells rm.slots (gAd G)
abbrev MtV (G : GL) (l : Launch) (y : MethodName) (cc : ByteArray) (nL : Nat) (ret : Option FieldType) (rm : Room) (b : Bool) (av : List Value) (μ : Mem) (μ' : Mem) : Prop :=
  Met l y (mws y cc nL ret) rm (va_Pc av (PreW G b μ)) (va_Qv (fun (_ : Unit) => True) (fun _ t => Wd G μ' t.heap) (gAd G)) rm.cells rm.slots (gAd G)
/-- what holds of a callee wherever it is called from -/
def CS (y : MethodName) (cc : ByteArray) (nL : Nat) (ret : Option FieldType) (n : Nat) : Prop := Cond.code y cc nL ret ∈ gw ∧ Cond.initialized y.cls ∈ gw ∧ (y.cls ≠ "java/lang/invoke/MethodHandle" ∧ y.cls ≠ "java/lang/invoke/VarHandle" ∧ (parseMethodDescriptor y.desc).map (fun d => d.parameters.length) = some n)
theorem KK.blind {G : GL} {U : State} {g : JFrame} {mk : MethodId} {a : Array Value} (h : KK G U) : KK G (U.calling g mk a) :=
  ⟨va_K.moved (u := U) (U := U.calling g mk a) (Vm.Alike.refl U.vm) h.1, fun w hw => va_Nw.same (u := U) (by
    have := (List.mem_filter.mp hw).2
    cases w <;> first | rfl | cases this) rfl (h.2.1 w hw),
   ⟨va_AO.moved (u := U) (U := U.calling g mk a) (Vm.Alike.refl U.vm) h.2.2.1.1, va_AO.moved (u := U) (U := U.calling g mk a) (Vm.Alike.refl U.vm) h.2.2.1.2.1, va_AO.moved (u := U) (U := U.calling g mk a) (Vm.Alike.refl U.vm) h.2.2.1.2.2.1, AOA.moved (u := U) (U := U.calling g mk a) (Vm.Alike.refl U.vm) h.2.2.1.2.2.2⟩,
   fun i hi => vk_R.same (u := U) rfl (h.2.2.2 i hi)⟩
theorem KK.warm {G : GL} {s U : State} (hW : s.WarmedH U.vm) (h : KK G s) : KK G U := by
  refine ⟨va_K.moved hW.alike h.1, fun w hw => ?_, ⟨h.2.2.1.1.moved hW.alike, h.2.2.1.2.1.moved hW.alike, h.2.2.1.2.2.1.moved hW.alike, h.2.2.1.2.2.2.moved hW.alike⟩, fun i hi => (h.2.2.2 i hi).warm hW⟩
  have hm := (List.mem_filter.mp hw).2
  have h1 := h.2.1 w hw
  cases w <;> first | exact va_Nw.warmM hW h1 | cases hm
theorem blindW {G : GL} {b : Bool} {μ : Mem} {av : List Value} : FrameBlind (va_Pc av (PreW G b μ)) := fun a U g mk q => by
  obtain ⟨q1, q2, q3, q4, q5, q6⟩ := q
  exact ⟨q1, q2, q3.blind, q4, EX.moved (u := U) (U := U.calling g mk a) (Vm.Alike.refl U.vm) q5, q6⟩
theorem gw_in {y : MethodName} {cc : ByteArray} {nL : Nat} {ret : Option FieldType} (h : Cond.code y cc nL ret ∈ gw) : GoodIn gw (mws y cc nL ret) := by
  intro w hw
  rcases List.mem_cons.mp hw with rfl | hw
  · exact ⟨h, (gw_good _ h).2⟩
  · exact ⟨hw, (gw_good _ hw).2⟩
theorem W.size {p : Program} {l : Launch} {e : Env} {R : Room} {s : State} {m : MethodId} {args : Array Value} {below : List Frame} {meth : Method} {c : Code} {H : Heap} {locs : List Loc} {cells slots : Nat} {Q : State → Prop} {g : JFrame} (h : H.size ≤ s.heap.size + cells → W p l e R s m args below meth c H locs cells slots Q g) : W p l e R s m args below meth c H locs cells slots Q g := fun T hT X => h (hT ▸ X.heapSize) T hT X
theorem Wd.low {G : GL} {μ : Mem} {H : Heap} (h : Wd G μ H) (hz : gZ G ≤ H.size) : gZ G + mN μ ≤ H.size := by
  cases hn : mN μ with
  | zero => exact hz
  | succ n =>
    have := (h n _ (ws_at (by rw [hn]; exact Nat.lt_succ_self n))).lt
    simp only at this
    omega
section AWC
variable {G : GL} {X : CX} {cc : ByteArray} {nL : Nat} {own : String} {rm : Room} {cells slots pc : Nat} {L L' : List (Nat × Value)} {st : List Value} {μ μ' : Mem}
variable {y : MethodName} {cc' : ByteArray} {nL' n idx : Nat} {ret' : Option FieldType} {rm' : Room} {b : Bool} {As : List Value}
/-- what a callee's start needs, out of the caller's world -/
theorem preW (C : Ctx G X cc nL own rm) {H : Heap} {locs : List Loc} (hw : Wd G μ H) (hs : va_S (gAd G) (xS X).heap H locs) (hb : b = true → H.size = gZ G + mN μ) (U : State) (hU : U.heap = H) (hW : (xS X).WarmedH U.vm) : PreW G b μ U :=
  ⟨by rw [hU]; exact hw, C.2.2.2.2.2.1.warm hW, by rw [hU]; exact Nat.le_trans C.2.2.2.2.2.2.2.1 hs.1, by rw [hU]; exact (C.2.2.2.2.2.2.2.2.kept hs.2.1).moved hW.alike, by rw [hU]; exact hb⟩
theorem szW (C : Ctx G X cc nL own rm) {H : Heap} {locs : List Loc} (hw : Wd G μ H) (hs : va_S (gAd G) (xS X).heap H locs) (hz : b = true → (xS X).heap.size + cells = gZ G + mN μ) (h : H.size ≤ (xS X).heap.size + cells) : b = true → H.size = gZ G + mN μ := fun hb => by
  have h1 := hz hb
  have h2 := hw.low (Nat.le_trans C.2.2.2.2.2.2.2.1 hs.1)
  omega
theorem cbS (C : Ctx G X cc nL own rm) (S : CS y cc' nL' ret' n) (hl : Cond.methodLink own idx y ∈ gw) (hR : rm'.frames + 1 ≤ rm.frames ∧ 8 + (nL' + 11) + rm'.locals ≤ rm.locals) : CallB (xR X) (xS X) (xA X) own idx y cc' nL' ret' (mws y cc' nL' ret') rm' rm'.cells rm'.slots n :=
  callB_of n C.2.2.2.2.1 (gw_in S.1) rfl rfl rfl (C.2.2.2.2.1 _ S.2.1) (C.2.2.2.2.1 _ hl) S.2.2 (by rw [C.2.2.2.2.2.2.1]; exact hR)
theorem cbN (C : Ctx G X cc nL own rm) (S : CS y cc' nL' ret' n) {host : String} (hl : Cond.methodLinkNest own idx y host ∈ nestW) (hR : rm'.frames + 1 ≤ rm.frames ∧ 8 + (nL' + 11) + rm'.locals ≤ rm.locals) : va_CN (xR X) (xS X) (xA X) own idx y host cc' nL' ret' (mws y cc' nL' ret') rm' rm'.cells rm'.slots n :=
  va_cnB n C.2.2.2.2.1 (gw_in S.1) rfl rfl rfl (C.2.2.2.2.2.1.2.1 _ hl) (C.2.2.2.2.1 _ S.2.1) S.2.2 (by rw [C.2.2.2.2.2.2.1]; exact hR)
theorem cfix (C : Ctx G X cc nL own rm) : CallFix (xP X) (xM X) (xC X) cc nL (xS X) (xA X) gw own := ⟨C.1, C.2.1, C.2.2.1, C.2.2.2.1, C.2.2.2.2.1⟩
theorem cfR (C : Ctx G X cc nL own rm) (h : cells + rm'.cells ≤ rm.cells ∧ slots + rm'.slots ≤ rm.slots) : cells + rm'.cells ≤ (xR X).cells ∧ slots + rm'.slots ≤ (xR X).slots := by rw [C.2.2.2.2.2.2.1]; exact h
theorem recvW (C : Ctx G X cc nL own rm) {H : Heap} (hw : Wd G μ H) {c a : Nat} {r : vw_C} (hv : vO c a μ = some ()) (hc : vwCl[c]? = some r) : ∃ cellB : Cell, H[gZ G + a]? = some cellB ∧ cellB.vm.isStatics = false ∧ (xS X).vm.findClass r.1 = some cellB.cls := by
  unfold vO at hv
  split at hv
  · rename_i ha
    exact va_recv C.2.2.2.2.2.1.1 hw (ci := c) (q0 := a) hc (by rw [ws_at ha.1, cel_o ha.2])
  · cases hv
theorem aw_callS_I (C : Ctx G X cc nL own rm) {r : Int32} (As : List Value) (st0 : List Value) (hM : MtI G (xL X) y cc' nL' ret' rm' b (As) μ r μ') (S : CS y cc' nL' ret' n) (hl : Cond.methodLink own idx y ∈ gw) (hs : Cond.static y ∈ gw) (hR : rm'.frames + 1 ≤ rm.frames ∧ 8 + (nL' + 11) + rm'.locals ≤ rm.locals) (hf : cells + rm'.cells ≤ rm.cells ∧ slots + rm'.slots ≤ rm.slots) (hn : As.length = n) (hst : st0 = As.reverse ++ st) (hW : (st.map fun v => v.category).sum ≤ 8) (hz0 : b = true → (xS X).heap.size + cells = gZ G + mN μ) (d : decode cc pc = .ok (.invokestatic idx, 3)) (k : AW G nL X (cells + rm'.cells) (slots + rm'.slots) (pc + 3) L (.int r :: st) μ') : AW G nL X cells slots pc L st0 μ := by
  intro H locs ls a1 b1 e
  refine W.size fun hsz => ?_
  refine va_calli (S := Unit) (va_runS (As := As) (rest := st) (cfix C) hM ⟨cbS C S hl hR, C.2.2.2.2.1 _ hs⟩ ⟨blindW, fun U hU hW => ⟨rfl, preW C b1 e (szW C b1 e hz0 hsz) U hU hW⟩⟩ rfl hn a1.1 hst (lv_room hW) d (cfR C hf)) e (fun q _ h => h) (fun q h => h) (fun r0 u t H1 locs1 ht hvm hp hB hz hk hS => ?_)
  cases hp
  exact k H1 locs1 ls a1 (by rw [ht] at hB; exact hB) hS
theorem aw_callS_J (C : Ctx G X cc nL own rm) {r : Int64} (As : List Value) (st0 : List Value) (hM : MtJ G (xL X) y cc' nL' ret' rm' b (As) μ r μ') (S : CS y cc' nL' ret' n) (hl : Cond.methodLink own idx y ∈ gw) (hs : Cond.static y ∈ gw) (hR : rm'.frames + 1 ≤ rm.frames ∧ 8 + (nL' + 11) + rm'.locals ≤ rm.locals) (hf : cells + rm'.cells ≤ rm.cells ∧ slots + rm'.slots ≤ rm.slots) (hn : As.length = n) (hst : st0 = As.reverse ++ st) (hW : (st.map fun v => v.category).sum ≤ 8) (hz0 : b = true → (xS X).heap.size + cells = gZ G + mN μ) (d : decode cc pc = .ok (.invokestatic idx, 3)) (k : AW G nL X (cells + rm'.cells) (slots + rm'.slots) (pc + 3) L (.long r :: st) μ') : AW G nL X cells slots pc L st0 μ := by
  intro H locs ls a1 b1 e
  refine W.size fun hsz => ?_
  refine va_calll (S := Unit) (va_runS (As := As) (rest := st) (cfix C) hM ⟨cbS C S hl hR, C.2.2.2.2.1 _ hs⟩ ⟨blindW, fun U hU hW => ⟨rfl, preW C b1 e (szW C b1 e hz0 hsz) U hU hW⟩⟩ rfl hn a1.1 hst (lv_room hW) d (cfR C hf)) e (fun q _ h => h) (fun q h => h) (fun r0 u t H1 locs1 ht hvm hp hB hz hk hS => ?_)
  cases hp
  exact k H1 locs1 ls a1 (by rw [ht] at hB; exact hB) hS
theorem aw_callS_V (C : Ctx G X cc nL own rm) (As : List Value) (st0 : List Value) (hM : MtV G (xL X) y cc' nL' ret' rm' b (As) μ μ') (S : CS y cc' nL' ret' n) (hl : Cond.methodLink own idx y ∈ gw) (hs : Cond.static y ∈ gw) (hR : rm'.frames + 1 ≤ rm.frames ∧ 8 + (nL' + 11) + rm'.locals ≤ rm.locals) (hf : cells + rm'.cells ≤ rm.cells ∧ slots + rm'.slots ≤ rm.slots) (hn : As.length = n) (hst : st0 = As.reverse ++ st) (hW : (st.map fun v => v.category).sum ≤ 8) (hz0 : b = true → (xS X).heap.size + cells = gZ G + mN μ) (d : decode cc pc = .ok (.invokestatic idx, 3)) (k : AW G nL X (cells + rm'.cells) (slots + rm'.slots) (pc + 3) L (st) μ') : AW G nL X cells slots pc L st0 μ := by
  intro H locs ls a1 b1 e
  refine W.size fun hsz => ?_
  refine va_callv (S := Unit) (va_runS (As := As) (rest := st) (cfix C) hM ⟨cbS C S hl hR, C.2.2.2.2.1 _ hs⟩ ⟨blindW, fun U hU hW => ⟨rfl, preW C b1 e (szW C b1 e hz0 hsz) U hU hW⟩⟩ rfl hn a1.1 hst (lv_room hW) d (cfR C hf)) e (fun q _ h => h) (fun q h => h) (fun u t H1 locs1 ht hvm hp hB hz hk hS => ?_)
  skip
  exact k H1 locs1 ls a1 (by rw [ht] at hB; exact hB) hS
theorem aw_callSN_I (C : Ctx G X cc nL own rm) {r : Int32} {host : String} (As : List Value) (st0 : List Value) (hM : MtI G (xL X) y cc' nL' ret' rm' b (As) μ r μ') (S : CS y cc' nL' ret' n) (hl : Cond.methodLinkNest own idx y host ∈ nestW) (hs : Cond.static y ∈ gw) (hR : rm'.frames + 1 ≤ rm.frames ∧ 8 + (nL' + 11) + rm'.locals ≤ rm.locals) (hf : cells + rm'.cells ≤ rm.cells ∧ slots + rm'.slots ≤ rm.slots) (hn : As.length = n) (hst : st0 = As.reverse ++ st) (hW : (st.map fun v => v.category).sum ≤ 8) (hz0 : b = true → (xS X).heap.size + cells = gZ G + mN μ) (d : decode cc pc = .ok (.invokestatic idx, 3)) (k : AW G nL X (cells + rm'.cells) (slots + rm'.slots) (pc + 3) L (.int r :: st) μ') : AW G nL X cells slots pc L st0 μ := by
  intro H locs ls a1 b1 e
  refine W.size fun hsz => ?_
  refine va_calli (S := Unit) (va_runSN (As := As) (rest := st) (cfix C) hM ⟨cbN C S hl hR, C.2.2.2.2.1 _ hs, trivial⟩ ⟨blindW, fun U hU hW => ⟨rfl, preW C b1 e (szW C b1 e hz0 hsz) U hU hW⟩⟩ rfl hn a1.1 hst (lv_room hW) d (cfR C hf)) e (fun q _ h => h) (fun q h => h) (fun r0 u t H1 locs1 ht hvm hp hB hz hk hS => ?_)
  cases hp
  exact k H1 locs1 ls a1 (by rw [ht] at hB; exact hB) hS
theorem aw_callSN_J (C : Ctx G X cc nL own rm) {r : Int64} {host : String} (As : List Value) (st0 : List Value) (hM : MtJ G (xL X) y cc' nL' ret' rm' b (As) μ r μ') (S : CS y cc' nL' ret' n) (hl : Cond.methodLinkNest own idx y host ∈ nestW) (hs : Cond.static y ∈ gw) (hR : rm'.frames + 1 ≤ rm.frames ∧ 8 + (nL' + 11) + rm'.locals ≤ rm.locals) (hf : cells + rm'.cells ≤ rm.cells ∧ slots + rm'.slots ≤ rm.slots) (hn : As.length = n) (hst : st0 = As.reverse ++ st) (hW : (st.map fun v => v.category).sum ≤ 8) (hz0 : b = true → (xS X).heap.size + cells = gZ G + mN μ) (d : decode cc pc = .ok (.invokestatic idx, 3)) (k : AW G nL X (cells + rm'.cells) (slots + rm'.slots) (pc + 3) L (.long r :: st) μ') : AW G nL X cells slots pc L st0 μ := by
  intro H locs ls a1 b1 e
  refine W.size fun hsz => ?_
  refine va_calll (S := Unit) (va_runSN (As := As) (rest := st) (cfix C) hM ⟨cbN C S hl hR, C.2.2.2.2.1 _ hs, trivial⟩ ⟨blindW, fun U hU hW => ⟨rfl, preW C b1 e (szW C b1 e hz0 hsz) U hU hW⟩⟩ rfl hn a1.1 hst (lv_room hW) d (cfR C hf)) e (fun q _ h => h) (fun q h => h) (fun r0 u t H1 locs1 ht hvm hp hB hz hk hS => ?_)
  cases hp
  exact k H1 locs1 ls a1 (by rw [ht] at hB; exact hB) hS
theorem aw_callSN_V (C : Ctx G X cc nL own rm) {host : String} (As : List Value) (st0 : List Value) (hM : MtV G (xL X) y cc' nL' ret' rm' b (As) μ μ') (S : CS y cc' nL' ret' n) (hl : Cond.methodLinkNest own idx y host ∈ nestW) (hs : Cond.static y ∈ gw) (hR : rm'.frames + 1 ≤ rm.frames ∧ 8 + (nL' + 11) + rm'.locals ≤ rm.locals) (hf : cells + rm'.cells ≤ rm.cells ∧ slots + rm'.slots ≤ rm.slots) (hn : As.length = n) (hst : st0 = As.reverse ++ st) (hW : (st.map fun v => v.category).sum ≤ 8) (hz0 : b = true → (xS X).heap.size + cells = gZ G + mN μ) (d : decode cc pc = .ok (.invokestatic idx, 3)) (k : AW G nL X (cells + rm'.cells) (slots + rm'.slots) (pc + 3) L (st) μ') : AW G nL X cells slots pc L st0 μ := by
  intro H locs ls a1 b1 e
  refine W.size fun hsz => ?_
  refine va_callv (S := Unit) (va_runSN (As := As) (rest := st) (cfix C) hM ⟨cbN C S hl hR, C.2.2.2.2.1 _ hs, trivial⟩ ⟨blindW, fun U hU hW => ⟨rfl, preW C b1 e (szW C b1 e hz0 hsz) U hU hW⟩⟩ rfl hn a1.1 hst (lv_room hW) d (cfR C hf)) e (fun q _ h => h) (fun q h => h) (fun u t H1 locs1 ht hvm hp hB hz hk hS => ?_)
  skip
  exact k H1 locs1 ls a1 (by rw [ht] at hB; exact hB) hS
theorem aw_callV_I (C : Ctx G X cc nL own rm) {a : Nat} {r : Int32} (As : List Value) (st0 : List Value) (hM : MtI G (xL X) y cc' nL' ret' rm' b (.ref (gZ G + a) :: As) μ r μ') (S : CS y cc' nL' ret' n) (hl : Cond.methodLink own idx y ∈ gw) (hi : Cond.instanceMethod y ∈ gw) (hse : Cond.selects y.cls y y ∈ gw) {ci : Nat} {cr : vw_C} (hcl : vwCl[ci]? = some cr) (hcy : cr.1 = y.cls) (hv : vO ci a μ = some ()) (hR : rm'.frames + 1 ≤ rm.frames ∧ 8 + (nL' + 11) + rm'.locals ≤ rm.locals) (hf : cells + rm'.cells ≤ rm.cells ∧ slots + rm'.slots ≤ rm.slots) (hn : As.length = n) (hst : st0 = As.reverse ++ .ref (gZ G + a) :: st) (hW : (st.map fun v => v.category).sum ≤ 8) (hz0 : b = true → (xS X).heap.size + cells = gZ G + mN μ) (d : decode cc pc = .ok (.invokevirtual idx, 3)) (k : AW G nL X (cells + rm'.cells) (slots + rm'.slots) (pc + 3) L (.int r :: st) μ') : AW G nL X cells slots pc L st0 μ := by
  intro H locs ls a1 b1 e
  refine W.size fun hsz => ?_
  refine va_calli (S := Unit) (va_runV (As := As) (rest := st) (cfix C) hM ⟨cbS C S hl hR, C.2.2.2.2.1 _ hi, C.2.2.2.2.1 _ hse⟩ ⟨blindW, hcy ▸ recvW C b1 hv hcl, fun U hU hW => ⟨rfl, preW C b1 e (szW C b1 e hz0 hsz) U hU hW⟩⟩ rfl hn a1.1 hst (lv_room hW) d (cfR C hf)) e (fun q _ h => h) (fun q h => h) (fun r0 u t H1 locs1 ht hvm hp hB hz hk hS => ?_)
  cases hp
  exact k H1 locs1 ls a1 (by rw [ht] at hB; exact hB) hS
theorem aw_callV_J (C : Ctx G X cc nL own rm) {a : Nat} {r : Int64} (As : List Value) (st0 : List Value) (hM : MtJ G (xL X) y cc' nL' ret' rm' b (.ref (gZ G + a) :: As) μ r μ') (S : CS y cc' nL' ret' n) (hl : Cond.methodLink own idx y ∈ gw) (hi : Cond.instanceMethod y ∈ gw) (hse : Cond.selects y.cls y y ∈ gw) {ci : Nat} {cr : vw_C} (hcl : vwCl[ci]? = some cr) (hcy : cr.1 = y.cls) (hv : vO ci a μ = some ()) (hR : rm'.frames + 1 ≤ rm.frames ∧ 8 + (nL' + 11) + rm'.locals ≤ rm.locals) (hf : cells + rm'.cells ≤ rm.cells ∧ slots + rm'.slots ≤ rm.slots) (hn : As.length = n) (hst : st0 = As.reverse ++ .ref (gZ G + a) :: st) (hW : (st.map fun v => v.category).sum ≤ 8) (hz0 : b = true → (xS X).heap.size + cells = gZ G + mN μ) (d : decode cc pc = .ok (.invokevirtual idx, 3)) (k : AW G nL X (cells + rm'.cells) (slots + rm'.slots) (pc + 3) L (.long r :: st) μ') : AW G nL X cells slots pc L st0 μ := by
  intro H locs ls a1 b1 e
  refine W.size fun hsz => ?_
  refine va_calll (S := Unit) (va_runV (As := As) (rest := st) (cfix C) hM ⟨cbS C S hl hR, C.2.2.2.2.1 _ hi, C.2.2.2.2.1 _ hse⟩ ⟨blindW, hcy ▸ recvW C b1 hv hcl, fun U hU hW => ⟨rfl, preW C b1 e (szW C b1 e hz0 hsz) U hU hW⟩⟩ rfl hn a1.1 hst (lv_room hW) d (cfR C hf)) e (fun q _ h => h) (fun q h => h) (fun r0 u t H1 locs1 ht hvm hp hB hz hk hS => ?_)
  cases hp
  exact k H1 locs1 ls a1 (by rw [ht] at hB; exact hB) hS
theorem aw_callV_V (C : Ctx G X cc nL own rm) {a : Nat} (As : List Value) (st0 : List Value) (hM : MtV G (xL X) y cc' nL' ret' rm' b (.ref (gZ G + a) :: As) μ μ') (S : CS y cc' nL' ret' n) (hl : Cond.methodLink own idx y ∈ gw) (hi : Cond.instanceMethod y ∈ gw) (hse : Cond.selects y.cls y y ∈ gw) {ci : Nat} {cr : vw_C} (hcl : vwCl[ci]? = some cr) (hcy : cr.1 = y.cls) (hv : vO ci a μ = some ()) (hR : rm'.frames + 1 ≤ rm.frames ∧ 8 + (nL' + 11) + rm'.locals ≤ rm.locals) (hf : cells + rm'.cells ≤ rm.cells ∧ slots + rm'.slots ≤ rm.slots) (hn : As.length = n) (hst : st0 = As.reverse ++ .ref (gZ G + a) :: st) (hW : (st.map fun v => v.category).sum ≤ 8) (hz0 : b = true → (xS X).heap.size + cells = gZ G + mN μ) (d : decode cc pc = .ok (.invokevirtual idx, 3)) (k : AW G nL X (cells + rm'.cells) (slots + rm'.slots) (pc + 3) L (st) μ') : AW G nL X cells slots pc L st0 μ := by
  intro H locs ls a1 b1 e
  refine W.size fun hsz => ?_
  refine va_callv (S := Unit) (va_runV (As := As) (rest := st) (cfix C) hM ⟨cbS C S hl hR, C.2.2.2.2.1 _ hi, C.2.2.2.2.1 _ hse⟩ ⟨blindW, hcy ▸ recvW C b1 hv hcl, fun U hU hW => ⟨rfl, preW C b1 e (szW C b1 e hz0 hsz) U hU hW⟩⟩ rfl hn a1.1 hst (lv_room hW) d (cfR C hf)) e (fun q _ h => h) (fun q h => h) (fun u t H1 locs1 ht hvm hp hB hz hk hS => ?_)
  skip
  exact k H1 locs1 ls a1 (by rw [ht] at hB; exact hB) hS
theorem aw_callVN_I (C : Ctx G X cc nL own rm) {a : Nat} {r : Int32} {host : String} (As : List Value) (st0 : List Value) (hM : MtI G (xL X) y cc' nL' ret' rm' b (.ref (gZ G + a) :: As) μ r μ') (S : CS y cc' nL' ret' n) (hl : Cond.methodLinkNest own idx y host ∈ nestW) (hi : Cond.instanceMethod y ∈ gw) (hse : Cond.selects y.cls y y ∈ gw) {ci : Nat} {cr : vw_C} (hcl : vwCl[ci]? = some cr) (hcy : cr.1 = y.cls) (hv : vO ci a μ = some ()) (hR : rm'.frames + 1 ≤ rm.frames ∧ 8 + (nL' + 11) + rm'.locals ≤ rm.locals) (hf : cells + rm'.cells ≤ rm.cells ∧ slots + rm'.slots ≤ rm.slots) (hn : As.length = n) (hst : st0 = As.reverse ++ .ref (gZ G + a) :: st) (hW : (st.map fun v => v.category).sum ≤ 8) (hz0 : b = true → (xS X).heap.size + cells = gZ G + mN μ) (d : decode cc pc = .ok (.invokevirtual idx, 3)) (k : AW G nL X (cells + rm'.cells) (slots + rm'.slots) (pc + 3) L (.int r :: st) μ') : AW G nL X cells slots pc L st0 μ := by
  intro H locs ls a1 b1 e
  refine W.size fun hsz => ?_
  refine va_calli (S := Unit) (va_runVN (As := As) (rest := st) (cfix C) hM ⟨cbN C S hl hR, C.2.2.2.2.1 _ hi, C.2.2.2.2.1 _ hse⟩ ⟨blindW, hcy ▸ recvW C b1 hv hcl, fun U hU hW => ⟨rfl, preW C b1 e (szW C b1 e hz0 hsz) U hU hW⟩⟩ rfl hn a1.1 hst (lv_room hW) d (cfR C hf)) e (fun q _ h => h) (fun q h => h) (fun r0 u t H1 locs1 ht hvm hp hB hz hk hS => ?_)
  cases hp
  exact k H1 locs1 ls a1 (by rw [ht] at hB; exact hB) hS
theorem aw_callVN_J (C : Ctx G X cc nL own rm) {a : Nat} {r : Int64} {host : String} (As : List Value) (st0 : List Value) (hM : MtJ G (xL X) y cc' nL' ret' rm' b (.ref (gZ G + a) :: As) μ r μ') (S : CS y cc' nL' ret' n) (hl : Cond.methodLinkNest own idx y host ∈ nestW) (hi : Cond.instanceMethod y ∈ gw) (hse : Cond.selects y.cls y y ∈ gw) {ci : Nat} {cr : vw_C} (hcl : vwCl[ci]? = some cr) (hcy : cr.1 = y.cls) (hv : vO ci a μ = some ()) (hR : rm'.frames + 1 ≤ rm.frames ∧ 8 + (nL' + 11) + rm'.locals ≤ rm.locals) (hf : cells + rm'.cells ≤ rm.cells ∧ slots + rm'.slots ≤ rm.slots) (hn : As.length = n) (hst : st0 = As.reverse ++ .ref (gZ G + a) :: st) (hW : (st.map fun v => v.category).sum ≤ 8) (hz0 : b = true → (xS X).heap.size + cells = gZ G + mN μ) (d : decode cc pc = .ok (.invokevirtual idx, 3)) (k : AW G nL X (cells + rm'.cells) (slots + rm'.slots) (pc + 3) L (.long r :: st) μ') : AW G nL X cells slots pc L st0 μ := by
  intro H locs ls a1 b1 e
  refine W.size fun hsz => ?_
  refine va_calll (S := Unit) (va_runVN (As := As) (rest := st) (cfix C) hM ⟨cbN C S hl hR, C.2.2.2.2.1 _ hi, C.2.2.2.2.1 _ hse⟩ ⟨blindW, hcy ▸ recvW C b1 hv hcl, fun U hU hW => ⟨rfl, preW C b1 e (szW C b1 e hz0 hsz) U hU hW⟩⟩ rfl hn a1.1 hst (lv_room hW) d (cfR C hf)) e (fun q _ h => h) (fun q h => h) (fun r0 u t H1 locs1 ht hvm hp hB hz hk hS => ?_)
  cases hp
  exact k H1 locs1 ls a1 (by rw [ht] at hB; exact hB) hS
theorem aw_callVN_V (C : Ctx G X cc nL own rm) {a : Nat} {host : String} (As : List Value) (st0 : List Value) (hM : MtV G (xL X) y cc' nL' ret' rm' b (.ref (gZ G + a) :: As) μ μ') (S : CS y cc' nL' ret' n) (hl : Cond.methodLinkNest own idx y host ∈ nestW) (hi : Cond.instanceMethod y ∈ gw) (hse : Cond.selects y.cls y y ∈ gw) {ci : Nat} {cr : vw_C} (hcl : vwCl[ci]? = some cr) (hcy : cr.1 = y.cls) (hv : vO ci a μ = some ()) (hR : rm'.frames + 1 ≤ rm.frames ∧ 8 + (nL' + 11) + rm'.locals ≤ rm.locals) (hf : cells + rm'.cells ≤ rm.cells ∧ slots + rm'.slots ≤ rm.slots) (hn : As.length = n) (hst : st0 = As.reverse ++ .ref (gZ G + a) :: st) (hW : (st.map fun v => v.category).sum ≤ 8) (hz0 : b = true → (xS X).heap.size + cells = gZ G + mN μ) (d : decode cc pc = .ok (.invokevirtual idx, 3)) (k : AW G nL X (cells + rm'.cells) (slots + rm'.slots) (pc + 3) L (st) μ') : AW G nL X cells slots pc L st0 μ := by
  intro H locs ls a1 b1 e
  refine W.size fun hsz => ?_
  refine va_callv (S := Unit) (va_runVN (As := As) (rest := st) (cfix C) hM ⟨cbN C S hl hR, C.2.2.2.2.1 _ hi, C.2.2.2.2.1 _ hse⟩ ⟨blindW, hcy ▸ recvW C b1 hv hcl, fun U hU hW => ⟨rfl, preW C b1 e (szW C b1 e hz0 hsz) U hU hW⟩⟩ rfl hn a1.1 hst (lv_room hW) d (cfR C hf)) e (fun q _ h => h) (fun q h => h) (fun u t H1 locs1 ht hvm hp hB hz hk hS => ?_)
  skip
  exact k H1 locs1 ls a1 (by rw [ht] at hB; exact hB) hS
theorem aw_callI_V (C : Ctx G X cc nL own rm) {a : Nat} (As : List Value) (st0 : List Value) (hM : MtV G (xL X) y cc' nL' none rm' b (.ref (gZ G + a) :: As) μ μ') (S : CS y cc' nL' none n) (hl : Cond.methodLink own idx y ∈ gw) (hi : Cond.instanceMethod y ∈ gw) (hnm : y.name = "<init>") (hR : rm'.frames + 1 ≤ rm.frames ∧ 8 + (nL' + 11) + rm'.locals ≤ rm.locals) (hf : cells + rm'.cells ≤ rm.cells ∧ slots + rm'.slots ≤ rm.slots) (hn : As.length = n) (hst : st0 = As.reverse ++ .ref (gZ G + a) :: st) (hW : (st.map fun v => v.category).sum ≤ 8) (hz0 : b = true → (xS X).heap.size + cells = gZ G + mN μ) (d : decode cc pc = .ok (.invokespecial idx, 3)) (k : AW G nL X (cells + rm'.cells) (slots + rm'.slots) (pc + 3) L (st) μ') : AW G nL X cells slots pc L st0 μ := by
  intro H locs ls a1 b1 e
  refine W.size fun hsz => ?_
  refine va_callv (S := Unit) (va_runI (As := As) (rest := st) (cfix C) hM ⟨cbS C S hl hR, hnm, C.2.2.2.2.1 _ hi⟩ ⟨blindW, fun U hU hW => ⟨rfl, preW C b1 e (szW C b1 e hz0 hsz) U hU hW⟩⟩ rfl hn a1.1 hst (lv_room hW) d (cfR C hf)) e (fun q _ h => h) (fun q h => h) (fun u t H1 locs1 ht hvm hp hB hz hk hS => ?_)
  skip
  exact k H1 locs1 ls a1 (by rw [ht] at hB; exact hB) hS
theorem aw_callIN_V (C : Ctx G X cc nL own rm) {a : Nat} {host : String} (As : List Value) (st0 : List Value) (hM : MtV G (xL X) y cc' nL' none rm' b (.ref (gZ G + a) :: As) μ μ') (S : CS y cc' nL' none n) (hl : Cond.methodLinkNest own idx y host ∈ nestW) (hi : Cond.instanceMethod y ∈ gw) (hnm : y.name = "<init>") (hR : rm'.frames + 1 ≤ rm.frames ∧ 8 + (nL' + 11) + rm'.locals ≤ rm.locals) (hf : cells + rm'.cells ≤ rm.cells ∧ slots + rm'.slots ≤ rm.slots) (hn : As.length = n) (hst : st0 = As.reverse ++ .ref (gZ G + a) :: st) (hW : (st.map fun v => v.category).sum ≤ 8) (hz0 : b = true → (xS X).heap.size + cells = gZ G + mN μ) (d : decode cc pc = .ok (.invokespecial idx, 3)) (k : AW G nL X (cells + rm'.cells) (slots + rm'.slots) (pc + 3) L (st) μ') : AW G nL X cells slots pc L st0 μ := by
  intro H locs ls a1 b1 e
  refine W.size fun hsz => ?_
  refine va_callv (S := Unit) (va_runIN (As := As) (rest := st) (cfix C) hM ⟨cbN C S hl hR, hnm, C.2.2.2.2.1 _ hi⟩ ⟨blindW, fun U hU hW => ⟨rfl, preW C b1 e (szW C b1 e hz0 hsz) U hU hW⟩⟩ rfl hn a1.1 hst (lv_room hW) d (cfR C hf)) e (fun q _ h => h) (fun q h => h) (fun u t H1 locs1 ht hvm hp hB hz hk hS => ?_)
  skip
  exact k H1 locs1 ls a1 (by rw [ht] at hB; exact hB) hS
/-- the method's end: an int, a long, nothing -/
def RtI (G : GL) (nL : Nat) (X : CX) (cc : ByteArray) (cells slots : Nat) (r : Int32) (μ : Mem) : Prop := ∀ (pc : Nat) (L : List (Nat × Value)), decode cc pc = .ok (.ireturn, 1) → AW G nL X cells slots pc L [.int r] μ
def RtJ (G : GL) (nL : Nat) (X : CX) (cc : ByteArray) (cells slots : Nat) (r : Int64) (μ : Mem) : Prop := ∀ (pc : Nat) (L : List (Nat × Value)), decode cc pc = .ok (.lreturn, 1) → AW G nL X cells slots pc L [.long r] μ
def RtV (G : GL) (nL : Nat) (X : CX) (cc : ByteArray) (cells slots : Nat) (μ : Mem) : Prop := ∀ (pc : Nat) (L : List (Nat × Value)), decode cc pc = .ok (.return_, 1) → AW G nL X cells slots pc L [] μ
end AWC
theorem met_I {G : GL} {l : Launch} {y : MethodName} {cc : ByteArray} {nL : Nat} {ret : Option FieldType} {rm : Room} {b : Bool} {av : List Value} {μ μ' : Mem} {r : Int32} {ty : FieldType} (hy : plainName y.cls = true) (hret : ret = some ty) (hnr : narrow ty (.int r) = .int r) (hn : (lg_sl av).length ≤ nL)
    (wk : ∀ X : CX, xL X = l → Ctx G X cc nL y.cls rm → (xT X).name = y.name → (b = true → (xS X).heap.size = gZ G + mN μ) → RtI G nL X cc rm.cells rm.slots r μ' → AW G nL X 0 0 0 (lv_args 0 av) [] μ) : MtI G l y cc nL ret rm b av μ r μ' := by
  refine Met.ofW (cc := cc) (maxL := nL) (ret := ret) hy rfl ?_
  intro p e s m args below meth c s₁ B hml hv
  obtain ⟨rfl, hw, hK, hZ, hE, hb⟩ := hv
  have hts := atoms_spec (ws := mws y cc nL ret) B.pre
  have hl := lv_entry av (n := nL) hn
  rw [lg_entry_eq]
  refine wk (p, l, e, rm, s, m, av.toArray, below, meth, c, MQ below (va_Qi (fun r' (_ : Unit) => r' = r) (fun _ t => Wd G μ' t.heap) (gAd G)) av.toArray s rm.cells rm.slots (gAd G)) rfl ⟨B.exec, B.bytes, hml, findClass_of_methodNamed B.named, fun w hw => hts w (List.mem_cons_of_mem _ hw), hK, rfl, hZ, hE⟩ (name_of_methodNamed B.named B.method).1 hb ?_ s.heap [] _ hl hw va_S.rf
  intro pc L d H locs ls a1 b1 e1
  refine W.zret (ty := ty) B.exec B.bytes (B.returns.trans hret) hnr (fun t ht hW => ⟨⟨r, (), rfl, rfl, by show Wd G μ' t.heap; rw [ht]; exact b1⟩, ?_⟩) e1.2.2 d B.notSynchronized
  exact e1.F ht
theorem met_J {G : GL} {l : Launch} {y : MethodName} {cc : ByteArray} {nL : Nat} {ret : Option FieldType} {rm : Room} {b : Bool} {av : List Value} {μ μ' : Mem} {r : Int64} (hy : plainName y.cls = true) (hret : ret = some .long) (hn : (lg_sl av).length ≤ nL)
    (wk : ∀ X : CX, xL X = l → Ctx G X cc nL y.cls rm → (xT X).name = y.name → (b = true → (xS X).heap.size = gZ G + mN μ) → RtJ G nL X cc rm.cells rm.slots r μ' → AW G nL X 0 0 0 (lv_args 0 av) [] μ) : MtJ G l y cc nL ret rm b av μ r μ' := by
  refine Met.ofW (cc := cc) (maxL := nL) (ret := ret) hy rfl ?_
  intro p e s m args below meth c s₁ B hml hv
  obtain ⟨rfl, hw, hK, hZ, hE, hb⟩ := hv
  have hts := atoms_spec (ws := mws y cc nL ret) B.pre
  have hl := lv_entry av (n := nL) hn
  rw [lg_entry_eq]
  refine wk (p, l, e, rm, s, m, av.toArray, below, meth, c, MQ below (va_Ql (fun r' (_ : Unit) => r' = r) (fun _ t => Wd G μ' t.heap) (gAd G)) av.toArray s rm.cells rm.slots (gAd G)) rfl ⟨B.exec, B.bytes, hml, findClass_of_methodNamed B.named, fun w hw => hts w (List.mem_cons_of_mem _ hw), hK, rfl, hZ, hE⟩ (name_of_methodNamed B.named B.method).1 hb ?_ s.heap [] _ hl hw va_S.rf
  intro pc L d H locs ls a1 b1 e1
  refine W.lret B.exec B.bytes (B.returns.trans hret) (fun t ht hW => ⟨⟨r, (), rfl, rfl, by show Wd G μ' t.heap; rw [ht]; exact b1⟩, ?_⟩) e1.2.2 d B.notSynchronized
  exact e1.F ht
theorem met_V {G : GL} {l : Launch} {y : MethodName} {cc : ByteArray} {nL : Nat} {ret : Option FieldType} {rm : Room} {b : Bool} {av : List Value} {μ μ' : Mem} (hy : plainName y.cls = true) (hret : ret = none) (hn : (lg_sl av).length ≤ nL)
    (wk : ∀ X : CX, xL X = l → Ctx G X cc nL y.cls rm → (xT X).name = y.name → (b = true → (xS X).heap.size = gZ G + mN μ) → RtV G nL X cc rm.cells rm.slots μ' → AW G nL X 0 0 0 (lv_args 0 av) [] μ) : MtV G l y cc nL ret rm b av μ μ' := by
  refine Met.ofW (cc := cc) (maxL := nL) (ret := ret) hy rfl ?_
  intro p e s m args below meth c s₁ B hml hv
  obtain ⟨rfl, hw, hK, hZ, hE, hb⟩ := hv
  have hts := atoms_spec (ws := mws y cc nL ret) B.pre
  have hl := lv_entry av (n := nL) hn
  rw [lg_entry_eq]
  refine wk (p, l, e, rm, s, m, av.toArray, below, meth, c, MQ below (va_Qv (fun (_ : Unit) => True) (fun _ t => Wd G μ' t.heap) (gAd G)) av.toArray s rm.cells rm.slots (gAd G)) rfl ⟨B.exec, B.bytes, hml, findClass_of_methodNamed B.named, fun w hw => hts w (List.mem_cons_of_mem _ hw), hK, rfl, hZ, hE⟩ (name_of_methodNamed B.named B.method).1 hb ?_ s.heap [] _ hl hw va_S.rf
  intro pc L d H locs ls a1 b1 e1
  refine W.vret B.exec B.bytes (B.returns.trans hret) (fun t ht hW => ⟨⟨(), rfl, trivial, by show Wd G μ' t.heap; rw [ht]; exact b1⟩, ?_⟩) e1.2.2 d B.notSynchronized
  exact e1.F ht
