section
/-! ===== the memory of a run: how many cells there are; their shapes; ints, longs, references by address and place ===== -/
abbrev Mem : Type := Nat × (Nat → Nat × Nat) × (Nat → Nat → Int32) × (Nat → Nat → Int64) × (Nat → Nat → Option Nat)
def mN (μ : Mem) : Nat := μ.1
def mS (μ : Mem) : Nat → Nat × Nat := μ.2.1
def mI (μ : Mem) : Nat → Nat → Int32 := μ.2.2.1
def mJ (μ : Mem) : Nat → Nat → Int64 := μ.2.2.2.1
def mR (μ : Mem) : Nat → Nat → Option Nat := μ.2.2.2.2
def up2 {α : Type} (f : Nat → Nat → α) (a k : Nat) (v : α) : Nat → Nat → α := fun b j => if b = a ∧ j = k then v else f b j
def wI (μ : Mem) (a k : Nat) (v : Int32) : Mem := (μ.1, μ.2.1, up2 μ.2.2.1 a k v, μ.2.2.2.1, μ.2.2.2.2)
def wJ (μ : Mem) (a k : Nat) (v : Int64) : Mem := (μ.1, μ.2.1, μ.2.2.1, up2 μ.2.2.2.1 a k v, μ.2.2.2.2)
def wR (μ : Mem) (a k : Nat) (v : Nat) : Mem := (μ.1, μ.2.1, μ.2.2.1, μ.2.2.2.1, up2 μ.2.2.2.2 a k (some v))
/-- a new cell of a shape, all its places at their defaults -/
def mNew (μ : Mem) (sh : Nat × Nat) : Mem := (μ.1 + 1, va_up μ.2.1 μ.1 sh, va_up μ.2.2.1 μ.1 (fun _ => 0), va_up μ.2.2.2.1 μ.1 (fun _ => 0), va_up μ.2.2.2.2 μ.1 (fun _ => none))
/-! ===== operations on the memory, as partial functions ===== -/
def gI (c k a : Nat) (μ : Mem) : Option Int32 := if a < mN μ ∧ mS μ a = (0, c) then some (mI μ a k) else none
def gJ (c k a : Nat) (μ : Mem) : Option Int64 := if a < mN μ ∧ mS μ a = (0, c) then some (mJ μ a k) else none
def gR (c k a : Nat) (μ : Mem) : Option Nat := if a < mN μ ∧ mS μ a = (0, c) then mR μ a k else none
def pI (c k a : Nat) (x : Int32) (μ : Mem) : Option Mem := if a < mN μ ∧ mS μ a = (0, c) then some (wI μ a k x) else none
def pZ (c k a : Nat) (x : Int32) (μ : Mem) : Option Mem := if (a < mN μ ∧ mS μ a = (0, c)) ∧ (x = 0 ∨ x = 1) then some (wI μ a k x) else none
def pJ (c k a : Nat) (x : Int64) (μ : Mem) : Option Mem := if a < mN μ ∧ mS μ a = (0, c) then some (wJ μ a k x) else none
def pR (c k a : Nat) (x : Nat) (μ : Mem) : Option Mem := if a < mN μ ∧ mS μ a = (0, c) then some (wR μ a k x) else none
def aOk (kd a : Nat) (i : Int32) (μ : Mem) : Prop := a < mN μ ∧ (mS μ a).1 = kd ∧ ¬ (i < 0 ∨ (mS μ a).2 ≤ i.toNatClampNeg)
def aI (a : Nat) (i : Int32) (μ : Mem) : Option Int32 := if a < mN μ ∧ (mS μ a).1 = 1 ∧ ¬ (i < 0 ∨ (mS μ a).2 ≤ i.toNatClampNeg) then some (mI μ a i.toNatClampNeg) else none
def aJ (a : Nat) (i : Int32) (μ : Mem) : Option Int64 := if a < mN μ ∧ (mS μ a).1 = 2 ∧ ¬ (i < 0 ∨ (mS μ a).2 ≤ i.toNatClampNeg) then some (mJ μ a i.toNatClampNeg) else none
def aZ (a : Nat) (i : Int32) (μ : Mem) : Option Int32 := if a < mN μ ∧ (mS μ a).1 = 3 ∧ ¬ (i < 0 ∨ (mS μ a).2 ≤ i.toNatClampNeg) then some (mI μ a i.toNatClampNeg) else none
def aR (kd a : Nat) (i : Int32) (μ : Mem) : Option Nat := if a < mN μ ∧ (mS μ a).1 = kd ∧ ¬ (i < 0 ∨ (mS μ a).2 ≤ i.toNatClampNeg) then mR μ a i.toNatClampNeg else none
def sI (a : Nat) (i : Int32) (x : Int32) (μ : Mem) : Option Mem := if a < mN μ ∧ (mS μ a).1 = 1 ∧ ¬ (i < 0 ∨ (mS μ a).2 ≤ i.toNatClampNeg) then some (wI μ a i.toNatClampNeg x) else none
def sJ (a : Nat) (i : Int32) (x : Int64) (μ : Mem) : Option Mem := if a < mN μ ∧ (mS μ a).1 = 2 ∧ ¬ (i < 0 ∨ (mS μ a).2 ≤ i.toNatClampNeg) then some (wJ μ a i.toNatClampNeg x) else none
def sZ (a : Nat) (i : Int32) (x : Int32) (μ : Mem) : Option Mem := if (a < mN μ ∧ (mS μ a).1 = 3 ∧ ¬ (i < 0 ∨ (mS μ a).2 ≤ i.toNatClampNeg)) ∧ (x = 0 ∨ x = 1) then some (wI μ a i.toNatClampNeg x) else none
def sR (kd c a : Nat) (i : Int32) (b : Nat) (μ : Mem) : Option Mem := if (a < mN μ ∧ (mS μ a).1 = kd ∧ ¬ (i < 0 ∨ (mS μ a).2 ≤ i.toNatClampNeg)) ∧ (b < mN μ ∧ mS μ b = (0, c)) then some (wR μ a i.toNatClampNeg b) else none
def aL (a : Nat) (μ : Mem) : Option Int32 := if a < mN μ ∧ (mS μ a).1 ≠ 0 ∧ (mS μ a).1 ≤ 7 then some (Int32.ofNat (mS μ a).2) else none
def dvI (x y : Int32) : Option Int32 := if y = 0 then none else some (x / y)
def dvJ (x y : Int64) : Option Int64 := if y = 0 then none else some (x / y)
def rmJ (x y : Int64) : Option Int64 := if y = 0 then none else some (x - x / y * y)
/-- an object of a class stands there -/
def vO (c a : Nat) (μ : Mem) : Option Unit := if a < mN μ ∧ mS μ a = (0, c) then some () else none
/-! ===== new cells: the address that is due is named, so that it can be held against the heap ===== -/
def nO (c b : Nat) (μ : Mem) : Option Mem := if mN μ = b then some (mNew μ (0, c)) else none
def nA (kd b : Nat) (n : Int32) (μ : Mem) : Option Mem := if mN μ = b ∧ ¬ n < 0 then some (mNew μ (kd, n.toNatClampNeg)) else none
def mGrid (μ : Mem) (N K : Nat) : Mem := (μ.1 + 1 + N, (fun a => if a = μ.1 then (7, N) else if μ.1 < a ∧ a ≤ μ.1 + N then (1, K) else μ.2.1 a), (fun a => if μ.1 ≤ a ∧ a ≤ μ.1 + N then fun _ => 0 else μ.2.2.1 a), (fun a => if μ.1 ≤ a ∧ a ≤ μ.1 + N then fun _ => 0 else μ.2.2.2.1 a), (fun a => if a = μ.1 then (fun j => if j < N then some (μ.1 + 1 + j) else none) else if μ.1 < a ∧ a ≤ μ.1 + N then fun _ => none else μ.2.2.2.2 a))
def nM (b : Nat) (n k : Int32) (μ : Mem) : Option Mem := if mN μ = b ∧ ¬ n < 0 ∧ ¬ k < 0 then some (mGrid μ n.toNatClampNeg k.toNatClampNeg) else none
def gN (b : Nat) (μ : Mem) : Option Unit := if mN μ = b then some () else none
/-! ===== the nine text constants ===== -/
def sLens : List Nat := [5, 3, 5, 4, 5, 4, 2, 6, 4]
def sByts : List (List Int32) := [[110, 101, 118, 101, 114], [119, 97, 121], [115, 116, 97, 116, 101], [107, 105, 110, 100], [97, 102, 116, 101, 114], [109, 111, 115, 116], [105, 110], [97, 108, 119, 97, 121, 115], [102, 114, 111, 109]]
def sLen (j : Nat) : Int32 := Int32.ofNat (sLens.getD j 0)
def sLe (j : Nat) : Option Int32 := if j < 9 then some (sLen j) else none
def sChr (j : Nat) (i : Int32) : Option Int32 := if j < 9 ∧ ¬ (i < 0 ∨ sLens.getD j 0 ≤ i.toNatClampNeg) then some ((sByts.getD j []).getD i.toNatClampNeg 0) else none
/-- the script: an int at a place that there is -/
def xsA (xs : Nat → Int32) (n : Nat) (i : Int32) : Option Int32 := if ¬ (i < 0 ∨ n ≤ i.toNatClampNeg) then some (xs i.toNatClampNeg) else none
/-! ===== small helps ===== -/
def FU : Nat := 100000
theorem bindE {α β : Type} {o : Option α} {f : α → Option β} {b : β} (h : o.bind f = some b) : ∃ a, o = some a ∧ f a = some b := Option.bind_eq_some_iff.mp h
theorem bindS {α β : Type} {a : α} {f : α → Option β} {b : β} (h : (some a).bind f = some b) : ∃ x, a = x ∧ f x = some b := ⟨a, rfl, h⟩
theorem inj1 {α : Type} {a b : α} (h : some a = some b) : a = b := Option.some.inj h
theorem inj2 {α β : Type} {a c : α} {b d : β} (h : some (a, b) = some (c, d)) : a = c ∧ b = d := ⟨congrArg Prod.fst (Option.some.inj h), congrArg Prod.snd (Option.some.inj h)⟩
/-- a boolean is 0 or 1 -/
def zz (v : Int32) : Option Int32 := if v = 0 ∨ v = 1 then some v else none
theorem zzE {v w : Int32} (h : zz v = some w) : v = w ∧ (w = 0 ∨ w = 1) := by
  unfold zz at h
  split at h
  · cases h
    exact ⟨rfl, by assumption⟩
  · cases h
end
section
-- ===== PART A: goes FIRST, ahead of the names: the tables' words, and 'selects' of the private methods out of them =====
/-- a private method of a class that the tables say can be made, by its rows of tables_1 -/
def lw_okq (q : MethodName × Nat) : Prop := (q.1.cls ≠ "java/lang/invoke/MethodHandle" ∧ q.1.cls ≠ "java/lang/invoke/VarHandle") ∧ Cond.instantiable q.1.cls q.2 ∈ tables_1 ∧ Cond.privateMethod q.1 ∈ tables_1 ∧ Cond.instanceMethod q.1 ∈ tables_1
theorem lw_p0 : lw_okq (⟨"WhenToSpeak$Work", "weigh", "(IIZ)V"⟩, 8) := ⟨⟨by decide +kernel, by decide +kernel⟩, List.mem_of_getElem? (i := 28) (by decide +kernel), List.mem_of_getElem? (i := 449) (by decide +kernel), List.mem_of_getElem? (i := 450) (by decide +kernel)⟩
theorem lw_p1 : lw_okq (⟨"WhenToSpeak$Work", "signFactor", "(IIZ)J"⟩, 8) := ⟨⟨by decide +kernel, by decide +kernel⟩, List.mem_of_getElem? (i := 28) (by decide +kernel), List.mem_of_getElem? (i := 456) (by decide +kernel), List.mem_of_getElem? (i := 457) (by decide +kernel)⟩
theorem lw_p2 : lw_okq (⟨"WhenToSpeak$Work", "allWeights", "()J"⟩, 8) := ⟨⟨by decide +kernel, by decide +kernel⟩, List.mem_of_getElem? (i := 28) (by decide +kernel), List.mem_of_getElem? (i := 460) (by decide +kernel), List.mem_of_getElem? (i := 461) (by decide +kernel)⟩
theorem lw_p3 : lw_okq (⟨"WhenToSpeak$Work", "moveOn", "([I[I)V"⟩, 8) := ⟨⟨by decide +kernel, by decide +kernel⟩, List.mem_of_getElem? (i := 28) (by decide +kernel), List.mem_of_getElem? (i := 476) (by decide +kernel), List.mem_of_getElem? (i := 477) (by decide +kernel)⟩
theorem lw_p4 : lw_okq (⟨"WhenToSpeak$Book", "isTold", "(I)Z"⟩, 4) := ⟨⟨by decide +kernel, by decide +kernel⟩, List.mem_of_getElem? (i := 88) (by decide +kernel), List.mem_of_getElem? (i := 521) (by decide +kernel), List.mem_of_getElem? (i := 522) (by decide +kernel)⟩
theorem lw_p5 : lw_okq (⟨"WhenToSpeak$LawText", "skipBlanks", "()V"⟩, 5) := ⟨⟨by decide +kernel, by decide +kernel⟩, List.mem_of_getElem? (i := 198) (by decide +kernel), List.mem_of_getElem? (i := 588) (by decide +kernel), List.mem_of_getElem? (i := 589) (by decide +kernel)⟩
theorem lw_p6 : lw_okq (⟨"WhenToSpeak$LawText", "readClause", "(LWhenToSpeak$Laws;)V"⟩, 5) := ⟨⟨by decide +kernel, by decide +kernel⟩, List.mem_of_getElem? (i := 198) (by decide +kernel), List.mem_of_getElem? (i := 592) (by decide +kernel), List.mem_of_getElem? (i := 593) (by decide +kernel)⟩
theorem lw_p7 : lw_okq (⟨"WhenToSpeak$LawText", "takeWord", "(Ljava/lang/String;)Z"⟩, 5) := ⟨⟨by decide +kernel, by decide +kernel⟩, List.mem_of_getElem? (i := 198) (by decide +kernel), List.mem_of_getElem? (i := 597) (by decide +kernel), List.mem_of_getElem? (i := 598) (by decide +kernel)⟩
theorem lw_p8 : lw_okq (⟨"WhenToSpeak$LawText", "refuseNinth", "(LWhenToSpeak$Laws;I)V"⟩, 5) := ⟨⟨by decide +kernel, by decide +kernel⟩, List.mem_of_getElem? (i := 198) (by decide +kernel), List.mem_of_getElem? (i := 649) (by decide +kernel), List.mem_of_getElem? (i := 650) (by decide +kernel)⟩
theorem lw_p9 : lw_okq (⟨"WhenToSpeak$LawText", "note", "(II)V"⟩, 5) := ⟨⟨by decide +kernel, by decide +kernel⟩, List.mem_of_getElem? (i := 198) (by decide +kernel), List.mem_of_getElem? (i := 653) (by decide +kernel), List.mem_of_getElem? (i := 654) (by decide +kernel)⟩
theorem lw_p10 : lw_okq (⟨"WhenToSpeak$LawText", "readNever", "(LWhenToSpeak$Laws;)V"⟩, 5) := ⟨⟨by decide +kernel, by decide +kernel⟩, List.mem_of_getElem? (i := 198) (by decide +kernel), List.mem_of_getElem? (i := 657) (by decide +kernel), List.mem_of_getElem? (i := 658) (by decide +kernel)⟩
theorem lw_p11 : lw_okq (⟨"WhenToSpeak$LawText", "takeNumber", "(II)I"⟩, 5) := ⟨⟨by decide +kernel, by decide +kernel⟩, List.mem_of_getElem? (i := 198) (by decide +kernel), List.mem_of_getElem? (i := 662) (by decide +kernel), List.mem_of_getElem? (i := 663) (by decide +kernel)⟩
theorem lw_p12 : lw_okq (⟨"WhenToSpeak$LawText", "finish", "(LWhenToSpeak$Laws;IIII)V"⟩, 5) := ⟨⟨by decide +kernel, by decide +kernel⟩, List.mem_of_getElem? (i := 198) (by decide +kernel), List.mem_of_getElem? (i := 668) (by decide +kernel), List.mem_of_getElem? (i := 669) (by decide +kernel)⟩
theorem lw_p13 : lw_okq (⟨"WhenToSpeak$LawText", "needWord", "(Ljava/lang/String;)V"⟩, 5) := ⟨⟨by decide +kernel, by decide +kernel⟩, List.mem_of_getElem? (i := 198) (by decide +kernel), List.mem_of_getElem? (i := 677) (by decide +kernel), List.mem_of_getElem? (i := 678) (by decide +kernel)⟩
theorem lw_p14 : lw_okq (⟨"WhenToSpeak", "barNow", "(III)I"⟩, 11) := ⟨⟨by decide +kernel, by decide +kernel⟩, List.mem_of_getElem? (i := 20) (by decide +kernel), List.mem_of_getElem? (i := 699) (by decide +kernel), List.mem_of_getElem? (i := 700) (by decide +kernel)⟩
theorem lw_p15 : lw_okq (⟨"WhenToSpeak$Laws", "isLikely", "(I[I)Z"⟩, 5) := ⟨⟨by decide +kernel, by decide +kernel⟩, List.mem_of_getElem? (i := 344) (by decide +kernel), List.mem_of_getElem? (i := 719) (by decide +kernel), List.mem_of_getElem? (i := 720) (by decide +kernel)⟩
def lw_privs_1 : List (MethodName × Nat) := [(⟨"WhenToSpeak$Work", "weigh", "(IIZ)V"⟩, 8), (⟨"WhenToSpeak$Work", "signFactor", "(IIZ)J"⟩, 8), (⟨"WhenToSpeak$Work", "allWeights", "()J"⟩, 8), (⟨"WhenToSpeak$Work", "moveOn", "([I[I)V"⟩, 8), (⟨"WhenToSpeak$Book", "isTold", "(I)Z"⟩, 4), (⟨"WhenToSpeak$LawText", "skipBlanks", "()V"⟩, 5), (⟨"WhenToSpeak$LawText", "readClause", "(LWhenToSpeak$Laws;)V"⟩, 5), (⟨"WhenToSpeak$LawText", "takeWord", "(Ljava/lang/String;)Z"⟩, 5), (⟨"WhenToSpeak$LawText", "refuseNinth", "(LWhenToSpeak$Laws;I)V"⟩, 5), (⟨"WhenToSpeak$LawText", "note", "(II)V"⟩, 5), (⟨"WhenToSpeak$LawText", "readNever", "(LWhenToSpeak$Laws;)V"⟩, 5), (⟨"WhenToSpeak$LawText", "takeNumber", "(II)I"⟩, 5), (⟨"WhenToSpeak$LawText", "finish", "(LWhenToSpeak$Laws;IIII)V"⟩, 5), (⟨"WhenToSpeak$LawText", "needWord", "(Ljava/lang/String;)V"⟩, 5), (⟨"WhenToSpeak", "barNow", "(III)I"⟩, 11), (⟨"WhenToSpeak$Laws", "isLikely", "(I[I)Z"⟩, 5)]
theorem lw_r1 : ∀ q ∈ lw_privs_1, lw_okq q := List.forall_mem_cons.mpr ⟨lw_p0, List.forall_mem_cons.mpr ⟨lw_p1, List.forall_mem_cons.mpr ⟨lw_p2, List.forall_mem_cons.mpr ⟨lw_p3, List.forall_mem_cons.mpr ⟨lw_p4, List.forall_mem_cons.mpr ⟨lw_p5, List.forall_mem_cons.mpr ⟨lw_p6, List.forall_mem_cons.mpr ⟨lw_p7, List.forall_mem_cons.mpr ⟨lw_p8, List.forall_mem_cons.mpr ⟨lw_p9, List.forall_mem_cons.mpr ⟨lw_p10, List.forall_mem_cons.mpr ⟨lw_p11, List.forall_mem_cons.mpr ⟨lw_p12, List.forall_mem_cons.mpr ⟨lw_p13, List.forall_mem_cons.mpr ⟨lw_p14, List.forall_mem_cons.mpr ⟨lw_p15, fun _ h => absurd h List.not_mem_nil⟩⟩⟩⟩⟩⟩⟩⟩⟩⟩⟩⟩⟩⟩⟩⟩
theorem lw_p16 : lw_okq (⟨"WhenToSpeak$Planner", "pick", "(II)V"⟩, 19) := ⟨⟨by decide +kernel, by decide +kernel⟩, List.mem_of_getElem? (i := 241) (by decide +kernel), List.mem_of_getElem? (i := 761) (by decide +kernel), List.mem_of_getElem? (i := 762) (by decide +kernel)⟩
theorem lw_p17 : lw_okq (⟨"WhenToSpeak$Planner", "price", "(IILWhenToSpeak$Laws;)V"⟩, 19) := ⟨⟨by decide +kernel, by decide +kernel⟩, List.mem_of_getElem? (i := 241) (by decide +kernel), List.mem_of_getElem? (i := 768) (by decide +kernel), List.mem_of_getElem? (i := 769) (by decide +kernel)⟩
theorem lw_p18 : lw_okq (⟨"WhenToSpeak$Planner", "priceSet", "(II)V"⟩, 19) := ⟨⟨by decide +kernel, by decide +kernel⟩, List.mem_of_getElem? (i := 241) (by decide +kernel), List.mem_of_getElem? (i := 784) (by decide +kernel), List.mem_of_getElem? (i := 785) (by decide +kernel)⟩
theorem lw_p19 : lw_okq (⟨"WhenToSpeak$Planner", "mostBarsAt", "(IIIILWhenToSpeak$Laws;)Z"⟩, 19) := ⟨⟨by decide +kernel, by decide +kernel⟩, List.mem_of_getElem? (i := 241) (by decide +kernel), List.mem_of_getElem? (i := 790) (by decide +kernel), List.mem_of_getElem? (i := 791) (by decide +kernel)⟩
theorem lw_p20 : lw_okq (⟨"WhenToSpeak$Planner", "decide", "(IIIZ)I"⟩, 19) := ⟨⟨by decide +kernel, by decide +kernel⟩, List.mem_of_getElem? (i := 241) (by decide +kernel), List.mem_of_getElem? (i := 795) (by decide +kernel), List.mem_of_getElem? (i := 796) (by decide +kernel)⟩
theorem lw_p21 : lw_okq (⟨"WhenToSpeak$Planner", "nodeBehind", "(IZ)I"⟩, 19) := ⟨⟨by decide +kernel, by decide +kernel⟩, List.mem_of_getElem? (i := 241) (by decide +kernel), List.mem_of_getElem? (i := 799) (by decide +kernel), List.mem_of_getElem? (i := 800) (by decide +kernel)⟩
theorem lw_p22 : lw_okq (⟨"WhenToSpeak$Planner", "total", "(II)I"⟩, 19) := ⟨⟨by decide +kernel, by decide +kernel⟩, List.mem_of_getElem? (i := 241) (by decide +kernel), List.mem_of_getElem? (i := 803) (by decide +kernel), List.mem_of_getElem? (i := 804) (by decide +kernel)⟩
theorem lw_p23 : lw_okq (⟨"WhenToSpeak$Planner", "tell", "(IILWhenToSpeak$Laws;)V"⟩, 19) := ⟨⟨by decide +kernel, by decide +kernel⟩, List.mem_of_getElem? (i := 241) (by decide +kernel), List.mem_of_getElem? (i := 809) (by decide +kernel), List.mem_of_getElem? (i := 810) (by decide +kernel)⟩
theorem lw_p24 : lw_okq (⟨"WhenToSpeak$Trial", "sayIn", "(IIZ)V"⟩, 8) := ⟨⟨by decide +kernel, by decide +kernel⟩, List.mem_of_getElem? (i := 310) (by decide +kernel), List.mem_of_getElem? (i := 877) (by decide +kernel), List.mem_of_getElem? (i := 878) (by decide +kernel)⟩
theorem lw_p25 : lw_okq (⟨"WhenToSpeak$Trial", "isLeft", "(II)Z"⟩, 8) := ⟨⟨by decide +kernel, by decide +kernel⟩, List.mem_of_getElem? (i := 310) (by decide +kernel), List.mem_of_getElem? (i := 882) (by decide +kernel), List.mem_of_getElem? (i := 883) (by decide +kernel)⟩
theorem lw_p26 : lw_okq (⟨"WhenToSpeakModel", "findRows", "(II)V"⟩, 51) := ⟨⟨by decide +kernel, by decide +kernel⟩, List.mem_of_getElem? (i := 888) (by decide +kernel), List.mem_of_getElem? (i := 1091) (by decide +kernel), List.mem_of_getElem? (i := 1092) (by decide +kernel)⟩
theorem lw_p27 : lw_okq (⟨"WhenToSpeakModel", "showsAt", "(III)I"⟩, 51) := ⟨⟨by decide +kernel, by decide +kernel⟩, List.mem_of_getElem? (i := 888) (by decide +kernel), List.mem_of_getElem? (i := 1095) (by decide +kernel), List.mem_of_getElem? (i := 1096) (by decide +kernel)⟩
theorem lw_p28 : lw_okq (⟨"WhenToSpeakModel", "findOdds", "(III)V"⟩, 51) := ⟨⟨by decide +kernel, by decide +kernel⟩, List.mem_of_getElem? (i := 888) (by decide +kernel), List.mem_of_getElem? (i := 1104) (by decide +kernel), List.mem_of_getElem? (i := 1105) (by decide +kernel)⟩
theorem lw_p29 : lw_okq (⟨"WhenToSpeakModel", "seamOdds", "(III)I"⟩, 51) := ⟨⟨by decide +kernel, by decide +kernel⟩, List.mem_of_getElem? (i := 888) (by decide +kernel), List.mem_of_getElem? (i := 1113) (by decide +kernel), List.mem_of_getElem? (i := 1114) (by decide +kernel)⟩
theorem lw_p30 : lw_okq (⟨"WhenToSpeakModel", "isThing", "(I)Z"⟩, 51) := ⟨⟨by decide +kernel, by decide +kernel⟩, List.mem_of_getElem? (i := 888) (by decide +kernel), List.mem_of_getElem? (i := 1134) (by decide +kernel), List.mem_of_getElem? (i := 1135) (by decide +kernel)⟩
theorem lw_p31 : lw_okq (⟨"WhenToSpeakModel", "sayingsOf", "(I)I"⟩, 51) := ⟨⟨by decide +kernel, by decide +kernel⟩, List.mem_of_getElem? (i := 888) (by decide +kernel), List.mem_of_getElem? (i := 1138) (by decide +kernel), List.mem_of_getElem? (i := 1139) (by decide +kernel)⟩
def lw_privs_2 : List (MethodName × Nat) := [(⟨"WhenToSpeak$Planner", "pick", "(II)V"⟩, 19), (⟨"WhenToSpeak$Planner", "price", "(IILWhenToSpeak$Laws;)V"⟩, 19), (⟨"WhenToSpeak$Planner", "priceSet", "(II)V"⟩, 19), (⟨"WhenToSpeak$Planner", "mostBarsAt", "(IIIILWhenToSpeak$Laws;)Z"⟩, 19), (⟨"WhenToSpeak$Planner", "decide", "(IIIZ)I"⟩, 19), (⟨"WhenToSpeak$Planner", "nodeBehind", "(IZ)I"⟩, 19), (⟨"WhenToSpeak$Planner", "total", "(II)I"⟩, 19), (⟨"WhenToSpeak$Planner", "tell", "(IILWhenToSpeak$Laws;)V"⟩, 19), (⟨"WhenToSpeak$Trial", "sayIn", "(IIZ)V"⟩, 8), (⟨"WhenToSpeak$Trial", "isLeft", "(II)Z"⟩, 8), (⟨"WhenToSpeakModel", "findRows", "(II)V"⟩, 51), (⟨"WhenToSpeakModel", "showsAt", "(III)I"⟩, 51), (⟨"WhenToSpeakModel", "findOdds", "(III)V"⟩, 51), (⟨"WhenToSpeakModel", "seamOdds", "(III)I"⟩, 51), (⟨"WhenToSpeakModel", "isThing", "(I)Z"⟩, 51), (⟨"WhenToSpeakModel", "sayingsOf", "(I)I"⟩, 51)]
theorem lw_r2 : ∀ q ∈ lw_privs_2, lw_okq q := List.forall_mem_cons.mpr ⟨lw_p16, List.forall_mem_cons.mpr ⟨lw_p17, List.forall_mem_cons.mpr ⟨lw_p18, List.forall_mem_cons.mpr ⟨lw_p19, List.forall_mem_cons.mpr ⟨lw_p20, List.forall_mem_cons.mpr ⟨lw_p21, List.forall_mem_cons.mpr ⟨lw_p22, List.forall_mem_cons.mpr ⟨lw_p23, List.forall_mem_cons.mpr ⟨lw_p24, List.forall_mem_cons.mpr ⟨lw_p25, List.forall_mem_cons.mpr ⟨lw_p26, List.forall_mem_cons.mpr ⟨lw_p27, List.forall_mem_cons.mpr ⟨lw_p28, List.forall_mem_cons.mpr ⟨lw_p29, List.forall_mem_cons.mpr ⟨lw_p30, List.forall_mem_cons.mpr ⟨lw_p31, fun _ h => absurd h List.not_mem_nil⟩⟩⟩⟩⟩⟩⟩⟩⟩⟩⟩⟩⟩⟩⟩⟩
theorem lw_p32 : lw_okq (⟨"WhenToSpeakModel", "stateOf", "(I)I"⟩, 51) := ⟨⟨by decide +kernel, by decide +kernel⟩, List.mem_of_getElem? (i := 888) (by decide +kernel), List.mem_of_getElem? (i := 1146) (by decide +kernel), List.mem_of_getElem? (i := 1147) (by decide +kernel)⟩
theorem lw_p33 : lw_okq (⟨"WhenToSpeakModel", "isTold", "(I)Z"⟩, 51) := ⟨⟨by decide +kernel, by decide +kernel⟩, List.mem_of_getElem? (i := 888) (by decide +kernel), List.mem_of_getElem? (i := 1150) (by decide +kernel), List.mem_of_getElem? (i := 1151) (by decide +kernel)⟩
theorem lw_p34 : lw_okq (⟨"WhenToSpeakModel", "valueOf", "(III)I"⟩, 51) := ⟨⟨by decide +kernel, by decide +kernel⟩, List.mem_of_getElem? (i := 888) (by decide +kernel), List.mem_of_getElem? (i := 1158) (by decide +kernel), List.mem_of_getElem? (i := 1159) (by decide +kernel)⟩
theorem lw_p35 : lw_okq (⟨"WhenToSpeakModel", "lossOf", "(IIII)I"⟩, 51) := ⟨⟨by decide +kernel, by decide +kernel⟩, List.mem_of_getElem? (i := 888) (by decide +kernel), List.mem_of_getElem? (i := 1178) (by decide +kernel), List.mem_of_getElem? (i := 1179) (by decide +kernel)⟩
theorem lw_p36 : lw_okq (⟨"WhenToSpeakModel", "thingsThat", "(I)I"⟩, 51) := ⟨⟨by decide +kernel, by decide +kernel⟩, List.mem_of_getElem? (i := 888) (by decide +kernel), List.mem_of_getElem? (i := 1187) (by decide +kernel), List.mem_of_getElem? (i := 1188) (by decide +kernel)⟩
theorem lw_p37 : lw_okq (⟨"WhenToSpeakModel", "here", "()I"⟩, 51) := ⟨⟨by decide +kernel, by decide +kernel⟩, List.mem_of_getElem? (i := 888) (by decide +kernel), List.mem_of_getElem? (i := 1200) (by decide +kernel), List.mem_of_getElem? (i := 1201) (by decide +kernel)⟩
theorem lw_p38 : lw_okq (⟨"WhenToSpeakModel", "readClause", "(I)I"⟩, 51) := ⟨⟨by decide +kernel, by decide +kernel⟩, List.mem_of_getElem? (i := 888) (by decide +kernel), List.mem_of_getElem? (i := 1204) (by decide +kernel), List.mem_of_getElem? (i := 1205) (by decide +kernel)⟩
theorem lw_p39 : lw_okq (⟨"WhenToSpeakModel", "readWord", "()V"⟩, 51) := ⟨⟨by decide +kernel, by decide +kernel⟩, List.mem_of_getElem? (i := 888) (by decide +kernel), List.mem_of_getElem? (i := 1208) (by decide +kernel), List.mem_of_getElem? (i := 1209) (by decide +kernel)⟩
theorem lw_p40 : lw_okq (⟨"WhenToSpeakModel", "fails", "(II)I"⟩, 51) := ⟨⟨by decide +kernel, by decide +kernel⟩, List.mem_of_getElem? (i := 888) (by decide +kernel), List.mem_of_getElem? (i := 1221) (by decide +kernel), List.mem_of_getElem? (i := 1222) (by decide +kernel)⟩
theorem lw_p41 : lw_okq (⟨"WhenToSpeakModel", "readNever", "(I)I"⟩, 51) := ⟨⟨by decide +kernel, by decide +kernel⟩, List.mem_of_getElem? (i := 888) (by decide +kernel), List.mem_of_getElem? (i := 1225) (by decide +kernel), List.mem_of_getElem? (i := 1226) (by decide +kernel)⟩
theorem lw_p42 : lw_okq (⟨"WhenToSpeakModel", "readWay", "(I)I"⟩, 51) := ⟨⟨by decide +kernel, by decide +kernel⟩, List.mem_of_getElem? (i := 888) (by decide +kernel), List.mem_of_getElem? (i := 1229) (by decide +kernel), List.mem_of_getElem? (i := 1230) (by decide +kernel)⟩
theorem lw_p43 : lw_okq (⟨"WhenToSpeakModel", "readNumber", "(II)I"⟩, 51) := ⟨⟨by decide +kernel, by decide +kernel⟩, List.mem_of_getElem? (i := 888) (by decide +kernel), List.mem_of_getElem? (i := 1233) (by decide +kernel), List.mem_of_getElem? (i := 1234) (by decide +kernel)⟩
theorem lw_p44 : lw_okq (⟨"WhenToSpeakModel", "needs", "(J)I"⟩, 51) := ⟨⟨by decide +kernel, by decide +kernel⟩, List.mem_of_getElem? (i := 888) (by decide +kernel), List.mem_of_getElem? (i := 1239) (by decide +kernel), List.mem_of_getElem? (i := 1240) (by decide +kernel)⟩
theorem lw_p45 : lw_okq (⟨"WhenToSpeakModel", "readMost", "(I)I"⟩, 51) := ⟨⟨by decide +kernel, by decide +kernel⟩, List.mem_of_getElem? (i := 888) (by decide +kernel), List.mem_of_getElem? (i := 1243) (by decide +kernel), List.mem_of_getElem? (i := 1244) (by decide +kernel)⟩
theorem lw_p46 : lw_okq (⟨"WhenToSpeakModel", "readAlways", "(I)I"⟩, 51) := ⟨⟨by decide +kernel, by decide +kernel⟩, List.mem_of_getElem? (i := 888) (by decide +kernel), List.mem_of_getElem? (i := 1247) (by decide +kernel), List.mem_of_getElem? (i := 1248) (by decide +kernel)⟩
theorem lw_p47 : lw_okq (⟨"WhenToSpeakModel", "areThings", "(I)Z"⟩, 51) := ⟨⟨by decide +kernel, by decide +kernel⟩, List.mem_of_getElem? (i := 888) (by decide +kernel), List.mem_of_getElem? (i := 1259) (by decide +kernel), List.mem_of_getElem? (i := 1260) (by decide +kernel)⟩
def lw_privs_3 : List (MethodName × Nat) := [(⟨"WhenToSpeakModel", "stateOf", "(I)I"⟩, 51), (⟨"WhenToSpeakModel", "isTold", "(I)Z"⟩, 51), (⟨"WhenToSpeakModel", "valueOf", "(III)I"⟩, 51), (⟨"WhenToSpeakModel", "lossOf", "(IIII)I"⟩, 51), (⟨"WhenToSpeakModel", "thingsThat", "(I)I"⟩, 51), (⟨"WhenToSpeakModel", "here", "()I"⟩, 51), (⟨"WhenToSpeakModel", "readClause", "(I)I"⟩, 51), (⟨"WhenToSpeakModel", "readWord", "()V"⟩, 51), (⟨"WhenToSpeakModel", "fails", "(II)I"⟩, 51), (⟨"WhenToSpeakModel", "readNever", "(I)I"⟩, 51), (⟨"WhenToSpeakModel", "readWay", "(I)I"⟩, 51), (⟨"WhenToSpeakModel", "readNumber", "(II)I"⟩, 51), (⟨"WhenToSpeakModel", "needs", "(J)I"⟩, 51), (⟨"WhenToSpeakModel", "readMost", "(I)I"⟩, 51), (⟨"WhenToSpeakModel", "readAlways", "(I)I"⟩, 51), (⟨"WhenToSpeakModel", "areThings", "(I)Z"⟩, 51)]
theorem lw_r3 : ∀ q ∈ lw_privs_3, lw_okq q := List.forall_mem_cons.mpr ⟨lw_p32, List.forall_mem_cons.mpr ⟨lw_p33, List.forall_mem_cons.mpr ⟨lw_p34, List.forall_mem_cons.mpr ⟨lw_p35, List.forall_mem_cons.mpr ⟨lw_p36, List.forall_mem_cons.mpr ⟨lw_p37, List.forall_mem_cons.mpr ⟨lw_p38, List.forall_mem_cons.mpr ⟨lw_p39, List.forall_mem_cons.mpr ⟨lw_p40, List.forall_mem_cons.mpr ⟨lw_p41, List.forall_mem_cons.mpr ⟨lw_p42, List.forall_mem_cons.mpr ⟨lw_p43, List.forall_mem_cons.mpr ⟨lw_p44, List.forall_mem_cons.mpr ⟨lw_p45, List.forall_mem_cons.mpr ⟨lw_p46, List.forall_mem_cons.mpr ⟨lw_p47, fun _ h => absurd h List.not_mem_nil⟩⟩⟩⟩⟩⟩⟩⟩⟩⟩⟩⟩⟩⟩⟩⟩
theorem lw_p48 : lw_okq (⟨"WhenToSpeakModel", "barring", "(IIIII)I"⟩, 51) := ⟨⟨by decide +kernel, by decide +kernel⟩, List.mem_of_getElem? (i := 888) (by decide +kernel), List.mem_of_getElem? (i := 1263) (by decide +kernel), List.mem_of_getElem? (i := 1264) (by decide +kernel)⟩
theorem lw_p49 : lw_okq (⟨"WhenToSpeakModel", "areAlways", "(II)Z"⟩, 51) := ⟨⟨by decide +kernel, by decide +kernel⟩, List.mem_of_getElem? (i := 888) (by decide +kernel), List.mem_of_getElem? (i := 1267) (by decide +kernel), List.mem_of_getElem? (i := 1268) (by decide +kernel)⟩
theorem lw_p50 : lw_okq (⟨"WhenToSpeakModel", "isAlways", "(II)Z"⟩, 51) := ⟨⟨by decide +kernel, by decide +kernel⟩, List.mem_of_getElem? (i := 888) (by decide +kernel), List.mem_of_getElem? (i := 1271) (by decide +kernel), List.mem_of_getElem? (i := 1272) (by decide +kernel)⟩
theorem lw_p51 : lw_okq (⟨"WhenToSpeakModel", "isWayBarred", "(III)Z"⟩, 51) := ⟨⟨by decide +kernel, by decide +kernel⟩, List.mem_of_getElem? (i := 888) (by decide +kernel), List.mem_of_getElem? (i := 1275) (by decide +kernel), List.mem_of_getElem? (i := 1276) (by decide +kernel)⟩
theorem lw_p52 : lw_okq (⟨"WhenToSpeakModel", "isKindBarred", "(III)Z"⟩, 51) := ⟨⟨by decide +kernel, by decide +kernel⟩, List.mem_of_getElem? (i := 888) (by decide +kernel), List.mem_of_getElem? (i := 1279) (by decide +kernel), List.mem_of_getElem? (i := 1280) (by decide +kernel)⟩
theorem lw_p53 : lw_okq (⟨"WhenToSpeakModel", "areMost", "(III)Z"⟩, 51) := ⟨⟨by decide +kernel, by decide +kernel⟩, List.mem_of_getElem? (i := 888) (by decide +kernel), List.mem_of_getElem? (i := 1283) (by decide +kernel), List.mem_of_getElem? (i := 1284) (by decide +kernel)⟩
theorem lw_p54 : lw_okq (⟨"WhenToSpeakModel", "findPlans", "(II)V"⟩, 51) := ⟨⟨by decide +kernel, by decide +kernel⟩, List.mem_of_getElem? (i := 888) (by decide +kernel), List.mem_of_getElem? (i := 1292) (by decide +kernel), List.mem_of_getElem? (i := 1293) (by decide +kernel)⟩
theorem lw_p55 : lw_okq (⟨"WhenToSpeakModel", "findGain", "(III)V"⟩, 51) := ⟨⟨by decide +kernel, by decide +kernel⟩, List.mem_of_getElem? (i := 888) (by decide +kernel), List.mem_of_getElem? (i := 1296) (by decide +kernel), List.mem_of_getElem? (i := 1297) (by decide +kernel)⟩
theorem lw_p56 : lw_okq (⟨"WhenToSpeakModel", "setOf", "(I)I"⟩, 51) := ⟨⟨by decide +kernel, by decide +kernel⟩, List.mem_of_getElem? (i := 888) (by decide +kernel), List.mem_of_getElem? (i := 1300) (by decide +kernel), List.mem_of_getElem? (i := 1301) (by decide +kernel)⟩
theorem lw_p57 : lw_okq (⟨"WhenToSpeakModel", "isOneMatter", "(I)Z"⟩, 51) := ⟨⟨by decide +kernel, by decide +kernel⟩, List.mem_of_getElem? (i := 888) (by decide +kernel), List.mem_of_getElem? (i := 1305) (by decide +kernel), List.mem_of_getElem? (i := 1306) (by decide +kernel)⟩
theorem lw_p58 : lw_okq (⟨"WhenToSpeakModel", "isMust", "(I)Z"⟩, 51) := ⟨⟨by decide +kernel, by decide +kernel⟩, List.mem_of_getElem? (i := 888) (by decide +kernel), List.mem_of_getElem? (i := 1309) (by decide +kernel), List.mem_of_getElem? (i := 1310) (by decide +kernel)⟩
theorem lw_p59 : lw_okq (⟨"WhenToSpeakModel", "by", "(IIIII)I"⟩, 51) := ⟨⟨by decide +kernel, by decide +kernel⟩, List.mem_of_getElem? (i := 888) (by decide +kernel), List.mem_of_getElem? (i := 1316) (by decide +kernel), List.mem_of_getElem? (i := 1317) (by decide +kernel)⟩
theorem lw_p60 : lw_okq (⟨"WhenToSpeakModel", "deadOf", "(I)I"⟩, 51) := ⟨⟨by decide +kernel, by decide +kernel⟩, List.mem_of_getElem? (i := 888) (by decide +kernel), List.mem_of_getElem? (i := 1324) (by decide +kernel), List.mem_of_getElem? (i := 1325) (by decide +kernel)⟩
theorem lw_p61 : lw_okq (⟨"WhenToSpeakModel", "areFor", "(II)Z"⟩, 51) := ⟨⟨by decide +kernel, by decide +kernel⟩, List.mem_of_getElem? (i := 888) (by decide +kernel), List.mem_of_getElem? (i := 1328) (by decide +kernel), List.mem_of_getElem? (i := 1329) (by decide +kernel)⟩
theorem lw_p62 : lw_okq (⟨"WhenToSpeakModel", "isSaying", "(I)Z"⟩, 51) := ⟨⟨by decide +kernel, by decide +kernel⟩, List.mem_of_getElem? (i := 888) (by decide +kernel), List.mem_of_getElem? (i := 1336) (by decide +kernel), List.mem_of_getElem? (i := 1337) (by decide +kernel)⟩
theorem lw_p63 : lw_okq (⟨"WhenToSpeakModel", "cameOf", "(IZ)I"⟩, 51) := ⟨⟨by decide +kernel, by decide +kernel⟩, List.mem_of_getElem? (i := 888) (by decide +kernel), List.mem_of_getElem? (i := 1348) (by decide +kernel), List.mem_of_getElem? (i := 1349) (by decide +kernel)⟩
def lw_privs_4 : List (MethodName × Nat) := [(⟨"WhenToSpeakModel", "barring", "(IIIII)I"⟩, 51), (⟨"WhenToSpeakModel", "areAlways", "(II)Z"⟩, 51), (⟨"WhenToSpeakModel", "isAlways", "(II)Z"⟩, 51), (⟨"WhenToSpeakModel", "isWayBarred", "(III)Z"⟩, 51), (⟨"WhenToSpeakModel", "isKindBarred", "(III)Z"⟩, 51), (⟨"WhenToSpeakModel", "areMost", "(III)Z"⟩, 51), (⟨"WhenToSpeakModel", "findPlans", "(II)V"⟩, 51), (⟨"WhenToSpeakModel", "findGain", "(III)V"⟩, 51), (⟨"WhenToSpeakModel", "setOf", "(I)I"⟩, 51), (⟨"WhenToSpeakModel", "isOneMatter", "(I)Z"⟩, 51), (⟨"WhenToSpeakModel", "isMust", "(I)Z"⟩, 51), (⟨"WhenToSpeakModel", "by", "(IIIII)I"⟩, 51), (⟨"WhenToSpeakModel", "deadOf", "(I)I"⟩, 51), (⟨"WhenToSpeakModel", "areFor", "(II)Z"⟩, 51), (⟨"WhenToSpeakModel", "isSaying", "(I)Z"⟩, 51), (⟨"WhenToSpeakModel", "cameOf", "(IZ)I"⟩, 51)]
theorem lw_r4 : ∀ q ∈ lw_privs_4, lw_okq q := List.forall_mem_cons.mpr ⟨lw_p48, List.forall_mem_cons.mpr ⟨lw_p49, List.forall_mem_cons.mpr ⟨lw_p50, List.forall_mem_cons.mpr ⟨lw_p51, List.forall_mem_cons.mpr ⟨lw_p52, List.forall_mem_cons.mpr ⟨lw_p53, List.forall_mem_cons.mpr ⟨lw_p54, List.forall_mem_cons.mpr ⟨lw_p55, List.forall_mem_cons.mpr ⟨lw_p56, List.forall_mem_cons.mpr ⟨lw_p57, List.forall_mem_cons.mpr ⟨lw_p58, List.forall_mem_cons.mpr ⟨lw_p59, List.forall_mem_cons.mpr ⟨lw_p60, List.forall_mem_cons.mpr ⟨lw_p61, List.forall_mem_cons.mpr ⟨lw_p62, List.forall_mem_cons.mpr ⟨lw_p63, fun _ h => absurd h List.not_mem_nil⟩⟩⟩⟩⟩⟩⟩⟩⟩⟩⟩⟩⟩⟩⟩⟩
def lw_privs : List (MethodName × Nat) := lw_privs_1 ++ (lw_privs_2 ++ (lw_privs_3 ++ (lw_privs_4)))
def lw_tbl : List Cond := k2_sels lw_privs ++ tables_1
theorem lw_privs_ok : ∀ q ∈ lw_privs, lw_okq q := by
  show ∀ q ∈ lw_privs_1 ++ (lw_privs_2 ++ (lw_privs_3 ++ (lw_privs_4))), lw_okq q
  exact List.forall_mem_append.mpr ⟨lw_r1, List.forall_mem_append.mpr ⟨lw_r2, List.forall_mem_append.mpr ⟨lw_r3, lw_r4⟩⟩⟩
def RX0 : String := "WhenToSpeak$Book"
def TX0 : u_T := fun k => match k with
  | 0 => ("WhenToSpeak$Book", "things", "[LWhenToSpeak$Thing;", true)
  | 1 => ("WhenToSpeak$Book", "sayings", "[LWhenToSpeak$Saying;", true)
  | 2 => ("WhenToSpeak$Book", "thingCount", "I", false)
  | _ => ("WhenToSpeak$Book", "sayingCount", "I", false)
def tyX0 : Nat → FieldType := fun k => match k with
  | 0 => .array (.object "WhenToSpeak$Thing")
  | 1 => .array (.object "WhenToSpeak$Saying")
  | 2 => .int
  | _ => .int
abbrev wsX00 : List Cond := u_ws RX0 TX0 4
theorem nmX0 : ∀ a, a < 4 → ∀ b, b < 4 → a ≠ b → (TX0 a).2.1 ≠ (TX0 b).2.1 := by decide +kernel
theorem tyX0_ok : ∀ k, k < 4 → parseFieldDescriptor (TX0 k).2.2.1 = some (tyX0 k) := by decide +kernel
abbrev cX0_init : ByteArray := prog_2_method_1_code
def yX0_init : MethodName := ⟨RX0, "<init>", "()V"⟩
abbrev cX0_hasThing : ByteArray := prog_2_method_2_code
def yX0_hasThing : MethodName := ⟨RX0, "hasThing", "(I)Z"⟩
abbrev cX0_hasThings : ByteArray := prog_2_method_3_code
def yX0_hasThings : MethodName := ⟨RX0, "hasThings", "(I)Z"⟩
abbrev cX0_hasSaying : ByteArray := prog_2_method_4_code
def yX0_hasSaying : MethodName := ⟨RX0, "hasSaying", "(I)Z"⟩
abbrev cX0_standing : ByteArray := prog_2_method_5_code
def yX0_standing : MethodName := ⟨RX0, "standing", "(II)I"⟩
abbrev cX0_thingsThatAre : ByteArray := prog_2_method_6_code
def yX0_thingsThatAre : MethodName := ⟨RX0, "thingsThatAre", "(II)I"⟩
abbrev cX0_isTold : ByteArray := prog_2_method_7_code
def yX0_isTold : MethodName := ⟨RX0, "isTold", "(I)Z"⟩
abbrev cX0_sayingsWith : ByteArray := prog_2_method_8_code
def yX0_sayingsWith : MethodName := ⟨RX0, "sayingsWith", "(I)I"⟩
abbrev cX0_personsWith : ByteArray := prog_2_method_9_code
def yX0_personsWith : MethodName := ⟨RX0, "personsWith", "(I)I"⟩
abbrev cX0_deadThings : ByteArray := prog_2_method_10_code
def yX0_deadThings : MethodName := ⟨RX0, "deadThings", "()I"⟩
abbrev cX0_canBeSaid : ByteArray := prog_2_method_11_code
def yX0_canBeSaid : MethodName := ⟨RX0, "canBeSaid", "(II)Z"⟩
abbrev cX0_countSaid : ByteArray := prog_2_method_12_code
def yX0_countSaid : MethodName := ⟨RX0, "countSaid", "(I[I)V"⟩
abbrev cX0_outcomesBy : ByteArray := prog_2_method_13_code
def yX0_outcomesBy : MethodName := ⟨RX0, "outcomesBy", "(I)I"⟩
abbrev cX0_lookedAtBy : ByteArray := prog_2_method_14_code
def yX0_lookedAtBy : MethodName := ⟨RX0, "lookedAtBy", "(I)I"⟩
def RX1 : String := "WhenToSpeak$Gate"
def TX1 : u_T := fun k => match k with
  | 0 => ("WhenToSpeak$Gate", "alwaysThings", "I", false)
  | 1 => ("WhenToSpeak$Gate", "kindThings", "I", false)
  | _ => ("WhenToSpeak$Gate", "ways", "I", false)
def tyX1 : Nat → FieldType := fun k => match k with
  | 0 => .int
  | 1 => .int
  | _ => .int
abbrev wsX10 : List Cond := u_ws RX1 TX1 3
theorem nmX1 : ∀ a, a < 3 → ∀ b, b < 3 → a ≠ b → (TX1 a).2.1 ≠ (TX1 b).2.1 := by decide +kernel
theorem tyX1_ok : ∀ k, k < 3 → parseFieldDescriptor (TX1 k).2.2.1 = some (tyX1 k) := by decide +kernel
abbrev cX1_init : ByteArray := prog_3_method_1_code
def yX1_init : MethodName := ⟨RX1, "<init>", "()V"⟩
abbrev cX1_open : ByteArray := prog_3_method_2_code
def yX1_open : MethodName := ⟨RX1, "open", "(LWhenToSpeak$Laws;LWhenToSpeak$Book;I[I)V"⟩
abbrev cX1_bar : ByteArray := prog_3_method_3_code
def yX1_bar : MethodName := ⟨RX1, "bar", "(IIZ)I"⟩
abbrev cX1_isAlways : ByteArray := prog_3_method_4_code
def yX1_isAlways : MethodName := ⟨RX1, "isAlways", "(I)Z"⟩
def RX2 : String := "WhenToSpeak$LawText"
def TX2 : u_T := fun k => match k with
  | 0 => ("WhenToSpeak$LawText", "length", "I", false)
  | 1 => ("WhenToSpeak$LawText", "faultKind", "I", false)
  | 2 => ("WhenToSpeak$LawText", "faultAt", "I", false)
  | 3 => ("WhenToSpeak$LawText", "bytes", "[I", true)
  | _ => ("WhenToSpeak$LawText", "at", "I", false)
def tyX2 : Nat → FieldType := fun k => match k with
  | 0 => .int
  | 1 => .int
  | 2 => .int
  | 3 => .array .int
  | _ => .int
abbrev wsX20 : List Cond := u_ws RX2 TX2 5
theorem nmX2 : ∀ a, a < 5 → ∀ b, b < 5 → a ≠ b → (TX2 a).2.1 ≠ (TX2 b).2.1 := by decide +kernel
theorem tyX2_ok : ∀ k, k < 5 → parseFieldDescriptor (TX2 k).2.2.1 = some (tyX2 k) := by decide +kernel
abbrev cX2_init : ByteArray := prog_4_method_1_code
def yX2_init : MethodName := ⟨RX2, "<init>", "()V"⟩
abbrev cX2_append : ByteArray := prog_4_method_2_code
def yX2_append : MethodName := ⟨RX2, "append", "(I)V"⟩
abbrev cX2_parse : ByteArray := prog_4_method_3_code
def yX2_parse : MethodName := ⟨RX2, "parse", "(LWhenToSpeak$Laws;)V"⟩
abbrev cX2_readClause : ByteArray := prog_4_method_4_code
def yX2_readClause : MethodName := ⟨RX2, "readClause", "(LWhenToSpeak$Laws;)V"⟩
abbrev cX2_readNever : ByteArray := prog_4_method_5_code
def yX2_readNever : MethodName := ⟨RX2, "readNever", "(LWhenToSpeak$Laws;)V"⟩
abbrev cX2_refuseNinth : ByteArray := prog_4_method_6_code
def yX2_refuseNinth : MethodName := ⟨RX2, "refuseNinth", "(LWhenToSpeak$Laws;I)V"⟩
abbrev cX2_finish : ByteArray := prog_4_method_7_code
def yX2_finish : MethodName := ⟨RX2, "finish", "(LWhenToSpeak$Laws;IIII)V"⟩
abbrev cX2_note : ByteArray := prog_4_method_8_code
def yX2_note : MethodName := ⟨RX2, "note", "(II)V"⟩
abbrev cX2_skipBlanks : ByteArray := prog_4_method_9_code
def yX2_skipBlanks : MethodName := ⟨RX2, "skipBlanks", "()V"⟩
abbrev cX2_needWord : ByteArray := prog_4_method_10_code
def yX2_needWord : MethodName := ⟨RX2, "needWord", "(Ljava/lang/String;)V"⟩
abbrev cX2_takeWord : ByteArray := prog_4_method_11_code
def yX2_takeWord : MethodName := ⟨RX2, "takeWord", "(Ljava/lang/String;)Z"⟩
abbrev cX2_takeNumber : ByteArray := prog_4_method_12_code
def yX2_takeNumber : MethodName := ⟨RX2, "takeNumber", "(II)I"⟩
def RX3 : String := "WhenToSpeak$Laws"
def TX3 : u_T := fun k => match k with
  | 0 => ("WhenToSpeak$Laws", "count", "I", false)
  | 1 => ("WhenToSpeak$Laws", "sorts", "[I", true)
  | 2 => ("WhenToSpeak$Laws", "firsts", "[I", true)
  | 3 => ("WhenToSpeak$Laws", "seconds", "[I", true)
  | _ => ("WhenToSpeak$Laws", "thirds", "[I", true)
def tyX3 : Nat → FieldType := fun k => match k with
  | 0 => .int
  | 1 => .array .int
  | 2 => .array .int
  | 3 => .array .int
  | _ => .array .int
abbrev wsX30 : List Cond := u_ws RX3 TX3 5
theorem nmX3 : ∀ a, a < 5 → ∀ b, b < 5 → a ≠ b → (TX3 a).2.1 ≠ (TX3 b).2.1 := by decide +kernel
theorem tyX3_ok : ∀ k, k < 5 → parseFieldDescriptor (TX3 k).2.2.1 = some (tyX3 k) := by decide +kernel
abbrev cX3_init : ByteArray := prog_5_method_1_code
def yX3_init : MethodName := ⟨RX3, "<init>", "()V"⟩
abbrev cX3_add : ByteArray := prog_5_method_2_code
def yX3_add : MethodName := ⟨RX3, "add", "(IIII)V"⟩
abbrev cX3_barredWays : ByteArray := prog_5_method_3_code
def yX3_barredWays : MethodName := ⟨RX3, "barredWays", "([I)I"⟩
abbrev cX3_isLikely : ByteArray := prog_5_method_4_code
def yX3_isLikely : MethodName := ⟨RX3, "isLikely", "(I[I)Z"⟩
abbrev cX3_barredKinds : ByteArray := prog_5_method_5_code
def yX3_barredKinds : MethodName := ⟨RX3, "barredKinds", "(I)I"⟩
abbrev cX3_alwaysFrom : ByteArray := prog_5_method_6_code
def yX3_alwaysFrom : MethodName := ⟨RX3, "alwaysFrom", "()I"⟩
abbrev cX3_countsSayings : ByteArray := prog_5_method_7_code
def yX3_countsSayings : MethodName := ⟨RX3, "countsSayings", "()Z"⟩
abbrev cX3_mostBars : ByteArray := prog_5_method_8_code
def yX3_mostBars : MethodName := ⟨RX3, "mostBars", "([II)Z"⟩
abbrev cX3_saidWithin : ByteArray := prog_5_method_9_code
def yX3_saidWithin : MethodName := ⟨RX3, "saidWithin", "([III)I"⟩
def RX4 : String := "WhenToSpeak$Planner"
def TX4 : u_T := fun k => match k with
  | 0 => ("WhenToSpeak$Planner", "most", "I", false)
  | 1 => ("WhenToSpeak$Planner", "stepSets", "[I", true)
  | 2 => ("WhenToSpeak$Planner", "stepWays", "[I", true)
  | 3 => ("WhenToSpeak$Planner", "work", "LWhenToSpeak$Work;", true)
  | 4 => ("WhenToSpeak$Planner", "ways", "LWhenToSpeak$Ways;", true)
  | 5 => ("WhenToSpeak$Planner", "book", "LWhenToSpeak$Book;", true)
  | 6 => ("WhenToSpeak$Planner", "gate", "LWhenToSpeak$Gate;", true)
  | 7 => ("WhenToSpeak$Planner", "picks", "[I", true)
  | 8 => ("WhenToSpeak$Planner", "realSets", "[I", true)
  | 9 => ("WhenToSpeak$Planner", "matters", "[I", true)
  | 10 => ("WhenToSpeak$Planner", "values", "[I", true)
  | 11 => ("WhenToSpeak$Planner", "losses", "[I", true)
  | 12 => ("WhenToSpeak$Planner", "gains", "[I", true)
  | 13 => ("WhenToSpeak$Planner", "gainWays", "[I", true)
  | 14 => ("WhenToSpeak$Planner", "totals", "[I", true)
  | 15 => ("WhenToSpeak$Planner", "saidIn", "[I", true)
  | 16 => ("WhenToSpeak$Planner", "pickCount", "I", false)
  | 17 => ("WhenToSpeak$Planner", "steps", "I", false)
  | _ => ("WhenToSpeak$Planner", "counting", "Z", false)
def tyX4 : Nat → FieldType := fun k => match k with
  | 0 => .int
  | 1 => .array .int
  | 2 => .array .int
  | 3 => .object "WhenToSpeak$Work"
  | 4 => .object "WhenToSpeak$Ways"
  | 5 => .object "WhenToSpeak$Book"
  | 6 => .object "WhenToSpeak$Gate"
  | 7 => .array .int
  | 8 => .array .int
  | 9 => .array .int
  | 10 => .array .int
  | 11 => .array .int
  | 12 => .array .int
  | 13 => .array .int
  | 14 => .array .int
  | 15 => .array .int
  | 16 => .int
  | 17 => .int
  | _ => .boolean
abbrev wsX40 : List Cond := u_ws RX4 TX4 19
theorem nmX4 : ∀ a, a < 19 → ∀ b, b < 19 → a ≠ b → (TX4 a).2.1 ≠ (TX4 b).2.1 := by decide +kernel
theorem tyX4_ok : ∀ k, k < 19 → parseFieldDescriptor (TX4 k).2.2.1 = some (tyX4 k) := by decide +kernel
abbrev cX4_init : ByteArray := prog_6_method_1_code
def yX4_init : MethodName := ⟨RX4, "<init>", "(LWhenToSpeak$Work;LWhenToSpeak$Ways;LWhenToSpeak$Book;)V"⟩
abbrev cX4_make : ByteArray := prog_6_method_2_code
def yX4_make : MethodName := ⟨RX4, "make", "(IIILWhenToSpeak$Laws;)V"⟩
abbrev cX4_pick : ByteArray := prog_6_method_3_code
def yX4_pick : MethodName := ⟨RX4, "pick", "(II)V"⟩
abbrev cX4_price : ByteArray := prog_6_method_4_code
def yX4_price : MethodName := ⟨RX4, "price", "(IILWhenToSpeak$Laws;)V"⟩
abbrev cX4_priceSet : ByteArray := prog_6_method_5_code
def yX4_priceSet : MethodName := ⟨RX4, "priceSet", "(II)V"⟩
abbrev cX4_mostBarsAt : ByteArray := prog_6_method_6_code
def yX4_mostBarsAt : MethodName := ⟨RX4, "mostBarsAt", "(IIIILWhenToSpeak$Laws;)Z"⟩
abbrev cX4_decide : ByteArray := prog_6_method_7_code
def yX4_decide : MethodName := ⟨RX4, "decide", "(IIIZ)I"⟩
abbrev cX4_nodeBehind : ByteArray := prog_6_method_8_code
def yX4_nodeBehind : MethodName := ⟨RX4, "nodeBehind", "(IZ)I"⟩
abbrev cX4_total : ByteArray := prog_6_method_9_code
def yX4_total : MethodName := ⟨RX4, "total", "(II)I"⟩
abbrev cX4_tell : ByteArray := prog_6_method_10_code
def yX4_tell : MethodName := ⟨RX4, "tell", "(IILWhenToSpeak$Laws;)V"⟩
def RX5 : String := "WhenToSpeak$Saying"
def TX5 : u_T := fun k => match k with
  | 0 => ("WhenToSpeak$Saying", "person", "I", false)
  | 1 => ("WhenToSpeak$Saying", "set", "I", false)
  | 2 => ("WhenToSpeak$Saying", "way", "I", false)
  | 3 => ("WhenToSpeak$Saying", "tick", "I", false)
  | _ => ("WhenToSpeak$Saying", "outcome", "I", false)
def tyX5 : Nat → FieldType := fun k => match k with
  | 0 => .int
  | 1 => .int
  | 2 => .int
  | 3 => .int
  | _ => .int
abbrev wsX50 : List Cond := u_ws RX5 TX5 5
theorem nmX5 : ∀ a, a < 5 → ∀ b, b < 5 → a ≠ b → (TX5 a).2.1 ≠ (TX5 b).2.1 := by decide +kernel
theorem tyX5_ok : ∀ k, k < 5 → parseFieldDescriptor (TX5 k).2.2.1 = some (tyX5 k) := by decide +kernel
abbrev cX5_init : ByteArray := prog_7_method_1_code
def yX5_init : MethodName := ⟨RX5, "<init>", "()V"⟩
def RX6 : String := "WhenToSpeak$Thing"
def TX6 : u_T := fun k => match k with
  | 0 => ("WhenToSpeak$Thing", "persons", "I", false)
  | 1 => ("WhenToSpeak$Thing", "kind", "I", false)
  | 2 => ("WhenToSpeak$Thing", "matter", "I", false)
  | 3 => ("WhenToSpeak$Thing", "from", "I", false)
  | 4 => ("WhenToSpeak$Thing", "worth", "I", false)
  | 5 => ("WhenToSpeak$Thing", "less", "I", false)
  | 6 => ("WhenToSpeak$Thing", "clock", "I", false)
  | 7 => ("WhenToSpeak$Thing", "tick", "I", false)
  | _ => ("WhenToSpeak$Thing", "takenBack", "Z", false)
def tyX6 : Nat → FieldType := fun k => match k with
  | 0 => .int
  | 1 => .int
  | 2 => .int
  | 3 => .int
  | 4 => .int
  | 5 => .int
  | 6 => .int
  | 7 => .int
  | _ => .boolean
abbrev wsX60 : List Cond := u_ws RX6 TX6 9
theorem nmX6 : ∀ a, a < 9 → ∀ b, b < 9 → a ≠ b → (TX6 a).2.1 ≠ (TX6 b).2.1 := by decide +kernel
theorem tyX6_ok : ∀ k, k < 9 → parseFieldDescriptor (TX6 k).2.2.1 = some (tyX6 k) := by decide +kernel
abbrev cX6_init : ByteArray := prog_8_method_1_code
def yX6_init : MethodName := ⟨RX6, "<init>", "()V"⟩
abbrev cX6_valueIn : ByteArray := prog_8_method_2_code
def yX6_valueIn : MethodName := ⟨RX6, "valueIn", "(II)I"⟩
abbrev cX6_planValueIn : ByteArray := prog_8_method_3_code
def yX6_planValueIn : MethodName := ⟨RX6, "planValueIn", "(II)I"⟩
abbrev cX6_isMust : ByteArray := prog_8_method_4_code
def yX6_isMust : MethodName := ⟨RX6, "isMust", "()Z"⟩
def RX7 : String := "WhenToSpeak$Trial"
def TX7 : u_T := fun k => match k with
  | 0 => ("WhenToSpeak$Trial", "late", "I", false)
  | 1 => ("WhenToSpeak$Trial", "waited", "I", false)
  | 2 => ("WhenToSpeak$Trial", "paid", "I", false)
  | 3 => ("WhenToSpeak$Trial", "said", "I", false)
  | 4 => ("WhenToSpeak$Trial", "work", "LWhenToSpeak$Work;", true)
  | 5 => ("WhenToSpeak$Trial", "ways", "LWhenToSpeak$Ways;", true)
  | 6 => ("WhenToSpeak$Trial", "book", "LWhenToSpeak$Book;", true)
  | _ => ("WhenToSpeak$Trial", "done", "I", false)
def tyX7 : Nat → FieldType := fun k => match k with
  | 0 => .int
  | 1 => .int
  | 2 => .int
  | 3 => .int
  | 4 => .object "WhenToSpeak$Work"
  | 5 => .object "WhenToSpeak$Ways"
  | 6 => .object "WhenToSpeak$Book"
  | _ => .int
abbrev wsX70 : List Cond := u_ws RX7 TX7 8
theorem nmX7 : ∀ a, a < 8 → ∀ b, b < 8 → a ≠ b → (TX7 a).2.1 ≠ (TX7 b).2.1 := by decide +kernel
theorem tyX7_ok : ∀ k, k < 8 → parseFieldDescriptor (TX7 k).2.2.1 = some (tyX7 k) := by decide +kernel
abbrev cX7_init : ByteArray := prog_9_method_1_code
def yX7_init : MethodName := ⟨RX7, "<init>", "(LWhenToSpeak$Work;LWhenToSpeak$Ways;LWhenToSpeak$Book;)V"⟩
abbrev cX7_run : ByteArray := prog_9_method_2_code
def yX7_run : MethodName := ⟨RX7, "run", "(IIII)V"⟩
abbrev cX7_sayIn : ByteArray := prog_9_method_3_code
def yX7_sayIn : MethodName := ⟨RX7, "sayIn", "(IIZ)V"⟩
abbrev cX7_isLeft : ByteArray := prog_9_method_4_code
def yX7_isLeft : MethodName := ⟨RX7, "isLeft", "(II)Z"⟩
def RX8 : String := "WhenToSpeak$Ways"
def TX8 : u_T := fun k => match k with
  | 0 => ("WhenToSpeak$Ways", "costs", "[[I", true)
  | _ => ("WhenToSpeak$Ways", "seenOdds", "[I", true)
def tyX8 : Nat → FieldType := fun k => match k with
  | 0 => .array (.array .int)
  | _ => .array .int
abbrev wsX80 : List Cond := u_ws RX8 TX8 2
theorem nmX8 : ∀ a, a < 2 → ∀ b, b < 2 → a ≠ b → (TX8 a).2.1 ≠ (TX8 b).2.1 := by decide +kernel
theorem tyX8_ok : ∀ k, k < 2 → parseFieldDescriptor (TX8 k).2.2.1 = some (tyX8 k) := by decide +kernel
abbrev cX8_init : ByteArray := prog_10_method_1_code
def yX8_init : MethodName := ⟨RX8, "<init>", "()V"⟩
abbrev cX8_lossBy : ByteArray := prog_10_method_2_code
def yX8_lossBy : MethodName := ⟨RX8, "lossBy", "(I[I)I"⟩
def RX9 : String := "WhenToSpeak$Work"
def TX9 : u_T := fun k => match k with
  | 0 => ("WhenToSpeak$Work", "next", "[[I", true)
  | 1 => ("WhenToSpeak$Work", "shown", "[[I", true)
  | 2 => ("WhenToSpeak$Work", "first", "[I", true)
  | 3 => ("WhenToSpeak$Work", "signs", "[[I", true)
  | 4 => ("WhenToSpeak$Work", "ahead", "[[I", true)
  | 5 => ("WhenToSpeak$Work", "seamStates", "I", false)
  | 6 => ("WhenToSpeak$Work", "weights", "[J", false)
  | _ => ("WhenToSpeak$Work", "laterWeights", "[J", false)
def tyX9 : Nat → FieldType := fun k => match k with
  | 0 => .array (.array .int)
  | 1 => .array (.array .int)
  | 2 => .array .int
  | 3 => .array (.array .int)
  | 4 => .array (.array .int)
  | 5 => .int
  | 6 => .array .long
  | _ => .array .long
abbrev wsX90 : List Cond := u_ws RX9 TX9 8
theorem nmX9 : ∀ a, a < 8 → ∀ b, b < 8 → a ≠ b → (TX9 a).2.1 ≠ (TX9 b).2.1 := by decide +kernel
theorem tyX9_ok : ∀ k, k < 8 → parseFieldDescriptor (TX9 k).2.2.1 = some (tyX9 k) := by decide +kernel
abbrev cX9_init : ByteArray := prog_11_method_1_code
def yX9_init : MethodName := ⟨RX9, "<init>", "()V"⟩
abbrev cX9_fittingRows : ByteArray := prog_11_method_2_code
def yX9_fittingRows : MethodName := ⟨RX9, "fittingRows", "(II)I"⟩
abbrev cX9_lookAhead : ByteArray := prog_11_method_3_code
def yX9_lookAhead : MethodName := ⟨RX9, "lookAhead", "(III)V"⟩
abbrev cX9_seamOdds : ByteArray := prog_11_method_4_code
def yX9_seamOdds : MethodName := ⟨RX9, "seamOdds", "(I)I"⟩
abbrev cX9_moveOn : ByteArray := prog_11_method_5_code
def yX9_moveOn : MethodName := ⟨RX9, "moveOn", "([I[I)V"⟩
abbrev cX9_weigh : ByteArray := prog_11_method_6_code
def yX9_weigh : MethodName := ⟨RX9, "weigh", "(IIZ)V"⟩
abbrev cX9_signFactor : ByteArray := prog_11_method_7_code
def yX9_signFactor : MethodName := ⟨RX9, "signFactor", "(IIZ)J"⟩
abbrev cX9_factor : ByteArray := prog_11_method_8_code
def yX9_factor : MethodName := ⟨RX9, "factor", "(IZ)J"⟩
abbrev cX9_allWeights : ByteArray := prog_11_method_9_code
def yX9_allWeights : MethodName := ⟨RX9, "allWeights", "()J"⟩
def RX10 : String := "WhenToSpeak"
def TX10 : u_T := fun k => match k with
  | 0 => ("WhenToSpeak", "work", "LWhenToSpeak$Work;", true)
  | 1 => ("WhenToSpeak", "ways", "LWhenToSpeak$Ways;", true)
  | 2 => ("WhenToSpeak", "book", "LWhenToSpeak$Book;", true)
  | 3 => ("WhenToSpeak", "lawText", "LWhenToSpeak$LawText;", true)
  | 4 => ("WhenToSpeak", "lawsOf", "[LWhenToSpeak$Laws;", true)
  | 5 => ("WhenToSpeak", "gate", "LWhenToSpeak$Gate;", true)
  | 6 => ("WhenToSpeak", "planner", "LWhenToSpeak$Planner;", true)
  | 7 => ("WhenToSpeak", "trial", "LWhenToSpeak$Trial;", true)
  | 8 => ("WhenToSpeak", "saidIn", "[I", true)
  | 9 => ("WhenToSpeak", "spareLaws", "LWhenToSpeak$Laws;", false)
  | _ => ("WhenToSpeak", "now", "I", false)
def tyX10 : Nat → FieldType := fun k => match k with
  | 0 => .object "WhenToSpeak$Work"
  | 1 => .object "WhenToSpeak$Ways"
  | 2 => .object "WhenToSpeak$Book"
  | 3 => .object "WhenToSpeak$LawText"
  | 4 => .array (.object "WhenToSpeak$Laws")
  | 5 => .object "WhenToSpeak$Gate"
  | 6 => .object "WhenToSpeak$Planner"
  | 7 => .object "WhenToSpeak$Trial"
  | 8 => .array .int
  | 9 => .object "WhenToSpeak$Laws"
  | _ => .int
abbrev wsX100 : List Cond := u_ws RX10 TX10 11
theorem nmX10 : ∀ a, a < 11 → ∀ b, b < 11 → a ≠ b → (TX10 a).2.1 ≠ (TX10 b).2.1 := by decide +kernel
theorem tyX10_ok : ∀ k, k < 11 → parseFieldDescriptor (TX10 k).2.2.1 = some (tyX10 k) := by decide +kernel
abbrev cX10_init : ByteArray := prog_1_method_1_code
def yX10_init : MethodName := ⟨RX10, "<init>", "()V"⟩
abbrev cX10_move : ByteArray := prog_1_method_2_code
def yX10_move : MethodName := ⟨RX10, "move", "(III)I"⟩
abbrev cX10_shows : ByteArray := prog_1_method_3_code
def yX10_shows : MethodName := ⟨RX10, "shows", "(III)I"⟩
abbrev cX10_begins : ByteArray := prog_1_method_4_code
def yX10_begins : MethodName := ⟨RX10, "begins", "(II)I"⟩
abbrev cX10_seams : ByteArray := prog_1_method_5_code
def yX10_seams : MethodName := ⟨RX10, "seams", "(I)I"⟩
abbrev cX10_sign : ByteArray := prog_1_method_6_code
def yX10_sign : MethodName := ⟨RX10, "sign", "(II)I"⟩
abbrev cX10_go : ByteArray := prog_1_method_7_code
def yX10_go : MethodName := ⟨RX10, "go", "(I)I"⟩
abbrev cX10_fits : ByteArray := prog_1_method_8_code
def yX10_fits : MethodName := ⟨RX10, "fits", "(II)I"⟩
abbrev cX10_odds : ByteArray := prog_1_method_9_code
def yX10_odds : MethodName := ⟨RX10, "odds", "(III)I"⟩
abbrev cX10_seam : ByteArray := prog_1_method_10_code
def yX10_seam : MethodName := ⟨RX10, "seam", "(II)I"⟩
abbrev cX10_until : ByteArray := prog_1_method_11_code
def yX10_until : MethodName := ⟨RX10, "until", "(II)I"⟩
abbrev cX10_thing : ByteArray := prog_1_method_12_code
def yX10_thing : MethodName := ⟨RX10, "thing", "(IIIIIII)I"⟩
abbrev cX10_dead : ByteArray := prog_1_method_13_code
def yX10_dead : MethodName := ⟨RX10, "dead", "(I)I"⟩
abbrev cX10_told : ByteArray := prog_1_method_14_code
def yX10_told : MethodName := ⟨RX10, "told", "(II)I"⟩
abbrev cX10_value : ByteArray := prog_1_method_15_code
def yX10_value : MethodName := ⟨RX10, "value", "(III)I"⟩
abbrev cX10_cost : ByteArray := prog_1_method_16_code
def yX10_cost : MethodName := ⟨RX10, "cost", "(III)I"⟩
abbrev cX10_seen : ByteArray := prog_1_method_17_code
def yX10_seen : MethodName := ⟨RX10, "seen", "(II)I"⟩
abbrev cX10_loss : ByteArray := prog_1_method_18_code
def yX10_loss : MethodName := ⟨RX10, "loss", "(III)I"⟩
abbrev cX10_count : ByteArray := prog_1_method_19_code
def yX10_count : MethodName := ⟨RX10, "count", "(I)I"⟩
abbrev cX10_feed : ByteArray := prog_1_method_20_code
def yX10_feed : MethodName := ⟨RX10, "feed", "(IJ)I"⟩
abbrev cX10_read : ByteArray := prog_1_method_21_code
def yX10_read : MethodName := ⟨RX10, "read", "(I)I"⟩
abbrev cX10_fault : ByteArray := prog_1_method_22_code
def yX10_fault : MethodName := ⟨RX10, "fault", "()I"⟩
abbrev cX10_barred : ByteArray := prog_1_method_23_code
def yX10_barred : MethodName := ⟨RX10, "barred", "(III)I"⟩
abbrev cX10_barNow : ByteArray := prog_1_method_24_code
def yX10_barNow : MethodName := ⟨RX10, "barNow", "(III)I"⟩
abbrev cX10_plan : ByteArray := prog_1_method_25_code
def yX10_plan : MethodName := ⟨RX10, "plan", "(IIII)I"⟩
abbrev cX10_say : ByteArray := prog_1_method_26_code
def yX10_say : MethodName := ⟨RX10, "say", "(III)I"⟩
abbrev cX10_came : ByteArray := prog_1_method_27_code
def yX10_came : MethodName := ⟨RX10, "came", "(II)I"⟩
abbrev cX10_saying : ByteArray := prog_1_method_28_code
def yX10_saying : MethodName := ⟨RX10, "saying", "(II)I"⟩
abbrev cX10_learnt : ByteArray := prog_1_method_29_code
def yX10_learnt : MethodName := ⟨RX10, "learnt", "(III)I"⟩
abbrev cX10_chance : ByteArray := prog_1_method_30_code
def yX10_chance : MethodName := ⟨RX10, "chance", "(IIIIZ)I"⟩
abbrev cX10_choose : ByteArray := prog_1_method_31_code
def yX10_choose : MethodName := ⟨RX10, "choose", "(II)J"⟩
abbrev cX10_commonPart : ByteArray := prog_1_method_32_code
def yX10_commonPart : MethodName := ⟨RX10, "commonPart", "(JJ)J"⟩
abbrev cX10_who : ByteArray := prog_1_method_33_code
def yX10_who : MethodName := ⟨RX10, "who", "(II)I"⟩
abbrev cX10_tried : ByteArray := prog_1_method_34_code
def yX10_tried : MethodName := ⟨RX10, "tried", "(IIII)I"⟩
abbrev cX10_within : ByteArray := prog_1_method_35_code
def yX10_within : MethodName := ⟨RX10, "within", "(III)Z"⟩
abbrev cX10_isPerson : ByteArray := prog_1_method_36_code
def yX10_isPerson : MethodName := ⟨RX10, "isPerson", "(I)Z"⟩
abbrev cX10_isState : ByteArray := prog_1_method_37_code
def yX10_isState : MethodName := ⟨RX10, "isState", "(I)Z"⟩
abbrev cX10_isWay : ByteArray := prog_1_method_38_code
def yX10_isWay : MethodName := ⟨RX10, "isWay", "(I)Z"⟩
abbrev cX10_isOften : ByteArray := prog_1_method_39_code
def yX10_isOften : MethodName := ⟨RX10, "isOften", "(I)Z"⟩
abbrev cX10_isAhead : ByteArray := prog_1_method_40_code
def yX10_isAhead : MethodName := ⟨RX10, "isAhead", "(I)Z"⟩
abbrev cX10_contains : ByteArray := prog_1_method_41_code
def yX10_contains : MethodName := ⟨RX10, "contains", "(II)Z"⟩
abbrev cX10_exchange : ByteArray := prog_1_method_42_code
def yX10_exchange : MethodName := ⟨RX10, "exchange", "([III)I"⟩
def RX11 : String := "WhenToSpeakModel"
def TX11 : u_T := fun k => match k with
  | 0 => ("WhenToSpeakModel", "moves", "[I", true)
  | 1 => ("WhenToSpeakModel", "shown", "[I", true)
  | 2 => ("WhenToSpeakModel", "begin", "[I", true)
  | 3 => ("WhenToSpeakModel", "seamSet", "I", false)
  | 4 => ("WhenToSpeakModel", "signs", "[I", true)
  | 5 => ("WhenToSpeakModel", "now", "I", false)
  | 6 => ("WhenToSpeakModel", "weights", "[J", true)
  | 7 => ("WhenToSpeakModel", "nextWeights", "[J", true)
  | 8 => ("WhenToSpeakModel", "rows", "[I", true)
  | 9 => ("WhenToSpeakModel", "nextRows", "[I", true)
  | 10 => ("WhenToSpeakModel", "odds", "[I", true)
  | 11 => ("WhenToSpeakModel", "nextOdds", "[I", true)
  | 12 => ("WhenToSpeakModel", "things", "I", false)
  | 13 => ("WhenToSpeakModel", "persons", "[I", true)
  | 14 => ("WhenToSpeakModel", "kinds", "[I", true)
  | 15 => ("WhenToSpeakModel", "matters", "[I", true)
  | 16 => ("WhenToSpeakModel", "froms", "[I", true)
  | 17 => ("WhenToSpeakModel", "worths", "[I", true)
  | 18 => ("WhenToSpeakModel", "falls", "[I", true)
  | 19 => ("WhenToSpeakModel", "clocks", "[I", true)
  | 20 => ("WhenToSpeakModel", "since", "[I", true)
  | 21 => ("WhenToSpeakModel", "isDead", "[Z", true)
  | 22 => ("WhenToSpeakModel", "costs", "[I", true)
  | 23 => ("WhenToSpeakModel", "seens", "[I", true)
  | 24 => ("WhenToSpeakModel", "lawMany", "[I", true)
  | 25 => ("WhenToSpeakModel", "lawKind", "[I", true)
  | 26 => ("WhenToSpeakModel", "lawA", "[I", true)
  | 27 => ("WhenToSpeakModel", "lawB", "[I", true)
  | 28 => ("WhenToSpeakModel", "lawC", "[I", true)
  | 29 => ("WhenToSpeakModel", "freshKind", "[I", true)
  | 30 => ("WhenToSpeakModel", "freshA", "[I", true)
  | 31 => ("WhenToSpeakModel", "freshB", "[I", true)
  | 32 => ("WhenToSpeakModel", "freshC", "[I", true)
  | 33 => ("WhenToSpeakModel", "text", "[I", true)
  | 34 => ("WhenToSpeakModel", "texted", "I", false)
  | 35 => ("WhenToSpeakModel", "faultPlace", "I", false)
  | 36 => ("WhenToSpeakModel", "at0", "I", false)
  | 37 => ("WhenToSpeakModel", "word", "J", false)
  | 38 => ("WhenToSpeakModel", "wordEnd", "I", false)
  | 39 => ("WhenToSpeakModel", "number", "I", false)
  | 40 => ("WhenToSpeakModel", "looked", "[I", true)
  | 41 => ("WhenToSpeakModel", "lookedMany", "I", false)
  | 42 => ("WhenToSpeakModel", "bests", "[I", true)
  | 43 => ("WhenToSpeakModel", "gains", "[I", true)
  | 44 => ("WhenToSpeakModel", "ways", "[I", true)
  | 45 => ("WhenToSpeakModel", "sayings", "I", false)
  | 46 => ("WhenToSpeakModel", "sayPerson", "[I", true)
  | 47 => ("WhenToSpeakModel", "said", "[I", true)
  | 48 => ("WhenToSpeakModel", "sayWay", "[I", true)
  | 49 => ("WhenToSpeakModel", "sayTick", "[I", true)
  | _ => ("WhenToSpeakModel", "results", "[I", true)
def tyX11 : Nat → FieldType := fun k => match k with
  | 0 => .array .int
  | 1 => .array .int
  | 2 => .array .int
  | 3 => .int
  | 4 => .array .int
  | 5 => .int
  | 6 => .array .long
  | 7 => .array .long
  | 8 => .array .int
  | 9 => .array .int
  | 10 => .array .int
  | 11 => .array .int
  | 12 => .int
  | 13 => .array .int
  | 14 => .array .int
  | 15 => .array .int
  | 16 => .array .int
  | 17 => .array .int
  | 18 => .array .int
  | 19 => .array .int
  | 20 => .array .int
  | 21 => .array .boolean
  | 22 => .array .int
  | 23 => .array .int
  | 24 => .array .int
  | 25 => .array .int
  | 26 => .array .int
  | 27 => .array .int
  | 28 => .array .int
  | 29 => .array .int
  | 30 => .array .int
  | 31 => .array .int
  | 32 => .array .int
  | 33 => .array .int
  | 34 => .int
  | 35 => .int
  | 36 => .int
  | 37 => .long
  | 38 => .int
  | 39 => .int
  | 40 => .array .int
  | 41 => .int
  | 42 => .array .int
  | 43 => .array .int
  | 44 => .array .int
  | 45 => .int
  | 46 => .array .int
  | 47 => .array .int
  | 48 => .array .int
  | 49 => .array .int
  | _ => .array .int
abbrev wsX110 : List Cond := u_ws RX11 TX11 51
theorem nmX11 : ∀ a, a < 51 → ∀ b, b < 51 → a ≠ b → (TX11 a).2.1 ≠ (TX11 b).2.1 := by decide +kernel
theorem tyX11_ok : ∀ k, k < 51 → parseFieldDescriptor (TX11 k).2.2.1 = some (tyX11 k) := by decide +kernel
abbrev cX11_init : ByteArray := prog_13_method_1_code
def yX11_init : MethodName := ⟨RX11, "<init>", "()V"⟩
abbrev cX11_in : ByteArray := prog_13_method_3_code
def yX11_in : MethodName := ⟨RX11, "in", "(JJJ)Z"⟩
abbrev cX11_isState : ByteArray := prog_13_method_4_code
def yX11_isState : MethodName := ⟨RX11, "isState", "(I)Z"⟩
abbrev cX11_isPerson : ByteArray := prog_13_method_5_code
def yX11_isPerson : MethodName := ⟨RX11, "isPerson", "(I)Z"⟩
abbrev cX11_move : ByteArray := prog_13_method_6_code
def yX11_move : MethodName := ⟨RX11, "move", "(III)I"⟩
abbrev cX11_shows : ByteArray := prog_13_method_7_code
def yX11_shows : MethodName := ⟨RX11, "shows", "(III)I"⟩
abbrev cX11_begins : ByteArray := prog_13_method_8_code
def yX11_begins : MethodName := ⟨RX11, "begins", "(II)I"⟩
abbrev cX11_seams : ByteArray := prog_13_method_9_code
def yX11_seams : MethodName := ⟨RX11, "seams", "(I)I"⟩
abbrev cX11_sign : ByteArray := prog_13_method_10_code
def yX11_sign : MethodName := ⟨RX11, "sign", "(II)I"⟩
abbrev cX11_go : ByteArray := prog_13_method_11_code
def yX11_go : MethodName := ⟨RX11, "go", "(I)I"⟩
abbrev cX11_showsAt : ByteArray := prog_13_method_12_code
def yX11_showsAt : MethodName := ⟨RX11, "showsAt", "(III)I"⟩
abbrev cX11_findRows : ByteArray := prog_13_method_13_code
def yX11_findRows : MethodName := ⟨RX11, "findRows", "(II)V"⟩
abbrev cX11_findOdds : ByteArray := prog_13_method_14_code
def yX11_findOdds : MethodName := ⟨RX11, "findOdds", "(III)V"⟩
abbrev cX11_seamOdds : ByteArray := prog_13_method_15_code
def yX11_seamOdds : MethodName := ⟨RX11, "seamOdds", "(III)I"⟩
abbrev cX11_fits : ByteArray := prog_13_method_16_code
def yX11_fits : MethodName := ⟨RX11, "fits", "(II)I"⟩
abbrev cX11_odds : ByteArray := prog_13_method_17_code
def yX11_odds : MethodName := ⟨RX11, "odds", "(III)I"⟩
abbrev cX11_seam : ByteArray := prog_13_method_18_code
def yX11_seam : MethodName := ⟨RX11, "seam", "(II)I"⟩
abbrev cX11_until : ByteArray := prog_13_method_19_code
def yX11_until : MethodName := ⟨RX11, "until", "(II)I"⟩
abbrev cX11_isThing : ByteArray := prog_13_method_20_code
def yX11_isThing : MethodName := ⟨RX11, "isThing", "(I)Z"⟩
abbrev cX11_isMust : ByteArray := prog_13_method_21_code
def yX11_isMust : MethodName := ⟨RX11, "isMust", "(I)Z"⟩
abbrev cX11_thing : ByteArray := prog_13_method_22_code
def yX11_thing : MethodName := ⟨RX11, "thing", "(IIIIIII)I"⟩
abbrev cX11_sayingsOf : ByteArray := prog_13_method_23_code
def yX11_sayingsOf : MethodName := ⟨RX11, "sayingsOf", "(I)I"⟩
abbrev cX11_dead : ByteArray := prog_13_method_24_code
def yX11_dead : MethodName := ⟨RX11, "dead", "(I)I"⟩
abbrev cX11_isTold : ByteArray := prog_13_method_25_code
def yX11_isTold : MethodName := ⟨RX11, "isTold", "(I)Z"⟩
abbrev cX11_stateOf : ByteArray := prog_13_method_26_code
def yX11_stateOf : MethodName := ⟨RX11, "stateOf", "(I)I"⟩
abbrev cX11_told : ByteArray := prog_13_method_27_code
def yX11_told : MethodName := ⟨RX11, "told", "(II)I"⟩
abbrev cX11_valueOf : ByteArray := prog_13_method_28_code
def yX11_valueOf : MethodName := ⟨RX11, "valueOf", "(III)I"⟩
abbrev cX11_value : ByteArray := prog_13_method_29_code
def yX11_value : MethodName := ⟨RX11, "value", "(III)I"⟩
abbrev cX11_isWay : ByteArray := prog_13_method_30_code
def yX11_isWay : MethodName := ⟨RX11, "isWay", "(I)Z"⟩
abbrev cX11_cost : ByteArray := prog_13_method_31_code
def yX11_cost : MethodName := ⟨RX11, "cost", "(III)I"⟩
abbrev cX11_seen : ByteArray := prog_13_method_32_code
def yX11_seen : MethodName := ⟨RX11, "seen", "(II)I"⟩
abbrev cX11_lossOf : ByteArray := prog_13_method_33_code
def yX11_lossOf : MethodName := ⟨RX11, "lossOf", "(IIII)I"⟩
abbrev cX11_loss : ByteArray := prog_13_method_34_code
def yX11_loss : MethodName := ⟨RX11, "loss", "(III)I"⟩
abbrev cX11_thingsThat : ByteArray := prog_13_method_35_code
def yX11_thingsThat : MethodName := ⟨RX11, "thingsThat", "(I)I"⟩
abbrev cX11_count : ByteArray := prog_13_method_36_code
def yX11_count : MethodName := ⟨RX11, "count", "(I)I"⟩
abbrev cX11_feed : ByteArray := prog_13_method_37_code
def yX11_feed : MethodName := ⟨RX11, "feed", "(IJ)I"⟩
abbrev cX11_here : ByteArray := prog_13_method_38_code
def yX11_here : MethodName := ⟨RX11, "here", "()I"⟩
abbrev cX11_fails : ByteArray := prog_13_method_39_code
def yX11_fails : MethodName := ⟨RX11, "fails", "(II)I"⟩
abbrev cX11_readWord : ByteArray := prog_13_method_40_code
def yX11_readWord : MethodName := ⟨RX11, "readWord", "()V"⟩
abbrev cX11_code : ByteArray := prog_13_method_41_code
def yX11_code : MethodName := ⟨RX11, "code", "(IIIIII)J"⟩
abbrev cX11_needs : ByteArray := prog_13_method_42_code
def yX11_needs : MethodName := ⟨RX11, "needs", "(J)I"⟩
abbrev cX11_readNumber : ByteArray := prog_13_method_43_code
def yX11_readNumber : MethodName := ⟨RX11, "readNumber", "(II)I"⟩
abbrev cX11_readWay : ByteArray := prog_13_method_44_code
def yX11_readWay : MethodName := ⟨RX11, "readWay", "(I)I"⟩
abbrev cX11_readNever : ByteArray := prog_13_method_45_code
def yX11_readNever : MethodName := ⟨RX11, "readNever", "(I)I"⟩
abbrev cX11_readMost : ByteArray := prog_13_method_46_code
def yX11_readMost : MethodName := ⟨RX11, "readMost", "(I)I"⟩
abbrev cX11_readAlways : ByteArray := prog_13_method_47_code
def yX11_readAlways : MethodName := ⟨RX11, "readAlways", "(I)I"⟩
abbrev cX11_readClause : ByteArray := prog_13_method_48_code
def yX11_readClause : MethodName := ⟨RX11, "readClause", "(I)I"⟩
abbrev cX11_read : ByteArray := prog_13_method_49_code
def yX11_read : MethodName := ⟨RX11, "read", "(I)I"⟩
abbrev cX11_fault : ByteArray := prog_13_method_50_code
def yX11_fault : MethodName := ⟨RX11, "fault", "()I"⟩
abbrev cX11_isAlways : ByteArray := prog_13_method_51_code
def yX11_isAlways : MethodName := ⟨RX11, "isAlways", "(II)Z"⟩
abbrev cX11_areAlways : ByteArray := prog_13_method_52_code
def yX11_areAlways : MethodName := ⟨RX11, "areAlways", "(II)Z"⟩
abbrev cX11_isWayBarred : ByteArray := prog_13_method_53_code
def yX11_isWayBarred : MethodName := ⟨RX11, "isWayBarred", "(III)Z"⟩
abbrev cX11_isKindBarred : ByteArray := prog_13_method_54_code
def yX11_isKindBarred : MethodName := ⟨RX11, "isKindBarred", "(III)Z"⟩
abbrev cX11_areMost : ByteArray := prog_13_method_55_code
def yX11_areMost : MethodName := ⟨RX11, "areMost", "(III)Z"⟩
abbrev cX11_barring : ByteArray := prog_13_method_56_code
def yX11_barring : MethodName := ⟨RX11, "barring", "(IIIII)I"⟩
abbrev cX11_areThings : ByteArray := prog_13_method_57_code
def yX11_areThings : MethodName := ⟨RX11, "areThings", "(I)Z"⟩
abbrev cX11_barred : ByteArray := prog_13_method_58_code
def yX11_barred : MethodName := ⟨RX11, "barred", "(III)I"⟩
abbrev cX11_setOf : ByteArray := prog_13_method_59_code
def yX11_setOf : MethodName := ⟨RX11, "setOf", "(I)I"⟩
abbrev cX11_isOneMatter : ByteArray := prog_13_method_60_code
def yX11_isOneMatter : MethodName := ⟨RX11, "isOneMatter", "(I)Z"⟩
abbrev cX11_findGain : ByteArray := prog_13_method_61_code
def yX11_findGain : MethodName := ⟨RX11, "findGain", "(III)V"⟩
abbrev cX11_place : ByteArray := prog_13_method_62_code
def yX11_place : MethodName := ⟨RX11, "place", "(III)I"⟩
abbrev cX11_by : ByteArray := prog_13_method_63_code
def yX11_by : MethodName := ⟨RX11, "by", "(IIIII)I"⟩
abbrev cX11_findPlans : ByteArray := prog_13_method_64_code
def yX11_findPlans : MethodName := ⟨RX11, "findPlans", "(II)V"⟩
abbrev cX11_plan : ByteArray := prog_13_method_65_code
def yX11_plan : MethodName := ⟨RX11, "plan", "(IIII)I"⟩
abbrev cX11_deadOf : ByteArray := prog_13_method_66_code
def yX11_deadOf : MethodName := ⟨RX11, "deadOf", "(I)I"⟩
abbrev cX11_areFor : ByteArray := prog_13_method_67_code
def yX11_areFor : MethodName := ⟨RX11, "areFor", "(II)Z"⟩
abbrev cX11_say : ByteArray := prog_13_method_68_code
def yX11_say : MethodName := ⟨RX11, "say", "(III)I"⟩
abbrev cX11_isSaying : ByteArray := prog_13_method_69_code
def yX11_isSaying : MethodName := ⟨RX11, "isSaying", "(I)Z"⟩
abbrev cX11_came : ByteArray := prog_13_method_70_code
def yX11_came : MethodName := ⟨RX11, "came", "(II)I"⟩
abbrev cX11_saying : ByteArray := prog_13_method_71_code
def yX11_saying : MethodName := ⟨RX11, "saying", "(II)I"⟩
abbrev cX11_cameOf : ByteArray := prog_13_method_72_code
def yX11_cameOf : MethodName := ⟨RX11, "cameOf", "(IZ)I"⟩
abbrev cX11_choose : ByteArray := prog_13_method_73_code
def yX11_choose : MethodName := ⟨RX11, "choose", "(II)J"⟩
abbrev cX11_gcd : ByteArray := prog_13_method_74_code
def yX11_gcd : MethodName := ⟨RX11, "gcd", "(JJ)J"⟩
abbrev cX11_learnt : ByteArray := prog_13_method_75_code
def yX11_learnt : MethodName := ⟨RX11, "learnt", "(III)I"⟩
abbrev cX11_who : ByteArray := prog_13_method_76_code
def yX11_who : MethodName := ⟨RX11, "who", "(II)I"⟩
abbrev cX11_tried : ByteArray := prog_13_method_77_code
def yX11_tried : MethodName := ⟨RX11, "tried", "(IIII)I"⟩
def RJ6 : String := "java/lang/Integer"
def TJ6 : u_T := fun k => match k with
  | _ => ("", "", "", false)
def tyJ6 : Nat → FieldType := fun k => match k with
  | _ => .int
abbrev wsJ60 : List Cond := u_ws RJ6 TJ6 0
theorem nmJ6 : ∀ a, a < 0 → ∀ b, b < 0 → a ≠ b → (TJ6 a).2.1 ≠ (TJ6 b).2.1 := by decide +kernel
theorem tyJ6_ok : ∀ k, k < 0 → parseFieldDescriptor (TJ6 k).2.2.1 = some (tyJ6 k) := by decide +kernel
abbrev cJ6_bitCount_0f7a4 : ByteArray := prog_14_method_49_code
def yJ6_bitCount_0f7a4 : MethodName := ⟨RJ6, "bitCount", "(I)I"⟩
def RJ9 : String := "java/lang/Math"
def TJ9 : u_T := fun k => match k with
  | _ => ("", "", "", false)
def tyJ9 : Nat → FieldType := fun k => match k with
  | _ => .int
abbrev wsJ90 : List Cond := u_ws RJ9 TJ9 0
theorem nmJ9 : ∀ a, a < 0 → ∀ b, b < 0 → a ≠ b → (TJ9 a).2.1 ≠ (TJ9 b).2.1 := by decide +kernel
theorem tyJ9_ok : ∀ k, k < 0 → parseFieldDescriptor (TJ9 k).2.2.1 = some (tyJ9 k) := by decide +kernel
abbrev cJ9_max_7cf53 : ByteArray := prog_15_method_65_code
def yJ9_max_7cf53 : MethodName := ⟨RJ9, "max", "(II)I"⟩
abbrev cJ9_min_7cf53 : ByteArray := prog_15_method_69_code
def yJ9_min_7cf53 : MethodName := ⟨RJ9, "min", "(II)I"⟩
def RJ0 : String := "java/lang/String"
def TJ0 : u_T := fun k => match k with
  | _ => ("", "", "", false)
def tyJ0 : Nat → FieldType := fun k => match k with
  | _ => .int
abbrev wsJ00 : List Cond := u_ws RJ0 TJ0 0
theorem nmJ0 : ∀ a, a < 0 → ∀ b, b < 0 → a ≠ b → (TJ0 a).2.1 ≠ (TJ0 b).2.1 := by decide +kernel
theorem tyJ0_ok : ∀ k, k < 0 → parseFieldDescriptor (TJ0 k).2.2.1 = some (tyJ0 k) := by decide +kernel
abbrev cJ0_length_8abf5 : ByteArray := prog_16_method_54_code
def yJ0_length_8abf5 : MethodName := ⟨RJ0, "length", "()I"⟩
abbrev cJ0_charAt_5068e : ByteArray := prog_16_method_56_code
def yJ0_charAt_5068e : MethodName := ⟨RJ0, "charAt", "(I)C"⟩
abbrev cJ0_coder_7d493 : ByteArray := prog_16_method_152_code
def yJ0_coder_7d493 : MethodName := ⟨RJ0, "coder", "()B"⟩
abbrev cJ0_isLatin1_aae02 : ByteArray := prog_16_method_154_code
def yJ0_isLatin1_aae02 : MethodName := ⟨RJ0, "isLatin1", "()Z"⟩
abbrev cJ0_checkIndex_df160 : ByteArray := prog_16_method_155_code
def yJ0_checkIndex_df160 : MethodName := ⟨RJ0, "checkIndex", "(II)V"⟩
def RJ1 : String := "java/lang/StringLatin1"
def TJ1 : u_T := fun k => match k with
  | _ => ("", "", "", false)
def tyJ1 : Nat → FieldType := fun k => match k with
  | _ => .int
abbrev wsJ10 : List Cond := u_ws RJ1 TJ1 0
theorem nmJ1 : ∀ a, a < 0 → ∀ b, b < 0 → a ≠ b → (TJ1 a).2.1 ≠ (TJ1 b).2.1 := by decide +kernel
theorem tyJ1_ok : ∀ k, k < 0 → parseFieldDescriptor (TJ1 k).2.2.1 = some (tyJ1 k) := by decide +kernel
abbrev cJ1_charAt_3b067 : ByteArray := prog_17_method_2_code
def yJ1_charAt_3b067 : MethodName := ⟨RJ1, "charAt", "([BI)C"⟩
def RJ2 : String := "java/lang/StringUTF16"
def TJ2 : u_T := fun k => match k with
  | _ => ("", "", "", false)
def tyJ2 : Nat → FieldType := fun k => match k with
  | _ => .int
abbrev wsJ20 : List Cond := u_ws RJ2 TJ2 0
theorem nmJ2 : ∀ a, a < 0 → ∀ b, b < 0 → a ≠ b → (TJ2 a).2.1 ≠ (TJ2 b).2.1 := by decide +kernel
theorem tyJ2_ok : ∀ k, k < 0 → parseFieldDescriptor (TJ2 k).2.2.1 = some (tyJ2 k) := by decide +kernel
abbrev cJ2_getChar_3b067 : ByteArray := prog_18_method_5_code
def yJ2_getChar_3b067 : MethodName := ⟨RJ2, "getChar", "([BI)C"⟩
abbrev cJ2_length_9d52b : ByteArray := prog_18_method_6_code
def yJ2_length_9d52b : MethodName := ⟨RJ2, "length", "([B)I"⟩
abbrev cJ2_charAt_3b067 : ByteArray := prog_18_method_83_code
def yJ2_charAt_3b067 : MethodName := ⟨RJ2, "charAt", "([BI)C"⟩
abbrev cJ2_checkIndex_2214a : ByteArray := prog_18_method_91_code
def yJ2_checkIndex_2214a : MethodName := ⟨RJ2, "checkIndex", "(I[B)V"⟩
def RJ3 : String := "jdk/internal/util/Preconditions"
def TJ3 : u_T := fun k => match k with
  | _ => ("", "", "", false)
def tyJ3 : Nat → FieldType := fun k => match k with
  | _ => .int
abbrev wsJ30 : List Cond := u_ws RJ3 TJ3 0
theorem nmJ3 : ∀ a, a < 0 → ∀ b, b < 0 → a ≠ b → (TJ3 a).2.1 ≠ (TJ3 b).2.1 := by decide +kernel
theorem tyJ3_ok : ∀ k, k < 0 → parseFieldDescriptor (TJ3 k).2.2.1 = some (tyJ3 k) := by decide +kernel
abbrev cJ3_checkIndex_8e157 : ByteArray := prog_19_method_11_code
def yJ3_checkIndex_8e157 : MethodName := ⟨RJ3, "checkIndex", "(IILjava/util/function/BiFunction;)I"⟩
def RL : String := "WhenToSpeakLaw"
abbrev cL_law : ByteArray := code
def yL_law : MethodName := ⟨RL, "law", "([I)Z"⟩
abbrev vwCl : List vw_C := [(RX0, TX0, 4), (RX1, TX1, 3), (RX2, TX2, 5), (RX3, TX3, 5), (RX4, TX4, 19), (RX5, TX5, 5), (RX6, TX6, 9), (RX7, TX7, 8), (RX8, TX8, 2), (RX9, TX9, 8), (RX10, TX10, 11), (RX11, TX11, 51)]
end
section
/-- what the fields of a class are: 0 int or boolean, 1 long, 2 a reference -/
def fTab : Nat → List Nat := fun c => match c with
  | 0 => [2, 2, 0, 0]
  | 1 => [0, 0, 0]
  | 2 => [0, 0, 0, 2, 0]
  | 3 => [0, 2, 2, 2, 2]
  | 4 => [0, 2, 2, 2, 2, 2, 2, 2, 2, 2, 2, 2, 2, 2, 2, 2, 0, 0, 0]
  | 5 => [0, 0, 0, 0, 0]
  | 6 => [0, 0, 0, 0, 0, 0, 0, 0, 0]
  | 7 => [0, 0, 0, 0, 2, 2, 2, 0]
  | 8 => [2, 2]
  | 9 => [2, 2, 2, 2, 2, 0, 2, 2]
  | 10 => [2, 2, 2, 2, 2, 2, 2, 2, 2, 2, 0]
  | _ => [2, 2, 2, 0, 2, 0, 2, 2, 2, 2, 2, 2, 0, 2, 2, 2, 2, 2, 2, 2, 2, 2, 2, 2, 2, 2, 2, 2, 2, 2, 2, 2, 2, 2, 0, 0, 0, 1, 0, 0, 2, 0, 2, 2, 2, 0, 2, 2, 2, 2, 2]
def fN (c : Nat) : Nat := (fTab c).length
def fTy (c k : Nat) : Nat := (fTab c).getD k 0
/-- what all share: class numbers and slots, array classes by kind, the first new address, the text constants and their bytes -/
abbrev GL : Type := va_G × (Nat → ClassId) × Nat × (Nat → Nat) × (Nat → Nat)
def gD (G : GL) : va_G := G.1
def gC (G : GL) : Nat → ClassId := G.2.1
def gZ (G : GL) : Nat := G.2.2.1
def gK (G : GL) : Nat → Nat := G.2.2.2.1
def gV (G : GL) : Nat → Nat := G.2.2.2.2
def gA (G : GL) : Nat → Prop := fun q => gZ G ≤ q
def fv (G : GL) (μ : Mem) (a c k : Nat) : Value := match fTy c k with
  | 0 => .int (mI μ a k)
  | 1 => .long (mJ μ a k)
  | _ => va_rf ((mR μ a k).map (gZ G + ·))
def cel (G : GL) (μ : Mem) (a : Nat) : va_E := match mS μ a with
  | (0, c) => .inr (c, (List.range (fN c)).map (fv G μ a c))
  | (1, n) => .inl (gC G 1, n, .inl (mI μ a))
  | (2, n) => .inl (gC G 2, n, .inr (.inl (mJ μ a)))
  | (3, n) => .inl (gC G 3, n, .inl (mI μ a))
  | (k, n) => .inl (gC G k, n, .inr (.inr (.inr (.inr (fun j => (mR μ a j).map (gZ G + ·))))))
def wsOf (G : GL) (μ : Mem) : va_W := (List.range (mN μ)).map (fun a => (gZ G + a, cel G μ a))
/-- the heap holds the memory -/
def Wd (G : GL) (μ : Mem) (H : Heap) : Prop := va_P (gD G) vwCl (wsOf G μ) H
def tysOf (G : GL) : List (ClassId × FieldType) := [(gC G 1, .int), (gC G 2, .long), (gC G 3, .boolean), (gC G 4, .object RX3), (gC G 5, .object RX5), (gC G 6, .object RX6), (gC G 7, .array .int)]
theorem ws_at {G : GL} {μ : Mem} {a : Nat} (h : a < mN μ) : (wsOf G μ)[a]? = some (gZ G + a, cel G μ a) := by
  simp [wsOf, List.getElem?_map, List.getElem?_range h]
theorem ws_D (G : GL) (μ : Mem) : va_D (gA G) (wsOf G μ) := by
  have h : ∀ (k : Nat) (q : Nat × va_E), (wsOf G μ)[k]? = some q → q.1 = gZ G + k := by
    intro k q hk
    have hl : k < mN μ := by
      have := (List.getElem?_eq_some_iff.mp hk).1
      simpa [wsOf] using this
    rw [ws_at hl] at hk
    cases hk
    rfl
  refine ⟨fun i j p q hi hj e => ?_, fun k q hk => ?_⟩
  · rw [h i p hi, h j q hj] at e
    omega
  · show gZ G ≤ q.1
    rw [h k q hk]
    omega
theorem ws_set {G : GL} {μ μ' : Mem} {a : Nat} (hn : mN μ' = mN μ) (h : ∀ b, b ≠ a → cel G μ' b = cel G μ b) : (wsOf G μ).set a (gZ G + a, cel G μ' a) = wsOf G μ' := by
  apply List.ext_getElem?
  intro i
  rw [List.getElem?_set]
  by_cases e : a = i
  · subst e
    by_cases hl : a < mN μ
    · rw [if_pos rfl, if_pos (by simpa [wsOf] using hl), ws_at (by rw [hn]; exact hl)]
    · rw [if_pos rfl, if_neg (by simpa [wsOf] using hl)]
      rw [List.getElem?_eq_none (by simpa [wsOf, hn] using hl)]
  · rw [if_neg e]
    by_cases hl : i < mN μ
    · rw [ws_at hl, ws_at (by rw [hn]; exact hl), h i (fun q => e q.symm)]
    · rw [List.getElem?_eq_none (by simpa [wsOf] using hl), List.getElem?_eq_none (by simpa [wsOf, hn] using hl)]
theorem ws_push {G : GL} {μ : Mem} {sh : Nat × Nat} : wsOf G (mNew μ sh) = wsOf G μ ++ [(gZ G + mN μ, cel G (mNew μ sh) (mN μ))] := by
  have hc : ∀ b, b < mN μ → cel G (mNew μ sh) b = cel G μ b := by
    intro b hb
    have hne : b ≠ μ.1 := Nat.ne_of_lt hb
    have e1 : mS (mNew μ sh) b = mS μ b := if_neg hne
    have e2 : mI (mNew μ sh) b = mI μ b := if_neg hne
    have e3 : mJ (mNew μ sh) b = mJ μ b := if_neg hne
    have e4 : mR (mNew μ sh) b = mR μ b := if_neg hne
    have e5 : fv G (mNew μ sh) b = fv G μ b := by
      funext c k
      simp only [fv, e2, e3, e4]
    simp only [cel, e1, e2, e3, e4, e5]
  have hN : mN (mNew μ sh) = mN μ + 1 := rfl
  simp only [wsOf, hN, List.range_succ, List.map_append, List.map_cons, List.map_nil]
  congr 1
  apply List.map_congr_left
  intro b hb
  rw [hc b (List.mem_range.mp hb)]
end
section
/-! ===== the words that all methods share ===== -/
def gw : List Cond := lw_tbl.filter goodWord
def isNest : Cond → Bool
  | .methodLinkNest _ _ _ _ => true
  | _ => false
def nestW : List Cond := lw_tbl.filter isNest
theorem gw_good : ∀ w ∈ gw, w ∈ lw_tbl ∧ ((w.onTables && w.keeps) = true ∨ ∃ ty, w = .arrayClass ty) := fun w h => ⟨(List.mem_filter.mp h).1, good_of_word (List.mem_filter.mp h).2⟩
def mws (y : MethodName) (cc : ByteArray) (nL : Nat) (ret : Option FieldType) : List Cond := Cond.code y cc nL ret :: gw
theorem mws_good {y y' : MethodName} {cc cc' : ByteArray} {nL nL' : Nat} {ret ret' : Option FieldType} (h : Cond.code y' cc' nL' ret' ∈ gw) : GoodIn (mws y cc nL ret) (mws y' cc' nL' ret') := by
  intro w hw
  rcases List.mem_cons.mp hw with rfl | hw
  · exact ⟨List.mem_cons_of_mem _ h, (gw_good _ h).2⟩
  · exact ⟨List.mem_cons_of_mem _ hw, (gw_good _ hw).2⟩
/-- where the nine text constants of the class stand in its pool, and their texts -/
def sIx : List Nat := [40, 77, 79, 81, 83, 53, 59, 69, 71]
def sTx : List String := ["never", "way", "state", "kind", "after", "most", "in", "always", "from"]
/-! ===== what holds of the tables all the time ===== -/
def AOA (U : State) : Prop := (Cond.arrayOver (.array .int)).before #[] U = true
def KK (G : GL) (U : State) : Prop := va_K (gD G) vwCl (tysOf G) U ∧ (∀ w ∈ nestW, va_Nw w U) ∧ (va_AO RX3 U ∧ va_AO RX5 U ∧ va_AO RX6 U ∧ AOA U) ∧ ∀ i, i < 9 → vk_R RX2 (sIx.getD i 0) (sTx.getD i "") (gK G i) U
/-- what holds of old cells: the text constants, two statics -/
def EX (G : GL) (U : State) (H : Heap) : Prop := vk_S 9 sLens sByts (gK G) (gV G) (gA G) U H ∧ va_Z "java/lang/String" "COMPACT_STRINGS" "Z" (.int 1) (gA G) U H ∧ ∃ v : Value, v.category = 1 ∧ va_Z "jdk/internal/util/Preconditions" "SIOOBE_FORMATTER" "Ljava/util/function/BiFunction;" v (gA G) U H
theorem EX.moved {G : GL} {u U : State} {H : Heap} (hvm : u.vm.Alike U.vm) (h : EX G u H) : EX G U H := by
  obtain ⟨h1, h2, v, h4, h3⟩ := h
  exact ⟨h1.moved hvm, h2.moved hvm, v, h4, h3.moved hvm⟩
theorem EX.kept {G : GL} {U : State} {H H1 : Heap} (h : EX G U H) (hq : ∀ a : Nat, a < H.size → ¬ gA G a → H1[a]? = H[a]?) : EX G U H1 := by
  obtain ⟨h1, h2, v, h4, h3⟩ := h
  exact ⟨h1.kept hq, h2.kept hq, v, h4, h3.kept hq⟩
theorem AOA.moved {u U : State} (hvm : u.vm.Alike U.vm) (h : AOA u) : AOA U := by
  obtain ⟨comp, c, k, h1, h2, h3, h4, h5⟩ := arrayOver_specB h
  obtain ⟨k', hk', he⟩ := hvm.2.2 _ _ h3
  have hi : (U.vm.classes.findIdx? fun (x : Class) => match x.kind with | .array component _ => component == comp | _ => false) = some c := by
    refine (va_idx_bare U.vm comp).symm.trans ?_
    first | rw [hvm.bare_eq] | rw [← hvm.bare_eq]
    exact (va_idx_bare u.vm comp).trans h2
  have hkind : k'.kind = .array comp (.array .int) := by rw [he]; exact h4
  have f1 : U.vm.findClass (FieldType.array .int).toString = some comp := by rw [hvm.findClass]; exact h1
  have f2 : U.vm.findClass ("[" ++ (FieldType.array .int).toString) = some c := by rw [hvm.findClass]; exact h5
  unfold AOA Cond.before Cond.holds
  simp only [Cond.value]
  rw [f1, Option.bind_some]
  refine (congrArg (fun o : Option Nat => (o.bind (fun c => (U.vm.classes[c]?).map fun (k : Class) => match k.kind with | .array _ ty => decide (ty = FieldType.array .int) && decide (U.vm.findClass ("[" ++ (FieldType.array .int).toString) = some c) | _ => false) == some true)) hi).trans ?_
  simp [hk', hkind, f2]
abbrev CX : Type := Program × Launch × Env × Room × State × MethodId × Array Value × List Frame × Method × Code × (State → Prop)
abbrev xP (X : CX) : Program := X.1
abbrev xL (X : CX) : Launch := X.2.1
abbrev xE (X : CX) : Env := X.2.2.1
abbrev xR (X : CX) : Room := X.2.2.2.1
abbrev xS (X : CX) : State := X.2.2.2.2.1
abbrev xM (X : CX) : MethodId := X.2.2.2.2.2.1
abbrev xA (X : CX) : Array Value := X.2.2.2.2.2.2.1
abbrev xB (X : CX) : List Frame := X.2.2.2.2.2.2.2.1
abbrev xT (X : CX) : Method := X.2.2.2.2.2.2.2.2.1
abbrev xC (X : CX) : Code := X.2.2.2.2.2.2.2.2.2.1
abbrev xQ (X : CX) : State → Prop := X.2.2.2.2.2.2.2.2.2.2
/-- the machine inside a method: its code, its words, its room -/
def Ctx (G : GL) (X : CX) (cc : ByteArray) (nL : Nat) (own : String) (rm : Room) : Prop :=
  (xP X).tables.exec = Jvm.exec ∧ (xC X).code = cc ∧ (xC X).maxLocals = nL ∧ (xS X).vm.findClass own = some (xM X).cls ∧ (∀ w ∈ gw, w.before (xA X) (xS X) = true) ∧ KK G (xS X) ∧ xR X = rm ∧ gZ G ≤ (xS X).heap.size ∧ EX G (xS X) (xS X).heap
/-- from this frame, with this memory, the machine comes to Q -/
def AW (G : GL) (nL : Nat) (X : CX) (cells slots pc : Nat) (L : List (Nat × Value)) (st : List Value) (μ : Mem) : Prop :=
  ∀ (H : Heap) (locs : List Loc) (ls : Array Slot), lv_has ls nL L → Wd G μ H → va_S (gA G) (xS X).heap H locs → W (xP X) (xL X) (xE X) (xR X) (xS X) (xM X) (xA X) (xB X) (xT X) (xC X) H locs cells slots (xQ X) (F0 (xM X) pc ls st)
section AWR
variable {G : GL} {X : CX} {cc : ByteArray} {nL : Nat} {own : String} {rm : Room} {cells slots pc : Nat} {L L' : List (Nat × Value)} {st : List Value} {μ μ' : Mem}
theorem aw_sub (ks : List Nat) (h : lv_pick L ks = L') (k : AW G nL X cells slots pc L' st μ) : AW G nL X cells slots pc L st μ := fun H locs ls a b e => k H locs ls (lv_sub a ks h) b e
theorem aw_topi {x y : Int32} (h : x = y) (k : AW G nL X cells slots pc L (.int y :: st) μ) : AW G nL X cells slots pc L (.int x :: st) μ := h ▸ k
theorem aw_topj {x y : Int64} (h : x = y) (k : AW G nL X cells slots pc L (.long y :: st) μ) : AW G nL X cells slots pc L (.long x :: st) μ := h ▸ k
theorem aw_iconst (C : Ctx G X cc nL own rm) {n : Int} (v : Int32) (d : decode cc pc = .ok (.iconst n, 1)) (hv : Int32.ofInt n = v) (k : AW G nL X cells slots (pc + 1) L (.int v :: st) μ) : AW G nL X cells slots pc L st μ := fun H locs ls a b e => lv_iconst C.1 C.2.1 d hv (k H locs ls a b e)
theorem aw_bipush (C : Ctx G X cc nL own rm) {n : Int} (v : Int32) (d : decode cc pc = .ok (.bipush n, 2)) (hv : (Int8.ofInt n).toInt32 = v) (k : AW G nL X cells slots (pc + 2) L (.int v :: st) μ) : AW G nL X cells slots pc L st μ := fun H locs ls a b e => lv_bipush C.1 C.2.1 d hv (k H locs ls a b e)
theorem aw_sipush (C : Ctx G X cc nL own rm) {n : Int} (v : Int32) (d : decode cc pc = .ok (.sipush n, 3)) (hv : (Int16.ofInt n).toInt32 = v) (k : AW G nL X cells slots (pc + 3) L (.int v :: st) μ) : AW G nL X cells slots pc L st μ := fun H locs ls a b e => lv_sipush C.1 C.2.1 d hv (k H locs ls a b e)
theorem aw_lconst (C : Ctx G X cc nL own rm) {n : Fin 2} (v : Int64) (d : decode cc pc = .ok (.lconst n, 1)) (hv : Int64.ofNat (n : Nat) = v) (k : AW G nL X cells slots (pc + 1) L (.long v :: st) μ) : AW G nL X cells slots pc L st μ := fun H locs ls a b e => lv_lconst C.1 C.2.1 d hv (k H locs ls a b e)
theorem aw_ldc (C : Ctx G X cc nL own rm) {i : Nat} {v : Int32} (hw : Cond.constant own i v ∈ gw) (d : decode cc pc = .ok (.ldc i, 2)) (k : AW G nL X cells slots (pc + 2) L (.int v :: st) μ) : AW G nL X cells slots pc L st μ := fun H locs ls a b e => lv_ldc C.1 C.2.1 C.2.2.2.1 (C.2.2.2.2.1 _ hw) d (k H locs ls a b e)
theorem aw_ldcw (C : Ctx G X cc nL own rm) {i : Nat} {v : Int32} (hw : Cond.constant own i v ∈ gw) (d : decode cc pc = .ok (.ldc_w i, 3)) (k : AW G nL X cells slots (pc + 3) L (.int v :: st) μ) : AW G nL X cells slots pc L st μ := fun H locs ls a b e => lv_ldcw C.1 C.2.1 C.2.2.2.1 (C.2.2.2.2.1 _ hw) d (k H locs ls a b e)
theorem aw_ldc2 (C : Ctx G X cc nL own rm) {i : Nat} {v : Int64} (hw : Cond.constantLong own i v ∈ gw) (d : decode cc pc = .ok (.ldc2_w i, 3)) (k : AW G nL X cells slots (pc + 3) L (.long v :: st) μ) : AW G nL X cells slots pc L st μ := fun H locs ls a b e => lv_ldc2 C.1 C.2.1 C.2.2.2.1 (C.2.2.2.2.1 _ hw) d (k H locs ls a b e)
theorem aw_iload_n (C : Ctx G X cc nL own rm) {n : Fin 4} {i : Nat} {x : Int32} (j : Nat) (d : decode cc pc = .ok (.iload_n n, 1)) (hi : (n : Nat) = i) (hj : L[j]? = some (i, .int x)) (k : AW G nL X cells slots (pc + 1) L (.int x :: st) μ) : AW G nL X cells slots pc L st μ := fun H locs ls a b e => lv_iload_n C.1 C.2.1 d hi (lv_at a j hj) (k H locs ls a b e)
theorem aw_iload (C : Ctx G X cc nL own rm) {i : Nat} {x : Int32} (j : Nat) (d : decode cc pc = .ok (.iload i, 2)) (hj : L[j]? = some (i, .int x)) (k : AW G nL X cells slots (pc + 2) L (.int x :: st) μ) : AW G nL X cells slots pc L st μ := fun H locs ls a b e => lv_iload C.1 C.2.1 d (lv_at a j hj) (k H locs ls a b e)
theorem aw_lload_n (C : Ctx G X cc nL own rm) {n : Fin 4} {i : Nat} {x : Int64} (j : Nat) (d : decode cc pc = .ok (.lload_n n, 1)) (hi : (n : Nat) = i) (hj : L[j]? = some (i, .long x)) (k : AW G nL X cells slots (pc + 1) L (.long x :: st) μ) : AW G nL X cells slots pc L st μ := fun H locs ls a b e => lv_lload_n C.1 C.2.1 d hi (lv_at a j hj) (k H locs ls a b e)
theorem aw_lload (C : Ctx G X cc nL own rm) {i : Nat} {x : Int64} (j : Nat) (d : decode cc pc = .ok (.lload i, 2)) (hj : L[j]? = some (i, .long x)) (k : AW G nL X cells slots (pc + 2) L (.long x :: st) μ) : AW G nL X cells slots pc L st μ := fun H locs ls a b e => lv_lload C.1 C.2.1 d (lv_at a j hj) (k H locs ls a b e)
theorem aw_aload_n (C : Ctx G X cc nL own rm) {n : Fin 4} {i : Nat} {x : Nat} (j : Nat) (d : decode cc pc = .ok (.aload_n n, 1)) (hi : (n : Nat) = i) (hj : L[j]? = some (i, .ref x)) (k : AW G nL X cells slots (pc + 1) L (.ref x :: st) μ) : AW G nL X cells slots pc L st μ := fun H locs ls a b e => lv_aload_n C.1 C.2.1 d hi (lv_at a j hj) (k H locs ls a b e)
theorem aw_aload (C : Ctx G X cc nL own rm) {i : Nat} {x : Nat} (j : Nat) (d : decode cc pc = .ok (.aload i, 2)) (hj : L[j]? = some (i, .ref x)) (k : AW G nL X cells slots (pc + 2) L (.ref x :: st) μ) : AW G nL X cells slots pc L st μ := fun H locs ls a b e => lv_aload C.1 C.2.1 d (lv_at a j hj) (k H locs ls a b e)
theorem aw_istore_n (C : Ctx G X cc nL own rm) {n : Fin 4} {i : Nat} {x : Int32} (L' : List (Nat × Value)) (d : decode cc pc = .ok (.istore_n n, 1)) (hi : (n : Nat) = i) (hn : i < nL) (hl : (i, Value.int x) :: L.filter (fun q => !(q.1 == i) && !(q.1 + 1 == i && q.2.category == 2)) = L') (k : AW G nL X cells slots (pc + 1) L' st μ) : AW G nL X cells slots pc L (.int x :: st) μ := fun H locs ls a b e => lv_istore_n C.1 C.2.1 d hi a hn hl (fun ls' a' => k H locs ls' a' b e)
theorem aw_istore (C : Ctx G X cc nL own rm) {i : Nat} {x : Int32} (L' : List (Nat × Value)) (d : decode cc pc = .ok (.istore i, 2)) (hn : i < nL) (hl : (i, Value.int x) :: L.filter (fun q => !(q.1 == i) && !(q.1 + 1 == i && q.2.category == 2)) = L') (k : AW G nL X cells slots (pc + 2) L' st μ) : AW G nL X cells slots pc L (.int x :: st) μ := fun H locs ls a b e => lv_istore C.1 C.2.1 d a hn hl (fun ls' a' => k H locs ls' a' b e)
theorem aw_lstore_n (C : Ctx G X cc nL own rm) {n : Fin 4} {i : Nat} {x : Int64} (L' : List (Nat × Value)) (d : decode cc pc = .ok (.lstore_n n, 1)) (hi : (n : Nat) = i) (hn : i + 1 < nL) (hl : (i, Value.long x) :: L.filter (fun q => !(q.1 == i) && (!(q.1 == i + 1) && !(q.1 + 1 == i && q.2.category == 2))) = L') (k : AW G nL X cells slots (pc + 1) L' st μ) : AW G nL X cells slots pc L (.long x :: st) μ := fun H locs ls a b e => lv_lstore_n C.1 C.2.1 d hi a hn hl (fun ls' a' => k H locs ls' a' b e)
theorem aw_lstore (C : Ctx G X cc nL own rm) {i : Nat} {x : Int64} (L' : List (Nat × Value)) (d : decode cc pc = .ok (.lstore i, 2)) (hn : i + 1 < nL) (hl : (i, Value.long x) :: L.filter (fun q => !(q.1 == i) && (!(q.1 == i + 1) && !(q.1 + 1 == i && q.2.category == 2))) = L') (k : AW G nL X cells slots (pc + 2) L' st μ) : AW G nL X cells slots pc L (.long x :: st) μ := fun H locs ls a b e => lv_lstore C.1 C.2.1 d a hn hl (fun ls' a' => k H locs ls' a' b e)
theorem aw_astore_n (C : Ctx G X cc nL own rm) {n : Fin 4} {i : Nat} {x : Nat} (L' : List (Nat × Value)) (d : decode cc pc = .ok (.astore_n n, 1)) (hi : (n : Nat) = i) (hn : i < nL) (hl : (i, Value.ref x) :: L.filter (fun q => !(q.1 == i) && !(q.1 + 1 == i && q.2.category == 2)) = L') (k : AW G nL X cells slots (pc + 1) L' st μ) : AW G nL X cells slots pc L (.ref x :: st) μ := fun H locs ls a b e => lv_astore_n C.1 C.2.1 d hi a hn hl (fun ls' a' => k H locs ls' a' b e)
theorem aw_astore (C : Ctx G X cc nL own rm) {i : Nat} {x : Nat} (L' : List (Nat × Value)) (d : decode cc pc = .ok (.astore i, 2)) (hn : i < nL) (hl : (i, Value.ref x) :: L.filter (fun q => !(q.1 == i) && !(q.1 + 1 == i && q.2.category == 2)) = L') (k : AW G nL X cells slots (pc + 2) L' st μ) : AW G nL X cells slots pc L (.ref x :: st) μ := fun H locs ls a b e => lv_astore C.1 C.2.1 d a hn hl (fun ls' a' => k H locs ls' a' b e)
theorem aw_iinc (C : Ctx G X cc nL own rm) {i : Nat} {n : Int} {x : Int32} (v : Int32) (j : Nat) (L' : List (Nat × Value)) (d : decode cc pc = .ok (.iinc i n, 3)) (hj : L[j]? = some (i, .int x)) (hv : x + Int32.ofInt n = v) (hn : i < nL) (hl : (i, Value.int v) :: L.filter (fun q => !(q.1 == i) && !(q.1 + 1 == i && q.2.category == 2)) = L') (k : AW G nL X cells slots (pc + 3) L' st μ) : AW G nL X cells slots pc L st μ := fun H locs ls a b e => lv_iinc C.1 C.2.1 d a hj hv hn hl (fun ls' a' => k H locs ls' a' b e)
theorem aw_iadd (C : Ctx G X cc nL own rm) {x y : Int32} (d : decode cc pc = .ok (.iadd, 1)) (k : AW G nL X cells slots (pc + 1) L (.int (x + y) :: st) μ) : AW G nL X cells slots pc L (.int y :: .int x :: st) μ := fun H locs ls a b e => lv_iadd C.1 C.2.1 d (k H locs ls a b e)
theorem aw_isub (C : Ctx G X cc nL own rm) {x y : Int32} (d : decode cc pc = .ok (.isub, 1)) (k : AW G nL X cells slots (pc + 1) L (.int (x - y) :: st) μ) : AW G nL X cells slots pc L (.int y :: .int x :: st) μ := fun H locs ls a b e => lv_isub C.1 C.2.1 d (k H locs ls a b e)
theorem aw_imul (C : Ctx G X cc nL own rm) {x y : Int32} (d : decode cc pc = .ok (.imul, 1)) (k : AW G nL X cells slots (pc + 1) L (.int (x * y) :: st) μ) : AW G nL X cells slots pc L (.int y :: .int x :: st) μ := fun H locs ls a b e => lv_imul C.1 C.2.1 d (k H locs ls a b e)
theorem aw_iand (C : Ctx G X cc nL own rm) {x y : Int32} (d : decode cc pc = .ok (.iand, 1)) (k : AW G nL X cells slots (pc + 1) L (.int (x &&& y) :: st) μ) : AW G nL X cells slots pc L (.int y :: .int x :: st) μ := fun H locs ls a b e => lv_iand C.1 C.2.1 d (k H locs ls a b e)
theorem aw_ior (C : Ctx G X cc nL own rm) {x y : Int32} (d : decode cc pc = .ok (.ior, 1)) (k : AW G nL X cells slots (pc + 1) L (.int (x ||| y) :: st) μ) : AW G nL X cells slots pc L (.int y :: .int x :: st) μ := fun H locs ls a b e => lv_ior C.1 C.2.1 d (k H locs ls a b e)
theorem aw_ixor (C : Ctx G X cc nL own rm) {x y : Int32} (d : decode cc pc = .ok (.ixor, 1)) (k : AW G nL X cells slots (pc + 1) L (.int (x ^^^ y) :: st) μ) : AW G nL X cells slots pc L (.int y :: .int x :: st) μ := fun H locs ls a b e => lv_ixor C.1 C.2.1 d (k H locs ls a b e)
theorem aw_ishl (C : Ctx G X cc nL own rm) {x y : Int32} (d : decode cc pc = .ok (.ishl, 1)) (k : AW G nL X cells slots (pc + 1) L (.int (x <<< (y &&& 31)) :: st) μ) : AW G nL X cells slots pc L (.int y :: .int x :: st) μ := fun H locs ls a b e => lv_ishl C.1 C.2.1 d (k H locs ls a b e)
theorem aw_ishr (C : Ctx G X cc nL own rm) {x y : Int32} (d : decode cc pc = .ok (.ishr, 1)) (k : AW G nL X cells slots (pc + 1) L (.int (x >>> (y &&& 31)) :: st) μ) : AW G nL X cells slots pc L (.int y :: .int x :: st) μ := fun H locs ls a b e => lv_ishr C.1 C.2.1 d (k H locs ls a b e)
theorem aw_iushr (C : Ctx G X cc nL own rm) {x y : Int32} (d : decode cc pc = .ok (.iushr, 1)) (k : AW G nL X cells slots (pc + 1) L (.int ((x.toUInt32 >>> (y.toUInt32 &&& Int32.toUInt32 31)).toInt32) :: st) μ) : AW G nL X cells slots pc L (.int y :: .int x :: st) μ := fun H locs ls a b e => lv_iushr C.1 C.2.1 d (by first | exact rfl | exact (k H locs ls a b e)) (k H locs ls a b e)
theorem aw_ladd (C : Ctx G X cc nL own rm) {x y : Int64} (d : decode cc pc = .ok (.ladd, 1)) (k : AW G nL X cells slots (pc + 1) L (.long (x + y) :: st) μ) : AW G nL X cells slots pc L (.long y :: .long x :: st) μ := fun H locs ls a b e => lv_ladd C.1 C.2.1 d (k H locs ls a b e)
theorem aw_lsub (C : Ctx G X cc nL own rm) {x y : Int64} (d : decode cc pc = .ok (.lsub, 1)) (k : AW G nL X cells slots (pc + 1) L (.long (x - y) :: st) μ) : AW G nL X cells slots pc L (.long y :: .long x :: st) μ := fun H locs ls a b e => lv_lsub C.1 C.2.1 d (k H locs ls a b e)
theorem aw_lmul (C : Ctx G X cc nL own rm) {x y : Int64} (d : decode cc pc = .ok (.lmul, 1)) (k : AW G nL X cells slots (pc + 1) L (.long (x * y) :: st) μ) : AW G nL X cells slots pc L (.long y :: .long x :: st) μ := fun H locs ls a b e => lv_lmul C.1 C.2.1 d (k H locs ls a b e)
theorem aw_land (C : Ctx G X cc nL own rm) {x y : Int64} (d : decode cc pc = .ok (.land, 1)) (k : AW G nL X cells slots (pc + 1) L (.long (x &&& y) :: st) μ) : AW G nL X cells slots pc L (.long y :: .long x :: st) μ := fun H locs ls a b e => lv_land C.1 C.2.1 d (k H locs ls a b e)
theorem aw_lor (C : Ctx G X cc nL own rm) {x y : Int64} (d : decode cc pc = .ok (.lor, 1)) (k : AW G nL X cells slots (pc + 1) L (.long (x ||| y) :: st) μ) : AW G nL X cells slots pc L (.long y :: .long x :: st) μ := fun H locs ls a b e => lv_lor C.1 C.2.1 d (k H locs ls a b e)
theorem aw_lshl (C : Ctx G X cc nL own rm) {x : Int64} {y : Int32} (d : decode cc pc = .ok (.lshl, 1)) (k : AW G nL X cells slots (pc + 1) L (.long (x <<< (y.toInt64 &&& 63)) :: st) μ) : AW G nL X cells slots pc L (.int y :: .long x :: st) μ := fun H locs ls a b e => lv_lshl C.1 C.2.1 d rfl (k H locs ls a b e)
theorem aw_lshr (C : Ctx G X cc nL own rm) {x : Int64} {y : Int32} (d : decode cc pc = .ok (.lshr, 1)) (k : AW G nL X cells slots (pc + 1) L (.long (x >>> (y.toInt64 &&& 63)) :: st) μ) : AW G nL X cells slots pc L (.int y :: .long x :: st) μ := fun H locs ls a b e => lv_lshr C.1 C.2.1 d rfl (k H locs ls a b e)
theorem aw_lushr (C : Ctx G X cc nL own rm) {x : Int64} {y : Int32} (d : decode cc pc = .ok (.lushr, 1)) (k : AW G nL X cells slots (pc + 1) L (.long ((x.toUInt64 >>> (y.toInt64.toUInt64 &&& Int64.toUInt64 63)).toInt64) :: st) μ) : AW G nL X cells slots pc L (.int y :: .long x :: st) μ := fun H locs ls a b e => lv_lushr C.1 C.2.1 d rfl (k H locs ls a b e)
theorem aw_i2l (C : Ctx G X cc nL own rm) {x : Int32} (d : decode cc pc = .ok (.i2l, 1)) (k : AW G nL X cells slots (pc + 1) L (.long (x.toInt64) :: st) μ) : AW G nL X cells slots pc L (.int x :: st) μ := fun H locs ls a b e => lv_i2l C.1 C.2.1 d rfl (k H locs ls a b e)
theorem aw_l2i (C : Ctx G X cc nL own rm) {x : Int64} (d : decode cc pc = .ok (.l2i, 1)) (k : AW G nL X cells slots (pc + 1) L (.int (x.toInt32) :: st) μ) : AW G nL X cells slots pc L (.long x :: st) μ := fun H locs ls a b e => lv_l2i C.1 C.2.1 d rfl (k H locs ls a b e)
theorem aw_idiv (C : Ctx G X cc nL own rm) {x y v : Int32} (h : dvI x y = some v) (d : decode cc pc = .ok (.idiv, 1)) (k : AW G nL X cells slots (pc + 1) L (.int v :: st) μ) : AW G nL X cells slots pc L (.int y :: .int x :: st) μ := by
  unfold dvI at h
  split at h
  · cases h
  · rename_i hy
    cases h
    exact fun H locs ls a b e => lv_idiv C.1 C.2.1 d hy (k H locs ls a b e)
theorem aw_ldiv (C : Ctx G X cc nL own rm) {x y v : Int64} (h : dvJ x y = some v) (d : decode cc pc = .ok (.ldiv, 1)) (k : AW G nL X cells slots (pc + 1) L (.long v :: st) μ) : AW G nL X cells slots pc L (.long y :: .long x :: st) μ := by
  unfold dvJ at h
  split at h
  · cases h
  · rename_i hy
    cases h
    exact fun H locs ls a b e => lv_ldiv C.1 C.2.1 d hy (k H locs ls a b e)
theorem aw_lrem (C : Ctx G X cc nL own rm) {x y v : Int64} (h : rmJ x y = some v) (d : decode cc pc = .ok (.lrem, 1)) (k : AW G nL X cells slots (pc + 1) L (.long v :: st) μ) : AW G nL X cells slots pc L (.long y :: .long x :: st) μ := by
  unfold rmJ at h
  split at h
  · cases h
  · rename_i hy
    cases h
    exact fun H locs ls a b e => lv_lrem C.1 C.2.1 d hy (k H locs ls a b e)
theorem aw_dup (C : Ctx G X cc nL own rm) {v : Value} (d : decode cc pc = .ok (.dup, 1)) (hv : v.category = 1) (k : AW G nL X cells slots (pc + 1) L (v :: v :: st) μ) : AW G nL X cells slots pc L (v :: st) μ := fun H locs ls a b e => lv_dup C.1 C.2.1 d hv (k H locs ls a b e)
theorem aw_dup2 (C : Ctx G X cc nL own rm) {v w : Value} (d : decode cc pc = .ok (.dup2, 1)) (hv : v.category = 1) (hw : w.category = 1) (k : AW G nL X cells slots (pc + 1) L (v :: w :: v :: w :: st) μ) : AW G nL X cells slots pc L (v :: w :: st) μ := fun H locs ls a b e => lv_dup2_11 C.1 C.2.1 d hv hw (k H locs ls a b e)
theorem aw_pop (C : Ctx G X cc nL own rm) {v : Value} (d : decode cc pc = .ok (.pop, 1)) (hv : v.category = 1) (k : AW G nL X cells slots (pc + 1) L (st) μ) : AW G nL X cells slots pc L (v :: st) μ := fun H locs ls a b e => lv_pop C.1 C.2.1 d hv (k H locs ls a b e)
theorem aw_goto (C : Ctx G X cc nL own rm) {off : Int} (tgt : Nat) (d : decode cc pc = .ok (.goto off, 3)) (ht : (pc : Int) + off = (tgt : Int)) (k : AW G nL X cells slots tgt L (st) μ) : AW G nL X cells slots pc L (st) μ := fun H locs ls a b e => lv_goto C.1 C.2.1 d ht (k H locs ls a b e)
theorem aw_icmp_eq (C : Ctx G X cc nL own rm) {x y : Int32} {off : Int} (tgt : Nat) (d : decode cc pc = .ok (.if_icmp .eq off, 3)) (ht : (pc : Int) + off = (tgt : Int)) (kt : x = y → AW G nL X cells slots tgt L (st) μ) (kf : ¬ x = y → AW G nL X cells slots (pc + 3) L (st) μ) : AW G nL X cells slots pc L (.int y :: .int x :: st) μ := fun H locs ls a b e => lv_icmp_eq C.1 C.2.1 d ht (fun c => kt c H locs ls a b e) (fun c => kf c H locs ls a b e)
theorem aw_if_eq (C : Ctx G X cc nL own rm) {x : Int32} {off : Int} (tgt : Nat) (d : decode cc pc = .ok (.ifCond .eq off, 3)) (ht : (pc : Int) + off = (tgt : Int)) (kt : x = 0 → AW G nL X cells slots tgt L (st) μ) (kf : ¬ x = 0 → AW G nL X cells slots (pc + 3) L (st) μ) : AW G nL X cells slots pc L (.int x :: st) μ := fun H locs ls a b e => lv_if_eq C.1 C.2.1 d ht (fun c => kt c H locs ls a b e) (fun c => kf c H locs ls a b e)
theorem aw_icmp_ne (C : Ctx G X cc nL own rm) {x y : Int32} {off : Int} (tgt : Nat) (d : decode cc pc = .ok (.if_icmp .ne off, 3)) (ht : (pc : Int) + off = (tgt : Int)) (kt : ¬ x = y → AW G nL X cells slots tgt L (st) μ) (kf : x = y → AW G nL X cells slots (pc + 3) L (st) μ) : AW G nL X cells slots pc L (.int y :: .int x :: st) μ := fun H locs ls a b e => lv_icmp_ne C.1 C.2.1 d ht (fun c => kt c H locs ls a b e) (fun c => kf (by first | exact c | exact Classical.not_not.mp c) H locs ls a b e)
theorem aw_if_ne (C : Ctx G X cc nL own rm) {x : Int32} {off : Int} (tgt : Nat) (d : decode cc pc = .ok (.ifCond .ne off, 3)) (ht : (pc : Int) + off = (tgt : Int)) (kt : ¬ x = 0 → AW G nL X cells slots tgt L (st) μ) (kf : x = 0 → AW G nL X cells slots (pc + 3) L (st) μ) : AW G nL X cells slots pc L (.int x :: st) μ := fun H locs ls a b e => lv_if_ne C.1 C.2.1 d ht (fun c => kt c H locs ls a b e) (fun c => kf (by first | exact c | exact Classical.not_not.mp c) H locs ls a b e)
theorem aw_icmp_lt (C : Ctx G X cc nL own rm) {x y : Int32} {off : Int} (tgt : Nat) (d : decode cc pc = .ok (.if_icmp .lt off, 3)) (ht : (pc : Int) + off = (tgt : Int)) (kt : x < y → AW G nL X cells slots tgt L (st) μ) (kf : ¬ x < y → AW G nL X cells slots (pc + 3) L (st) μ) : AW G nL X cells slots pc L (.int y :: .int x :: st) μ := fun H locs ls a b e => lv_icmp_lt C.1 C.2.1 d ht (fun c => kt c H locs ls a b e) (fun c => kf c H locs ls a b e)
theorem aw_if_lt (C : Ctx G X cc nL own rm) {x : Int32} {off : Int} (tgt : Nat) (d : decode cc pc = .ok (.ifCond .lt off, 3)) (ht : (pc : Int) + off = (tgt : Int)) (kt : x < 0 → AW G nL X cells slots tgt L (st) μ) (kf : ¬ x < 0 → AW G nL X cells slots (pc + 3) L (st) μ) : AW G nL X cells slots pc L (.int x :: st) μ := fun H locs ls a b e => lv_if_lt C.1 C.2.1 d ht (fun c => kt c H locs ls a b e) (fun c => kf c H locs ls a b e)
theorem aw_icmp_ge (C : Ctx G X cc nL own rm) {x y : Int32} {off : Int} (tgt : Nat) (d : decode cc pc = .ok (.if_icmp .ge off, 3)) (ht : (pc : Int) + off = (tgt : Int)) (kt : y ≤ x → AW G nL X cells slots tgt L (st) μ) (kf : ¬ y ≤ x → AW G nL X cells slots (pc + 3) L (st) μ) : AW G nL X cells slots pc L (.int y :: .int x :: st) μ := fun H locs ls a b e => lv_icmp_ge C.1 C.2.1 d ht (fun c => kt c H locs ls a b e) (fun c => kf c H locs ls a b e)
theorem aw_if_ge (C : Ctx G X cc nL own rm) {x : Int32} {off : Int} (tgt : Nat) (d : decode cc pc = .ok (.ifCond .ge off, 3)) (ht : (pc : Int) + off = (tgt : Int)) (kt : 0 ≤ x → AW G nL X cells slots tgt L (st) μ) (kf : ¬ 0 ≤ x → AW G nL X cells slots (pc + 3) L (st) μ) : AW G nL X cells slots pc L (.int x :: st) μ := fun H locs ls a b e => lv_if_ge C.1 C.2.1 d ht (fun c => kt c H locs ls a b e) (fun c => kf c H locs ls a b e)
theorem aw_icmp_gt (C : Ctx G X cc nL own rm) {x y : Int32} {off : Int} (tgt : Nat) (d : decode cc pc = .ok (.if_icmp .gt off, 3)) (ht : (pc : Int) + off = (tgt : Int)) (kt : y < x → AW G nL X cells slots tgt L (st) μ) (kf : ¬ y < x → AW G nL X cells slots (pc + 3) L (st) μ) : AW G nL X cells slots pc L (.int y :: .int x :: st) μ := fun H locs ls a b e => lv_icmp_gt C.1 C.2.1 d ht (fun c => kt c H locs ls a b e) (fun c => kf c H locs ls a b e)
theorem aw_if_gt (C : Ctx G X cc nL own rm) {x : Int32} {off : Int} (tgt : Nat) (d : decode cc pc = .ok (.ifCond .gt off, 3)) (ht : (pc : Int) + off = (tgt : Int)) (kt : 0 < x → AW G nL X cells slots tgt L (st) μ) (kf : ¬ 0 < x → AW G nL X cells slots (pc + 3) L (st) μ) : AW G nL X cells slots pc L (.int x :: st) μ := fun H locs ls a b e => lv_if_gt C.1 C.2.1 d ht (fun c => kt c H locs ls a b e) (fun c => kf c H locs ls a b e)
theorem aw_icmp_le (C : Ctx G X cc nL own rm) {x y : Int32} {off : Int} (tgt : Nat) (d : decode cc pc = .ok (.if_icmp .le off, 3)) (ht : (pc : Int) + off = (tgt : Int)) (kt : x ≤ y → AW G nL X cells slots tgt L (st) μ) (kf : ¬ x ≤ y → AW G nL X cells slots (pc + 3) L (st) μ) : AW G nL X cells slots pc L (.int y :: .int x :: st) μ := fun H locs ls a b e => lv_icmp_le C.1 C.2.1 d ht (fun c => kt c H locs ls a b e) (fun c => kf c H locs ls a b e)
theorem aw_if_le (C : Ctx G X cc nL own rm) {x : Int32} {off : Int} (tgt : Nat) (d : decode cc pc = .ok (.ifCond .le off, 3)) (ht : (pc : Int) + off = (tgt : Int)) (kt : x ≤ 0 → AW G nL X cells slots tgt L (st) μ) (kf : ¬ x ≤ 0 → AW G nL X cells slots (pc + 3) L (st) μ) : AW G nL X cells slots pc L (.int x :: st) μ := fun H locs ls a b e => lv_if_le C.1 C.2.1 d ht (fun c => kt c H locs ls a b e) (fun c => kf c H locs ls a b e)
end AWR
end
section
/-! ===== fields and rows: the rules ===== -/
def FL (own : String) (idx ci k : Nat) (ty : FieldType) (fin : Bool) : Prop := ∃ (C : String) (T : u_T) (N : Nat) (t0 : Nat → FieldType), vwCl[ci]? = some (C, T, N) ∧ (∀ w ∈ u_ws C T N, w ∈ gw) ∧ (∀ j, j < N → parseFieldDescriptor (T j).2.2.1 = some (t0 j)) ∧ (∀ a, a < N → ∀ b, b < N → a ≠ b → (T a).2.1 ≠ (T b).2.1) ∧ N = fN ci ∧ k < N ∧ Cond.fieldLink own idx (T k).1 (T k).2.1 (T k).2.2.1 ∈ gw ∧ parseFieldDescriptor (T k).2.2.1 = some ty ∧ (T k).2.2.2 = fin ∧ (T k).1 = C
theorem cel_o {G : GL} {μ : Mem} {a c : Nat} (h : mS μ a = (0, c)) : cel G μ a = .inr (c, (List.range (fN c)).map (fv G μ a c)) := by
  unfold cel
  rw [h]
  rfl
theorem cel_1 {G : GL} {μ : Mem} {a : Nat} (h : (mS μ a).1 = 1) : cel G μ a = .inl (gC G 1, (mS μ a).2, .inl (mI μ a)) := by
  unfold cel
  rw [show mS μ a = (1, (mS μ a).2) from Prod.ext h rfl]
  rfl
theorem cel_2 {G : GL} {μ : Mem} {a : Nat} (h : (mS μ a).1 = 2) : cel G μ a = .inl (gC G 2, (mS μ a).2, .inr (.inl (mJ μ a))) := by
  unfold cel
  rw [show mS μ a = (2, (mS μ a).2) from Prod.ext h rfl]
  rfl
theorem cel_3 {G : GL} {μ : Mem} {a : Nat} (h : (mS μ a).1 = 3) : cel G μ a = .inl (gC G 3, (mS μ a).2, .inl (mI μ a)) := by
  unfold cel
  rw [show mS μ a = (3, (mS μ a).2) from Prod.ext h rfl]
  rfl
theorem cel_r {G : GL} {μ : Mem} {a kd : Nat} (h : (mS μ a).1 = kd) (hk : kd = 4 ∨ kd = 5 ∨ kd = 6 ∨ kd = 7) : cel G μ a = .inl (gC G kd, (mS μ a).2, .inr (.inr (.inr (.inr (fun j => (mR μ a j).map (gZ G + ·)))))) := by
  unfold cel
  rw [show mS μ a = (kd, (mS μ a).2) from Prod.ext h rfl]
  rcases hk with rfl | rfl | rfl | rfl <;> rfl
theorem fs_at {G : GL} {μ : Mem} {a c k : Nat} (h : k < fN c) : ((List.range (fN c)).map (fv G μ a c))[k]? = some (fv G μ a c k) := by
  rw [List.getElem?_map, List.getElem?_range h]
  rfl
theorem fs_set {G : GL} {μ μ' : Mem} {a c k : Nat} {v : Value} (hv : fv G μ' a c k = v) (h : ∀ j, j ≠ k → fv G μ' a c j = fv G μ a c j) : ((List.range (fN c)).map (fv G μ a c)).set k v = (List.range (fN c)).map (fv G μ' a c) := by
  apply List.ext_getElem?
  intro i
  rw [List.getElem?_set]
  by_cases e : k = i
  · subst e
    by_cases hl : k < fN c
    · rw [if_pos rfl, if_pos (by simpa using hl), fs_at hl, hv]
    · rw [if_pos rfl, if_neg (by simpa using hl), List.getElem?_eq_none (by simpa using hl)]
  · rw [if_neg e]
    by_cases hl : i < fN c
    · rw [fs_at hl, fs_at hl, h i (fun q => e q.symm)]
    · rw [List.getElem?_eq_none (by simpa using hl), List.getElem?_eq_none (by simpa using hl)]
theorem up2_s {α : Type} (f : Nat → Nat → α) (a k : Nat) (v : α) : up2 f a k v a k = v := if_pos ⟨rfl, rfl⟩
theorem up2_n {α : Type} (f : Nat → Nat → α) {a k b j : Nat} (v : α) (h : ¬ (b = a ∧ j = k)) : up2 f a k v b j = f b j := if_neg h
theorem up2_a {α : Type} (f : Nat → Nat → α) {a k b : Nat} (v : α) (h : b ≠ a) : up2 f a k v b = f b := funext fun _ => if_neg fun q => h q.1
theorem cel_ne {G : GL} {μ μ' : Mem} {b : Nat} (e1 : mS μ' b = mS μ b) (e2 : mI μ' b = mI μ b) (e3 : mJ μ' b = mJ μ b) (e4 : mR μ' b = mR μ b) : cel G μ' b = cel G μ b := by
  have e5 : fv G μ' b = fv G μ b := by
    funext c k
    simp only [fv, e2, e3, e4]
  simp only [cel, e1, e2, e3, e4, e5]
theorem wI_ne {G : GL} {μ : Mem} {a k b : Nat} {x : Int32} (h : b ≠ a) : cel G (wI μ a k x) b = cel G μ b := cel_ne rfl (up2_a _ _ h) rfl rfl
theorem wJ_ne {G : GL} {μ : Mem} {a k b : Nat} {x : Int64} (h : b ≠ a) : cel G (wJ μ a k x) b = cel G μ b := cel_ne rfl rfl (up2_a _ _ h) rfl
theorem wR_ne {G : GL} {μ : Mem} {a k b : Nat} {x : Nat} (h : b ≠ a) : cel G (wR μ a k x) b = cel G μ b := cel_ne rfl rfl rfl (up2_a _ _ h)
theorem wI_set {G : GL} {μ : Mem} {a c k : Nat} {x : Int32} (hs : mS μ a = (0, c)) (ht : fTy c k = 0) : (wsOf G μ).set a (gZ G + a, .inr (c, ((List.range (fN c)).map (fv G μ a c)).set k (.int x))) = wsOf G (wI μ a k x) := by
  have h1 : cel G (wI μ a k x) a = .inr (c, (List.range (fN c)).map (fv G (wI μ a k x) a c)) := cel_o hs
  rw [fs_set (μ' := wI μ a k x), ← h1]
  · exact ws_set rfl (fun b hb => wI_ne hb)
  · unfold fv
    rw [ht]
    exact congrArg Value.int (up2_s _ _ _ _)
  · intro j hj
    have e : mI (wI μ a k x) a j = mI μ a j := up2_n _ _ (fun q => hj q.2)
    simp only [fv, e]
    rfl
theorem wJ_set {G : GL} {μ : Mem} {a c k : Nat} {x : Int64} (hs : mS μ a = (0, c)) (ht : fTy c k = 1) : (wsOf G μ).set a (gZ G + a, .inr (c, ((List.range (fN c)).map (fv G μ a c)).set k (.long x))) = wsOf G (wJ μ a k x) := by
  have h1 : cel G (wJ μ a k x) a = .inr (c, (List.range (fN c)).map (fv G (wJ μ a k x) a c)) := cel_o hs
  rw [fs_set (μ' := wJ μ a k x), ← h1]
  · exact ws_set rfl (fun b hb => wJ_ne hb)
  · unfold fv
    rw [ht]
    exact congrArg Value.long (up2_s _ _ _ _)
  · intro j hj
    have e : mJ (wJ μ a k x) a j = mJ μ a j := up2_n _ _ (fun q => hj q.2)
    simp only [fv, e]
    rfl
theorem wR_set {G : GL} {μ : Mem} {a c k : Nat} {x : Nat} (hs : mS μ a = (0, c)) (ht : fTy c k = 2) : (wsOf G μ).set a (gZ G + a, .inr (c, ((List.range (fN c)).map (fv G μ a c)).set k (.ref (gZ G + x)))) = wsOf G (wR μ a k x) := by
  have h1 : cel G (wR μ a k x) a = .inr (c, (List.range (fN c)).map (fv G (wR μ a k x) a c)) := cel_o hs
  rw [fs_set (μ' := wR μ a k x), ← h1]
  · exact ws_set rfl (fun b hb => wR_ne hb)
  · have e : mR (wR μ a k x) a k = some x := up2_s _ _ _ _
    unfold fv
    rw [ht]
    show va_rf ((mR (wR μ a k x) a k).map (gZ G + ·)) = _
    rw [e]
    rfl
  · intro j hj
    have e : mR (wR μ a k x) a j = mR μ a j := up2_n _ _ (fun q => hj q.2)
    simp only [fv, e]
    rfl
section AWH
variable {G : GL} {X : CX} {cc : ByteArray} {nL : Nat} {own : String} {rm : Room} {cells slots pc : Nat} {L L' : List (Nat × Value)} {st : List Value} {μ μ' : Mem}
theorem aw_lcmp (C : Ctx G X cc nL own rm) {x y : Int64} (d : decode cc pc = .ok (.lcmp, 1)) (k : AW G nL X cells slots (pc + 1) L (.int (lg_cmp x y) :: st) μ) : AW G nL X cells slots pc L (.long y :: .long x :: st) μ := fun H locs ls a b e => W.lcmp C.1 C.2.1 d (k H locs ls a b e)
theorem aw_gI (C : Ctx G X cc nL own rm) {ci k a idx : Nat} {x : Int32} {ty : FieldType} {fin : Bool} (F : FL own idx ci k ty fin) (hty : fTy ci k = 0) (h : gI ci k a μ = some x) (d : decode cc pc = .ok (.getfield idx, 3)) (kk : AW G nL X cells slots (pc + 3) L (.int x :: st) μ) : AW G nL X cells slots pc L (.ref (gZ G + a) :: st) μ := by
  unfold gI at h
  split at h
  · rename_i ha
    cases h
    obtain ⟨Cn, T, N, t0, h1, h2, h3, h4, h5, h6, h7, h8, h9, h10⟩ := F
    subst h5
    intro H locs ls a1 b e
    refine va_get C.1 C.2.1 C.2.2.2.2.1 h2 C.2.2.2.1 C.2.2.2.2.2.1.1 b a (he := by rw [ws_at ha.1, cel_o ha.2]) h1 k h6 (C.2.2.2.2.1 _ h7) (fun _ q => q) (v := .int (mI μ a k)) (by rw [fs_at h6]; unfold fv; rw [hty]; rfl) d (kk H locs ls a1 b e)
  · cases h
theorem aw_gJ (C : Ctx G X cc nL own rm) {ci k a idx : Nat} {x : Int64} {ty : FieldType} {fin : Bool} (F : FL own idx ci k ty fin) (hty : fTy ci k = 1) (h : gJ ci k a μ = some x) (d : decode cc pc = .ok (.getfield idx, 3)) (kk : AW G nL X cells slots (pc + 3) L (.long x :: st) μ) : AW G nL X cells slots pc L (.ref (gZ G + a) :: st) μ := by
  unfold gJ at h
  split at h
  · rename_i ha
    cases h
    obtain ⟨Cn, T, N, t0, h1, h2, h3, h4, h5, h6, h7, h8, h9, h10⟩ := F
    subst h5
    intro H locs ls a1 b e
    refine va_get C.1 C.2.1 C.2.2.2.2.1 h2 C.2.2.2.1 C.2.2.2.2.2.1.1 b a (he := by rw [ws_at ha.1, cel_o ha.2]) h1 k h6 (C.2.2.2.2.1 _ h7) (fun _ q => q) (v := .long (mJ μ a k)) (by rw [fs_at h6]; unfold fv; rw [hty]; rfl) d (kk H locs ls a1 b e)
  · cases h
theorem aw_gR (C : Ctx G X cc nL own rm) {ci k a idx x : Nat} {ty : FieldType} {fin : Bool} (F : FL own idx ci k ty fin) (hty : fTy ci k = 2) (h : gR ci k a μ = some x) (d : decode cc pc = .ok (.getfield idx, 3)) (kk : AW G nL X cells slots (pc + 3) L (.ref (gZ G + x) :: st) μ) : AW G nL X cells slots pc L (.ref (gZ G + a) :: st) μ := by
  unfold gR at h
  split at h
  · rename_i ha
    obtain ⟨Cn, T, N, t0, h1, h2, h3, h4, h5, h6, h7, h8, h9, h10⟩ := F
    subst h5
    intro H locs ls a1 b e
    refine va_get C.1 C.2.1 C.2.2.2.2.1 h2 C.2.2.2.1 C.2.2.2.2.2.1.1 b a (he := by rw [ws_at ha.1, cel_o ha.2]) h1 k h6 (C.2.2.2.2.1 _ h7) (fun _ q => q) (v := .ref (gZ G + x)) (by rw [fs_at h6]; unfold fv; rw [hty, h]; rfl) d (kk H locs ls a1 b e)
  · cases h
theorem aw_pI (C : Ctx G X cc nL own rm) {ci k a idx : Nat} {x : Int32} (F : FL own idx ci k .int false) (hty : fTy ci k = 0) (h : pI ci k a x μ = some μ') (d : decode cc pc = .ok (.putfield idx, 3)) (kk : AW G nL X cells slots (pc + 3) L st μ') : AW G nL X cells slots pc L (.int x :: .ref (gZ G + a) :: st) μ := by
  unfold pI at h
  split at h
  · rename_i ha
    cases h
    obtain ⟨Cn, T, N, t0, h1, h2, h3, h4, h5, h6, h7, h8, h9, h10⟩ := F
    subst h5
    intro H locs ls a1 b e
    refine va_put C.1 C.2.1 C.2.2.2.2.1 h2 t0 h3 h4 C.2.2.2.1 C.2.2.2.2.2.1.1 b (ws_D G μ) e a (he := by rw [ws_at ha.1, cel_o ha.2]) h1 k h6 (C.2.2.2.2.1 _ h7) (fun _ q => q) h9 h8 rfl rfl (by simpa using h6) d (fun H1 locs1 hP hD hS => kk H1 locs1 ls a1 ?_ hS)
    rw [wI_set ha.2 hty] at hP
    exact hP
  · cases h
theorem aw_pZ (C : Ctx G X cc nL own rm) {ci k a idx : Nat} {x : Int32} (F : FL own idx ci k .boolean false) (hty : fTy ci k = 0) (h : pZ ci k a x μ = some μ') (d : decode cc pc = .ok (.putfield idx, 3)) (kk : AW G nL X cells slots (pc + 3) L st μ') : AW G nL X cells slots pc L (.int x :: .ref (gZ G + a) :: st) μ := by
  unfold pZ at h
  split at h
  · rename_i ha
    cases h
    obtain ⟨ha, hx⟩ := ha
    obtain ⟨Cn, T, N, t0, h1, h2, h3, h4, h5, h6, h7, h8, h9, h10⟩ := F
    subst h5
    intro H locs ls a1 b e
    refine va_put C.1 C.2.1 C.2.2.2.2.1 h2 t0 h3 h4 C.2.2.2.1 C.2.2.2.2.2.1.1 b (ws_D G μ) e a (he := by rw [ws_at ha.1, cel_o ha.2]) h1 k h6 (C.2.2.2.2.1 _ h7) (fun _ q => q) h9 h8 (by rcases hx with rfl | rfl <;> rfl) (by rcases hx with rfl | rfl <;> rfl) (by simpa using h6) d (fun H1 locs1 hP hD hS => kk H1 locs1 ls a1 ?_ hS)
    rw [wI_set ha.2 hty] at hP
    exact hP
  · cases h
theorem aw_pJ (C : Ctx G X cc nL own rm) {ci k a idx : Nat} {x : Int64} (F : FL own idx ci k .long false) (hty : fTy ci k = 1) (h : pJ ci k a x μ = some μ') (d : decode cc pc = .ok (.putfield idx, 3)) (kk : AW G nL X cells slots (pc + 3) L st μ') : AW G nL X cells slots pc L (.long x :: .ref (gZ G + a) :: st) μ := by
  unfold pJ at h
  split at h
  · rename_i ha
    cases h
    obtain ⟨Cn, T, N, t0, h1, h2, h3, h4, h5, h6, h7, h8, h9, h10⟩ := F
    subst h5
    intro H locs ls a1 b e
    refine va_put C.1 C.2.1 C.2.2.2.2.1 h2 t0 h3 h4 C.2.2.2.1 C.2.2.2.2.2.1.1 b (ws_D G μ) e a (he := by rw [ws_at ha.1, cel_o ha.2]) h1 k h6 (C.2.2.2.2.1 _ h7) (fun _ q => q) h9 h8 rfl rfl (by simpa using h6) d (fun H1 locs1 hP hD hS => kk H1 locs1 ls a1 ?_ hS)
    rw [wJ_set ha.2 hty] at hP
    exact hP
  · cases h
theorem aw_pR (C : Ctx G X cc nL own rm) {ci k a idx x : Nat} {ty : FieldType} (F : FL own idx ci k ty false) (hr : fits ty (.ref (gZ G + x)) = true) (hn : narrow ty (.ref (gZ G + x)) = .ref (gZ G + x)) (hty : fTy ci k = 2) (h : pR ci k a x μ = some μ') (d : decode cc pc = .ok (.putfield idx, 3)) (kk : AW G nL X cells slots (pc + 3) L st μ') : AW G nL X cells slots pc L (.ref (gZ G + x) :: .ref (gZ G + a) :: st) μ := by
  unfold pR at h
  split at h
  · rename_i ha
    cases h
    obtain ⟨Cn, T, N, t0, h1, h2, h3, h4, h5, h6, h7, h8, h9, h10⟩ := F
    subst h5
    intro H locs ls a1 b e
    refine va_put C.1 C.2.1 C.2.2.2.2.1 h2 t0 h3 h4 C.2.2.2.1 C.2.2.2.2.2.1.1 b (ws_D G μ) e a (he := by rw [ws_at ha.1, cel_o ha.2]) h1 k h6 (C.2.2.2.2.1 _ h7) (fun _ q => q) h9 h8 hn hr (by simpa using h6) d (fun H1 locs1 hP hD hS => kk H1 locs1 ls a1 ?_ hS)
    rw [wR_set ha.2 hty] at hP
    exact hP
  · cases h
theorem aw_pRF (C : Ctx G X cc nL own rm) {ci k a idx x : Nat} {ty : FieldType} (F : FL own idx ci k ty true) (hi : (xT X).name = "<init>") (ho : vwCl[ci]? = some (own, (vwCl.getD ci ("", fun _ => ("", "", "", false), 0)).2)) (hr : fits ty (.ref (gZ G + x)) = true) (hn : narrow ty (.ref (gZ G + x)) = .ref (gZ G + x)) (hty : fTy ci k = 2) (h : pR ci k a x μ = some μ') (d : decode cc pc = .ok (.putfield idx, 3)) (kk : AW G nL X cells slots (pc + 3) L st μ') : AW G nL X cells slots pc L (.ref (gZ G + x) :: .ref (gZ G + a) :: st) μ := by
  unfold pR at h
  split at h
  · rename_i ha
    cases h
    obtain ⟨Cn, T, N, t0, h1, h2, h3, h4, h5, h6, h7, h8, h9, h10⟩ := F
    subst h5
    rw [h1] at ho
    have ho1 : Cn = own := congrArg Prod.fst (Option.some.inj ho)
    intro H locs ls a1 b e
    refine va_putF C.1 C.2.1 C.2.2.2.2.1 h2 t0 h3 h4 C.2.2.2.1 C.2.2.2.2.2.1.1 b (ws_D G μ) e a (he := by rw [ws_at ha.1, cel_o ha.2]) h1 k h6 (C.2.2.2.2.1 _ h7) (fun _ q => q) h9 hi (h10.trans ho1) h8 hn hr (by simpa using h6) d (fun H1 locs1 hP hD hS => kk H1 locs1 ls a1 ?_ hS)
    rw [wR_set ha.2 hty] at hP
    exact hP
  · cases h
theorem aw_aI (C : Ctx G X cc nL own rm) {a : Nat} {i x : Int32} (h : aI a i μ = some x) (d : decode cc pc = .ok (.iaload, 1)) (kk : AW G nL X cells slots (pc + 1) L (.int x :: st) μ) : AW G nL X cells slots pc L (.int i :: .ref (gZ G + a) :: st) μ := by
  unfold aI at h
  split at h
  · rename_i ha
    cases h
    intro H locs ls a1 b e
    exact va_iald C.1 C.2.1 C.2.2.2.2.2.1.1 b a 0 (by rw [ws_at ha.1, cel_1 ha.2.1]) rfl ha.2.2 d (kk H locs ls a1 b e)
  · cases h
theorem aw_aJ (C : Ctx G X cc nL own rm) {a : Nat} {i : Int32} {x : Int64} (h : aJ a i μ = some x) (d : decode cc pc = .ok (.laload, 1)) (kk : AW G nL X cells slots (pc + 1) L (.long x :: st) μ) : AW G nL X cells slots pc L (.int i :: .ref (gZ G + a) :: st) μ := by
  unfold aJ at h
  split at h
  · rename_i ha
    cases h
    intro H locs ls a1 b e
    exact va_lald C.1 C.2.1 C.2.2.2.2.2.1.1 b a 1 (by rw [ws_at ha.1, cel_2 ha.2.1]) rfl ha.2.2 d (kk H locs ls a1 b e)
  · cases h
theorem aw_aZ (C : Ctx G X cc nL own rm) {a : Nat} {i x : Int32} (h : aZ a i μ = some x) (d : decode cc pc = .ok (.baload, 1)) (kk : AW G nL X cells slots (pc + 1) L (.int x :: st) μ) : AW G nL X cells slots pc L (.int i :: .ref (gZ G + a) :: st) μ := by
  unfold aZ at h
  split at h
  · rename_i ha
    cases h
    intro H locs ls a1 b e
    exact va_zald C.1 C.2.1 C.2.2.2.2.2.1.1 b a 2 (by rw [ws_at ha.1, cel_3 ha.2.1]) rfl ha.2.2 d (kk H locs ls a1 b e)
  · cases h
theorem aw_aR (C : Ctx G X cc nL own rm) {kd a x : Nat} {i : Int32} {ty : FieldType} (hk : kd = 4 ∨ kd = 5 ∨ kd = 6 ∨ kd = 7) (ht : (tysOf G)[kd - 1]? = some (gC G kd, ty)) (hr : ty.isReference = true) (h : aR kd a i μ = some x) (d : decode cc pc = .ok (.aaload, 1)) (kk : AW G nL X cells slots (pc + 1) L (.ref (gZ G + x) :: st) μ) : AW G nL X cells slots pc L (.int i :: .ref (gZ G + a) :: st) μ := by
  unfold aR at h
  split at h
  · rename_i ha
    intro H locs ls a1 b e
    have hlt : i.toNatClampNeg < (mS μ a).2 := Nat.not_le.mp fun q => ha.2.2 (Or.inr q)
    have hat : va_at (gD G) vwCl (gZ G + a, cel G μ a) H := b a _ (ws_at ha.1)
    rw [cel_r ha.2.1 hk] at hat
    exact W.aald (v := .ref (gZ G + x)) (ty := ty) C.1 C.2.1 hat ((C.2.2.2.2.2.1.1.2 _ _ ht).1 (mS μ a).2 (fun j => va_rf ((mR μ a j).map (gZ G + ·)))) hr (fun q => by cases q) (by show ¬ (i < 0 ∨ (arrV _ _ _).slots.size ≤ _); rw [arrV_size]; exact ha.2.2) (by show (arrV _ _ _).slots[_]? = _; rw [arrV_read _ _ hlt]; show some (va_rf ((mR μ a i.toNatClampNeg).map _)) = _; rw [h]; rfl) rfl rfl d (kk H locs ls a1 b e)
  · cases h
theorem aw_aL (C : Ctx G X cc nL own rm) {a : Nat} {x : Int32} (h : aL a μ = some x) (d : decode cc pc = .ok (.arraylength, 1)) (kk : AW G nL X cells slots (pc + 1) L (.int x :: st) μ) : AW G nL X cells slots pc L (.ref (gZ G + a) :: st) μ := by
  unfold aL at h
  split at h
  · rename_i ha
    cases h
    intro H locs ls a1 b e
    have key : ∃ (cA : ClassId) (y : vp_A) (t0 : Nat) (ty : FieldType), cel G μ a = .inl (cA, y) ∧ y.1 = (mS μ a).2 ∧ (tysOf G)[t0]? = some (cA, ty) := by
      obtain ⟨-, h0, h7⟩ := ha
      rcases (show (mS μ a).1 = 1 ∨ (mS μ a).1 = 2 ∨ (mS μ a).1 = 3 ∨ (mS μ a).1 = 4 ∨ (mS μ a).1 = 5 ∨ (mS μ a).1 = 6 ∨ (mS μ a).1 = 7 by omega) with q | q | q | q | q | q | q
      · exact ⟨_, _, 0, _, cel_1 q, rfl, rfl⟩
      · exact ⟨_, _, 1, _, cel_2 q, rfl, rfl⟩
      · exact ⟨_, _, 2, _, cel_3 q, rfl, rfl⟩
      · exact ⟨_, _, 3, _, cel_r q (by omega), rfl, rfl⟩
      · exact ⟨_, _, 4, _, cel_r q (by omega), rfl, rfl⟩
      · exact ⟨_, _, 5, _, cel_r q (by omega), rfl, rfl⟩
      · exact ⟨_, _, 6, _, cel_r q (by omega), rfl, rfl⟩
    obtain ⟨cA, y, t0, ty, k1, k2, k3⟩ := key
    exact va_alen C.1 C.2.1 C.2.2.2.2.2.1.1 b a t0 (by rw [ws_at ha.1, k1]) k3 (by rw [k2]) d (kk H locs ls a1 b e)
  · cases h
theorem aw_sI (C : Ctx G X cc nL own rm) {a : Nat} {i x : Int32} (h : sI a i x μ = some μ') (d : decode cc pc = .ok (.iastore, 1)) (kk : AW G nL X cells slots (pc + 1) L st μ') : AW G nL X cells slots pc L (.int x :: .int i :: .ref (gZ G + a) :: st) μ := by
  unfold sI at h
  split at h
  · rename_i ha
    cases h
    intro H locs ls a1 b e
    refine va_iast C.1 C.2.1 C.2.2.2.2.2.1.1 b (ws_D G μ) e a 0 (by rw [ws_at ha.1, cel_1 ha.2.1]) rfl ha.2.2 d (fun H1 locs1 hP hD hS => kk H1 locs1 ls a1 ?_ hS)
    have h1 : cel G (wI μ a i.toNatClampNeg x) a = .inl (gC G 1, (mS μ a).2, .inl (upd (mI μ a) i.toNatClampNeg x)) := by
      rw [cel_1 (μ := wI μ a i.toNatClampNeg x) ha.2.1]
      have e2 : mI (wI μ a i.toNatClampNeg x) a = upd (mI μ a) i.toNatClampNeg x := funext fun j => by
        by_cases q : j = i.toNatClampNeg
        · subst q; exact (up2_s _ _ _ _).trans (if_pos rfl).symm
        · exact (up2_n _ _ (fun z => q z.2)).trans (if_neg q).symm
      rw [e2]
      rfl
    have e9 := ws_set (G := G) (μ := μ) (μ' := wI μ a i.toNatClampNeg x) (a := a) rfl (fun b hb => wI_ne hb)
    rw [h1] at e9
    show va_P _ _ _ _
    rw [← e9]
    exact hP
  · cases h
theorem aw_sZ (C : Ctx G X cc nL own rm) {a : Nat} {i x : Int32} (h : sZ a i x μ = some μ') (d : decode cc pc = .ok (.bastore, 1)) (kk : AW G nL X cells slots (pc + 1) L st μ') : AW G nL X cells slots pc L (.int x :: .int i :: .ref (gZ G + a) :: st) μ := by
  unfold sZ at h
  split at h
  · rename_i ha
    cases h
    obtain ⟨ha, hx⟩ := ha
    intro H locs ls a1 b e
    refine va_zast C.1 C.2.1 C.2.2.2.2.2.1.1 b (ws_D G μ) e a 2 (by rw [ws_at ha.1, cel_3 ha.2.1]) rfl ha.2.2 d (fun H1 locs1 hP hD hS => kk H1 locs1 ls a1 ?_ hS)
    have hx2 : vp_nar .boolean x = x := by rcases hx with rfl | rfl <;> rfl
    rw [hx2] at hP
    have h1 : cel G (wI μ a i.toNatClampNeg x) a = .inl (gC G 3, (mS μ a).2, .inl (upd (mI μ a) i.toNatClampNeg x)) := by
      rw [cel_3 (μ := wI μ a i.toNatClampNeg x) ha.2.1]
      have e2 : mI (wI μ a i.toNatClampNeg x) a = upd (mI μ a) i.toNatClampNeg x := funext fun j => by
        by_cases q : j = i.toNatClampNeg
        · subst q; exact (up2_s _ _ _ _).trans (if_pos rfl).symm
        · exact (up2_n _ _ (fun z => q z.2)).trans (if_neg q).symm
      rw [e2]
      rfl
    have e9 := ws_set (G := G) (μ := μ) (μ' := wI μ a i.toNatClampNeg x) (a := a) rfl (fun b hb => wI_ne hb)
    rw [h1] at e9
    show va_P _ _ _ _
    rw [← e9]
    exact hP
  · cases h
theorem aw_sJ (C : Ctx G X cc nL own rm) {a : Nat} {i : Int32} {x : Int64} (h : sJ a i x μ = some μ') (d : decode cc pc = .ok (.lastore, 1)) (kk : AW G nL X cells slots (pc + 1) L st μ') : AW G nL X cells slots pc L (.long x :: .int i :: .ref (gZ G + a) :: st) μ := by
  unfold sJ at h
  split at h
  · rename_i ha
    cases h
    intro H locs ls a1 b e
    refine va_last C.1 C.2.1 C.2.2.2.2.2.1.1 b (ws_D G μ) e a 1 (by rw [ws_at ha.1, cel_2 ha.2.1]) rfl ha.2.2 d (fun H1 locs1 hP hD hS => kk H1 locs1 ls a1 ?_ hS)
    have h1 : cel G (wJ μ a i.toNatClampNeg x) a = .inl (gC G 2, (mS μ a).2, .inr (.inl (vp_updL (mJ μ a) i.toNatClampNeg x))) := by
      rw [cel_2 (μ := wJ μ a i.toNatClampNeg x) ha.2.1]
      have e2 : mJ (wJ μ a i.toNatClampNeg x) a = vp_updL (mJ μ a) i.toNatClampNeg x := funext fun j => by
        by_cases q : j = i.toNatClampNeg
        · subst q; exact (up2_s _ _ _ _).trans (if_pos rfl).symm
        · exact (up2_n _ _ (fun z => q z.2)).trans (if_neg q).symm
      rw [e2]
      rfl
    have e9 := ws_set (G := G) (μ := μ) (μ' := wJ μ a i.toNatClampNeg x) (a := a) rfl (fun b hb => wJ_ne hb)
    rw [h1] at e9
    show va_P _ _ _ _
    rw [← e9]
    exact hP
  · cases h
theorem aw_sR (C : Ctx G X cc nL own rm) {kd ci a x : Nat} {i : Int32} {r : vw_C} (hk : kd = 4 ∨ kd = 5 ∨ kd = 6 ∨ kd = 7) (hc : vwCl[ci]? = some r) (ht : (tysOf G)[kd - 1]? = some (gC G kd, .object r.1)) (h : sR kd ci a i x μ = some μ') (d : decode cc pc = .ok (.aastore, 1)) (kk : AW G nL X cells slots (pc + 1) L st μ') : AW G nL X cells slots pc L (.ref (gZ G + x) :: .int i :: .ref (gZ G + a) :: st) μ := by
  unfold sR at h
  split at h
  · rename_i ha
    cases h
    obtain ⟨ha, hx⟩ := ha
    intro H locs ls a1 b e
    refine va_astq C.1 C.2.1 C.2.2.2.2.2.1.1 b (ws_D G μ) e a (kd - 1) x ci (by rw [ws_at ha.1, cel_r ha.2.1 hk]) ht (by rw [ws_at hx.1, cel_o hx.2]) hc ha.2.2 d (fun H1 locs1 hP hD hS => kk H1 locs1 ls a1 ?_ hS)
    have h1 : cel G (wR μ a i.toNatClampNeg x) a = .inl (gC G kd, (mS μ a).2, .inr (.inr (.inr (.inr (va_up (fun j => (mR μ a j).map (gZ G + ·)) i.toNatClampNeg (some (gZ G + x))))))) := by
      rw [cel_r (μ := wR μ a i.toNatClampNeg x) ha.2.1 hk]
      have e2 : (fun j => (mR (wR μ a i.toNatClampNeg x) a j).map (gZ G + ·)) = va_up (fun j => (mR μ a j).map (gZ G + ·)) i.toNatClampNeg (some (gZ G + x)) := funext fun j => by
        by_cases q : j = i.toNatClampNeg
        · subst q
          have e3 : mR (wR μ a i.toNatClampNeg x) a i.toNatClampNeg = some x := up2_s _ _ _ _
          rw [e3]
          exact (if_pos rfl).symm
        · have e3 : mR (wR μ a i.toNatClampNeg x) a j = mR μ a j := up2_n _ _ (fun z => q z.2)
          rw [e3]
          exact (if_neg q).symm
      rw [e2]
      rfl
    have e9 := ws_set (G := G) (μ := μ) (μ' := wR μ a i.toNatClampNeg x) (a := a) rfl (fun b hb => wR_ne hb)
    rw [h1] at e9
    show va_P _ _ _ _
    rw [← e9]
    exact hP
  · cases h
end AWH
end
section
/-! ===== contracts, calls, returns ===== -/
def PreW (G : GL) (b : Bool) (μ : Mem) (U : State) : Prop := Wd G μ U.heap ∧ KK G U ∧ gZ G ≤ U.heap.size ∧ EX G U U.heap ∧ (b = true → U.heap.size = gZ G + mN μ)
abbrev MtI (G : GL) (l : Launch) (y : MethodName) (cc : ByteArray) (nL : Nat) (ret : Option FieldType) (rm : Room) (b : Bool) (av : List Value) (μ : Mem) (r : Int32) (μ' : Mem) : Prop :=
  Met l y (mws y cc nL ret) rm (va_Pc av (PreW G b μ)) (va_Qi (fun r' (_ : Unit) => r' = r) (fun _ t => Wd G μ' t.heap) (gA G)) rm.cells rm.slots (gA G)
abbrev MtJ (G : GL) (l : Launch) (y : MethodName) (cc : ByteArray) (nL : Nat) (ret : Option FieldType) (rm : Room) (b : Bool) (av : List Value) (μ : Mem) (r : Int64) (μ' : Mem) : Prop :=
  Met l y (mws y cc nL ret) rm (va_Pc av (PreW G b μ)) (va_Ql (fun r' (_ : Unit) => r' = r) (fun _ t => Wd G μ' t.heap) (gA G)) rm.cells rm.slots (gA G)
abbrev MtV (G : GL) (l : Launch) (y : MethodName) (cc : ByteArray) (nL : Nat) (ret : Option FieldType) (rm : Room) (b : Bool) (av : List Value) (μ : Mem) (μ' : Mem) : Prop :=
  Met l y (mws y cc nL ret) rm (va_Pc av (PreW G b μ)) (va_Qv (fun (_ : Unit) => True) (fun _ t => Wd G μ' t.heap) (gA G)) rm.cells rm.slots (gA G)
/-- what holds of a callee wherever it is called from -/
def CS (y : MethodName) (cc : ByteArray) (nL : Nat) (ret : Option FieldType) (n : Nat) : Prop := Cond.code y cc nL ret ∈ gw ∧ Cond.initialized y.cls ∈ gw ∧ (y.cls ≠ "java/lang/invoke/MethodHandle" ∧ y.cls ≠ "java/lang/invoke/VarHandle" ∧ (parseMethodDescriptor y.desc).map (fun d => d.parameters.length) = some n)
theorem KK.blind {G : GL} {U : State} {g : JFrame} {mk : MethodId} {a : Array Value} (h : KK G U) : KK G (U.calling g mk a) :=
  ⟨va_K.moved (u := U) (U := U.calling g mk a) (Vm.Alike.refl U.vm) h.1, fun w hw => va_Nw.same (u := U) (by
    have := (List.mem_filter.mp hw).2
    cases w <;> first | rfl | cases this) rfl (h.2.1 w hw),
   ⟨va_AO.moved (u := U) (U := U.calling g mk a) (Vm.Alike.refl U.vm) h.2.2.1.1, va_AO.moved (u := U) (U := U.calling g mk a) (Vm.Alike.refl U.vm) h.2.2.1.2.1, va_AO.moved (u := U) (U := U.calling g mk a) (Vm.Alike.refl U.vm) h.2.2.1.2.2.1, AOA.moved (u := U) (U := U.calling g mk a) (Vm.Alike.refl U.vm) h.2.2.1.2.2.2⟩,
   fun i hi => vk_R.same (u := U) rfl (h.2.2.2 i hi)⟩
theorem KK.warm {G : GL} {s U : State} (hW : s.WarmedH U.vm) (h : KK G s) : KK G U := by
  refine ⟨va_K.moved hW.alike h.1, fun w hw => ?_, ⟨h.2.2.1.1.moved hW.alike, h.2.2.1.2.1.moved hW.alike, h.2.2.1.2.2.1.moved hW.alike, h.2.2.1.2.2.2.moved hW.alike⟩, fun i hi => (h.2.2.2 i hi).warm hW⟩
  have hm := (List.mem_filter.mp hw).2
  have h1 := h.2.1 w hw
  cases w <;> first | exact va_Nw.warmM hW h1 | cases hm
theorem blindW {G : GL} {b : Bool} {μ : Mem} {av : List Value} : FrameBlind (va_Pc av (PreW G b μ)) := fun a U g mk q => by
  obtain ⟨q1, q2, q3, q4, q5, q6⟩ := q
  exact ⟨q1, q2, q3.blind, q4, EX.moved (u := U) (U := U.calling g mk a) (Vm.Alike.refl U.vm) q5, q6⟩
theorem gw_in {y : MethodName} {cc : ByteArray} {nL : Nat} {ret : Option FieldType} (h : Cond.code y cc nL ret ∈ gw) : GoodIn gw (mws y cc nL ret) := by
  intro w hw
  rcases List.mem_cons.mp hw with rfl | hw
  · exact ⟨h, (gw_good _ h).2⟩
  · exact ⟨hw, (gw_good _ hw).2⟩
theorem W.size {p : Program} {l : Launch} {e : Env} {R : Room} {s : State} {m : MethodId} {args : Array Value} {below : List Frame} {meth : Method} {c : Code} {H : Heap} {locs : List Loc} {cells slots : Nat} {Q : State → Prop} {g : JFrame} (h : H.size ≤ s.heap.size + cells → W p l e R s m args below meth c H locs cells slots Q g) : W p l e R s m args below meth c H locs cells slots Q g := fun T hT X => h (hT ▸ X.heapSize) T hT X
theorem Wd.low {G : GL} {μ : Mem} {H : Heap} (h : Wd G μ H) (hz : gZ G ≤ H.size) : gZ G + mN μ ≤ H.size := by
  cases hn : mN μ with
  | zero => exact hz
  | succ n =>
    have := (h n _ (ws_at (by rw [hn]; exact Nat.lt_succ_self n))).lt
    simp only at this
    omega
section AWC
variable {G : GL} {X : CX} {cc : ByteArray} {nL : Nat} {own : String} {rm : Room} {cells slots pc : Nat} {L L' : List (Nat × Value)} {st : List Value} {μ μ' : Mem}
variable {y : MethodName} {cc' : ByteArray} {nL' n idx : Nat} {ret' : Option FieldType} {rm' : Room} {b : Bool} {As : List Value}
/-- what a callee's start needs, out of the caller's world -/
theorem preW (C : Ctx G X cc nL own rm) {H : Heap} {locs : List Loc} (hw : Wd G μ H) (hs : va_S (gA G) (xS X).heap H locs) (hb : b = true → H.size = gZ G + mN μ) (U : State) (hU : U.heap = H) (hW : (xS X).WarmedH U.vm) : PreW G b μ U :=
  ⟨by rw [hU]; exact hw, C.2.2.2.2.2.1.warm hW, by rw [hU]; exact Nat.le_trans C.2.2.2.2.2.2.2.1 hs.1, by rw [hU]; exact (C.2.2.2.2.2.2.2.2.kept hs.2.1).moved hW.alike, by rw [hU]; exact hb⟩
theorem szW (C : Ctx G X cc nL own rm) {H : Heap} {locs : List Loc} (hw : Wd G μ H) (hs : va_S (gA G) (xS X).heap H locs) (hz : b = true → (xS X).heap.size + cells = gZ G + mN μ) (h : H.size ≤ (xS X).heap.size + cells) : b = true → H.size = gZ G + mN μ := fun hb => by
  have h1 := hz hb
  have h2 := hw.low (Nat.le_trans C.2.2.2.2.2.2.2.1 hs.1)
  omega
theorem cbS (C : Ctx G X cc nL own rm) (S : CS y cc' nL' ret' n) (hl : Cond.methodLink own idx y ∈ gw) (hR : rm'.frames + 1 ≤ rm.frames ∧ 8 + (nL' + 11) + rm'.locals ≤ rm.locals) : CallB (xR X) (xS X) (xA X) own idx y cc' nL' ret' (mws y cc' nL' ret') rm' rm'.cells rm'.slots n :=
  callB_of n C.2.2.2.2.1 (gw_in S.1) rfl rfl rfl (C.2.2.2.2.1 _ S.2.1) (C.2.2.2.2.1 _ hl) S.2.2 (by rw [C.2.2.2.2.2.2.1]; exact hR)
theorem cbN (C : Ctx G X cc nL own rm) (S : CS y cc' nL' ret' n) {host : String} (hl : Cond.methodLinkNest own idx y host ∈ nestW) (hR : rm'.frames + 1 ≤ rm.frames ∧ 8 + (nL' + 11) + rm'.locals ≤ rm.locals) : va_CN (xR X) (xS X) (xA X) own idx y host cc' nL' ret' (mws y cc' nL' ret') rm' rm'.cells rm'.slots n :=
  va_cnB n C.2.2.2.2.1 (gw_in S.1) rfl rfl rfl (C.2.2.2.2.2.1.2.1 _ hl) (C.2.2.2.2.1 _ S.2.1) S.2.2 (by rw [C.2.2.2.2.2.2.1]; exact hR)
theorem cfix (C : Ctx G X cc nL own rm) : CallFix (xP X) (xM X) (xC X) cc nL (xS X) (xA X) gw own := ⟨C.1, C.2.1, C.2.2.1, C.2.2.2.1, C.2.2.2.2.1⟩
theorem cfR (C : Ctx G X cc nL own rm) (h : cells + rm'.cells ≤ rm.cells ∧ slots + rm'.slots ≤ rm.slots) : cells + rm'.cells ≤ (xR X).cells ∧ slots + rm'.slots ≤ (xR X).slots := by rw [C.2.2.2.2.2.2.1]; exact h
theorem recvW (C : Ctx G X cc nL own rm) {H : Heap} (hw : Wd G μ H) {c a : Nat} {r : vw_C} (hv : vO c a μ = some ()) (hc : vwCl[c]? = some r) : ∃ cellB : Cell, H[gZ G + a]? = some cellB ∧ cellB.vm.isStatics = false ∧ (xS X).vm.findClass r.1 = some cellB.cls := by
  unfold vO at hv
  split at hv
  · rename_i ha
    exact va_recv C.2.2.2.2.2.1.1 hw (ci := c) (q0 := a) hc (by rw [ws_at ha.1, cel_o ha.2])
  · cases hv
theorem aw_callS_I (C : Ctx G X cc nL own rm) {r : Int32} (As : List Value) (st0 : List Value) (hM : MtI G (xL X) y cc' nL' ret' rm' b (As) μ r μ') (S : CS y cc' nL' ret' n) (hl : Cond.methodLink own idx y ∈ gw) (hs : Cond.static y ∈ gw) (hR : rm'.frames + 1 ≤ rm.frames ∧ 8 + (nL' + 11) + rm'.locals ≤ rm.locals) (hf : cells + rm'.cells ≤ rm.cells ∧ slots + rm'.slots ≤ rm.slots) (hn : As.length = n) (hst : st0 = As.reverse ++ st) (hW : (st.map fun v => v.category).sum ≤ 8) (hz0 : b = true → (xS X).heap.size + cells = gZ G + mN μ) (d : decode cc pc = .ok (.invokestatic idx, 3)) (k : AW G nL X (cells + rm'.cells) (slots + rm'.slots) (pc + 3) L (.int r :: st) μ') : AW G nL X cells slots pc L st0 μ := by
  intro H locs ls a1 b1 e
  refine W.size fun hsz => ?_
  refine va_calli (S := Unit) (va_runS (As := As) (rest := st) (cfix C) hM ⟨cbS C S hl hR, C.2.2.2.2.1 _ hs⟩ ⟨blindW, fun U hU hW => ⟨rfl, preW C b1 e (szW C b1 e hz0 hsz) U hU hW⟩⟩ rfl hn a1.1 hst (lv_room hW) d (cfR C hf)) e (fun q _ h => h) (fun q h => h) (fun r0 u t H1 locs1 ht hvm hp hB hz hk hS => ?_)
  cases hp
  exact k H1 locs1 ls a1 (by rw [ht] at hB; exact hB) hS
theorem aw_callS_J (C : Ctx G X cc nL own rm) {r : Int64} (As : List Value) (st0 : List Value) (hM : MtJ G (xL X) y cc' nL' ret' rm' b (As) μ r μ') (S : CS y cc' nL' ret' n) (hl : Cond.methodLink own idx y ∈ gw) (hs : Cond.static y ∈ gw) (hR : rm'.frames + 1 ≤ rm.frames ∧ 8 + (nL' + 11) + rm'.locals ≤ rm.locals) (hf : cells + rm'.cells ≤ rm.cells ∧ slots + rm'.slots ≤ rm.slots) (hn : As.length = n) (hst : st0 = As.reverse ++ st) (hW : (st.map fun v => v.category).sum ≤ 8) (hz0 : b = true → (xS X).heap.size + cells = gZ G + mN μ) (d : decode cc pc = .ok (.invokestatic idx, 3)) (k : AW G nL X (cells + rm'.cells) (slots + rm'.slots) (pc + 3) L (.long r :: st) μ') : AW G nL X cells slots pc L st0 μ := by
  intro H locs ls a1 b1 e
  refine W.size fun hsz => ?_
  refine va_calll (S := Unit) (va_runS (As := As) (rest := st) (cfix C) hM ⟨cbS C S hl hR, C.2.2.2.2.1 _ hs⟩ ⟨blindW, fun U hU hW => ⟨rfl, preW C b1 e (szW C b1 e hz0 hsz) U hU hW⟩⟩ rfl hn a1.1 hst (lv_room hW) d (cfR C hf)) e (fun q _ h => h) (fun q h => h) (fun r0 u t H1 locs1 ht hvm hp hB hz hk hS => ?_)
  cases hp
  exact k H1 locs1 ls a1 (by rw [ht] at hB; exact hB) hS
theorem aw_callS_V (C : Ctx G X cc nL own rm) (As : List Value) (st0 : List Value) (hM : MtV G (xL X) y cc' nL' ret' rm' b (As) μ μ') (S : CS y cc' nL' ret' n) (hl : Cond.methodLink own idx y ∈ gw) (hs : Cond.static y ∈ gw) (hR : rm'.frames + 1 ≤ rm.frames ∧ 8 + (nL' + 11) + rm'.locals ≤ rm.locals) (hf : cells + rm'.cells ≤ rm.cells ∧ slots + rm'.slots ≤ rm.slots) (hn : As.length = n) (hst : st0 = As.reverse ++ st) (hW : (st.map fun v => v.category).sum ≤ 8) (hz0 : b = true → (xS X).heap.size + cells = gZ G + mN μ) (d : decode cc pc = .ok (.invokestatic idx, 3)) (k : AW G nL X (cells + rm'.cells) (slots + rm'.slots) (pc + 3) L (st) μ') : AW G nL X cells slots pc L st0 μ := by
  intro H locs ls a1 b1 e
  refine W.size fun hsz => ?_
  refine va_callv (S := Unit) (va_runS (As := As) (rest := st) (cfix C) hM ⟨cbS C S hl hR, C.2.2.2.2.1 _ hs⟩ ⟨blindW, fun U hU hW => ⟨rfl, preW C b1 e (szW C b1 e hz0 hsz) U hU hW⟩⟩ rfl hn a1.1 hst (lv_room hW) d (cfR C hf)) e (fun q _ h => h) (fun q h => h) (fun u t H1 locs1 ht hvm hp hB hz hk hS => ?_)
  skip
  exact k H1 locs1 ls a1 (by rw [ht] at hB; exact hB) hS
theorem aw_callSN_I (C : Ctx G X cc nL own rm) {r : Int32} {host : String} (As : List Value) (st0 : List Value) (hM : MtI G (xL X) y cc' nL' ret' rm' b (As) μ r μ') (S : CS y cc' nL' ret' n) (hl : Cond.methodLinkNest own idx y host ∈ nestW) (hs : Cond.static y ∈ gw) (hR : rm'.frames + 1 ≤ rm.frames ∧ 8 + (nL' + 11) + rm'.locals ≤ rm.locals) (hf : cells + rm'.cells ≤ rm.cells ∧ slots + rm'.slots ≤ rm.slots) (hn : As.length = n) (hst : st0 = As.reverse ++ st) (hW : (st.map fun v => v.category).sum ≤ 8) (hz0 : b = true → (xS X).heap.size + cells = gZ G + mN μ) (d : decode cc pc = .ok (.invokestatic idx, 3)) (k : AW G nL X (cells + rm'.cells) (slots + rm'.slots) (pc + 3) L (.int r :: st) μ') : AW G nL X cells slots pc L st0 μ := by
  intro H locs ls a1 b1 e
  refine W.size fun hsz => ?_
  refine va_calli (S := Unit) (va_runSN (As := As) (rest := st) (cfix C) hM ⟨cbN C S hl hR, C.2.2.2.2.1 _ hs, trivial⟩ ⟨blindW, fun U hU hW => ⟨rfl, preW C b1 e (szW C b1 e hz0 hsz) U hU hW⟩⟩ rfl hn a1.1 hst (lv_room hW) d (cfR C hf)) e (fun q _ h => h) (fun q h => h) (fun r0 u t H1 locs1 ht hvm hp hB hz hk hS => ?_)
  cases hp
  exact k H1 locs1 ls a1 (by rw [ht] at hB; exact hB) hS
theorem aw_callSN_J (C : Ctx G X cc nL own rm) {r : Int64} {host : String} (As : List Value) (st0 : List Value) (hM : MtJ G (xL X) y cc' nL' ret' rm' b (As) μ r μ') (S : CS y cc' nL' ret' n) (hl : Cond.methodLinkNest own idx y host ∈ nestW) (hs : Cond.static y ∈ gw) (hR : rm'.frames + 1 ≤ rm.frames ∧ 8 + (nL' + 11) + rm'.locals ≤ rm.locals) (hf : cells + rm'.cells ≤ rm.cells ∧ slots + rm'.slots ≤ rm.slots) (hn : As.length = n) (hst : st0 = As.reverse ++ st) (hW : (st.map fun v => v.category).sum ≤ 8) (hz0 : b = true → (xS X).heap.size + cells = gZ G + mN μ) (d : decode cc pc = .ok (.invokestatic idx, 3)) (k : AW G nL X (cells + rm'.cells) (slots + rm'.slots) (pc + 3) L (.long r :: st) μ') : AW G nL X cells slots pc L st0 μ := by
  intro H locs ls a1 b1 e
  refine W.size fun hsz => ?_
  refine va_calll (S := Unit) (va_runSN (As := As) (rest := st) (cfix C) hM ⟨cbN C S hl hR, C.2.2.2.2.1 _ hs, trivial⟩ ⟨blindW, fun U hU hW => ⟨rfl, preW C b1 e (szW C b1 e hz0 hsz) U hU hW⟩⟩ rfl hn a1.1 hst (lv_room hW) d (cfR C hf)) e (fun q _ h => h) (fun q h => h) (fun r0 u t H1 locs1 ht hvm hp hB hz hk hS => ?_)
  cases hp
  exact k H1 locs1 ls a1 (by rw [ht] at hB; exact hB) hS
theorem aw_callSN_V (C : Ctx G X cc nL own rm) {host : String} (As : List Value) (st0 : List Value) (hM : MtV G (xL X) y cc' nL' ret' rm' b (As) μ μ') (S : CS y cc' nL' ret' n) (hl : Cond.methodLinkNest own idx y host ∈ nestW) (hs : Cond.static y ∈ gw) (hR : rm'.frames + 1 ≤ rm.frames ∧ 8 + (nL' + 11) + rm'.locals ≤ rm.locals) (hf : cells + rm'.cells ≤ rm.cells ∧ slots + rm'.slots ≤ rm.slots) (hn : As.length = n) (hst : st0 = As.reverse ++ st) (hW : (st.map fun v => v.category).sum ≤ 8) (hz0 : b = true → (xS X).heap.size + cells = gZ G + mN μ) (d : decode cc pc = .ok (.invokestatic idx, 3)) (k : AW G nL X (cells + rm'.cells) (slots + rm'.slots) (pc + 3) L (st) μ') : AW G nL X cells slots pc L st0 μ := by
  intro H locs ls a1 b1 e
  refine W.size fun hsz => ?_
  refine va_callv (S := Unit) (va_runSN (As := As) (rest := st) (cfix C) hM ⟨cbN C S hl hR, C.2.2.2.2.1 _ hs, trivial⟩ ⟨blindW, fun U hU hW => ⟨rfl, preW C b1 e (szW C b1 e hz0 hsz) U hU hW⟩⟩ rfl hn a1.1 hst (lv_room hW) d (cfR C hf)) e (fun q _ h => h) (fun q h => h) (fun u t H1 locs1 ht hvm hp hB hz hk hS => ?_)
  skip
  exact k H1 locs1 ls a1 (by rw [ht] at hB; exact hB) hS
theorem aw_callV_I (C : Ctx G X cc nL own rm) {a : Nat} {r : Int32} (As : List Value) (st0 : List Value) (hM : MtI G (xL X) y cc' nL' ret' rm' b (.ref (gZ G + a) :: As) μ r μ') (S : CS y cc' nL' ret' n) (hl : Cond.methodLink own idx y ∈ gw) (hi : Cond.instanceMethod y ∈ gw) (hse : Cond.selects y.cls y y ∈ gw) {ci : Nat} {cr : vw_C} (hcl : vwCl[ci]? = some cr) (hcy : cr.1 = y.cls) (hv : vO ci a μ = some ()) (hR : rm'.frames + 1 ≤ rm.frames ∧ 8 + (nL' + 11) + rm'.locals ≤ rm.locals) (hf : cells + rm'.cells ≤ rm.cells ∧ slots + rm'.slots ≤ rm.slots) (hn : As.length = n) (hst : st0 = As.reverse ++ .ref (gZ G + a) :: st) (hW : (st.map fun v => v.category).sum ≤ 8) (hz0 : b = true → (xS X).heap.size + cells = gZ G + mN μ) (d : decode cc pc = .ok (.invokevirtual idx, 3)) (k : AW G nL X (cells + rm'.cells) (slots + rm'.slots) (pc + 3) L (.int r :: st) μ') : AW G nL X cells slots pc L st0 μ := by
  intro H locs ls a1 b1 e
  refine W.size fun hsz => ?_
  refine va_calli (S := Unit) (va_runV (As := As) (rest := st) (cfix C) hM ⟨cbS C S hl hR, C.2.2.2.2.1 _ hi, C.2.2.2.2.1 _ hse⟩ ⟨blindW, hcy ▸ recvW C b1 hv hcl, fun U hU hW => ⟨rfl, preW C b1 e (szW C b1 e hz0 hsz) U hU hW⟩⟩ rfl hn a1.1 hst (lv_room hW) d (cfR C hf)) e (fun q _ h => h) (fun q h => h) (fun r0 u t H1 locs1 ht hvm hp hB hz hk hS => ?_)
  cases hp
  exact k H1 locs1 ls a1 (by rw [ht] at hB; exact hB) hS
theorem aw_callV_J (C : Ctx G X cc nL own rm) {a : Nat} {r : Int64} (As : List Value) (st0 : List Value) (hM : MtJ G (xL X) y cc' nL' ret' rm' b (.ref (gZ G + a) :: As) μ r μ') (S : CS y cc' nL' ret' n) (hl : Cond.methodLink own idx y ∈ gw) (hi : Cond.instanceMethod y ∈ gw) (hse : Cond.selects y.cls y y ∈ gw) {ci : Nat} {cr : vw_C} (hcl : vwCl[ci]? = some cr) (hcy : cr.1 = y.cls) (hv : vO ci a μ = some ()) (hR : rm'.frames + 1 ≤ rm.frames ∧ 8 + (nL' + 11) + rm'.locals ≤ rm.locals) (hf : cells + rm'.cells ≤ rm.cells ∧ slots + rm'.slots ≤ rm.slots) (hn : As.length = n) (hst : st0 = As.reverse ++ .ref (gZ G + a) :: st) (hW : (st.map fun v => v.category).sum ≤ 8) (hz0 : b = true → (xS X).heap.size + cells = gZ G + mN μ) (d : decode cc pc = .ok (.invokevirtual idx, 3)) (k : AW G nL X (cells + rm'.cells) (slots + rm'.slots) (pc + 3) L (.long r :: st) μ') : AW G nL X cells slots pc L st0 μ := by
  intro H locs ls a1 b1 e
  refine W.size fun hsz => ?_
  refine va_calll (S := Unit) (va_runV (As := As) (rest := st) (cfix C) hM ⟨cbS C S hl hR, C.2.2.2.2.1 _ hi, C.2.2.2.2.1 _ hse⟩ ⟨blindW, hcy ▸ recvW C b1 hv hcl, fun U hU hW => ⟨rfl, preW C b1 e (szW C b1 e hz0 hsz) U hU hW⟩⟩ rfl hn a1.1 hst (lv_room hW) d (cfR C hf)) e (fun q _ h => h) (fun q h => h) (fun r0 u t H1 locs1 ht hvm hp hB hz hk hS => ?_)
  cases hp
  exact k H1 locs1 ls a1 (by rw [ht] at hB; exact hB) hS
theorem aw_callV_V (C : Ctx G X cc nL own rm) {a : Nat} (As : List Value) (st0 : List Value) (hM : MtV G (xL X) y cc' nL' ret' rm' b (.ref (gZ G + a) :: As) μ μ') (S : CS y cc' nL' ret' n) (hl : Cond.methodLink own idx y ∈ gw) (hi : Cond.instanceMethod y ∈ gw) (hse : Cond.selects y.cls y y ∈ gw) {ci : Nat} {cr : vw_C} (hcl : vwCl[ci]? = some cr) (hcy : cr.1 = y.cls) (hv : vO ci a μ = some ()) (hR : rm'.frames + 1 ≤ rm.frames ∧ 8 + (nL' + 11) + rm'.locals ≤ rm.locals) (hf : cells + rm'.cells ≤ rm.cells ∧ slots + rm'.slots ≤ rm.slots) (hn : As.length = n) (hst : st0 = As.reverse ++ .ref (gZ G + a) :: st) (hW : (st.map fun v => v.category).sum ≤ 8) (hz0 : b = true → (xS X).heap.size + cells = gZ G + mN μ) (d : decode cc pc = .ok (.invokevirtual idx, 3)) (k : AW G nL X (cells + rm'.cells) (slots + rm'.slots) (pc + 3) L (st) μ') : AW G nL X cells slots pc L st0 μ := by
  intro H locs ls a1 b1 e
  refine W.size fun hsz => ?_
  refine va_callv (S := Unit) (va_runV (As := As) (rest := st) (cfix C) hM ⟨cbS C S hl hR, C.2.2.2.2.1 _ hi, C.2.2.2.2.1 _ hse⟩ ⟨blindW, hcy ▸ recvW C b1 hv hcl, fun U hU hW => ⟨rfl, preW C b1 e (szW C b1 e hz0 hsz) U hU hW⟩⟩ rfl hn a1.1 hst (lv_room hW) d (cfR C hf)) e (fun q _ h => h) (fun q h => h) (fun u t H1 locs1 ht hvm hp hB hz hk hS => ?_)
  skip
  exact k H1 locs1 ls a1 (by rw [ht] at hB; exact hB) hS
theorem aw_callVN_I (C : Ctx G X cc nL own rm) {a : Nat} {r : Int32} {host : String} (As : List Value) (st0 : List Value) (hM : MtI G (xL X) y cc' nL' ret' rm' b (.ref (gZ G + a) :: As) μ r μ') (S : CS y cc' nL' ret' n) (hl : Cond.methodLinkNest own idx y host ∈ nestW) (hi : Cond.instanceMethod y ∈ gw) (hse : Cond.selects y.cls y y ∈ gw) {ci : Nat} {cr : vw_C} (hcl : vwCl[ci]? = some cr) (hcy : cr.1 = y.cls) (hv : vO ci a μ = some ()) (hR : rm'.frames + 1 ≤ rm.frames ∧ 8 + (nL' + 11) + rm'.locals ≤ rm.locals) (hf : cells + rm'.cells ≤ rm.cells ∧ slots + rm'.slots ≤ rm.slots) (hn : As.length = n) (hst : st0 = As.reverse ++ .ref (gZ G + a) :: st) (hW : (st.map fun v => v.category).sum ≤ 8) (hz0 : b = true → (xS X).heap.size + cells = gZ G + mN μ) (d : decode cc pc = .ok (.invokevirtual idx, 3)) (k : AW G nL X (cells + rm'.cells) (slots + rm'.slots) (pc + 3) L (.int r :: st) μ') : AW G nL X cells slots pc L st0 μ := by
  intro H locs ls a1 b1 e
  refine W.size fun hsz => ?_
  refine va_calli (S := Unit) (va_runVN (As := As) (rest := st) (cfix C) hM ⟨cbN C S hl hR, C.2.2.2.2.1 _ hi, C.2.2.2.2.1 _ hse⟩ ⟨blindW, hcy ▸ recvW C b1 hv hcl, fun U hU hW => ⟨rfl, preW C b1 e (szW C b1 e hz0 hsz) U hU hW⟩⟩ rfl hn a1.1 hst (lv_room hW) d (cfR C hf)) e (fun q _ h => h) (fun q h => h) (fun r0 u t H1 locs1 ht hvm hp hB hz hk hS => ?_)
  cases hp
  exact k H1 locs1 ls a1 (by rw [ht] at hB; exact hB) hS
theorem aw_callVN_J (C : Ctx G X cc nL own rm) {a : Nat} {r : Int64} {host : String} (As : List Value) (st0 : List Value) (hM : MtJ G (xL X) y cc' nL' ret' rm' b (.ref (gZ G + a) :: As) μ r μ') (S : CS y cc' nL' ret' n) (hl : Cond.methodLinkNest own idx y host ∈ nestW) (hi : Cond.instanceMethod y ∈ gw) (hse : Cond.selects y.cls y y ∈ gw) {ci : Nat} {cr : vw_C} (hcl : vwCl[ci]? = some cr) (hcy : cr.1 = y.cls) (hv : vO ci a μ = some ()) (hR : rm'.frames + 1 ≤ rm.frames ∧ 8 + (nL' + 11) + rm'.locals ≤ rm.locals) (hf : cells + rm'.cells ≤ rm.cells ∧ slots + rm'.slots ≤ rm.slots) (hn : As.length = n) (hst : st0 = As.reverse ++ .ref (gZ G + a) :: st) (hW : (st.map fun v => v.category).sum ≤ 8) (hz0 : b = true → (xS X).heap.size + cells = gZ G + mN μ) (d : decode cc pc = .ok (.invokevirtual idx, 3)) (k : AW G nL X (cells + rm'.cells) (slots + rm'.slots) (pc + 3) L (.long r :: st) μ') : AW G nL X cells slots pc L st0 μ := by
  intro H locs ls a1 b1 e
  refine W.size fun hsz => ?_
  refine va_calll (S := Unit) (va_runVN (As := As) (rest := st) (cfix C) hM ⟨cbN C S hl hR, C.2.2.2.2.1 _ hi, C.2.2.2.2.1 _ hse⟩ ⟨blindW, hcy ▸ recvW C b1 hv hcl, fun U hU hW => ⟨rfl, preW C b1 e (szW C b1 e hz0 hsz) U hU hW⟩⟩ rfl hn a1.1 hst (lv_room hW) d (cfR C hf)) e (fun q _ h => h) (fun q h => h) (fun r0 u t H1 locs1 ht hvm hp hB hz hk hS => ?_)
  cases hp
  exact k H1 locs1 ls a1 (by rw [ht] at hB; exact hB) hS
theorem aw_callVN_V (C : Ctx G X cc nL own rm) {a : Nat} {host : String} (As : List Value) (st0 : List Value) (hM : MtV G (xL X) y cc' nL' ret' rm' b (.ref (gZ G + a) :: As) μ μ') (S : CS y cc' nL' ret' n) (hl : Cond.methodLinkNest own idx y host ∈ nestW) (hi : Cond.instanceMethod y ∈ gw) (hse : Cond.selects y.cls y y ∈ gw) {ci : Nat} {cr : vw_C} (hcl : vwCl[ci]? = some cr) (hcy : cr.1 = y.cls) (hv : vO ci a μ = some ()) (hR : rm'.frames + 1 ≤ rm.frames ∧ 8 + (nL' + 11) + rm'.locals ≤ rm.locals) (hf : cells + rm'.cells ≤ rm.cells ∧ slots + rm'.slots ≤ rm.slots) (hn : As.length = n) (hst : st0 = As.reverse ++ .ref (gZ G + a) :: st) (hW : (st.map fun v => v.category).sum ≤ 8) (hz0 : b = true → (xS X).heap.size + cells = gZ G + mN μ) (d : decode cc pc = .ok (.invokevirtual idx, 3)) (k : AW G nL X (cells + rm'.cells) (slots + rm'.slots) (pc + 3) L (st) μ') : AW G nL X cells slots pc L st0 μ := by
  intro H locs ls a1 b1 e
  refine W.size fun hsz => ?_
  refine va_callv (S := Unit) (va_runVN (As := As) (rest := st) (cfix C) hM ⟨cbN C S hl hR, C.2.2.2.2.1 _ hi, C.2.2.2.2.1 _ hse⟩ ⟨blindW, hcy ▸ recvW C b1 hv hcl, fun U hU hW => ⟨rfl, preW C b1 e (szW C b1 e hz0 hsz) U hU hW⟩⟩ rfl hn a1.1 hst (lv_room hW) d (cfR C hf)) e (fun q _ h => h) (fun q h => h) (fun u t H1 locs1 ht hvm hp hB hz hk hS => ?_)
  skip
  exact k H1 locs1 ls a1 (by rw [ht] at hB; exact hB) hS
theorem aw_callI_V (C : Ctx G X cc nL own rm) {a : Nat} (As : List Value) (st0 : List Value) (hM : MtV G (xL X) y cc' nL' none rm' b (.ref (gZ G + a) :: As) μ μ') (S : CS y cc' nL' none n) (hl : Cond.methodLink own idx y ∈ gw) (hi : Cond.instanceMethod y ∈ gw) (hnm : y.name = "<init>") (hR : rm'.frames + 1 ≤ rm.frames ∧ 8 + (nL' + 11) + rm'.locals ≤ rm.locals) (hf : cells + rm'.cells ≤ rm.cells ∧ slots + rm'.slots ≤ rm.slots) (hn : As.length = n) (hst : st0 = As.reverse ++ .ref (gZ G + a) :: st) (hW : (st.map fun v => v.category).sum ≤ 8) (hz0 : b = true → (xS X).heap.size + cells = gZ G + mN μ) (d : decode cc pc = .ok (.invokespecial idx, 3)) (k : AW G nL X (cells + rm'.cells) (slots + rm'.slots) (pc + 3) L (st) μ') : AW G nL X cells slots pc L st0 μ := by
  intro H locs ls a1 b1 e
  refine W.size fun hsz => ?_
  refine va_callv (S := Unit) (va_runI (As := As) (rest := st) (cfix C) hM ⟨cbS C S hl hR, hnm, C.2.2.2.2.1 _ hi⟩ ⟨blindW, fun U hU hW => ⟨rfl, preW C b1 e (szW C b1 e hz0 hsz) U hU hW⟩⟩ rfl hn a1.1 hst (lv_room hW) d (cfR C hf)) e (fun q _ h => h) (fun q h => h) (fun u t H1 locs1 ht hvm hp hB hz hk hS => ?_)
  skip
  exact k H1 locs1 ls a1 (by rw [ht] at hB; exact hB) hS
theorem aw_callIN_V (C : Ctx G X cc nL own rm) {a : Nat} {host : String} (As : List Value) (st0 : List Value) (hM : MtV G (xL X) y cc' nL' none rm' b (.ref (gZ G + a) :: As) μ μ') (S : CS y cc' nL' none n) (hl : Cond.methodLinkNest own idx y host ∈ nestW) (hi : Cond.instanceMethod y ∈ gw) (hnm : y.name = "<init>") (hR : rm'.frames + 1 ≤ rm.frames ∧ 8 + (nL' + 11) + rm'.locals ≤ rm.locals) (hf : cells + rm'.cells ≤ rm.cells ∧ slots + rm'.slots ≤ rm.slots) (hn : As.length = n) (hst : st0 = As.reverse ++ .ref (gZ G + a) :: st) (hW : (st.map fun v => v.category).sum ≤ 8) (hz0 : b = true → (xS X).heap.size + cells = gZ G + mN μ) (d : decode cc pc = .ok (.invokespecial idx, 3)) (k : AW G nL X (cells + rm'.cells) (slots + rm'.slots) (pc + 3) L (st) μ') : AW G nL X cells slots pc L st0 μ := by
  intro H locs ls a1 b1 e
  refine W.size fun hsz => ?_
  refine va_callv (S := Unit) (va_runIN (As := As) (rest := st) (cfix C) hM ⟨cbN C S hl hR, hnm, C.2.2.2.2.1 _ hi⟩ ⟨blindW, fun U hU hW => ⟨rfl, preW C b1 e (szW C b1 e hz0 hsz) U hU hW⟩⟩ rfl hn a1.1 hst (lv_room hW) d (cfR C hf)) e (fun q _ h => h) (fun q h => h) (fun u t H1 locs1 ht hvm hp hB hz hk hS => ?_)
  skip
  exact k H1 locs1 ls a1 (by rw [ht] at hB; exact hB) hS
/-- the method's end: an int, a long, nothing -/
def RtI (G : GL) (nL : Nat) (X : CX) (cc : ByteArray) (cells slots : Nat) (r : Int32) (μ : Mem) : Prop := ∀ (pc : Nat) (L : List (Nat × Value)), decode cc pc = .ok (.ireturn, 1) → AW G nL X cells slots pc L [.int r] μ
def RtJ (G : GL) (nL : Nat) (X : CX) (cc : ByteArray) (cells slots : Nat) (r : Int64) (μ : Mem) : Prop := ∀ (pc : Nat) (L : List (Nat × Value)), decode cc pc = .ok (.lreturn, 1) → AW G nL X cells slots pc L [.long r] μ
def RtV (G : GL) (nL : Nat) (X : CX) (cc : ByteArray) (cells slots : Nat) (μ : Mem) : Prop := ∀ (pc : Nat) (L : List (Nat × Value)), decode cc pc = .ok (.return_, 1) → AW G nL X cells slots pc L [] μ
end AWC
theorem met_I {G : GL} {l : Launch} {y : MethodName} {cc : ByteArray} {nL : Nat} {ret : Option FieldType} {rm : Room} {b : Bool} {av : List Value} {μ μ' : Mem} {r : Int32} {ty : FieldType} (hy : plainName y.cls = true) (hret : ret = some ty) (hnr : narrow ty (.int r) = .int r) (hn : (lg_sl av).length ≤ nL)
    (wk : ∀ X : CX, xL X = l → Ctx G X cc nL y.cls rm → (xT X).name = y.name → (b = true → (xS X).heap.size = gZ G + mN μ) → RtI G nL X cc rm.cells rm.slots r μ' → AW G nL X 0 0 0 (lv_args 0 av) [] μ) : MtI G l y cc nL ret rm b av μ r μ' := by
  refine Met.ofW (cc := cc) (maxL := nL) (ret := ret) hy rfl ?_
  intro p e s m args below meth c s₁ B hml hv
  obtain ⟨rfl, hw, hK, hZ, hE, hb⟩ := hv
  have hts := atoms_spec (ws := mws y cc nL ret) B.pre
  have hl := lv_entry av (n := nL) hn
  rw [lg_entry_eq]
  refine wk (p, l, e, rm, s, m, av.toArray, below, meth, c, MQ below (va_Qi (fun r' (_ : Unit) => r' = r) (fun _ t => Wd G μ' t.heap) (gA G)) av.toArray s rm.cells rm.slots (gA G)) rfl ⟨B.exec, B.bytes, hml, findClass_of_methodNamed B.named, fun w hw => hts w (List.mem_cons_of_mem _ hw), hK, rfl, hZ, hE⟩ (name_of_methodNamed B.named B.method).1 hb ?_ s.heap [] _ hl hw va_S.rf
  intro pc L d H locs ls a1 b1 e1
  refine W.zret (ty := ty) B.exec B.bytes (B.returns.trans hret) hnr (fun t ht hW => ⟨⟨r, (), rfl, rfl, by show Wd G μ' t.heap; rw [ht]; exact b1⟩, ?_⟩) e1.2.2 d B.notSynchronized
  exact e1.F ht
theorem met_J {G : GL} {l : Launch} {y : MethodName} {cc : ByteArray} {nL : Nat} {ret : Option FieldType} {rm : Room} {b : Bool} {av : List Value} {μ μ' : Mem} {r : Int64} (hy : plainName y.cls = true) (hret : ret = some .long) (hn : (lg_sl av).length ≤ nL)
    (wk : ∀ X : CX, xL X = l → Ctx G X cc nL y.cls rm → (xT X).name = y.name → (b = true → (xS X).heap.size = gZ G + mN μ) → RtJ G nL X cc rm.cells rm.slots r μ' → AW G nL X 0 0 0 (lv_args 0 av) [] μ) : MtJ G l y cc nL ret rm b av μ r μ' := by
  refine Met.ofW (cc := cc) (maxL := nL) (ret := ret) hy rfl ?_
  intro p e s m args below meth c s₁ B hml hv
  obtain ⟨rfl, hw, hK, hZ, hE, hb⟩ := hv
  have hts := atoms_spec (ws := mws y cc nL ret) B.pre
  have hl := lv_entry av (n := nL) hn
  rw [lg_entry_eq]
  refine wk (p, l, e, rm, s, m, av.toArray, below, meth, c, MQ below (va_Ql (fun r' (_ : Unit) => r' = r) (fun _ t => Wd G μ' t.heap) (gA G)) av.toArray s rm.cells rm.slots (gA G)) rfl ⟨B.exec, B.bytes, hml, findClass_of_methodNamed B.named, fun w hw => hts w (List.mem_cons_of_mem _ hw), hK, rfl, hZ, hE⟩ (name_of_methodNamed B.named B.method).1 hb ?_ s.heap [] _ hl hw va_S.rf
  intro pc L d H locs ls a1 b1 e1
  refine W.lret B.exec B.bytes (B.returns.trans hret) (fun t ht hW => ⟨⟨r, (), rfl, rfl, by show Wd G μ' t.heap; rw [ht]; exact b1⟩, ?_⟩) e1.2.2 d B.notSynchronized
  exact e1.F ht
theorem met_V {G : GL} {l : Launch} {y : MethodName} {cc : ByteArray} {nL : Nat} {ret : Option FieldType} {rm : Room} {b : Bool} {av : List Value} {μ μ' : Mem} (hy : plainName y.cls = true) (hret : ret = none) (hn : (lg_sl av).length ≤ nL)
    (wk : ∀ X : CX, xL X = l → Ctx G X cc nL y.cls rm → (xT X).name = y.name → (b = true → (xS X).heap.size = gZ G + mN μ) → RtV G nL X cc rm.cells rm.slots μ' → AW G nL X 0 0 0 (lv_args 0 av) [] μ) : MtV G l y cc nL ret rm b av μ μ' := by
  refine Met.ofW (cc := cc) (maxL := nL) (ret := ret) hy rfl ?_
  intro p e s m args below meth c s₁ B hml hv
  obtain ⟨rfl, hw, hK, hZ, hE, hb⟩ := hv
  have hts := atoms_spec (ws := mws y cc nL ret) B.pre
  have hl := lv_entry av (n := nL) hn
  rw [lg_entry_eq]
  refine wk (p, l, e, rm, s, m, av.toArray, below, meth, c, MQ below (va_Qv (fun (_ : Unit) => True) (fun _ t => Wd G μ' t.heap) (gA G)) av.toArray s rm.cells rm.slots (gA G)) rfl ⟨B.exec, B.bytes, hml, findClass_of_methodNamed B.named, fun w hw => hts w (List.mem_cons_of_mem _ hw), hK, rfl, hZ, hE⟩ (name_of_methodNamed B.named B.method).1 hb ?_ s.heap [] _ hl hw va_S.rf
  intro pc L d H locs ls a1 b1 e1
  refine W.vret B.exec B.bytes (B.returns.trans hret) (fun t ht hW => ⟨⟨(), rfl, trivial, by show Wd G μ' t.heap; rw [ht]; exact b1⟩, ?_⟩) e1.2.2 d B.notSynchronized
  exact e1.F ht
end
section
/-! ===== small helps of the walks ===== -/
def RtZ (G : GL) (nL : Nat) (X : CX) (cc : ByteArray) (cells slots : Nat) (r : Int32) (μ : Mem) : Prop := ∀ (pc : Nat) (L : List (Nat × Value)), decode cc pc = .ok (.ireturn, 1) → (r = 0 ∨ r = 1) → AW G nL X cells slots pc L [.int r] μ
theorem met_Z {G : GL} {l : Launch} {y : MethodName} {cc : ByteArray} {nL : Nat} {ret : Option FieldType} {rm : Room} {b : Bool} {av : List Value} {μ μ' : Mem} {r : Int32} (hy : plainName y.cls = true) (hret : ret = some .boolean) (hn : (lg_sl av).length ≤ nL)
    (wk : ∀ X : CX, xL X = l → Ctx G X cc nL y.cls rm → (xT X).name = y.name → (b = true → (xS X).heap.size = gZ G + mN μ) → RtZ G nL X cc rm.cells rm.slots r μ' → AW G nL X 0 0 0 (lv_args 0 av) [] μ) : MtI G l y cc nL ret rm b av μ r μ' := by
  refine Met.ofW (cc := cc) (maxL := nL) (ret := ret) hy rfl ?_
  intro p e s m args below meth c s₁ B hml hv
  obtain ⟨rfl, hw, hK, hZ, hE, hb⟩ := hv
  have hts := atoms_spec (ws := mws y cc nL ret) B.pre
  have hl := lv_entry av (n := nL) hn
  rw [lg_entry_eq]
  refine wk (p, l, e, rm, s, m, av.toArray, below, meth, c, MQ below (va_Qi (fun r' (_ : Unit) => r' = r) (fun _ t => Wd G μ' t.heap) (gA G)) av.toArray s rm.cells rm.slots (gA G)) rfl ⟨B.exec, B.bytes, hml, findClass_of_methodNamed B.named, fun w hw => hts w (List.mem_cons_of_mem _ hw), hK, rfl, hZ, hE⟩ (name_of_methodNamed B.named B.method).1 hb ?_ s.heap [] _ hl hw va_S.rf
  intro pc L d hr H locs ls a1 b1 e1
  refine W.zret (ty := .boolean) B.exec B.bytes (B.returns.trans hret) (by rcases hr with rfl | rfl <;> rfl) (fun t ht hW => ⟨⟨r, (), rfl, rfl, by show Wd G μ' t.heap; rw [ht]; exact b1⟩, ?_⟩) e1.2.2 d B.notSynchronized
  exact e1.F ht
theorem tsw_out {x : Int32} (n : Nat) (hn : n < 2 ^ 31) (h : ∀ k : Nat, k < n → ¬ x = Int32.ofNat k) : x.toInt < 0 ∨ (n : Int) - 1 < x.toInt := by
  by_cases h0 : x.toInt < 0
  · exact Or.inl h0
  · by_cases h1 : (n : Int) - 1 < x.toInt
    · exact Or.inr h1
    · exfalso
      have hx : ¬ x < 0 := fun q => h0 (by have := Int32.lt_iff_toInt_lt.mp q; simpa using this)
      obtain ⟨j, hj, e⟩ := nI_of hx
      have ht : x.toInt = (j : Int) := by rw [e]; exact nI_toInt hj
      exact h j (by omega) e
section AWM
variable {G : GL} {X : CX} {cc : ByteArray} {nL : Nat} {own : String} {rm : Room} {cells slots pc : Nat} {L L' : List (Nat × Value)} {st : List Value} {μ μ' : Mem}
variable {y : MethodName} {cc' : ByteArray} {nL' n idx : Nat} {ret' : Option FieldType} {rm' : Room} {b : Bool} {As : List Value}
theorem aw_tin (C : Ctx G X cc nL own rm) {x : Int32} {dflt lo hi off : Int} {offs : Array Int} {len : Nat} (k : Nat) (tgt : Nat) (hx : x = Int32.ofNat k) (d : decode cc pc = .ok (.tableswitch dflt lo hi offs, len)) (h1 : ¬ (Int32.ofNat k).toInt < lo) (h2 : ¬ hi < (Int32.ofNat k).toInt) (ho : offs[((Int32.ofNat k).toInt - lo).toNat]? = some off) (ht : (pc : Int) + off = (tgt : Int)) (kk : AW G nL X cells slots tgt L st μ) : AW G nL X cells slots pc L (.int x :: st) μ := by
  subst hx
  exact fun H locs ls a b e => lv_tableIn C.1 C.2.1 d h1 h2 ho ht (kk H locs ls a b e)
theorem aw_tout (C : Ctx G X cc nL own rm) {x : Int32} {dflt lo hi : Int} {offs : Array Int} {len : Nat} (tgt : Nat) (d : decode cc pc = .ok (.tableswitch dflt lo hi offs, len)) (h : x.toInt < lo ∨ hi < x.toInt) (ht : (pc : Int) + dflt = (tgt : Int)) (kk : AW G nL X cells slots tgt L st μ) : AW G nL X cells slots pc L (.int x :: st) μ := fun H locs ls a b e => lv_tableOut C.1 C.2.1 d h ht (kk H locs ls a b e)
theorem mm_max : Cond.static Lib.Math.max.name ∈ gw ∧ Cond.initialized "java/lang/Math" ∈ gw ∧ Cond.code Lib.Math.max.name Lib.Math.max.code 2 (some .int) ∈ gw := by decide +kernel
theorem aw_mmax (C : Ctx G X cc nL own rm) {x y : Int32} (hl : Cond.methodLink own idx Lib.Math.max.name ∈ gw) (hf : 1 ≤ rm.frames) (ho : 21 ≤ rm.locals) (hc : cells ≤ rm.cells ∧ slots ≤ rm.slots) (hW : (st.map fun v => v.category).sum ≤ 8) (d : decode cc pc = .ok (.invokestatic idx, 3)) (k : AW G nL X cells slots (pc + 3) L (.int (if x < y then y else x) :: st) μ) : AW G nL X cells slots pc L (.int y :: .int x :: st) μ := fun H locs ls a b e => va_mmax C.1 C.2.1 (C.2.2.1.trans a.1.symm) C.2.2.2.1 (C.2.2.2.2.1 _ hl) (C.2.2.2.2.1 _ mm_max.1) (C.2.2.2.2.1 _ mm_max.2.1) (C.2.2.2.2.1 _ mm_max.2.2) (by rw [C.2.2.2.2.2.2.1]; exact hf) (by rw [C.2.2.2.2.2.2.1]; omega) (by rw [C.2.2.2.2.2.2.1]; exact hc.1) (by rw [C.2.2.2.2.2.2.1]; exact hc.2) d (k H locs ls a b e)
theorem mm_min : Cond.static Lib.Math.min.name ∈ gw ∧ Cond.initialized "java/lang/Math" ∈ gw ∧ Cond.code Lib.Math.min.name Lib.Math.min.code 2 (some .int) ∈ gw := by decide +kernel
theorem aw_mmin (C : Ctx G X cc nL own rm) {x y : Int32} (hl : Cond.methodLink own idx Lib.Math.min.name ∈ gw) (hf : 1 ≤ rm.frames) (ho : 21 ≤ rm.locals) (hc : cells ≤ rm.cells ∧ slots ≤ rm.slots) (hW : (st.map fun v => v.category).sum ≤ 8) (d : decode cc pc = .ok (.invokestatic idx, 3)) (k : AW G nL X cells slots (pc + 3) L (.int (if y < x then y else x) :: st) μ) : AW G nL X cells slots pc L (.int y :: .int x :: st) μ := fun H locs ls a b e => va_mmin C.1 C.2.1 (C.2.2.1.trans a.1.symm) C.2.2.2.1 (C.2.2.2.2.1 _ hl) (C.2.2.2.2.1 _ mm_min.1) (C.2.2.2.2.1 _ mm_min.2.1) (C.2.2.2.2.1 _ mm_min.2.2) (by rw [C.2.2.2.2.2.2.1]; exact hf) (by rw [C.2.2.2.2.2.2.1]; omega) (by rw [C.2.2.2.2.2.2.1]; exact hc.1) (by rw [C.2.2.2.2.2.2.1]; exact hc.2) d (k H locs ls a b e)
theorem aw_cS_I (C : Ctx G X cc nL own rm) {r : Int32} (As : List Value) (st0 : List Value) (hM : MtI G (xL X) y cc' nL' ret' rm' false (As) μ r μ') (S : CS y cc' nL' ret' n) (hl : Cond.methodLink own idx y ∈ gw) (hs : Cond.static y ∈ gw) (hR : rm'.frames + 1 ≤ rm.frames ∧ 8 + (nL' + 11) + rm'.locals ≤ rm.locals) (h0 : rm'.cells = 0 ∧ rm'.slots = 0) (hf : cells ≤ rm.cells ∧ slots ≤ rm.slots) (hn : As.length = n) (hst : st0 = As.reverse ++ st) (hW : (st.map fun v => v.category).sum ≤ 8) (d : decode cc pc = .ok (.invokestatic idx, 3)) (k : AW G nL X cells slots (pc + 3) L (.int r :: st) μ') : AW G nL X cells slots pc L st0 μ :=
  aw_callS_I C As st0 hM S hl hs hR (by rw [h0.1, h0.2]; exact hf) hn hst hW (fun q => by cases q) d (by rw [h0.1, h0.2]; exact k)
theorem aw_cS_J (C : Ctx G X cc nL own rm) {r : Int64} (As : List Value) (st0 : List Value) (hM : MtJ G (xL X) y cc' nL' ret' rm' false (As) μ r μ') (S : CS y cc' nL' ret' n) (hl : Cond.methodLink own idx y ∈ gw) (hs : Cond.static y ∈ gw) (hR : rm'.frames + 1 ≤ rm.frames ∧ 8 + (nL' + 11) + rm'.locals ≤ rm.locals) (h0 : rm'.cells = 0 ∧ rm'.slots = 0) (hf : cells ≤ rm.cells ∧ slots ≤ rm.slots) (hn : As.length = n) (hst : st0 = As.reverse ++ st) (hW : (st.map fun v => v.category).sum ≤ 8) (d : decode cc pc = .ok (.invokestatic idx, 3)) (k : AW G nL X cells slots (pc + 3) L (.long r :: st) μ') : AW G nL X cells slots pc L st0 μ :=
  aw_callS_J C As st0 hM S hl hs hR (by rw [h0.1, h0.2]; exact hf) hn hst hW (fun q => by cases q) d (by rw [h0.1, h0.2]; exact k)
theorem aw_cS_V (C : Ctx G X cc nL own rm)  (As : List Value) (st0 : List Value) (hM : MtV G (xL X) y cc' nL' ret' rm' false (As) μ μ') (S : CS y cc' nL' ret' n) (hl : Cond.methodLink own idx y ∈ gw) (hs : Cond.static y ∈ gw) (hR : rm'.frames + 1 ≤ rm.frames ∧ 8 + (nL' + 11) + rm'.locals ≤ rm.locals) (h0 : rm'.cells = 0 ∧ rm'.slots = 0) (hf : cells ≤ rm.cells ∧ slots ≤ rm.slots) (hn : As.length = n) (hst : st0 = As.reverse ++ st) (hW : (st.map fun v => v.category).sum ≤ 8) (d : decode cc pc = .ok (.invokestatic idx, 3)) (k : AW G nL X cells slots (pc + 3) L (st) μ') : AW G nL X cells slots pc L st0 μ :=
  aw_callS_V C As st0 hM S hl hs hR (by rw [h0.1, h0.2]; exact hf) hn hst hW (fun q => by cases q) d (by rw [h0.1, h0.2]; exact k)
theorem aw_cSN_I (C : Ctx G X cc nL own rm) {r : Int32} {host : String} (As : List Value) (st0 : List Value) (hM : MtI G (xL X) y cc' nL' ret' rm' false (As) μ r μ') (S : CS y cc' nL' ret' n) (hl : Cond.methodLinkNest own idx y host ∈ nestW) (hs : Cond.static y ∈ gw) (hR : rm'.frames + 1 ≤ rm.frames ∧ 8 + (nL' + 11) + rm'.locals ≤ rm.locals) (h0 : rm'.cells = 0 ∧ rm'.slots = 0) (hf : cells ≤ rm.cells ∧ slots ≤ rm.slots) (hn : As.length = n) (hst : st0 = As.reverse ++ st) (hW : (st.map fun v => v.category).sum ≤ 8) (d : decode cc pc = .ok (.invokestatic idx, 3)) (k : AW G nL X cells slots (pc + 3) L (.int r :: st) μ') : AW G nL X cells slots pc L st0 μ :=
  aw_callSN_I C As st0 hM S hl hs hR (by rw [h0.1, h0.2]; exact hf) hn hst hW (fun q => by cases q) d (by rw [h0.1, h0.2]; exact k)
theorem aw_cSN_J (C : Ctx G X cc nL own rm) {r : Int64} {host : String} (As : List Value) (st0 : List Value) (hM : MtJ G (xL X) y cc' nL' ret' rm' false (As) μ r μ') (S : CS y cc' nL' ret' n) (hl : Cond.methodLinkNest own idx y host ∈ nestW) (hs : Cond.static y ∈ gw) (hR : rm'.frames + 1 ≤ rm.frames ∧ 8 + (nL' + 11) + rm'.locals ≤ rm.locals) (h0 : rm'.cells = 0 ∧ rm'.slots = 0) (hf : cells ≤ rm.cells ∧ slots ≤ rm.slots) (hn : As.length = n) (hst : st0 = As.reverse ++ st) (hW : (st.map fun v => v.category).sum ≤ 8) (d : decode cc pc = .ok (.invokestatic idx, 3)) (k : AW G nL X cells slots (pc + 3) L (.long r :: st) μ') : AW G nL X cells slots pc L st0 μ :=
  aw_callSN_J C As st0 hM S hl hs hR (by rw [h0.1, h0.2]; exact hf) hn hst hW (fun q => by cases q) d (by rw [h0.1, h0.2]; exact k)
theorem aw_cSN_V (C : Ctx G X cc nL own rm)  {host : String} (As : List Value) (st0 : List Value) (hM : MtV G (xL X) y cc' nL' ret' rm' false (As) μ μ') (S : CS y cc' nL' ret' n) (hl : Cond.methodLinkNest own idx y host ∈ nestW) (hs : Cond.static y ∈ gw) (hR : rm'.frames + 1 ≤ rm.frames ∧ 8 + (nL' + 11) + rm'.locals ≤ rm.locals) (h0 : rm'.cells = 0 ∧ rm'.slots = 0) (hf : cells ≤ rm.cells ∧ slots ≤ rm.slots) (hn : As.length = n) (hst : st0 = As.reverse ++ st) (hW : (st.map fun v => v.category).sum ≤ 8) (d : decode cc pc = .ok (.invokestatic idx, 3)) (k : AW G nL X cells slots (pc + 3) L (st) μ') : AW G nL X cells slots pc L st0 μ :=
  aw_callSN_V C As st0 hM S hl hs hR (by rw [h0.1, h0.2]; exact hf) hn hst hW (fun q => by cases q) d (by rw [h0.1, h0.2]; exact k)
theorem aw_cV_I (C : Ctx G X cc nL own rm) {a : Nat} {r : Int32} (As : List Value) (st0 : List Value) (hM : MtI G (xL X) y cc' nL' ret' rm' false (.ref (gZ G + a) :: As) μ r μ') (S : CS y cc' nL' ret' n) (hl : Cond.methodLink own idx y ∈ gw) (hi : Cond.instanceMethod y ∈ gw) (hse : Cond.selects y.cls y y ∈ gw) {ci : Nat} {cr : vw_C} (hcl : vwCl[ci]? = some cr) (hcy : cr.1 = y.cls) (hv : vO ci a μ = some ()) (hR : rm'.frames + 1 ≤ rm.frames ∧ 8 + (nL' + 11) + rm'.locals ≤ rm.locals) (h0 : rm'.cells = 0 ∧ rm'.slots = 0) (hf : cells ≤ rm.cells ∧ slots ≤ rm.slots) (hn : As.length = n) (hst : st0 = As.reverse ++ .ref (gZ G + a) :: st) (hW : (st.map fun v => v.category).sum ≤ 8) (d : decode cc pc = .ok (.invokevirtual idx, 3)) (k : AW G nL X cells slots (pc + 3) L (.int r :: st) μ') : AW G nL X cells slots pc L st0 μ :=
  aw_callV_I C As st0 hM S hl hi hse hcl hcy hv hR (by rw [h0.1, h0.2]; exact hf) hn hst hW (fun q => by cases q) d (by rw [h0.1, h0.2]; exact k)
theorem aw_cV_J (C : Ctx G X cc nL own rm) {a : Nat} {r : Int64} (As : List Value) (st0 : List Value) (hM : MtJ G (xL X) y cc' nL' ret' rm' false (.ref (gZ G + a) :: As) μ r μ') (S : CS y cc' nL' ret' n) (hl : Cond.methodLink own idx y ∈ gw) (hi : Cond.instanceMethod y ∈ gw) (hse : Cond.selects y.cls y y ∈ gw) {ci : Nat} {cr : vw_C} (hcl : vwCl[ci]? = some cr) (hcy : cr.1 = y.cls) (hv : vO ci a μ = some ()) (hR : rm'.frames + 1 ≤ rm.frames ∧ 8 + (nL' + 11) + rm'.locals ≤ rm.locals) (h0 : rm'.cells = 0 ∧ rm'.slots = 0) (hf : cells ≤ rm.cells ∧ slots ≤ rm.slots) (hn : As.length = n) (hst : st0 = As.reverse ++ .ref (gZ G + a) :: st) (hW : (st.map fun v => v.category).sum ≤ 8) (d : decode cc pc = .ok (.invokevirtual idx, 3)) (k : AW G nL X cells slots (pc + 3) L (.long r :: st) μ') : AW G nL X cells slots pc L st0 μ :=
  aw_callV_J C As st0 hM S hl hi hse hcl hcy hv hR (by rw [h0.1, h0.2]; exact hf) hn hst hW (fun q => by cases q) d (by rw [h0.1, h0.2]; exact k)
theorem aw_cV_V (C : Ctx G X cc nL own rm) {a : Nat}  (As : List Value) (st0 : List Value) (hM : MtV G (xL X) y cc' nL' ret' rm' false (.ref (gZ G + a) :: As) μ μ') (S : CS y cc' nL' ret' n) (hl : Cond.methodLink own idx y ∈ gw) (hi : Cond.instanceMethod y ∈ gw) (hse : Cond.selects y.cls y y ∈ gw) {ci : Nat} {cr : vw_C} (hcl : vwCl[ci]? = some cr) (hcy : cr.1 = y.cls) (hv : vO ci a μ = some ()) (hR : rm'.frames + 1 ≤ rm.frames ∧ 8 + (nL' + 11) + rm'.locals ≤ rm.locals) (h0 : rm'.cells = 0 ∧ rm'.slots = 0) (hf : cells ≤ rm.cells ∧ slots ≤ rm.slots) (hn : As.length = n) (hst : st0 = As.reverse ++ .ref (gZ G + a) :: st) (hW : (st.map fun v => v.category).sum ≤ 8) (d : decode cc pc = .ok (.invokevirtual idx, 3)) (k : AW G nL X cells slots (pc + 3) L (st) μ') : AW G nL X cells slots pc L st0 μ :=
  aw_callV_V C As st0 hM S hl hi hse hcl hcy hv hR (by rw [h0.1, h0.2]; exact hf) hn hst hW (fun q => by cases q) d (by rw [h0.1, h0.2]; exact k)
theorem aw_cVN_I (C : Ctx G X cc nL own rm) {a : Nat} {r : Int32} {host : String} (As : List Value) (st0 : List Value) (hM : MtI G (xL X) y cc' nL' ret' rm' false (.ref (gZ G + a) :: As) μ r μ') (S : CS y cc' nL' ret' n) (hl : Cond.methodLinkNest own idx y host ∈ nestW) (hi : Cond.instanceMethod y ∈ gw) (hse : Cond.selects y.cls y y ∈ gw) {ci : Nat} {cr : vw_C} (hcl : vwCl[ci]? = some cr) (hcy : cr.1 = y.cls) (hv : vO ci a μ = some ()) (hR : rm'.frames + 1 ≤ rm.frames ∧ 8 + (nL' + 11) + rm'.locals ≤ rm.locals) (h0 : rm'.cells = 0 ∧ rm'.slots = 0) (hf : cells ≤ rm.cells ∧ slots ≤ rm.slots) (hn : As.length = n) (hst : st0 = As.reverse ++ .ref (gZ G + a) :: st) (hW : (st.map fun v => v.category).sum ≤ 8) (d : decode cc pc = .ok (.invokevirtual idx, 3)) (k : AW G nL X cells slots (pc + 3) L (.int r :: st) μ') : AW G nL X cells slots pc L st0 μ :=
  aw_callVN_I C As st0 hM S hl hi hse hcl hcy hv hR (by rw [h0.1, h0.2]; exact hf) hn hst hW (fun q => by cases q) d (by rw [h0.1, h0.2]; exact k)
theorem aw_cVN_J (C : Ctx G X cc nL own rm) {a : Nat} {r : Int64} {host : String} (As : List Value) (st0 : List Value) (hM : MtJ G (xL X) y cc' nL' ret' rm' false (.ref (gZ G + a) :: As) μ r μ') (S : CS y cc' nL' ret' n) (hl : Cond.methodLinkNest own idx y host ∈ nestW) (hi : Cond.instanceMethod y ∈ gw) (hse : Cond.selects y.cls y y ∈ gw) {ci : Nat} {cr : vw_C} (hcl : vwCl[ci]? = some cr) (hcy : cr.1 = y.cls) (hv : vO ci a μ = some ()) (hR : rm'.frames + 1 ≤ rm.frames ∧ 8 + (nL' + 11) + rm'.locals ≤ rm.locals) (h0 : rm'.cells = 0 ∧ rm'.slots = 0) (hf : cells ≤ rm.cells ∧ slots ≤ rm.slots) (hn : As.length = n) (hst : st0 = As.reverse ++ .ref (gZ G + a) :: st) (hW : (st.map fun v => v.category).sum ≤ 8) (d : decode cc pc = .ok (.invokevirtual idx, 3)) (k : AW G nL X cells slots (pc + 3) L (.long r :: st) μ') : AW G nL X cells slots pc L st0 μ :=
  aw_callVN_J C As st0 hM S hl hi hse hcl hcy hv hR (by rw [h0.1, h0.2]; exact hf) hn hst hW (fun q => by cases q) d (by rw [h0.1, h0.2]; exact k)
theorem aw_cVN_V (C : Ctx G X cc nL own rm) {a : Nat}  {host : String} (As : List Value) (st0 : List Value) (hM : MtV G (xL X) y cc' nL' ret' rm' false (.ref (gZ G + a) :: As) μ μ') (S : CS y cc' nL' ret' n) (hl : Cond.methodLinkNest own idx y host ∈ nestW) (hi : Cond.instanceMethod y ∈ gw) (hse : Cond.selects y.cls y y ∈ gw) {ci : Nat} {cr : vw_C} (hcl : vwCl[ci]? = some cr) (hcy : cr.1 = y.cls) (hv : vO ci a μ = some ()) (hR : rm'.frames + 1 ≤ rm.frames ∧ 8 + (nL' + 11) + rm'.locals ≤ rm.locals) (h0 : rm'.cells = 0 ∧ rm'.slots = 0) (hf : cells ≤ rm.cells ∧ slots ≤ rm.slots) (hn : As.length = n) (hst : st0 = As.reverse ++ .ref (gZ G + a) :: st) (hW : (st.map fun v => v.category).sum ≤ 8) (d : decode cc pc = .ok (.invokevirtual idx, 3)) (k : AW G nL X cells slots (pc + 3) L (st) μ') : AW G nL X cells slots pc L st0 μ :=
  aw_callVN_V C As st0 hM S hl hi hse hcl hcy hv hR (by rw [h0.1, h0.2]; exact hf) hn hst hW (fun q => by cases q) d (by rw [h0.1, h0.2]; exact k)
end AWM
theorem mg {w : Cond} (i : Nat) (h : tables_1[i]? = some w) (g : goodWord w = true) : w ∈ gw := List.mem_filter.mpr ⟨List.mem_append_right _ (List.mem_of_getElem? h), g⟩
theorem mgs {y : MethodName} {k : Nat} (i : Nat) (h : lw_privs[i]? = some (y, k)) : Cond.selects y.cls y y ∈ gw := List.mem_filter.mpr ⟨List.mem_append_left _ (List.mem_map.mpr ⟨(y, k), List.mem_of_getElem? h, rfl⟩), rfl⟩
theorem mn {w : Cond} (i : Nat) (h : tables_1[i]? = some w) (g : isNest w = true) : w ∈ nestW := List.mem_filter.mpr ⟨List.mem_append_right _ (List.mem_of_getElem? h), g⟩
end
section
/-! ===== new cells, constructors' calls ===== -/
def dfl (c k : Nat) : Value := match fTy c k with
  | 0 => .int 0
  | 1 => .long 0
  | _ => .null
theorem mNew_I {μ : Mem} {sh : Nat × Nat} : mI (mNew μ sh) (mN μ) = fun _ => 0 := if_pos rfl
theorem mNew_J {μ : Mem} {sh : Nat × Nat} : mJ (mNew μ sh) (mN μ) = fun _ => 0 := if_pos rfl
theorem mNew_R {μ : Mem} {sh : Nat × Nat} : mR (mNew μ sh) (mN μ) = fun _ => none := if_pos rfl
theorem mNew_S {μ : Mem} {sh : Nat × Nat} : mS (mNew μ sh) (mN μ) = sh := if_pos rfl
theorem fv_new {G : GL} {μ : Mem} {sh : Nat × Nat} {c k : Nat} : fv G (mNew μ sh) (mN μ) c k = dfl c k := by
  simp only [fv, dfl, mNew_I, mNew_J, mNew_R]
  rfl
section AWN
variable {G : GL} {X : CX} {cc : ByteArray} {nL : Nat} {own : String} {rm : Room} {cells slots pc : Nat} {L L' : List (Nat × Value)} {st : List Value} {μ μ' : Mem}
variable {y : MethodName} {cc' : ByteArray} {nL' n idx : Nat} {ret' : Option FieldType} {rm' : Room} {b : Bool} {As : List Value}
theorem aw_oinit (C : Ctx G X cc nL own rm) {a : Nat} (hl : Cond.methodLink own idx Lib.objectInit ∈ gw) (hi : Cond.instanceMethod Lib.objectInit ∈ gw) (hc : Cond.code Lib.objectInit ⟨#[0xb1]⟩ 1 none ∈ gw) (hf : 1 ≤ rm.frames) (ho : 20 ≤ rm.locals) (hW : (st.map fun v => v.category).sum ≤ 8) (d : decode cc pc = .ok (.invokespecial idx, 3)) (k : AW G nL X cells slots (pc + 3) L st μ) : AW G nL X cells slots pc L (.ref a :: st) μ := fun H locs ls a1 b1 e =>
  W.objInit C.1 C.2.1 C.2.2.2.1 (C.2.2.2.2.1 _ hl) (C.2.2.2.2.1 _ hi) (C.2.2.2.2.1 _ hc) rfl (a1.1.trans C.2.2.1.symm) rfl d (by rw [C.2.2.2.2.2.2.1]; exact hf) (by
    have h9 := lv_room (m := xM X) (pc := pc) (ls := ls) (rest := .ref a :: st) hW
    rw [C.2.2.2.2.2.2.1]
    omega) (k H locs ls a1 b1 e)
theorem aw_new (C : Ctx G X cc nL own rm) {ci N : Nat} {Cn : String} {T : u_T} (c1 s1 : Nat) (t0 : Nat → FieldType) (hc : vwCl[ci]? = some (Cn, T, N)) (hws : ∀ w ∈ u_ws Cn T N, w ∈ gw) (hty : ∀ k, k < N → parseFieldDescriptor (T k).2.2.1 = some (t0 k)) (hN : N = fN ci) (hdf : ∀ j, j < N → defaultValue (t0 j) = dfl ci j) (hcl : Cond.classLink own idx Cn ∈ gw) (hin : Cond.instantiable Cn N ∈ gw) (hini : Cond.initialized Cn ∈ gw) {n0 : Nat} (hb : (xS X).heap.size = gZ G + n0) (h : nO ci (n0 + cells) μ = some μ') (hcells : c1 ≤ rm.cells) (hslots : s1 ≤ rm.slots) (e1 : cells + 1 = c1) (e2 : slots + N = s1) (d : decode cc pc = .ok (.new idx, 3)) (k : AW G nL X c1 s1 (pc + 3) L (.ref (gZ G + (n0 + cells)) :: st) μ') : AW G nL X cells slots pc L st μ := by
  subst e1
  subst e2
  subst hN
  unfold nO at h
  split at h
  · rename_i hm
    cases h
    intro H locs ls a1 b1 e
    refine W.size fun hs => ?_
    have hH : H.size = gZ G + mN μ := szW (b := true) C b1 e (fun _ => by rw [hb, hm]; omega) hs rfl
    have hKn := C.2.2.2.2.2.1.1.1 ci _ hc
    refine W.newcK C.1 C.2.1 C.2.2.2.1 (C.2.2.2.2.1 _ hcl) (C.2.2.2.2.1 _ hin) (C.2.2.2.2.1 _ hini) rfl d (by rw [C.2.2.2.2.2.2.1]; exact hcells) (by rw [C.2.2.2.2.2.2.1]; exact hslots) hKn.2.1 hH fun H1 kC hkC e1 z1 o1 => ?_
    have hk : ∀ (k : Nat) (x : Nat × va_E), (wsOf G μ)[k]? = some x → H1[x.1]? = H[x.1]? := fun k x hx => o1 x.1 (by rw [← hH]; exact (b1 k x hx).lt)
    have hP : Wd G (mNew μ (0, ci)) H1 := by
      show va_P _ _ _ _
      rw [ws_push]
      refine va_P.app (va_P.kept b1 hk) (fun k x hx => ?_)
      have hz : k < 1 := (List.getElem?_eq_some_iff.mp hx).1
      rw [show k = 0 by omega] at hx
      cases hx
      show va_at _ _ _ _
      rw [cel_o (c := ci) mNew_S]
      refine ⟨_, hc, (u_born t0 C.2.2.2.2.1 hws hKn hkC e1 hty).to (fun j hj => ?_)⟩
      rw [hdf j hj]
      show dfl ci j = ((List.range (fN ci)).map (fv G (mNew μ (0, ci)) (mN μ) ci)).getD j .null
      rw [List.getD_eq_getElem?_getD, fs_at hj, fv_new]
      rfl
    have k2 := k H1 locs ls a1 hP ⟨Nat.le_trans e.1 (by omega), fun x h1 h2 => (o1 x (by have := e.1; omega)).trans (e.2.1 x h1 h2), e.2.2⟩
    rw [← hm] at k2
    exact k2
  · cases h
theorem aw_newa (C : Ctx G X cc nL own rm) {kd N' : Nat} {nn : Int32} {ty : FieldType} {at0 : ArrayType} {y0 : (Nat → Int32) ⊕ (Nat → Int64) ⊕ (Nat → UInt32) ⊕ (Nat → UInt64) ⊕ (Nat → Option Nat)} (c1 s1 : Nat) (hat : newarray.typeOf at0 = ty) (ht : (tysOf G)[kd - 1]? = some (gC G kd, ty)) (hra : ∀ (U : State) (cA : ClassId), va_RA U cA ty → U.vm.findClass ("[" ++ ty.toString) = some cA) (hcv : cel G (mNew μ (kd, N')) (mN μ) = .inl (gC G kd, N', y0)) (hvp : vp_cell (gC G kd) (N', y0) = arrV (gC G kd) N' (fun _ => defaultValue ty)) (hcl : Cond.arrayClass ty ∈ gw) {n0 : Nat} (hb : (xS X).heap.size = gZ G + n0) (h : nA kd (n0 + cells) nn μ = some μ') (hNN : nn.toNatClampNeg = N') (hby : N' * componentBytes ty ≤ 536870912) (hcells : c1 ≤ rm.cells) (hslots : s1 ≤ rm.slots) (e1 : cells + 1 = c1) (e2 : slots + N' = s1) (d : decode cc pc = .ok (.newarray at0, 2)) (k : AW G nL X c1 s1 (pc + 2) L (.ref (gZ G + (n0 + cells)) :: st) μ') : AW G nL X cells slots pc L (.int nn :: st) μ := by
  subst e1
  subst e2
  subst hNN
  subst hat
  unfold nA at h
  split at h
  · rename_i hm
    obtain ⟨hm, hnn⟩ := hm
    cases h
    intro H locs ls a1 b1 e
    refine W.size fun hs => ?_
    have hH : H.size = gZ G + mN μ := szW (b := true) C b1 e (fun _ => by rw [hb, hm]; omega) hs rfl
    refine va_newaK C.1 C.2.1 (C.2.2.2.2.1 _ hcl) (g := F0 (xM X) pc ls (.int nn :: st)) rfl d rfl hnn rfl hby (by rw [C.2.2.2.2.2.2.1]; exact hcells) (by rw [C.2.2.2.2.2.2.1]; exact hslots) hH (fun H1 cA e1 z1 o1 _ hf => ?_)
    have hcA : cA = gC G kd := Option.some.inj (hf.symm.trans (hra _ _ (C.2.2.2.2.2.1.1.2 _ _ ht).2))
    subst hcA
    have hk : ∀ (k : Nat) (x : Nat × va_E), (wsOf G μ)[k]? = some x → H1[x.1]? = H[x.1]? := fun k x hx => o1 x.1 (by rw [← hH]; exact (b1 k x hx).lt)
    have hP : Wd G (mNew μ (kd, nn.toNatClampNeg)) H1 := by
      show va_P _ _ _ _
      rw [ws_push]
      refine va_P.app (va_P.kept b1 hk) (fun k x hx => ?_)
      have hz : k < 1 := (List.getElem?_eq_some_iff.mp hx).1
      rw [show k = 0 by omega] at hx
      cases hx
      show va_at _ _ _ _
      rw [hcv]
      show H1[gZ G + mN μ]? = some (vp_cell _ _)
      rw [hvp]
      exact e1
    have k2 := k H1 locs ls a1 hP ⟨Nat.le_trans e.1 (by omega), fun x h1 h2 => (o1 x (by have := e.1; omega)).trans (e.2.1 x h1 h2), e.2.2⟩
    rw [← hm] at k2
    exact k2
  · cases h
theorem cv_1 {N : Nat} : cel G (mNew μ (1, N)) (mN μ) = .inl (gC G 1, N, .inl (fun _ => 0)) := by
  rw [cel_1 (by rw [mNew_S]), mNew_I, mNew_S]
theorem cv_2 {N : Nat} : cel G (mNew μ (2, N)) (mN μ) = .inl (gC G 2, N, .inr (.inl (fun _ => 0))) := by
  rw [cel_2 (by rw [mNew_S]), mNew_J, mNew_S]
theorem cv_3 {N : Nat} : cel G (mNew μ (3, N)) (mN μ) = .inl (gC G 3, N, .inl (fun _ => 0)) := by
  rw [cel_3 (by rw [mNew_S]), mNew_I, mNew_S]
theorem cv_r {kd N : Nat} (hk : kd = 4 ∨ kd = 5 ∨ kd = 6 ∨ kd = 7) : cel G (mNew μ (kd, N)) (mN μ) = .inl (gC G kd, N, .inr (.inr (.inr (.inr (fun _ => none))))) := by
  rw [cel_r (kd := kd) (by rw [mNew_S]) hk, mNew_R, mNew_S]
  rfl
theorem aw_anew (C : Ctx G X cc nL own rm) {kd N' : Nat} {nn : Int32} {Cn : String} (c1 s1 : Nat) (hk : kd = 4 ∨ kd = 5 ∨ kd = 6 ∨ kd = 7) (ht : (tysOf G)[kd - 1]? = some (gC G kd, .object Cn)) (hao : KK G (xS X) → va_AO Cn (xS X)) (hcl : Cond.classLink own idx Cn ∈ gw) {n0 : Nat} (hb : (xS X).heap.size = gZ G + n0) (h : nA kd (n0 + cells) nn μ = some μ') (hNN : nn.toNatClampNeg = N') (hby : N' * 4 ≤ 536870912) (hcells : c1 ≤ rm.cells) (hslots : s1 ≤ rm.slots) (e1 : cells + 1 = c1) (e2 : slots + N' = s1) (d : decode cc pc = .ok (.anewarray idx, 3)) (k : AW G nL X c1 s1 (pc + 3) L (.ref (gZ G + (n0 + cells)) :: st) μ') : AW G nL X cells slots pc L (.int nn :: st) μ := by
  subst e1
  subst e2
  subst hNN
  unfold nA at h
  split at h
  · rename_i hm
    obtain ⟨hm, hnn⟩ := hm
    cases h
    intro H locs ls a1 b1 e
    refine W.size fun hs => ?_
    have hH : H.size = gZ G + mN μ := szW (b := true) C b1 e (fun _ => by rw [hb, hm]; omega) hs rfl
    refine W.anew C.1 C.2.1 C.2.2.2.1 (C.2.2.2.2.1 _ hcl) (va_AO.use (hao C.2.2.2.2.2.1)) rfl d rfl hnn hby (by rw [C.2.2.2.2.2.2.1]; exact hcells) (by rw [C.2.2.2.2.2.2.1]; exact hslots) fun cA kA comp f1 f2 f3 f4 => ?_
    have hra := (C.2.2.2.2.2.1.1.2 _ _ ht).2
    obtain ⟨kB, cB, -, -, -, g4⟩ := hra
    have hcA : cA = gC G kd := Option.some.inj (f1.symm.trans g4)
    subst hcA
    generalize hH1 : H.push ({ cls := gC G kd, slots := Array.replicate nn.toNatClampNeg .null, vm := .none } : Cell) = H1
    have z1 : H1.size = H.size + 1 := by rw [← hH1, Array.size_push]
    have e1 : H1[H.size]? = some (arrV (gC G kd) nn.toNatClampNeg (fun _ => .null)) := by rw [← hH1, Array.getElem?_push_size, ← arrV_new]
    have o1 : ∀ q : Nat, q < H.size → H1[q]? = H[q]? := fun q hq => by rw [← hH1, Array.getElem?_push, if_neg (Nat.ne_of_lt hq)]
    have hk2 : ∀ (k : Nat) (x : Nat × va_E), (wsOf G μ)[k]? = some x → H1[x.1]? = H[x.1]? := fun k x hx => o1 x.1 ((b1 k x hx).lt)
    have hP : Wd G (mNew μ (kd, nn.toNatClampNeg)) H1 := by
      show va_P _ _ _ _
      rw [ws_push]
      refine va_P.app (va_P.kept b1 hk2) (fun k x hx => ?_)
      have hz : k < 1 := (List.getElem?_eq_some_iff.mp hx).1
      rw [show k = 0 by omega] at hx
      cases hx
      show va_at _ _ _ _
      rw [cv_r hk]
      show H1[gZ G + mN μ]? = some (vp_cell _ _)
      rw [vp_cell_q, ← hH]
      exact e1
    have k2 := k H1 locs ls a1 hP ⟨Nat.le_trans e.1 (by omega), fun x h1 h2 => (o1 x (by have := e.1; omega)).trans (e.2.1 x h1 h2), e.2.2⟩
    rw [← hm, ← hH] at k2
    exact k2
  · cases h
theorem ws_grid {N K : Nat} : wsOf G (mGrid μ N K) = (wsOf G μ ++ [(gZ G + mN μ, .inl (gC G 7, N, .inr (.inr (.inr (.inr (fun j => if j < N then some (gZ G + mN μ + 1 + j) else none))))))]) ++ (List.range N).map (fun i => (gZ G + mN μ + 1 + i, .inl (gC G 1, K, .inl (fun _ => 0)))) := by
  apply List.ext_getElem?
  intro i
  have hl : (wsOf G μ).length = mN μ := by simp [wsOf]
  have hN : mN (mGrid μ N K) = mN μ + 1 + N := rfl
  by_cases h1 : i < mN μ
  · rw [ws_at (by rw [hN]; omega), List.getElem?_append_left (by simp [hl]; omega), List.getElem?_append_left (by rw [hl]; exact h1), ws_at h1]
    have q1 : ¬ i = μ.1 := Nat.ne_of_lt h1
    have q2 : ¬ (μ.1 < i ∧ i ≤ μ.1 + N) := fun q => by have := q.1; have h9 : i < μ.1 := h1; omega
    have q3 : ¬ (μ.1 ≤ i ∧ i ≤ μ.1 + N) := fun q => by have := q.1; have h9 : i < μ.1 := h1; omega
    rw [cel_ne (μ := μ) (μ' := mGrid μ N K)]
    · exact (if_neg q1).trans (if_neg q2)
    · exact if_neg q3
    · exact if_neg q3
    · exact (if_neg q1).trans (if_neg q2)
  · by_cases h2 : i = mN μ
    · subst h2
      rw [ws_at (by rw [hN]; omega), List.getElem?_append_left (by simp [hl]), List.getElem?_append_right (by rw [hl]; exact Nat.le_refl _), hl, Nat.sub_self]
      have e1 : mS (mGrid μ N K) (mN μ) = (7, N) := if_pos rfl
      have e2 : mR (mGrid μ N K) (mN μ) = fun j => if j < N then some (mN μ + 1 + j) else none := if_pos rfl
      rw [cel_r (kd := 7) (by rw [e1]) (by decide), e1, e2]
      refine congrArg (fun z => some (gZ G + mN μ, Sum.inl (gC G 7, N, Sum.inr (Sum.inr (Sum.inr (Sum.inr z)))))) (funext fun j => ?_)
      show Option.map (fun x => gZ G + x) (if j < N then some (mN μ + 1 + j) else none) = (if j < N then some (gZ G + mN μ + 1 + j) else none)
      by_cases hj : j < N
      · rw [if_pos hj, if_pos hj]
        show some (gZ G + (mN μ + 1 + j)) = some (gZ G + mN μ + 1 + j)
        rw [show gZ G + (mN μ + 1 + j) = gZ G + mN μ + 1 + j by omega]
      · rw [if_neg hj, if_neg hj]
        rfl
    · by_cases h3 : i < mN μ + 1 + N
      · rw [ws_at (by rw [hN]; exact h3), List.getElem?_append_right (by simp [hl]; omega), List.length_append, hl, List.length_singleton, List.getElem?_map, List.getElem?_range (by omega)]
        have e0 : mN μ < i ∧ i ≤ mN μ + N := ⟨by omega, by omega⟩
        have e1 : mS (mGrid μ N K) i = (1, K) := (if_neg h2).trans (if_pos e0)
        have e2 : mI (mGrid μ N K) i = fun _ => 0 := if_pos ⟨Nat.le_of_lt e0.1, e0.2⟩
        rw [cel_1 (by rw [e1]), e1, e2]
        exact congrArg (fun z => some (z, _)) (by omega)
      · rw [List.getElem?_eq_none (by simp [wsOf, hN]; omega), List.getElem?_eq_none (by simp [hl]; omega)]
theorem aw_mna (C : Ctx G X cc nL own rm) {N K : Nat} {nn kk : Int32} (c1 s1 : Nat) (hcl : Cond.classLink own idx ("[" ++ (FieldType.array .int).toString) ∈ gw) (hac : Cond.arrayClass .int ∈ gw) {n0 : Nat} (hb : (xS X).heap.size = gZ G + n0) (h : nM (n0 + cells) nn kk μ = some μ') (hNN : nn.toNatClampNeg = N) (hKK : kk.toNatClampNeg = K) (hb1 : N * 4 ≤ 536870912) (hb2 : K * 4 ≤ 536870912) (hb3 : K ≤ 536870912) (hcells : c1 ≤ rm.cells) (hslots : s1 ≤ rm.slots) (e1 : cells + 1 + N = c1) (e2 : slots + N + N * K = s1) (d : decode cc pc = .ok (.multianewarray idx 2, 4)) (k : AW G nL X c1 s1 (pc + 4) L (.ref (gZ G + (n0 + cells)) :: st) μ') : AW G nL X cells slots pc L (.int kk :: .int nn :: st) μ := by
  subst e1
  subst e2
  subst hNN
  subst hKK
  unfold nM at h
  split at h
  · rename_i hm
    obtain ⟨hm, hnn, hkk⟩ := hm
    cases h
    intro H locs ls a1 b1 e
    refine W.size fun hs => ?_
    have hH : H.size = gZ G + mN μ := szW (b := true) C b1 e (fun _ => by rw [hb, hm]; omega) hs rfl
    intro T hT Xs
    obtain ⟨vm₁, cA, comp, -, fA, fC, -, -, X', step⟩ := Xs.multianewarray2F C.1 C.2.2.2.1 (C.2.2.2.2.1 _ hcl) C.2.2.2.2.2.1.2.2.1.2.2.2 (C.2.2.2.2.1 _ hac) (ty := .int) (g := F0 (xM X) pc ls (.int kk :: .int nn :: st)) rfl (by rw [C.2.1]; exact d) rfl hnn hkk hb1 hb2 hb3 rfl rfl (by rw [C.2.2.2.2.2.2.1]; omega) (by rw [C.2.2.2.2.2.2.1]; omega)
    have hc7 : cA = gC G 7 := Option.some.inj (fA.symm.trans (C.2.2.2.2.2.1.1.2 6 (gC G 7, .array .int) rfl).2)
    have hc1 : comp = gC G 1 := Option.some.inj (fC.symm.trans (C.2.2.2.2.2.1.1.2 0 (gC G 1, .int) rfl).2)
    subst hc7
    subst hc1
    generalize hF : Jvm.Free.Multi.fill (T.setVm vm₁) (gC G 7) (gC G 1) nn.toNatClampNeg kk.toNatClampNeg (defaultValue .int) nn.toNatClampNeg = F at X' step
    have hTh : (T.setVm vm₁).heap = H := hT
    obtain ⟨f1, f2, -, -⟩ := Jvm.Free.Multi.fill_facts (T.setVm vm₁) (gC G 7) (gC G 1) nn.toNatClampNeg kk.toNatClampNeg (defaultValue .int) nn.toNatClampNeg
    rw [hF, hTh] at f1 f2
    have hold : ∀ x : Nat, x < H.size → F.heap[x]? = H[x]? := fun x hx => by
      have := Jvm.Free.Multi.fill_old (T.setVm vm₁) (gC G 7) (gC G 1) nn.toNatClampNeg kk.toNatClampNeg (defaultValue .int) (a := x) (by rw [hTh]; exact hx) nn.toNatClampNeg
      rw [hF, hTh] at this
      exact this
    have hrow : ∀ j : Nat, j < nn.toNatClampNeg → F.heap[H.size + 1 + j]? = some (vp_cell (gC G 1) (kk.toNatClampNeg, .inl (fun _ => 0))) := fun j hj => by
      have := Jvm.Free.Multi.fill_inner (T.setVm vm₁) (gC G 7) (gC G 1) nn.toNatClampNeg kk.toNatClampNeg (defaultValue .int) nn.toNatClampNeg j hj
      rw [hF, hTh] at this
      rw [this]
      exact congrArg some (arrV_new _ _ _)
    have hout : ∀ (cx : ClassId) (N9 h9 i : Nat), Jvm.Free.Multi.outerC cx N9 h9 i = arrV cx N9 (fun j => va_rf (if j < i then some (h9 + 1 + j) else none)) := by
      intro cx N9 h9 i
      induction i with
      | zero =>
        show ({ cls := cx, slots := Array.replicate N9 .null, vm := .none } : Cell) = _
        rw [arrV_new]
        refine congrArg (arrV cx N9) (funext fun j => ?_)
        simp [va_rf]
      | succ i ih =>
        show (Jvm.Free.Multi.outerC cx N9 h9 i).setSlot i (.ref (h9 + 1 + i)) = _
        rw [ih, arrV_store]
        refine congrArg (arrV cx N9) (funext fun j => ?_)
        by_cases e : j = i
        · subst e
          simp [updV, va_rf]
        · by_cases h : j < i
          · simp [updV, e, h, Nat.lt_succ_of_lt h]
          · simp [updV, e, h, show ¬ j < i + 1 by omega]
    rw [hout] at f2
    have hP : Wd G (mGrid μ nn.toNatClampNeg kk.toNatClampNeg) F.heap := by
      show va_P _ _ _ _
      rw [ws_grid]
      refine va_P.app (va_P.app (va_P.kept b1 (fun k x hx => hold x.1 ((b1 k x hx).lt))) (fun k x hx => ?_)) (fun k x hx => ?_)
      · have hz : k < 1 := (List.getElem?_eq_some_iff.mp hx).1
        rw [show k = 0 by omega] at hx
        cases hx
        show F.heap[gZ G + mN μ]? = some (vp_cell _ _)
        rw [vp_cell_q, ← hH]
        exact f2
      · obtain ⟨i, hi, rfl⟩ := List.mem_map.mp (List.mem_of_getElem? hx)
        show F.heap[gZ G + mN μ + 1 + i]? = some (vp_cell _ _)
        rw [← hH]
        exact hrow i (List.mem_range.mp hi)
    have k2 := k F.heap locs ls a1 hP ⟨by rw [f1]; have := e.1; omega, fun x h1 h2 => (hold x (by have := e.1; omega)).trans (e.2.1 x h1 h2), e.2.2⟩ F rfl X'
    rw [← hm, ← hH] at k2
    obtain ⟨t, g1, g2⟩ := k2
    refine ⟨t, step t ?_, g2⟩
    have e9 : T.heap.size = H.size := by rw [hT]
    rw [e9]
    exact g1
  · cases h
theorem gnE {n0 : Nat} (h : gN n0 μ = some ()) : mN μ = n0 := by
  unfold gN at h
  split at h
  · assumption
  · cases h
theorem aw_cI_V (C : Ctx G X cc nL own rm) {a n0 : Nat} (c1 s1 : Nat) (As : List Value) (st0 : List Value) (hM : MtV G (xL X) y cc' nL' none rm' true (.ref (gZ G + a) :: As) μ μ') (S : CS y cc' nL' none n) (hl : Cond.methodLink own idx y ∈ gw) (hi : Cond.instanceMethod y ∈ gw) (hnm : y.name = "<init>") (hR : rm'.frames + 1 ≤ rm.frames ∧ 8 + (nL' + 11) + rm'.locals ≤ rm.locals) (hb : (xS X).heap.size = gZ G + n0) (hg : gN (n0 + cells) μ = some ()) (hc1 : c1 ≤ rm.cells) (hs1 : s1 ≤ rm.slots) (e1 : cells + rm'.cells = c1) (e2 : slots + rm'.slots = s1) (hn : As.length = n) (hst : st0 = As.reverse ++ .ref (gZ G + a) :: st) (hW : (st.map fun v => v.category).sum ≤ 8) (d : decode cc pc = .ok (.invokespecial idx, 3)) (k : AW G nL X c1 s1 (pc + 3) L st μ') : AW G nL X cells slots pc L st0 μ := by
  subst e1
  subst e2
  exact aw_callI_V C As st0 hM S hl hi hnm hR ⟨hc1, hs1⟩ hn hst hW (fun _ => by rw [hb, gnE hg]; omega) d k
theorem aw_cIN_V (C : Ctx G X cc nL own rm) {a n0 : Nat} {host : String} (c1 s1 : Nat) (As : List Value) (st0 : List Value) (hM : MtV G (xL X) y cc' nL' none rm' true (.ref (gZ G + a) :: As) μ μ') (S : CS y cc' nL' none n) (hl : Cond.methodLinkNest own idx y host ∈ nestW) (hi : Cond.instanceMethod y ∈ gw) (hnm : y.name = "<init>") (hR : rm'.frames + 1 ≤ rm.frames ∧ 8 + (nL' + 11) + rm'.locals ≤ rm.locals) (hb : (xS X).heap.size = gZ G + n0) (hg : gN (n0 + cells) μ = some ()) (hc1 : c1 ≤ rm.cells) (hs1 : s1 ≤ rm.slots) (e1 : cells + rm'.cells = c1) (e2 : slots + rm'.slots = s1) (hn : As.length = n) (hst : st0 = As.reverse ++ .ref (gZ G + a) :: st) (hW : (st.map fun v => v.category).sum ≤ 8) (d : decode cc pc = .ok (.invokespecial idx, 3)) (k : AW G nL X c1 s1 (pc + 3) L st μ') : AW G nL X cells slots pc L st0 μ := by
  subst e1
  subst e2
  exact aw_callIN_V C As st0 hM S hl hi hnm hR ⟨hc1, hs1⟩ hn hst hW (fun _ => by rw [hb, gnE hg]; omega) d k
end AWN
end
section
theorem dJ0_length_8abf5_0 : decode cJ0_length_8abf5 0 = .ok (.aload_n 0, 1) := by decide +kernel
theorem dJ0_length_8abf5_1 : decode cJ0_length_8abf5 1 = .ok (.getfield 9, 3) := by decide +kernel
theorem dJ0_length_8abf5_4 : decode cJ0_length_8abf5 4 = .ok (.arraylength, 1) := by decide +kernel
theorem dJ0_length_8abf5_5 : decode cJ0_length_8abf5 5 = .ok (.aload_n 0, 1) := by decide +kernel
theorem dJ0_length_8abf5_6 : decode cJ0_length_8abf5 6 = .ok (.invokevirtual 335, 3) := by decide +kernel
theorem dJ0_length_8abf5_9 : decode cJ0_length_8abf5 9 = .ok (.ishr, 1) := by decide +kernel
theorem dJ0_length_8abf5_10 : decode cJ0_length_8abf5 10 = .ok (.ireturn, 1) := by decide +kernel
theorem cs_J0_length_8abf5 : CS yJ0_length_8abf5 cJ0_length_8abf5 1 (some .int) 0 := ⟨mg 603 (by decide +kernel) rfl, mg 15 (by decide +kernel) rfl, by decide +kernel⟩
theorem im_J0_length_8abf5 : Cond.instanceMethod yJ0_length_8abf5 ∈ gw := mg 601 (by decide +kernel) rfl
theorem se_J0_length_8abf5 : Cond.selects "java/lang/String" yJ0_length_8abf5 yJ0_length_8abf5 ∈ gw := mg 602 (by decide +kernel) rfl
theorem dJ0_charAt_5068e_0 : decode cJ0_charAt_5068e 0 = .ok (.aload_n 0, 1) := by decide +kernel
theorem dJ0_charAt_5068e_1 : decode cJ0_charAt_5068e 1 = .ok (.invokevirtual 492, 3) := by decide +kernel
theorem dJ0_charAt_5068e_4 : decode cJ0_charAt_5068e 4 = .ok (.ifCond .eq 12, 3) := by decide +kernel
theorem dJ0_charAt_5068e_7 : decode cJ0_charAt_5068e 7 = .ok (.aload_n 0, 1) := by decide +kernel
theorem dJ0_charAt_5068e_8 : decode cJ0_charAt_5068e 8 = .ok (.getfield 9, 3) := by decide +kernel
theorem dJ0_charAt_5068e_11 : decode cJ0_charAt_5068e 11 = .ok (.iload_n 1, 1) := by decide +kernel
theorem dJ0_charAt_5068e_12 : decode cJ0_charAt_5068e 12 = .ok (.invokestatic 495, 3) := by decide +kernel
theorem dJ0_charAt_5068e_15 : decode cJ0_charAt_5068e 15 = .ok (.ireturn, 1) := by decide +kernel
theorem dJ0_charAt_5068e_16 : decode cJ0_charAt_5068e 16 = .ok (.aload_n 0, 1) := by decide +kernel
theorem dJ0_charAt_5068e_17 : decode cJ0_charAt_5068e 17 = .ok (.getfield 9, 3) := by decide +kernel
theorem dJ0_charAt_5068e_20 : decode cJ0_charAt_5068e 20 = .ok (.iload_n 1, 1) := by decide +kernel
theorem dJ0_charAt_5068e_21 : decode cJ0_charAt_5068e 21 = .ok (.invokestatic 498, 3) := by decide +kernel
theorem dJ0_charAt_5068e_24 : decode cJ0_charAt_5068e 24 = .ok (.ireturn, 1) := by decide +kernel
theorem cs_J0_charAt_5068e : CS yJ0_charAt_5068e cJ0_charAt_5068e 2 (some .char) 1 := ⟨mg 613 (by decide +kernel) rfl, mg 15 (by decide +kernel) rfl, by decide +kernel⟩
theorem im_J0_charAt_5068e : Cond.instanceMethod yJ0_charAt_5068e ∈ gw := mg 611 (by decide +kernel) rfl
theorem se_J0_charAt_5068e : Cond.selects "java/lang/String" yJ0_charAt_5068e yJ0_charAt_5068e ∈ gw := mg 612 (by decide +kernel) rfl
theorem dJ0_coder_7d493_0 : decode cJ0_coder_7d493 0 = .ok (.getstatic 38, 3) := by decide +kernel
theorem dJ0_coder_7d493_3 : decode cJ0_coder_7d493 3 = .ok (.ifCond .eq 10, 3) := by decide +kernel
theorem dJ0_coder_7d493_6 : decode cJ0_coder_7d493 6 = .ok (.aload_n 0, 1) := by decide +kernel
theorem dJ0_coder_7d493_7 : decode cJ0_coder_7d493 7 = .ok (.getfield 15, 3) := by decide +kernel
theorem dJ0_coder_7d493_10 : decode cJ0_coder_7d493 10 = .ok (.goto 4, 3) := by decide +kernel
theorem dJ0_coder_7d493_13 : decode cJ0_coder_7d493 13 = .ok (.iconst 1, 1) := by decide +kernel
theorem dJ0_coder_7d493_14 : decode cJ0_coder_7d493 14 = .ok (.ireturn, 1) := by decide +kernel
theorem cs_J0_coder_7d493 : CS yJ0_coder_7d493 cJ0_coder_7d493 1 (some .byte) 0 := ⟨mg 607 (by decide +kernel) rfl, mg 15 (by decide +kernel) rfl, by decide +kernel⟩
theorem im_J0_coder_7d493 : Cond.instanceMethod yJ0_coder_7d493 ∈ gw := mg 605 (by decide +kernel) rfl
theorem se_J0_coder_7d493 : Cond.selects "java/lang/String" yJ0_coder_7d493 yJ0_coder_7d493 ∈ gw := mg 606 (by decide +kernel) rfl
theorem dJ0_isLatin1_aae02_0 : decode cJ0_isLatin1_aae02 0 = .ok (.getstatic 38, 3) := by decide +kernel
theorem dJ0_isLatin1_aae02_3 : decode cJ0_isLatin1_aae02 3 = .ok (.ifCond .eq 14, 3) := by decide +kernel
theorem dJ0_isLatin1_aae02_6 : decode cJ0_isLatin1_aae02 6 = .ok (.aload_n 0, 1) := by decide +kernel
theorem dJ0_isLatin1_aae02_7 : decode cJ0_isLatin1_aae02 7 = .ok (.getfield 15, 3) := by decide +kernel
theorem dJ0_isLatin1_aae02_10 : decode cJ0_isLatin1_aae02 10 = .ok (.ifCond .ne 7, 3) := by decide +kernel
theorem dJ0_isLatin1_aae02_13 : decode cJ0_isLatin1_aae02 13 = .ok (.iconst 1, 1) := by decide +kernel
theorem dJ0_isLatin1_aae02_14 : decode cJ0_isLatin1_aae02 14 = .ok (.goto 4, 3) := by decide +kernel
theorem dJ0_isLatin1_aae02_17 : decode cJ0_isLatin1_aae02 17 = .ok (.iconst 0, 1) := by decide +kernel
theorem dJ0_isLatin1_aae02_18 : decode cJ0_isLatin1_aae02 18 = .ok (.ireturn, 1) := by decide +kernel
theorem cs_J0_isLatin1_aae02 : CS yJ0_isLatin1_aae02 cJ0_isLatin1_aae02 1 (some .boolean) 0 := ⟨mg 617 (by decide +kernel) rfl, mg 15 (by decide +kernel) rfl, by decide +kernel⟩
theorem im_J0_isLatin1_aae02 : Cond.instanceMethod yJ0_isLatin1_aae02 ∈ gw := mg 615 (by decide +kernel) rfl
theorem se_J0_isLatin1_aae02 : Cond.selects "java/lang/String" yJ0_isLatin1_aae02 yJ0_isLatin1_aae02 ∈ gw := mg 616 (by decide +kernel) rfl
theorem dJ0_checkIndex_df160_0 : decode cJ0_checkIndex_df160 0 = .ok (.iload_n 0, 1) := by decide +kernel
theorem dJ0_checkIndex_df160_1 : decode cJ0_checkIndex_df160 1 = .ok (.iload_n 1, 1) := by decide +kernel
theorem dJ0_checkIndex_df160_2 : decode cJ0_checkIndex_df160 2 = .ok (.getstatic 1053, 3) := by decide +kernel
theorem dJ0_checkIndex_df160_5 : decode cJ0_checkIndex_df160 5 = .ok (.invokestatic 1059, 3) := by decide +kernel
theorem dJ0_checkIndex_df160_8 : decode cJ0_checkIndex_df160 8 = .ok (.pop, 1) := by decide +kernel
theorem dJ0_checkIndex_df160_9 : decode cJ0_checkIndex_df160 9 = .ok (.return_, 1) := by decide +kernel
theorem cs_J0_checkIndex_df160 : CS yJ0_checkIndex_df160 cJ0_checkIndex_df160 2 none 2 := ⟨mg 623 (by decide +kernel) rfl, mg 15 (by decide +kernel) rfl, by decide +kernel⟩
theorem st_J0_checkIndex_df160 : Cond.static yJ0_checkIndex_df160 ∈ gw := mg 622 (by decide +kernel) rfl
theorem dJ1_charAt_3b067_0 : decode cJ1_charAt_3b067 0 = .ok (.iload_n 1, 1) := by decide +kernel
theorem dJ1_charAt_3b067_1 : decode cJ1_charAt_3b067 1 = .ok (.aload_n 0, 1) := by decide +kernel
theorem dJ1_charAt_3b067_2 : decode cJ1_charAt_3b067 2 = .ok (.arraylength, 1) := by decide +kernel
theorem dJ1_charAt_3b067_3 : decode cJ1_charAt_3b067 3 = .ok (.invokestatic 9, 3) := by decide +kernel
theorem dJ1_charAt_3b067_6 : decode cJ1_charAt_3b067 6 = .ok (.aload_n 0, 1) := by decide +kernel
theorem dJ1_charAt_3b067_7 : decode cJ1_charAt_3b067 7 = .ok (.iload_n 1, 1) := by decide +kernel
theorem dJ1_charAt_3b067_8 : decode cJ1_charAt_3b067 8 = .ok (.baload, 1) := by decide +kernel
theorem dJ1_charAt_3b067_9 : decode cJ1_charAt_3b067 9 = .ok (.sipush 255, 3) := by decide +kernel
theorem dJ1_charAt_3b067_12 : decode cJ1_charAt_3b067 12 = .ok (.iand, 1) := by decide +kernel
theorem dJ1_charAt_3b067_13 : decode cJ1_charAt_3b067 13 = .ok (.i2c, 1) := by decide +kernel
theorem dJ1_charAt_3b067_14 : decode cJ1_charAt_3b067 14 = .ok (.ireturn, 1) := by decide +kernel
theorem cs_J1_charAt_3b067 : CS yJ1_charAt_3b067 cJ1_charAt_3b067 2 (some .char) 2 := ⟨mg 620 (by decide +kernel) rfl, mg 16 (by decide +kernel) rfl, by decide +kernel⟩
theorem st_J1_charAt_3b067 : Cond.static yJ1_charAt_3b067 ∈ gw := mg 619 (by decide +kernel) rfl
theorem dJ3_checkIndex_8e157_0 : decode cJ3_checkIndex_8e157 0 = .ok (.iload_n 0, 1) := by decide +kernel
theorem dJ3_checkIndex_8e157_1 : decode cJ3_checkIndex_8e157 1 = .ok (.ifCond .lt 8, 3) := by decide +kernel
theorem dJ3_checkIndex_8e157_4 : decode cJ3_checkIndex_8e157 4 = .ok (.iload_n 0, 1) := by decide +kernel
theorem dJ3_checkIndex_8e157_5 : decode cJ3_checkIndex_8e157 5 = .ok (.iload_n 1, 1) := by decide +kernel
theorem dJ3_checkIndex_8e157_6 : decode cJ3_checkIndex_8e157 6 = .ok (.if_icmp .lt 10, 3) := by decide +kernel
theorem dJ3_checkIndex_8e157_9 : decode cJ3_checkIndex_8e157 9 = .ok (.aload_n 2, 1) := by decide +kernel
theorem dJ3_checkIndex_8e157_10 : decode cJ3_checkIndex_8e157 10 = .ok (.iload_n 0, 1) := by decide +kernel
theorem dJ3_checkIndex_8e157_11 : decode cJ3_checkIndex_8e157 11 = .ok (.iload_n 1, 1) := by decide +kernel
theorem dJ3_checkIndex_8e157_12 : decode cJ3_checkIndex_8e157 12 = .ok (.invokestatic 95, 3) := by decide +kernel
theorem dJ3_checkIndex_8e157_15 : decode cJ3_checkIndex_8e157 15 = .ok (.athrow, 1) := by decide +kernel
theorem dJ3_checkIndex_8e157_16 : decode cJ3_checkIndex_8e157 16 = .ok (.iload_n 0, 1) := by decide +kernel
theorem dJ3_checkIndex_8e157_17 : decode cJ3_checkIndex_8e157 17 = .ok (.ireturn, 1) := by decide +kernel
theorem cs_J3_checkIndex_8e157 : CS yJ3_checkIndex_8e157 cJ3_checkIndex_8e157 3 (some .int) 3 := ⟨mg 628 (by decide +kernel) rfl, mg 17 (by decide +kernel) rfl, by decide +kernel⟩
theorem st_J3_checkIndex_8e157 : Cond.static yJ3_checkIndex_8e157 ∈ gw := mg 627 (by decide +kernel) rfl
theorem ml_J0_335 : Cond.methodLink RJ0 335 yJ0_coder_7d493 ∈ gw := mg 604 (by decide +kernel) rfl
theorem ml_J0_492 : Cond.methodLink RJ0 492 yJ0_isLatin1_aae02 ∈ gw := mg 614 (by decide +kernel) rfl
theorem ml_J0_495 : Cond.methodLink RJ0 495 yJ1_charAt_3b067 ∈ gw := mg 618 (by decide +kernel) rfl
theorem ml_J0_1059 : Cond.methodLink RJ0 1059 yJ3_checkIndex_8e157 ∈ gw := mg 626 (by decide +kernel) rfl
theorem ml_J1_9 : Cond.methodLink RJ1 9 yJ0_checkIndex_df160 ∈ gw := mg 621 (by decide +kernel) rfl
theorem ml_X2_89 : Cond.methodLink RX2 89 yJ0_length_8abf5 ∈ gw := mg 600 (by decide +kernel) rfl
theorem ml_X2_94 : Cond.methodLink RX2 94 yJ0_charAt_5068e ∈ gw := mg 610 (by decide +kernel) rfl
theorem fk_J0_9 : Cond.fieldLink RJ0 9 "java/lang/String" "value" "[B" ∈ gw := mg 1366 (by decide +kernel) rfl
theorem fk_J0_15 : Cond.fieldLink RJ0 15 "java/lang/String" "coder" "B" ∈ gw := mg 1367 (by decide +kernel) rfl
theorem fk_J0_38 : Cond.fieldLink RJ0 38 "java/lang/String" "COMPACT_STRINGS" "Z" ∈ gw := mg 608 (by decide +kernel) rfl
theorem fk_J0_1053 : Cond.fieldLink RJ0 1053 "jdk/internal/util/Preconditions" "SIOOBE_FORMATTER" "Ljava/util/function/BiFunction;" ∈ gw := mg 624 (by decide +kernel) rfl
theorem b_ok : ∀ j, j < 9 → ∀ i, i < sLens.getD j 0 → ((((sByts.getD j []).getD i 0) &&& 255).toUInt32 % 65536).toInt32 = (sByts.getD j []).getD i 0 ∧ narrow .char (.int ((sByts.getD j []).getD i 0)) = .int ((sByts.getD j []).getD i 0) := by decide +kernel
theorem b_len : ∀ j, j < 9 → sLens.getD j 0 < 10 := by decide +kernel
section AWT
variable {G : GL} {X : CX} {cc : ByteArray} {nL : Nat} {own : String} {rm : Room} {cells slots pc : Nat} {L L' : List (Nat × Value)} {st : List Value} {μ μ' : Mem}
variable {y : MethodName} {cc' : ByteArray} {nL' n idx : Nat} {ret' : Option FieldType} {rm' : Room} {As : List Value}
theorem aw_ldcS (C : Ctx G X cc nL RX2 rm) {i j : Nat} (hj : (decide (j < 9) && sIx.getD j 0 == i) = true) (d : decode cc pc = .ok (.ldc i, 2)) (k : AW G nL X cells slots (pc + 2) L (.ref (gK G j) :: st) μ) : AW G nL X cells slots pc L st μ := by
  simp only [Bool.and_eq_true, decide_eq_true_eq, beq_iff_eq] at hj
  obtain ⟨h1, h2⟩ := hj
  subst h2
  exact fun H locs ls a b e => va_ldcS C.1 C.2.1 C.2.2.2.1 (C.2.2.2.2.2.1.2.2.2 j h1) d (k H locs ls a b e)
theorem aw_gets (C : Ctx G X cc nL own rm) {Cn nm ds : String} {v : Value} (hZ : va_Z Cn nm ds v (gA G) (xS X) (xS X).heap) (hl : Cond.fieldLink own idx Cn nm ds ∈ gw) (d : decode cc pc = .ok (.getstatic idx, 3)) (k : AW G nL X cells slots (pc + 3) L (v :: st) μ) : AW G nL X cells slots pc L st μ := fun H locs ls a b e => va_gets C.1 C.2.1 hZ e C.2.2.2.1 (C.2.2.2.2.1 _ hl) (fun _ h => h) d (k H locs ls a b e)
theorem aw_sget (C : Ctx G X cc nL own rm) {Cn nm ds : String} {v : Value} {q : Nat} (hE : va_OF Cn nm ds v q (gA G) (xS X) (xS X).heap) (hl : Cond.fieldLink own idx Cn nm ds ∈ gw) (d : decode cc pc = .ok (.getfield idx, 3)) (k : AW G nL X cells slots (pc + 3) L (v :: st) μ) : AW G nL X cells slots pc L (.ref q :: st) μ := fun H locs ls a b e => vk_getf C.1 C.2.1 hE e C.2.2.2.1 (C.2.2.2.2.1 _ hl) (fun _ h => h) d (k H locs ls a b e)
theorem aw_tlen (C : Ctx G X cc nL own rm) {ty : FieldType} {t N : Nat} {f : Nat → Value} (hT : va_T ty t N f (gA G) (xS X) (xS X).heap) (d : decode cc pc = .ok (.arraylength, 1)) (k : AW G nL X cells slots (pc + 1) L (.int (Int32.ofNat N) :: st) μ) : AW G nL X cells slots pc L (.ref t :: st) μ := fun H locs ls a b e => va_tlen C.1 C.2.1 hT e rfl d (k H locs ls a b e)
theorem aw_tb (C : Ctx G X cc nL own rm) {t N : Nat} {f : Nat → Value} {i : Int32} (hT : va_T .byte t N f (gA G) (xS X) (xS X).heap) (hin : ¬ (i < 0 ∨ N ≤ i.toNatClampNeg)) (d : decode cc pc = .ok (.baload, 1)) (k : AW G nL X cells slots (pc + 1) L (f i.toNatClampNeg :: st) μ) : AW G nL X cells slots pc L (.int i :: .ref t :: st) μ := fun H locs ls a b e => va_tb C.1 C.2.1 hT e hin rfl d (k H locs ls a b e)
theorem aw_i2c (C : Ctx G X cc nL own rm) {x : Int32} (d : decode cc pc = .ok (.i2c, 1)) (k : AW G nL X cells slots (pc + 1) L (.int (x.toUInt32 % 65536).toInt32 :: st) μ) : AW G nL X cells slots pc L (.int x :: st) μ := fun H locs ls a b e => lv_i2c C.1 C.2.1 d rfl (k H locs ls a b e)
/-- a call on a text constant -/
theorem aw_cT_I (C : Ctx G X cc nL own rm) {j : Nat} {r : Int32} (hj : j < 9) (As : List Value) (st0 : List Value) (hM : MtI G (xL X) y cc' nL' ret' rm' false (.ref (gK G j) :: As) μ r μ') (S : CS y cc' nL' ret' n) (hl : Cond.methodLink own idx y ∈ gw) (hi : Cond.instanceMethod y ∈ gw) (hse : Cond.selects "java/lang/String" y y ∈ gw) (hR : rm'.frames + 1 ≤ rm.frames ∧ 8 + (nL' + 11) + rm'.locals ≤ rm.locals) (h0 : rm'.cells = 0 ∧ rm'.slots = 0) (hf : cells ≤ rm.cells ∧ slots ≤ rm.slots) (hn : As.length = n) (hst : st0 = As.reverse ++ .ref (gK G j) :: st) (hW : (st.map fun v => v.category).sum ≤ 8) (d : decode cc pc = .ok (.invokevirtual idx, 3)) (k : AW G nL X cells slots (pc + 3) L (.int r :: st) μ') : AW G nL X cells slots pc L st0 μ := by
  intro H locs ls a1 b1 e
  refine va_calli (S := Unit) (va_runV (As := As) (rest := st) (cfix C) hM ⟨cbS C S hl hR, C.2.2.2.2.1 _ hi, C.2.2.2.2.1 _ hse⟩ ⟨blindW, vk_recv C.2.2.2.2.2.2.2.2.1 hj e, fun U hU hW => ⟨rfl, preW (b := false) C b1 e (fun q => by cases q) U hU hW⟩⟩ rfl hn a1.1 hst (lv_room hW) d (cfR C (by rw [h0.1, h0.2]; exact hf))) e (fun q _ h => h) (fun q h => h) (fun r0 u t H1 locs1 ht hvm hp hB hz hk hS => ?_)
  cases hp
  rw [h0.1, h0.2]
  exact k H1 locs1 ls a1 (by rw [ht] at hB; exact hB) hS
end AWT
def rm_J0_coder_7d493 : Room := { frames := 0, cells := 0, slots := 0, locals := 0 }
def rm_J0_isLatin1_aae02 : Room := { frames := 0, cells := 0, slots := 0, locals := 0 }
def rm_J3_checkIndex_8e157 : Room := { frames := 0, cells := 0, slots := 0, locals := 0 }
def rm_J0_length_8abf5 : Room := { frames := 1, cells := 0, slots := 0, locals := 20 }
def rm_J0_checkIndex_df160 : Room := { frames := 1, cells := 0, slots := 0, locals := 22 }
def rm_J1_charAt_3b067 : Room := { frames := 2, cells := 0, slots := 0, locals := 43 }
def rm_J0_charAt_5068e : Room := { frames := 3, cells := 0, slots := 0, locals := 64 }
set_option maxRecDepth 100000 in
set_option maxHeartbeats 4000000 in
theorem mt_J0_coder_7d493 {G : GL} {l : Launch} {j : Nat} {μ : Mem} (hj : j < 9) : MtI G l yJ0_coder_7d493 cJ0_coder_7d493 1 (some .byte) rm_J0_coder_7d493 false [.ref (gK G j)] μ 0 μ := met_I (by decide) rfl rfl (Nat.le_of_ble_eq_true rfl) (fun X _ C _ _ hret => by
  show AW G 1 X 0 0 0 [(0, .ref (gK G j))] [] μ
  refine aw_gets C C.2.2.2.2.2.2.2.2.2.1 fk_J0_38 dJ0_coder_7d493_0 ?_
  refine aw_if_eq C 13 dJ0_coder_7d493_3 (by decide) (fun c1 => absurd c1 (by decide)) (fun c1 => ?_)
  refine aw_aload_n C 0 dJ0_coder_7d493_6 rfl rfl ?_
  refine aw_sget C (C.2.2.2.2.2.2.2.2.1.1 j hj).2.1 fk_J0_15 dJ0_coder_7d493_7 ?_
  refine aw_goto C 14 dJ0_coder_7d493_10 (by decide) ?_
  exact hret _ _ dJ0_coder_7d493_14)
set_option maxRecDepth 100000 in
set_option maxHeartbeats 4000000 in
theorem mt_J0_isLatin1_aae02 {G : GL} {l : Launch} {j : Nat} {μ : Mem} (hj : j < 9) : MtI G l yJ0_isLatin1_aae02 cJ0_isLatin1_aae02 1 (some .boolean) rm_J0_isLatin1_aae02 false [.ref (gK G j)] μ 1 μ := met_Z (by decide) rfl (Nat.le_of_ble_eq_true rfl) (fun X _ C _ _ hret => by
  show AW G 1 X 0 0 0 [(0, .ref (gK G j))] [] μ
  refine aw_gets C C.2.2.2.2.2.2.2.2.2.1 fk_J0_38 dJ0_isLatin1_aae02_0 ?_
  refine aw_if_eq C 17 dJ0_isLatin1_aae02_3 (by decide) (fun c1 => absurd c1 (by decide)) (fun c1 => ?_)
  refine aw_aload_n C 0 dJ0_isLatin1_aae02_6 rfl rfl ?_
  refine aw_sget C (C.2.2.2.2.2.2.2.2.1.1 j hj).2.1 fk_J0_15 dJ0_isLatin1_aae02_7 ?_
  refine aw_if_ne C 17 dJ0_isLatin1_aae02_10 (by decide) (fun c2 => absurd rfl c2) (fun c2 => ?_)
  refine aw_iconst C 1 dJ0_isLatin1_aae02_13 (by decide) ?_
  refine aw_goto C 18 dJ0_isLatin1_aae02_14 (by decide) ?_
  exact hret _ _ dJ0_isLatin1_aae02_18 (Or.inr rfl))
set_option maxRecDepth 100000 in
set_option maxHeartbeats 4000000 in
theorem mt_J0_length_8abf5 {G : GL} {l : Launch} {j : Nat} {μ : Mem} (hj : j < 9) : MtI G l yJ0_length_8abf5 cJ0_length_8abf5 1 (some .int) rm_J0_length_8abf5 false [.ref (gK G j)] μ (sLen j) μ := met_I (by decide) rfl rfl (Nat.le_of_ble_eq_true rfl) (fun X _ C _ _ hret => by
  show AW G 1 X 0 0 0 [(0, .ref (gK G j))] [] μ
  refine aw_aload_n C 0 dJ0_length_8abf5_0 rfl rfl ?_
  refine aw_sget C (C.2.2.2.2.2.2.2.2.1.1 j hj).2.2.1 fk_J0_9 dJ0_length_8abf5_1 ?_
  refine aw_tlen C (C.2.2.2.2.2.2.2.2.1.1 j hj).2.2.2 dJ0_length_8abf5_4 ?_
  refine aw_aload_n C 0 dJ0_length_8abf5_5 rfl rfl ?_
  refine aw_cT_I C hj [] _ (mt_J0_coder_7d493 hj) cs_J0_coder_7d493 ml_J0_335 im_J0_coder_7d493 se_J0_coder_7d493 ⟨by decide, by decide⟩ ⟨rfl, rfl⟩ ⟨Nat.zero_le _, Nat.zero_le _⟩ rfl rfl (Nat.le_of_ble_eq_true rfl) dJ0_length_8abf5_6 ?_
  refine aw_ishr C dJ0_length_8abf5_9 ?_
  refine aw_topi (sb_shr0 _) ?_
  exact hret _ _ dJ0_length_8abf5_10)
set_option maxRecDepth 100000 in
set_option maxHeartbeats 4000000 in
theorem mt_J3_checkIndex_8e157 {G : GL} {l : Launch} {i k : Int32} {v : Value} {μ : Mem} (hv : v.category = 1) (h0 : ¬ i < 0) (h1 : i < k) : MtI G l yJ3_checkIndex_8e157 cJ3_checkIndex_8e157 3 (some .int) rm_J3_checkIndex_8e157 false [.int i, .int k, v] μ i μ := met_I (by decide) rfl rfl (by rw [show lg_sl [.int i, .int k, v] = [.val (.int i), .val (.int k), .val v] by unfold lg_sl; simp only [List.flatMap_cons, List.flatMap_nil, hv]; rfl]; exact Nat.le_refl _) (fun X _ C _ _ hret => by
  show AW G 3 X 0 0 0 [(0, .int i), (1, .int k), (2, v)] [] μ
  refine aw_iload_n C 0 dJ3_checkIndex_8e157_0 rfl rfl ?_
  refine aw_if_lt C 9 dJ3_checkIndex_8e157_1 (by decide) (fun c1 => absurd c1 h0) (fun c1 => ?_)
  refine aw_iload_n C 0 dJ3_checkIndex_8e157_4 rfl rfl ?_
  refine aw_iload_n C 1 dJ3_checkIndex_8e157_5 rfl rfl ?_
  refine aw_icmp_lt C 16 dJ3_checkIndex_8e157_6 (by decide) (fun c2 => ?_) (fun c2 => absurd h1 c2)
  refine aw_iload_n C 0 dJ3_checkIndex_8e157_16 rfl rfl ?_
  exact hret _ _ dJ3_checkIndex_8e157_17)
set_option maxRecDepth 100000 in
set_option maxHeartbeats 4000000 in
theorem mt_J0_checkIndex_df160 {G : GL} {l : Launch} {i k : Int32} {μ : Mem} (h0 : ¬ i < 0) (h1 : i < k) : MtV G l yJ0_checkIndex_df160 cJ0_checkIndex_df160 2 none rm_J0_checkIndex_df160 false [.int i, .int k] μ μ := met_V (by decide) rfl (Nat.le_of_ble_eq_true rfl) (fun X _ C _ _ hret => by
  show AW G 2 X 0 0 0 [(0, .int i), (1, .int k)] [] μ
  obtain ⟨v, hv, hZ⟩ := C.2.2.2.2.2.2.2.2.2.2
  refine aw_iload_n C 0 dJ0_checkIndex_df160_0 rfl rfl ?_
  refine aw_iload_n C 1 dJ0_checkIndex_df160_1 rfl rfl ?_
  refine aw_gets C hZ fk_J0_1053 dJ0_checkIndex_df160_2 ?_
  refine aw_cS_I C [.int i, .int k, v] _ (mt_J3_checkIndex_8e157 hv h0 h1) cs_J3_checkIndex_8e157 ml_J0_1059 st_J3_checkIndex_8e157 ⟨by decide, by decide⟩ ⟨rfl, rfl⟩ ⟨Nat.zero_le _, Nat.zero_le _⟩ rfl rfl (Nat.le_of_ble_eq_true rfl) dJ0_checkIndex_df160_5 ?_
  refine aw_pop C dJ0_checkIndex_df160_8 rfl ?_
  exact hret _ _ dJ0_checkIndex_df160_9)
theorem ix_lt {i : Int32} {j : Nat} (hj : j < 9) (h : ¬ (i < 0 ∨ sLens.getD j 0 ≤ i.toNatClampNeg)) : ¬ i < 0 ∧ i < Int32.ofNat (sLens.getD j 0) := by
  have h0 : ¬ i < 0 := fun q => h (Or.inl q)
  obtain ⟨k, hk, rfl⟩ := nI_of h0
  refine ⟨h0, ?_⟩
  have h1 : k < sLens.getD j 0 := by
    rw [nI_clamp hk] at h
    omega
  exact nI_lt h1 (by have := b_len j hj; omega)
set_option maxRecDepth 100000 in
set_option maxHeartbeats 4000000 in
theorem mt_J1_charAt_3b067 {G : GL} {l : Launch} {i : Int32} {j : Nat} {μ : Mem} (hj : j < 9) (h : ¬ (i < 0 ∨ sLens.getD j 0 ≤ i.toNatClampNeg)) : MtI G l yJ1_charAt_3b067 cJ1_charAt_3b067 2 (some .char) rm_J1_charAt_3b067 false [.ref (gV G j), .int i] μ ((sByts.getD j []).getD i.toNatClampNeg 0) μ := met_I (by decide) rfl (b_ok j hj _ (by omega)).2 (Nat.le_of_ble_eq_true rfl) (fun X _ C _ _ hret => by
  show AW G 2 X 0 0 0 [(0, .ref (gV G j)), (1, .int i)] [] μ
  have hx := ix_lt hj h
  refine aw_iload_n C 1 dJ1_charAt_3b067_0 rfl rfl ?_
  refine aw_aload_n C 0 dJ1_charAt_3b067_1 rfl rfl ?_
  refine aw_tlen C (C.2.2.2.2.2.2.2.2.1.1 j hj).2.2.2 dJ1_charAt_3b067_2 ?_
  refine aw_cS_V C [.int i, .int (Int32.ofNat (sLens.getD j 0))] _ (mt_J0_checkIndex_df160 hx.1 hx.2) cs_J0_checkIndex_df160 ml_J1_9 st_J0_checkIndex_df160 ⟨by decide, by decide⟩ ⟨rfl, rfl⟩ ⟨Nat.zero_le _, Nat.zero_le _⟩ rfl rfl (Nat.le_of_ble_eq_true rfl) dJ1_charAt_3b067_3 ?_
  refine aw_aload_n C 0 dJ1_charAt_3b067_6 rfl rfl ?_
  refine aw_iload_n C 1 dJ1_charAt_3b067_7 rfl rfl ?_
  refine aw_tb C (C.2.2.2.2.2.2.2.2.1.1 j hj).2.2.2 h dJ1_charAt_3b067_8 ?_
  refine aw_sipush C 255 dJ1_charAt_3b067_9 (by decide) ?_
  refine aw_iand C dJ1_charAt_3b067_12 ?_
  refine aw_i2c C dJ1_charAt_3b067_13 ?_
  refine aw_topi (b_ok j hj _ (by omega)).1 ?_
  exact hret _ _ dJ1_charAt_3b067_14)
set_option maxRecDepth 100000 in
set_option maxHeartbeats 4000000 in
theorem mt_J0_charAt_5068e {G : GL} {l : Launch} {i : Int32} {j : Nat} {μ : Mem} (hj : j < 9) (h : ¬ (i < 0 ∨ sLens.getD j 0 ≤ i.toNatClampNeg)) : MtI G l yJ0_charAt_5068e cJ0_charAt_5068e 2 (some .char) rm_J0_charAt_5068e false [.ref (gK G j), .int i] μ ((sByts.getD j []).getD i.toNatClampNeg 0) μ := met_I (by decide) rfl (b_ok j hj _ (by omega)).2 (Nat.le_of_ble_eq_true rfl) (fun X _ C _ _ hret => by
  show AW G 2 X 0 0 0 [(0, .ref (gK G j)), (1, .int i)] [] μ
  refine aw_aload_n C 0 dJ0_charAt_5068e_0 rfl rfl ?_
  refine aw_cT_I C hj [] _ (mt_J0_isLatin1_aae02 hj) cs_J0_isLatin1_aae02 ml_J0_492 im_J0_isLatin1_aae02 se_J0_isLatin1_aae02 ⟨by decide, by decide⟩ ⟨rfl, rfl⟩ ⟨Nat.zero_le _, Nat.zero_le _⟩ rfl rfl (Nat.le_of_ble_eq_true rfl) dJ0_charAt_5068e_1 ?_
  refine aw_if_eq C 16 dJ0_charAt_5068e_4 (by decide) (fun c1 => absurd c1 (by decide)) (fun c1 => ?_)
  refine aw_aload_n C 0 dJ0_charAt_5068e_7 rfl rfl ?_
  refine aw_sget C (C.2.2.2.2.2.2.2.2.1.1 j hj).2.2.1 fk_J0_9 dJ0_charAt_5068e_8 ?_
  refine aw_iload_n C 1 dJ0_charAt_5068e_11 rfl rfl ?_
  refine aw_cS_I C [.ref (gV G j), .int i] _ (mt_J1_charAt_3b067 hj h) cs_J1_charAt_3b067 ml_J0_495 st_J1_charAt_3b067 ⟨by decide, by decide⟩ ⟨rfl, rfl⟩ ⟨Nat.zero_le _, Nat.zero_le _⟩ rfl rfl (Nat.le_of_ble_eq_true rfl) dJ0_charAt_5068e_12 ?_
  exact hret _ _ dJ0_charAt_5068e_15)
section AWU
variable {G : GL} {X : CX} {cc : ByteArray} {nL : Nat} {own : String} {rm : Room} {cells slots pc idx : Nat} {L L' : List (Nat × Value)} {st : List Value} {μ μ' : Mem}
theorem aw_slen (C : Ctx G X cc nL own rm) {j : Nat} {v : Int32} (hl : Cond.methodLink own idx yJ0_length_8abf5 ∈ gw) (hf : rm_J0_length_8abf5.frames + 1 ≤ rm.frames) (ho : 8 + (1 + 11) + rm_J0_length_8abf5.locals ≤ rm.locals) (hc : cells ≤ rm.cells ∧ slots ≤ rm.slots) (hW : (st.map fun v => v.category).sum ≤ 8) (h : sLe j = some v) (d : decode cc pc = .ok (.invokevirtual idx, 3)) (k : AW G nL X cells slots (pc + 3) L (.int v :: st) μ) : AW G nL X cells slots pc L (.ref (gK G j) :: st) μ := by
  unfold sLe at h
  split at h
  · rename_i hj
    cases h
    exact aw_cT_I C hj [] _ (mt_J0_length_8abf5 hj) cs_J0_length_8abf5 hl im_J0_length_8abf5 se_J0_length_8abf5 ⟨hf, ho⟩ ⟨rfl, rfl⟩ hc rfl rfl hW d k
  · cases h
theorem aw_schr (C : Ctx G X cc nL own rm) {j : Nat} {i v : Int32} (hl : Cond.methodLink own idx yJ0_charAt_5068e ∈ gw) (hf : rm_J0_charAt_5068e.frames + 1 ≤ rm.frames) (ho : 8 + (2 + 11) + rm_J0_charAt_5068e.locals ≤ rm.locals) (hc : cells ≤ rm.cells ∧ slots ≤ rm.slots) (hW : (st.map fun v => v.category).sum ≤ 8) (h : sChr j i = some v) (d : decode cc pc = .ok (.invokevirtual idx, 3)) (k : AW G nL X cells slots (pc + 3) L (.int v :: st) μ) : AW G nL X cells slots pc L (.int i :: .ref (gK G j) :: st) μ := by
  unfold sChr at h
  split at h
  · rename_i hj
    cases h
    exact aw_cT_I C hj.1 [.int i] _ (mt_J0_charAt_5068e hj.1 hj.2) cs_J0_charAt_5068e hl im_J0_charAt_5068e se_J0_charAt_5068e ⟨hf, ho⟩ ⟨rfl, rfl⟩ hc rfl rfl hW d k
  · cases h
end AWU
end
