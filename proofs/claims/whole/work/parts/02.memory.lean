/-! ===== the memory of a run: how many cells there are; their shapes; ints, longs, references by address and place ===== -/
abbrev Mem : Type := Nat × (Nat → Nat × Nat) × (Nat → Nat → Int32) × (Nat → Nat → Int64) × (Nat → Nat → Option Nat)
def mN (μ : Mem) : Nat := μ.1
def mS (μ : Mem) : Nat → Nat × Nat := μ.2.1
def mI (μ : Mem) : Nat → Nat → Int32 := μ.2.2.1
def mJ (μ : Mem) : Nat → Nat → Int64 := μ.2.2.2.1
def mR (μ : Mem) : Nat → Nat → Option Nat := μ.2.2.2.2
def up2 {α : Type} (f : Nat → Nat → α) (a k : Nat) (v : α) : Nat → Nat → α := fun b j => if b = a ∧ j = k then v else f b j
def wI (μ : Mem) (a k : Nat) (v : Int32) : Mem := (μ.1, μ.2.1, up2 μ.2.2.1 a k v, μ.2.2.2.1, μ.2.2.2.2)
def wJ (μ : Mem) (a k : Nat) (v : Int64) : Mem := (μ.1, μ.2.1, μ.2.2.1, up2 μ.2.2.2.1 a k v, μ.2.2.2.2)
def wR (μ : Mem) (a k : Nat) (v : Nat) : Mem := (μ.1, μ.2.1, μ.2.2.1, μ.2.2.2.1, up2 μ.2.2.2.2 a k (some v))
/-- a new cell of a shape, all its places at their defaults -/
def mNew (μ : Mem) (sh : Nat × Nat) : Mem := (μ.1 + 1, va_up μ.2.1 μ.1 sh, va_up μ.2.2.1 μ.1 (fun _ => 0), va_up μ.2.2.2.1 μ.1 (fun _ => 0), va_up μ.2.2.2.2 μ.1 (fun _ => none))
/-! ===== operations on the memory, as partial functions ===== -/
def gI (c k a : Nat) (μ : Mem) : Option Int32 := if a < mN μ ∧ mS μ a = (0, c) then some (mI μ a k) else none
def gJ (c k a : Nat) (μ : Mem) : Option Int64 := if a < mN μ ∧ mS μ a = (0, c) then some (mJ μ a k) else none
def gR (c k a : Nat) (μ : Mem) : Option Nat := if a < mN μ ∧ mS μ a = (0, c) then mR μ a k else none
def pI (c k a : Nat) (x : Int32) (μ : Mem) : Option Mem := if a < mN μ ∧ mS μ a = (0, c) then some (wI μ a k x) else none
def pZ (c k a : Nat) (x : Int32) (μ : Mem) : Option Mem := if (a < mN μ ∧ mS μ a = (0, c)) ∧ (x = 0 ∨ x = 1) then some (wI μ a k x) else none
def pJ (c k a : Nat) (x : Int64) (μ : Mem) : Option Mem := if a < mN μ ∧ mS μ a = (0, c) then some (wJ μ a k x) else none
def pR (c k a : Nat) (x : Nat) (μ : Mem) : Option Mem := if a < mN μ ∧ mS μ a = (0, c) then some (wR μ a k x) else none
def aOk (kd a : Nat) (i : Int32) (μ : Mem) : Prop := a < mN μ ∧ (mS μ a).1 = kd ∧ ¬ (i < 0 ∨ (mS μ a).2 ≤ i.toNatClampNeg)
def aI (a : Nat) (i : Int32) (μ : Mem) : Option Int32 := if a < mN μ ∧ (mS μ a).1 = 1 ∧ ¬ (i < 0 ∨ (mS μ a).2 ≤ i.toNatClampNeg) then some (mI μ a i.toNatClampNeg) else none
def aJ (a : Nat) (i : Int32) (μ : Mem) : Option Int64 := if a < mN μ ∧ (mS μ a).1 = 2 ∧ ¬ (i < 0 ∨ (mS μ a).2 ≤ i.toNatClampNeg) then some (mJ μ a i.toNatClampNeg) else none
def aZ (a : Nat) (i : Int32) (μ : Mem) : Option Int32 := if a < mN μ ∧ (mS μ a).1 = 3 ∧ ¬ (i < 0 ∨ (mS μ a).2 ≤ i.toNatClampNeg) then some (mI μ a i.toNatClampNeg) else none
def aR (kd a : Nat) (i : Int32) (μ : Mem) : Option Nat := if a < mN μ ∧ (mS μ a).1 = kd ∧ ¬ (i < 0 ∨ (mS μ a).2 ≤ i.toNatClampNeg) then mR μ a i.toNatClampNeg else none
def sI (a : Nat) (i : Int32) (x : Int32) (μ : Mem) : Option Mem := if a < mN μ ∧ (mS μ a).1 = 1 ∧ ¬ (i < 0 ∨ (mS μ a).2 ≤ i.toNatClampNeg) then some (wI μ a i.toNatClampNeg x) else none
def sJ (a : Nat) (i : Int32) (x : Int64) (μ : Mem) : Option Mem := if a < mN μ ∧ (mS μ a).1 = 2 ∧ ¬ (i < 0 ∨ (mS μ a).2 ≤ i.toNatClampNeg) then some (wJ μ a i.toNatClampNeg x) else none
def sZ (a : Nat) (i : Int32) (x : Int32) (μ : Mem) : Option Mem := if (a < mN μ ∧ (mS μ a).1 = 3 ∧ ¬ (i < 0 ∨ (mS μ a).2 ≤ i.toNatClampNeg)) ∧ (x = 0 ∨ x = 1) then some (wI μ a i.toNatClampNeg x) else none
def sR (kd c a : Nat) (i : Int32) (b : Nat) (μ : Mem) : Option Mem := if (a < mN μ ∧ (mS μ a).1 = kd ∧ ¬ (i < 0 ∨ (mS μ a).2 ≤ i.toNatClampNeg)) ∧ (b < mN μ ∧ mS μ b = (0, c)) then some (wR μ a i.toNatClampNeg b) else none
def aL (a : Nat) (μ : Mem) : Option Int32 := if a < mN μ ∧ (mS μ a).1 ≠ 0 ∧ (mS μ a).1 ≤ 7 then some (Int32.ofNat (mS μ a).2) else none
def dvI (x y : Int32) : Option Int32 := if y = 0 then none else some (x / y)
def dvJ (x y : Int64) : Option Int64 := if y = 0 then none else some (x / y)
def rmJ (x y : Int64) : Option Int64 := if y = 0 then none else some (x - x / y * y)
/-- an object of a class stands there -/
def vO (c a : Nat) (μ : Mem) : Option Unit := if a < mN μ ∧ mS μ a = (0, c) then some () else none
/-! ===== new cells: the address that is due is named, so that it can be held against the heap ===== -/
def nO (c b : Nat) (μ : Mem) : Option Mem := if mN μ = b then some (mNew μ (0, c)) else none
def nA (kd b : Nat) (n : Int32) (μ : Mem) : Option Mem := if mN μ = b ∧ ¬ n < 0 then some (mNew μ (kd, n.toNatClampNeg)) else none
def mGrid (μ : Mem) (N K : Nat) : Mem := (μ.1 + 1 + N, (fun a => if a = μ.1 then (7, N) else if μ.1 < a ∧ a ≤ μ.1 + N then (1, K) else μ.2.1 a), (fun a => if μ.1 ≤ a ∧ a ≤ μ.1 + N then fun _ => 0 else μ.2.2.1 a), (fun a => if μ.1 ≤ a ∧ a ≤ μ.1 + N then fun _ => 0 else μ.2.2.2.1 a), (fun a => if a = μ.1 then (fun j => if j < N then some (μ.1 + 1 + j) else none) else if μ.1 < a ∧ a ≤ μ.1 + N then fun _ => none else μ.2.2.2.2 a))
def nM (b : Nat) (n k : Int32) (μ : Mem) : Option Mem := if mN μ = b ∧ ¬ n < 0 ∧ ¬ k < 0 then some (mGrid μ n.toNatClampNeg k.toNatClampNeg) else none
def gN (b : Nat) (μ : Mem) : Option Unit := if mN μ = b then some () else none
/-! ===== the nine text constants ===== -/
def sLens : List Nat := [5, 3, 5, 4, 5, 4, 2, 6, 4]
def sByts : List (List Int32) := [[110, 101, 118, 101, 114], [119, 97, 121], [115, 116, 97, 116, 101], [107, 105, 110, 100], [97, 102, 116, 101, 114], [109, 111, 115, 116], [105, 110], [97, 108, 119, 97, 121, 115], [102, 114, 111, 109]]
def sLen (j : Nat) : Int32 := Int32.ofNat (sLens.getD j 0)
def sLe (j : Nat) : Option Int32 := if j < 9 then some (sLen j) else none
def sChr (j : Nat) (i : Int32) : Option Int32 := if j < 9 ∧ ¬ (i < 0 ∨ sLens.getD j 0 ≤ i.toNatClampNeg) then some ((sByts.getD j []).getD i.toNatClampNeg 0) else none
/-- the script: an int at a place that there is -/
def xsA (xs : Nat → Int32) (n : Nat) (i : Int32) : Option Int32 := if ¬ (i < 0 ∨ n ≤ i.toNatClampNeg) then some (xs i.toNatClampNeg) else none
/-! ===== small helps ===== -/
def FU : Nat := 100000
theorem bindE {α β : Type} {o : Option α} {f : α → Option β} {b : β} (h : o.bind f = some b) : ∃ a, o = some a ∧ f a = some b := Option.bind_eq_some_iff.mp h
theorem bindS {α β : Type} {a : α} {f : α → Option β} {b : β} (h : (some a).bind f = some b) : ∃ x, a = x ∧ f x = some b := ⟨a, rfl, h⟩
theorem inj1 {α : Type} {a b : α} (h : some a = some b) : a = b := Option.some.inj h
theorem inj2 {α β : Type} {a c : α} {b d : β} (h : some (a, b) = some (c, d)) : a = c ∧ b = d := ⟨congrArg Prod.fst (Option.some.inj h), congrArg Prod.snd (Option.some.inj h)⟩
/-- a boolean is 0 or 1 -/
def zz (v : Int32) : Option Int32 := if v = 0 ∨ v = 1 then some v else none
theorem zzE {v w : Int32} (h : zz v = some w) : v = w ∧ (w = 0 ∨ w = 1) := by
  unfold zz at h
  split at h
  · cases h
    exact ⟨rfl, by assumption⟩
  · cases h
