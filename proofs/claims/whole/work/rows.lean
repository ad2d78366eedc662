section
/-! ===== the memory of a run: how many cells there are; their shapes; ints, longs, references by address and place ===== -/
abbrev Mem : Type := Nat × (Nat → Nat × Nat) × (Nat → Nat → Int32) × (Nat → Nat → Int64) × (Nat → Nat → Option Nat)
def mN (μ : Mem) : Nat := μ.1
def mS (μ : Mem) : Nat → Nat × Nat := μ.2.1
def mI (μ : Mem) : Nat → Nat → Int32 := μ.2.2.1
def mJ (μ : Mem) : Nat → Nat → Int64 := μ.2.2.2.1
def mR (μ : Mem) : Nat → Nat → Option Nat := μ.2.2.2.2
def up2 {α : Type} (f : Nat → Nat → α) (a k : Nat) (v : α) : Nat → Nat → α := fun b j => if b = a ∧ j = k then v else f b j
def wI (μ : Mem) (a k : Nat) (v : Int32) : Mem := (μ.1, μ.2.1, up2 μ.2.2.1 a k v, μ.2.2.2.1, μ.2.2.2.2)
def wJ (μ : Mem) (a k : Nat) (v : Int64) : Mem := (μ.1, μ.2.1, μ.2.2.1, up2 μ.2.2.2.1 a k v, μ.2.2.2.2)
def wR (μ : Mem) (a k : Nat) (v : Nat) : Mem := (μ.1, μ.2.1, μ.2.2.1, μ.2.2.2.1, up2 μ.2.2.2.2 a k (some v))
/-- a new cell of a shape, all its places at their defaults -/
def mNew (μ : Mem) (sh : Nat × Nat) : Mem := (μ.1 + 1, va_up μ.2.1 μ.1 sh, va_up μ.2.2.1 μ.1 (fun _ => 0), va_up μ.2.2.2.1 μ.1 (fun _ => 0), va_up μ.2.2.2.2 μ.1 (fun _ => none))
/-! ===== operations on the memory, as partial functions ===== -/
def gI (c k a : Nat) (μ : Mem) : Option Int32 := if a < mN μ ∧ mS μ a = (0, c) then some (mI μ a k) else none
def gJ (c k a : Nat) (μ : Mem) : Option Int64 := if a < mN μ ∧ mS μ a = (0, c) then some (mJ μ a k) else none
def gR (c k a : Nat) (μ : Mem) : Option Nat := if a < mN μ ∧ mS μ a = (0, c) then mR μ a k else none
def pI (c k a : Nat) (x : Int32) (μ : Mem) : Option Mem := if a < mN μ ∧ mS μ a = (0, c) then some (wI μ a k x) else none
def pZ (c k a : Nat) (x : Int32) (μ : Mem) : Option Mem := if (a < mN μ ∧ mS μ a = (0, c)) ∧ (x = 0 ∨ x = 1) then some (wI μ a k x) else none
def pJ (c k a : Nat) (x : Int64) (μ : Mem) : Option Mem := if a < mN μ ∧ mS μ a = (0, c) then some (wJ μ a k x) else none
def pR (c k a : Nat) (x : Nat) (μ : Mem) : Option Mem := if a < mN μ ∧ mS μ a = (0, c) then some (wR μ a k x) else none
def aOk (kd a : Nat) (i : Int32) (μ : Mem) : Prop := a < mN μ ∧ (mS μ a).1 = kd ∧ ¬ (i < 0 ∨ (mS μ a).2 ≤ i.toNatClampNeg)
def aI (a : Nat) (i : Int32) (μ : Mem) : Option Int32 := if a < mN μ ∧ (mS μ a).1 = 1 ∧ ¬ (i < 0 ∨ (mS μ a).2 ≤ i.toNatClampNeg) then some (mI μ a i.toNatClampNeg) else none
def aJ (a : Nat) (i : Int32) (μ : Mem) : Option Int64 := if a < mN μ ∧ (mS μ a).1 = 2 ∧ ¬ (i < 0 ∨ (mS μ a).2 ≤ i.toNatClampNeg) then some (mJ μ a i.toNatClampNeg) else none
def aZ (a : Nat) (i : Int32) (μ : Mem) : Option Int32 := if a < mN μ ∧ (mS μ a).1 = 3 ∧ ¬ (i < 0 ∨ (mS μ a).2 ≤ i.toNatClampNeg) then some (mI μ a i.toNatClampNeg) else none
def aR (kd a : Nat) (i : Int32) (μ : Mem) : Option Nat := if a < mN μ ∧ (mS μ a).1 = kd ∧ ¬ (i < 0 ∨ (mS μ a).2 ≤ i.toNatClampNeg) then mR μ a i.toNatClampNeg else none
def sI (a : Nat) (i : Int32) (x : Int32) (μ : Mem) : Option Mem := if a < mN μ ∧ (mS μ a).1 = 1 ∧ ¬ (i < 0 ∨ (mS μ a).2 ≤ i.toNatClampNeg) then some (wI μ a i.toNatClampNeg x) else none
def sJ (a : Nat) (i : Int32) (x : Int64) (μ : Mem) : Option Mem := if a < mN μ ∧ (mS μ a).1 = 2 ∧ ¬ (i < 0 ∨ (mS μ a).2 ≤ i.toNatClampNeg) then some (wJ μ a i.toNatClampNeg x) else none
def sZ (a : Nat) (i : Int32) (x : Int32) (μ : Mem) : Option Mem := if (a < mN μ ∧ (mS μ a).1 = 3 ∧ ¬ (i < 0 ∨ (mS μ a).2 ≤ i.toNatClampNeg)) ∧ (x = 0 ∨ x = 1) then some (wI μ a i.toNatClampNeg x) else none
def sR (kd c a : Nat) (i : Int32) (b : Nat) (μ : Mem) : Option Mem := if (a < mN μ ∧ (mS μ a).1 = kd ∧ ¬ (i < 0 ∨ (mS μ a).2 ≤ i.toNatClampNeg)) ∧ (b < mN μ ∧ mS μ b = (0, c)) then some (wR μ a i.toNatClampNeg b) else none
def aL (a : Nat) (μ : Mem) : Option Int32 := if a < mN μ ∧ (mS μ a).1 ≠ 0 ∧ (mS μ a).1 ≤ 7 then some (Int32.ofNat (mS μ a).2) else none
def dvI (x y : Int32) : Option Int32 := if y = 0 then none else some (x / y)
def dvJ (x y : Int64) : Option Int64 := if y = 0 then none else some (x / y)
def rmJ (x y : Int64) : Option Int64 := if y = 0 then none else some (x - x / y * y)
/-- an object of a class stands there -/
def vO (c a : Nat) (μ : Mem) : Option Unit := if a < mN μ ∧ mS μ a = (0, c) then some () else none
/-! ===== new cells: the address that is due is named, so that it can be held against the heap ===== -/
def nO (c b : Nat) (μ : Mem) : Option Mem := if mN μ = b then some (mNew μ (0, c)) else none
def nA (kd b : Nat) (n : Int32) (μ : Mem) : Option Mem := if mN μ = b ∧ ¬ n < 0 then some (mNew μ (kd, n.toNatClampNeg)) else none
def mGrid (μ : Mem) (N K : Nat) : Mem := (μ.1 + 1 + N, (fun a => if a = μ.1 then (7, N) else if μ.1 < a ∧ a ≤ μ.1 + N then (1, K) else μ.2.1 a), (fun a => if μ.1 ≤ a ∧ a ≤ μ.1 + N then fun _ => 0 else μ.2.2.1 a), (fun a => if μ.1 ≤ a ∧ a ≤ μ.1 + N then fun _ => 0 else μ.2.2.2.1 a), (fun a => if a = μ.1 then (fun j => if j < N then some (μ.1 + 1 + j) else none) else if μ.1 < a ∧ a ≤ μ.1 + N then fun _ => none else μ.2.2.2.2 a))
def nM (b : Nat) (n k : Int32) (μ : Mem) : Option Mem := if mN μ = b ∧ ¬ n < 0 ∧ ¬ k < 0 then some (mGrid μ n.toNatClampNeg k.toNatClampNeg) else none
def gN (b : Nat) (μ : Mem) : Option Unit := if mN μ = b then some () else none
/-! ===== the nine text constants ===== -/
def sLens : List Nat := [5, 3, 5, 4, 5, 4, 2, 6, 4]
def sByts : List (List Int32) := [[110, 101, 118, 101, 114], [119, 97, 121], [115, 116, 97, 116, 101], [107, 105, 110, 100], [97, 102, 116, 101, 114], [109, 111, 115, 116], [105, 110], [97, 108, 119, 97, 121, 115], [102, 114, 111, 109]]
def sLen (j : Nat) : Int32 := Int32.ofNat (sLens.getD j 0)
def sLe (j : Nat) : Option Int32 := if j < 9 then some (sLen j) else none
def sChr (j : Nat) (i : Int32) : Option Int32 := if j < 9 ∧ ¬ (i < 0 ∨ sLens.getD j 0 ≤ i.toNatClampNeg) then some ((sByts.getD j []).getD i.toNatClampNeg 0) else none
/-- the script: an int at a place that there is -/
def xsA (xs : Nat → Int32) (n : Nat) (i : Int32) : Option Int32 := if ¬ (i < 0 ∨ n ≤ i.toNatClampNeg) then some (xs i.toNatClampNeg) else none
/-! ===== small helps ===== -/
def FU : Nat := 100000
theorem bindE {α β : Type} {o : Option α} {f : α → Option β} {b : β} (h : o.bind f = some b) : ∃ a, o = some a ∧ f a = some b := Option.bind_eq_some_iff.mp h
theorem bindS {α β : Type} {a : α} {f : α → Option β} {b : β} (h : (some a).bind f = some b) : ∃ x, a = x ∧ f x = some b := ⟨a, rfl, h⟩
theorem inj1 {α : Type} {a b : α} (h : some a = some b) : a = b := Option.some.inj h
theorem inj2 {α β : Type} {a c : α} {b d : β} (h : some (a, b) = some (c, d)) : a = c ∧ b = d := ⟨congrArg Prod.fst (Option.some.inj h), congrArg Prod.snd (Option.some.inj h)⟩
/-- a boolean is 0 or 1 -/
def zz (v : Int32) : Option Int32 := if v = 0 ∨ v = 1 then some v else none
theorem zzE {v w : Int32} (h : zz v = some w) : v = w ∧ (w = 0 ∨ w = 1) := by
  unfold zz at h
  split at h
  · cases h
    exact ⟨rfl, by assumption⟩
  · cases h
end
section
set_option maxRecDepth 100000 in
def X6_init (a0 : Nat) (μ : Mem) : Option Mem :=
  some μ
set_option maxRecDepth 100000 in
def X5_init (a0 : Nat) (μ : Mem) : Option Mem :=
  some μ
set_option maxRecDepth 100000 in
def X0_init (a0 : Nat) (μ : Mem) : Option Mem :=
  (nA 6 (mN μ + 0) 10 μ).bind fun μ1 =>
  (pR 0 0 a0 (mN μ + 0) μ1).bind fun μ2 =>
  (nA 5 (mN μ + 1) 40 μ2).bind fun μ3 =>
  (pR 0 1 a0 (mN μ + 1) μ3).bind fun μ4 =>
  (gR 0 0 a0 μ4).bind fun v5 =>
  (nO 6 (mN μ + 2) μ4).bind fun μ6 =>
  (gN (mN μ + 3) μ6).bind fun g7 =>
  (X6_init (mN μ + 2) μ6).bind fun μ8 =>
  (sR 6 6 v5 0 (mN μ + 2) μ8).bind fun μ9 =>
  (gR 0 0 a0 μ9).bind fun v10 =>
  (nO 6 (mN μ + 3) μ9).bind fun μ11 =>
  (gN (mN μ + 4) μ11).bind fun g12 =>
  (X6_init (mN μ + 3) μ11).bind fun μ13 =>
  (sR 6 6 v10 1 (mN μ + 3) μ13).bind fun μ14 =>
  (gR 0 0 a0 μ14).bind fun v15 =>
  (nO 6 (mN μ + 4) μ14).bind fun μ16 =>
  (gN (mN μ + 5) μ16).bind fun g17 =>
  (X6_init (mN μ + 4) μ16).bind fun μ18 =>
  (sR 6 6 v15 2 (mN μ + 4) μ18).bind fun μ19 =>
  (gR 0 0 a0 μ19).bind fun v20 =>
  (nO 6 (mN μ + 5) μ19).bind fun μ21 =>
  (gN (mN μ + 6) μ21).bind fun g22 =>
  (X6_init (mN μ + 5) μ21).bind fun μ23 =>
  (sR 6 6 v20 3 (mN μ + 5) μ23).bind fun μ24 =>
  (gR 0 0 a0 μ24).bind fun v25 =>
  (nO 6 (mN μ + 6) μ24).bind fun μ26 =>
  (gN (mN μ + 7) μ26).bind fun g27 =>
  (X6_init (mN μ + 6) μ26).bind fun μ28 =>
  (sR 6 6 v25 4 (mN μ + 6) μ28).bind fun μ29 =>
  (gR 0 0 a0 μ29).bind fun v30 =>
  (nO 6 (mN μ + 7) μ29).bind fun μ31 =>
  (gN (mN μ + 8) μ31).bind fun g32 =>
  (X6_init (mN μ + 7) μ31).bind fun μ33 =>
  (sR 6 6 v30 5 (mN μ + 7) μ33).bind fun μ34 =>
  (gR 0 0 a0 μ34).bind fun v35 =>
  (nO 6 (mN μ + 8) μ34).bind fun μ36 =>
  (gN (mN μ + 9) μ36).bind fun g37 =>
  (X6_init (mN μ + 8) μ36).bind fun μ38 =>
  (sR 6 6 v35 6 (mN μ + 8) μ38).bind fun μ39 =>
  (gR 0 0 a0 μ39).bind fun v40 =>
  (nO 6 (mN μ + 9) μ39).bind fun μ41 =>
  (gN (mN μ + 10) μ41).bind fun g42 =>
  (X6_init (mN μ + 9) μ41).bind fun μ43 =>
  (sR 6 6 v40 7 (mN μ + 9) μ43).bind fun μ44 =>
  (gR 0 0 a0 μ44).bind fun v45 =>
  (nO 6 (mN μ + 10) μ44).bind fun μ46 =>
  (gN (mN μ + 11) μ46).bind fun g47 =>
  (X6_init (mN μ + 10) μ46).bind fun μ48 =>
  (sR 6 6 v45 8 (mN μ + 10) μ48).bind fun μ49 =>
  (gR 0 0 a0 μ49).bind fun v50 =>
  (nO 6 (mN μ + 11) μ49).bind fun μ51 =>
  (gN (mN μ + 12) μ51).bind fun g52 =>
  (X6_init (mN μ + 11) μ51).bind fun μ53 =>
  (sR 6 6 v50 9 (mN μ + 11) μ53).bind fun μ54 =>
  (gR 0 1 a0 μ54).bind fun v55 =>
  (nO 5 (mN μ + 12) μ54).bind fun μ56 =>
  (gN (mN μ + 13) μ56).bind fun g57 =>
  (X5_init (mN μ + 12) μ56).bind fun μ58 =>
  (sR 5 5 v55 0 (mN μ + 12) μ58).bind fun μ59 =>
  (gR 0 1 a0 μ59).bind fun v60 =>
  (nO 5 (mN μ + 13) μ59).bind fun μ61 =>
  (gN (mN μ + 14) μ61).bind fun g62 =>
  (X5_init (mN μ + 13) μ61).bind fun μ63 =>
  (sR 5 5 v60 1 (mN μ + 13) μ63).bind fun μ64 =>
  (gR 0 1 a0 μ64).bind fun v65 =>
  (nO 5 (mN μ + 14) μ64).bind fun μ66 =>
  (gN (mN μ + 15) μ66).bind fun g67 =>
  (X5_init (mN μ + 14) μ66).bind fun μ68 =>
  (sR 5 5 v65 2 (mN μ + 14) μ68).bind fun μ69 =>
  (gR 0 1 a0 μ69).bind fun v70 =>
  (nO 5 (mN μ + 15) μ69).bind fun μ71 =>
  (gN (mN μ + 16) μ71).bind fun g72 =>
  (X5_init (mN μ + 15) μ71).bind fun μ73 =>
  (sR 5 5 v70 3 (mN μ + 15) μ73).bind fun μ74 =>
  (gR 0 1 a0 μ74).bind fun v75 =>
  (nO 5 (mN μ + 16) μ74).bind fun μ76 =>
  (gN (mN μ + 17) μ76).bind fun g77 =>
  (X5_init (mN μ + 16) μ76).bind fun μ78 =>
  (sR 5 5 v75 4 (mN μ + 16) μ78).bind fun μ79 =>
  (gR 0 1 a0 μ79).bind fun v80 =>
  (nO 5 (mN μ + 17) μ79).bind fun μ81 =>
  (gN (mN μ + 18) μ81).bind fun g82 =>
  (X5_init (mN μ + 17) μ81).bind fun μ83 =>
  (sR 5 5 v80 5 (mN μ + 17) μ83).bind fun μ84 =>
  (gR 0 1 a0 μ84).bind fun v85 =>
  (nO 5 (mN μ + 18) μ84).bind fun μ86 =>
  (gN (mN μ + 19) μ86).bind fun g87 =>
  (X5_init (mN μ + 18) μ86).bind fun μ88 =>
  (sR 5 5 v85 6 (mN μ + 18) μ88).bind fun μ89 =>
  (gR 0 1 a0 μ89).bind fun v90 =>
  (nO 5 (mN μ + 19) μ89).bind fun μ91 =>
  (gN (mN μ + 20) μ91).bind fun g92 =>
  (X5_init (mN μ + 19) μ91).bind fun μ93 =>
  (sR 5 5 v90 7 (mN μ + 19) μ93).bind fun μ94 =>
  (gR 0 1 a0 μ94).bind fun v95 =>
  (nO 5 (mN μ + 20) μ94).bind fun μ96 =>
  (gN (mN μ + 21) μ96).bind fun g97 =>
  (X5_init (mN μ + 20) μ96).bind fun μ98 =>
  (sR 5 5 v95 8 (mN μ + 20) μ98).bind fun μ99 =>
  (gR 0 1 a0 μ99).bind fun v100 =>
  (nO 5 (mN μ + 21) μ99).bind fun μ101 =>
  (gN (mN μ + 22) μ101).bind fun g102 =>
  (X5_init (mN μ + 21) μ101).bind fun μ103 =>
  (sR 5 5 v100 9 (mN μ + 21) μ103).bind fun μ104 =>
  (gR 0 1 a0 μ104).bind fun v105 =>
  (nO 5 (mN μ + 22) μ104).bind fun μ106 =>
  (gN (mN μ + 23) μ106).bind fun g107 =>
  (X5_init (mN μ + 22) μ106).bind fun μ108 =>
  (sR 5 5 v105 10 (mN μ + 22) μ108).bind fun μ109 =>
  (gR 0 1 a0 μ109).bind fun v110 =>
  (nO 5 (mN μ + 23) μ109).bind fun μ111 =>
  (gN (mN μ + 24) μ111).bind fun g112 =>
  (X5_init (mN μ + 23) μ111).bind fun μ113 =>
  (sR 5 5 v110 11 (mN μ + 23) μ113).bind fun μ114 =>
  (gR 0 1 a0 μ114).bind fun v115 =>
  (nO 5 (mN μ + 24) μ114).bind fun μ116 =>
  (gN (mN μ + 25) μ116).bind fun g117 =>
  (X5_init (mN μ + 24) μ116).bind fun μ118 =>
  (sR 5 5 v115 12 (mN μ + 24) μ118).bind fun μ119 =>
  (gR 0 1 a0 μ119).bind fun v120 =>
  (nO 5 (mN μ + 25) μ119).bind fun μ121 =>
  (gN (mN μ + 26) μ121).bind fun g122 =>
  (X5_init (mN μ + 25) μ121).bind fun μ123 =>
  (sR 5 5 v120 13 (mN μ + 25) μ123).bind fun μ124 =>
  (gR 0 1 a0 μ124).bind fun v125 =>
  (nO 5 (mN μ + 26) μ124).bind fun μ126 =>
  (gN (mN μ + 27) μ126).bind fun g127 =>
  (X5_init (mN μ + 26) μ126).bind fun μ128 =>
  (sR 5 5 v125 14 (mN μ + 26) μ128).bind fun μ129 =>
  (gR 0 1 a0 μ129).bind fun v130 =>
  (nO 5 (mN μ + 27) μ129).bind fun μ131 =>
  (gN (mN μ + 28) μ131).bind fun g132 =>
  (X5_init (mN μ + 27) μ131).bind fun μ133 =>
  (sR 5 5 v130 15 (mN μ + 27) μ133).bind fun μ134 =>
  (gR 0 1 a0 μ134).bind fun v135 =>
  (nO 5 (mN μ + 28) μ134).bind fun μ136 =>
  (gN (mN μ + 29) μ136).bind fun g137 =>
  (X5_init (mN μ + 28) μ136).bind fun μ138 =>
  (sR 5 5 v135 16 (mN μ + 28) μ138).bind fun μ139 =>
  (gR 0 1 a0 μ139).bind fun v140 =>
  (nO 5 (mN μ + 29) μ139).bind fun μ141 =>
  (gN (mN μ + 30) μ141).bind fun g142 =>
  (X5_init (mN μ + 29) μ141).bind fun μ143 =>
  (sR 5 5 v140 17 (mN μ + 29) μ143).bind fun μ144 =>
  (gR 0 1 a0 μ144).bind fun v145 =>
  (nO 5 (mN μ + 30) μ144).bind fun μ146 =>
  (gN (mN μ + 31) μ146).bind fun g147 =>
  (X5_init (mN μ + 30) μ146).bind fun μ148 =>
  (sR 5 5 v145 18 (mN μ + 30) μ148).bind fun μ149 =>
  (gR 0 1 a0 μ149).bind fun v150 =>
  (nO 5 (mN μ + 31) μ149).bind fun μ151 =>
  (gN (mN μ + 32) μ151).bind fun g152 =>
  (X5_init (mN μ + 31) μ151).bind fun μ153 =>
  (sR 5 5 v150 19 (mN μ + 31) μ153).bind fun μ154 =>
  (gR 0 1 a0 μ154).bind fun v155 =>
  (nO 5 (mN μ + 32) μ154).bind fun μ156 =>
  (gN (mN μ + 33) μ156).bind fun g157 =>
  (X5_init (mN μ + 32) μ156).bind fun μ158 =>
  (sR 5 5 v155 20 (mN μ + 32) μ158).bind fun μ159 =>
  (gR 0 1 a0 μ159).bind fun v160 =>
  (nO 5 (mN μ + 33) μ159).bind fun μ161 =>
  (gN (mN μ + 34) μ161).bind fun g162 =>
  (X5_init (mN μ + 33) μ161).bind fun μ163 =>
  (sR 5 5 v160 21 (mN μ + 33) μ163).bind fun μ164 =>
  (gR 0 1 a0 μ164).bind fun v165 =>
  (nO 5 (mN μ + 34) μ164).bind fun μ166 =>
  (gN (mN μ + 35) μ166).bind fun g167 =>
  (X5_init (mN μ + 34) μ166).bind fun μ168 =>
  (sR 5 5 v165 22 (mN μ + 34) μ168).bind fun μ169 =>
  (gR 0 1 a0 μ169).bind fun v170 =>
  (nO 5 (mN μ + 35) μ169).bind fun μ171 =>
  (gN (mN μ + 36) μ171).bind fun g172 =>
  (X5_init (mN μ + 35) μ171).bind fun μ173 =>
  (sR 5 5 v170 23 (mN μ + 35) μ173).bind fun μ174 =>
  (gR 0 1 a0 μ174).bind fun v175 =>
  (nO 5 (mN μ + 36) μ174).bind fun μ176 =>
  (gN (mN μ + 37) μ176).bind fun g177 =>
  (X5_init (mN μ + 36) μ176).bind fun μ178 =>
  (sR 5 5 v175 24 (mN μ + 36) μ178).bind fun μ179 =>
  (gR 0 1 a0 μ179).bind fun v180 =>
  (nO 5 (mN μ + 37) μ179).bind fun μ181 =>
  (gN (mN μ + 38) μ181).bind fun g182 =>
  (X5_init (mN μ + 37) μ181).bind fun μ183 =>
  (sR 5 5 v180 25 (mN μ + 37) μ183).bind fun μ184 =>
  (gR 0 1 a0 μ184).bind fun v185 =>
  (nO 5 (mN μ + 38) μ184).bind fun μ186 =>
  (gN (mN μ + 39) μ186).bind fun g187 =>
  (X5_init (mN μ + 38) μ186).bind fun μ188 =>
  (sR 5 5 v185 26 (mN μ + 38) μ188).bind fun μ189 =>
  (gR 0 1 a0 μ189).bind fun v190 =>
  (nO 5 (mN μ + 39) μ189).bind fun μ191 =>
  (gN (mN μ + 40) μ191).bind fun g192 =>
  (X5_init (mN μ + 39) μ191).bind fun μ193 =>
  (sR 5 5 v190 27 (mN μ + 39) μ193).bind fun μ194 =>
  (gR 0 1 a0 μ194).bind fun v195 =>
  (nO 5 (mN μ + 40) μ194).bind fun μ196 =>
  (gN (mN μ + 41) μ196).bind fun g197 =>
  (X5_init (mN μ + 40) μ196).bind fun μ198 =>
  (sR 5 5 v195 28 (mN μ + 40) μ198).bind fun μ199 =>
  (gR 0 1 a0 μ199).bind fun v200 =>
  (nO 5 (mN μ + 41) μ199).bind fun μ201 =>
  (gN (mN μ + 42) μ201).bind fun g202 =>
  (X5_init (mN μ + 41) μ201).bind fun μ203 =>
  (sR 5 5 v200 29 (mN μ + 41) μ203).bind fun μ204 =>
  (gR 0 1 a0 μ204).bind fun v205 =>
  (nO 5 (mN μ + 42) μ204).bind fun μ206 =>
  (gN (mN μ + 43) μ206).bind fun g207 =>
  (X5_init (mN μ + 42) μ206).bind fun μ208 =>
  (sR 5 5 v205 30 (mN μ + 42) μ208).bind fun μ209 =>
  (gR 0 1 a0 μ209).bind fun v210 =>
  (nO 5 (mN μ + 43) μ209).bind fun μ211 =>
  (gN (mN μ + 44) μ211).bind fun g212 =>
  (X5_init (mN μ + 43) μ211).bind fun μ213 =>
  (sR 5 5 v210 31 (mN μ + 43) μ213).bind fun μ214 =>
  (gR 0 1 a0 μ214).bind fun v215 =>
  (nO 5 (mN μ + 44) μ214).bind fun μ216 =>
  (gN (mN μ + 45) μ216).bind fun g217 =>
  (X5_init (mN μ + 44) μ216).bind fun μ218 =>
  (sR 5 5 v215 32 (mN μ + 44) μ218).bind fun μ219 =>
  (gR 0 1 a0 μ219).bind fun v220 =>
  (nO 5 (mN μ + 45) μ219).bind fun μ221 =>
  (gN (mN μ + 46) μ221).bind fun g222 =>
  (X5_init (mN μ + 45) μ221).bind fun μ223 =>
  (sR 5 5 v220 33 (mN μ + 45) μ223).bind fun μ224 =>
  (gR 0 1 a0 μ224).bind fun v225 =>
  (nO 5 (mN μ + 46) μ224).bind fun μ226 =>
  (gN (mN μ + 47) μ226).bind fun g227 =>
  (X5_init (mN μ + 46) μ226).bind fun μ228 =>
  (sR 5 5 v225 34 (mN μ + 46) μ228).bind fun μ229 =>
  (gR 0 1 a0 μ229).bind fun v230 =>
  (nO 5 (mN μ + 47) μ229).bind fun μ231 =>
  (gN (mN μ + 48) μ231).bind fun g232 =>
  (X5_init (mN μ + 47) μ231).bind fun μ233 =>
  (sR 5 5 v230 35 (mN μ + 47) μ233).bind fun μ234 =>
  (gR 0 1 a0 μ234).bind fun v235 =>
  (nO 5 (mN μ + 48) μ234).bind fun μ236 =>
  (gN (mN μ + 49) μ236).bind fun g237 =>
  (X5_init (mN μ + 48) μ236).bind fun μ238 =>
  (sR 5 5 v235 36 (mN μ + 48) μ238).bind fun μ239 =>
  (gR 0 1 a0 μ239).bind fun v240 =>
  (nO 5 (mN μ + 49) μ239).bind fun μ241 =>
  (gN (mN μ + 50) μ241).bind fun g242 =>
  (X5_init (mN μ + 49) μ241).bind fun μ243 =>
  (sR 5 5 v240 37 (mN μ + 49) μ243).bind fun μ244 =>
  (gR 0 1 a0 μ244).bind fun v245 =>
  (nO 5 (mN μ + 50) μ244).bind fun μ246 =>
  (gN (mN μ + 51) μ246).bind fun g247 =>
  (X5_init (mN μ + 50) μ246).bind fun μ248 =>
  (sR 5 5 v245 38 (mN μ + 50) μ248).bind fun μ249 =>
  (gR 0 1 a0 μ249).bind fun v250 =>
  (nO 5 (mN μ + 51) μ249).bind fun μ251 =>
  (gN (mN μ + 52) μ251).bind fun g252 =>
  (X5_init (mN μ + 51) μ251).bind fun μ253 =>
  (sR 5 5 v250 39 (mN μ + 51) μ253).bind fun μ254 =>
  some μ254
def X0_hasThing (a0 : Nat) (x1 : Int32) (μ : Mem) : Option Int32 :=
  ((if x1 < 0 then
  some 0
  else
  (gI 0 2 a0 μ).bind fun v2 =>
  if v2 ≤ x1 then
  some 0
  else
  some 1) : Option (Int32)).bind fun z4 =>
  (zz z4).bind fun v5 =>
  some v5
def X0_hasThings (a0 : Nat) (x1 : Int32) (μ : Mem) : Option Int32 :=
  ((if x1 ≤ 0 then
  some 0
  else
  (gI 0 2 a0 μ).bind fun v2 =>
  if ((1 : Int32) <<< (v2 &&& 31)) ≤ x1 then
  some 0
  else
  some 1) : Option (Int32)).bind fun z4 =>
  (zz z4).bind fun v5 =>
  some v5
def X0_hasSaying (a0 : Nat) (x1 : Int32) (μ : Mem) : Option Int32 :=
  ((if x1 < 0 then
  some 0
  else
  (gI 0 3 a0 μ).bind fun v2 =>
  if v2 ≤ x1 then
  some 0
  else
  some 1) : Option (Int32)).bind fun z4 =>
  (zz z4).bind fun v5 =>
  some v5
def X10_contains (x0 : Int32) (x1 : Int32) : Int32 :=
  (if ((x0 >>> (x1 &&& 31)) &&& 1) = 0 then 0 else 1)
def J6_bitCount_0f7a4 (x0 : Int32) : Int32 :=
  (((((((x0 - (((x0.toUInt32 >>> ((1 : Int32).toUInt32 &&& Int32.toUInt32 31)).toInt32) &&& 1431655765)) &&& 858993459) + ((((x0 - (((x0.toUInt32 >>> ((1 : Int32).toUInt32 &&& Int32.toUInt32 31)).toInt32) &&& 1431655765)).toUInt32 >>> ((2 : Int32).toUInt32 &&& Int32.toUInt32 31)).toInt32) &&& 858993459)) + (((((x0 - (((x0.toUInt32 >>> ((1 : Int32).toUInt32 &&& Int32.toUInt32 31)).toInt32) &&& 1431655765)) &&& 858993459) + ((((x0 - (((x0.toUInt32 >>> ((1 : Int32).toUInt32 &&& Int32.toUInt32 31)).toInt32) &&& 1431655765)).toUInt32 >>> ((2 : Int32).toUInt32 &&& Int32.toUInt32 31)).toInt32) &&& 858993459)).toUInt32 >>> ((4 : Int32).toUInt32 &&& Int32.toUInt32 31)).toInt32)) &&& 252645135) + (((((((x0 - (((x0.toUInt32 >>> ((1 : Int32).toUInt32 &&& Int32.toUInt32 31)).toInt32) &&& 1431655765)) &&& 858993459) + ((((x0 - (((x0.toUInt32 >>> ((1 : Int32).toUInt32 &&& Int32.toUInt32 31)).toInt32) &&& 1431655765)).toUInt32 >>> ((2 : Int32).toUInt32 &&& Int32.toUInt32 31)).toInt32) &&& 858993459)) + (((((x0 - (((x0.toUInt32 >>> ((1 : Int32).toUInt32 &&& Int32.toUInt32 31)).toInt32) &&& 1431655765)) &&& 858993459) + ((((x0 - (((x0.toUInt32 >>> ((1 : Int32).toUInt32 &&& Int32.toUInt32 31)).toInt32) &&& 1431655765)).toUInt32 >>> ((2 : Int32).toUInt32 &&& Int32.toUInt32 31)).toInt32) &&& 858993459)).toUInt32 >>> ((4 : Int32).toUInt32 &&& Int32.toUInt32 31)).toInt32)) &&& 252645135).toUInt32 >>> ((8 : Int32).toUInt32 &&& Int32.toUInt32 31)).toInt32)) + ((((((((x0 - (((x0.toUInt32 >>> ((1 : Int32).toUInt32 &&& Int32.toUInt32 31)).toInt32) &&& 1431655765)) &&& 858993459) + ((((x0 - (((x0.toUInt32 >>> ((1 : Int32).toUInt32 &&& Int32.toUInt32 31)).toInt32) &&& 1431655765)).toUInt32 >>> ((2 : Int32).toUInt32 &&& Int32.toUInt32 31)).toInt32) &&& 858993459)) + (((((x0 - (((x0.toUInt32 >>> ((1 : Int32).toUInt32 &&& Int32.toUInt32 31)).toInt32) &&& 1431655765)) &&& 858993459) + ((((x0 - (((x0.toUInt32 >>> ((1 : Int32).toUInt32 &&& Int32.toUInt32 31)).toInt32) &&& 1431655765)).toUInt32 >>> ((2 : Int32).toUInt32 &&& Int32.toUInt32 31)).toInt32) &&& 858993459)).toUInt32 >>> ((4 : Int32).toUInt32 &&& Int32.toUInt32 31)).toInt32)) &&& 252645135) + (((((((x0 - (((x0.toUInt32 >>> ((1 : Int32).toUInt32 &&& Int32.toUInt32 31)).toInt32) &&& 1431655765)) &&& 858993459) + ((((x0 - (((x0.toUInt32 >>> ((1 : Int32).toUInt32 &&& Int32.toUInt32 31)).toInt32) &&& 1431655765)).toUInt32 >>> ((2 : Int32).toUInt32 &&& Int32.toUInt32 31)).toInt32) &&& 858993459)) + (((((x0 - (((x0.toUInt32 >>> ((1 : Int32).toUInt32 &&& Int32.toUInt32 31)).toInt32) &&& 1431655765)) &&& 858993459) + ((((x0 - (((x0.toUInt32 >>> ((1 : Int32).toUInt32 &&& Int32.toUInt32 31)).toInt32) &&& 1431655765)).toUInt32 >>> ((2 : Int32).toUInt32 &&& Int32.toUInt32 31)).toInt32) &&& 858993459)).toUInt32 >>> ((4 : Int32).toUInt32 &&& Int32.toUInt32 31)).toInt32)) &&& 252645135).toUInt32 >>> ((8 : Int32).toUInt32 &&& Int32.toUInt32 31)).toInt32)).toUInt32 >>> ((16 : Int32).toUInt32 &&& Int32.toUInt32 31)).toInt32)) &&& 63
def X0_isTold_L7 (a0 : Nat) (x1 : Int32) (μ : Mem) : Nat → Int32 → Int32 → Int32 → Option (Int32 × Int32 × Int32)
  | 0, _, _, _ => none
  | n + 1, x2, x3, x4 =>
      (gI 0 3 a0 μ).bind fun v1 =>
      if v1 ≤ x4 then
      some ((x2, x3, x4))
      else
      (gR 0 1 a0 μ).bind fun v3 =>
      (aR 5 v3 x4 μ).bind fun v4 =>
      (gI 5 1 v4 μ).bind fun v5 =>
      ((if (X10_contains v5 x1) = 0 then
      some ((x2, x3))
      else
      (gR 0 1 a0 μ).bind fun v7 =>
      (aR 5 v7 x4 μ).bind fun v8 =>
      (gI 5 4 v8 μ).bind fun v9 =>
      (some (if v9 = 3 then x2 else x2 + 1 : Int32)).bind fun v11 =>
      (gR 0 1 a0 μ).bind fun v12 =>
      (aR 5 v12 x4 μ).bind fun v13 =>
      (gI 5 4 v13 μ).bind fun v14 =>
      if v14 = 1 then
      (gR 0 1 a0 μ).bind fun v16 =>
      (aR 5 v16 x4 μ).bind fun v17 =>
      (gI 5 0 v17 μ).bind fun v18 =>
      some ((v11, x3 ||| (1 <<< (v18 &&& 31))))
      else
      some ((v11, x3))) : Option (Int32 × Int32)).bind fun z19 =>
      X0_isTold_L7 a0 x1 μ n z19.1 z19.2 (x4 + 1)
def X0_isTold (a0 : Nat) (x1 : Int32) (μ : Mem) : Option Int32 :=
  (X0_isTold_L7 a0 x1 μ FU 0 0 0).bind fun z1 =>
  ((if z1.1 ≤ 0 then
  some 0
  else
  (gR 0 0 a0 μ).bind fun v3 =>
  (aR 6 v3 x1 μ).bind fun v4 =>
  (gI 6 1 v4 μ).bind fun v5 =>
  if v5 = 3 then
  if (J6_bitCount_0f7a4 z1.2.1) < 2 then
  some 0
  else
  some 1
  else
  some 1) : Option (Int32)).bind fun z8 =>
  (zz z8).bind fun v9 =>
  some v9
def X0_standing (a0 : Nat) (x1 : Int32) (x2 : Int32) (μ : Mem) : Option Int32 :=
  (gR 0 0 a0 μ).bind fun v1 =>
  (aR 6 v1 x1 μ).bind fun v2 =>
  (gI 6 8 v2 μ).bind fun v3 =>
  if v3 = 0 then
  (vO 0 a0 μ).bind fun g5 =>
  (X0_isTold a0 x1 μ).bind fun v6 =>
  if v6 = 0 then
  (gR 0 0 a0 μ).bind fun v8 =>
  (aR 6 v8 x1 μ).bind fun v9 =>
  (gI 6 6 v9 μ).bind fun v10 =>
  (some (if x2 ≤ v10 then 0 else 3 : Int32)).bind fun v12 =>
  some (v12)
  else
  some (1)
  else
  some (2)
def X0_thingsThatAre_L5 (a0 : Nat) (x1 : Int32) (x2 : Int32) (μ : Mem) : Nat → Int32 → Int32 → Option (Int32 × Int32)
  | 0, _, _ => none
  | n + 1, x3, x4 =>
      (gI 0 2 a0 μ).bind fun v1 =>
      if v1 ≤ x4 then
      some ((x3, x4))
      else
      (vO 0 a0 μ).bind fun g3 =>
      (X0_standing a0 x4 x2 μ).bind fun v4 =>
      (some (if v4 = x1 then x3 + 1 else x3 : Int32)).bind fun v6 =>
      X0_thingsThatAre_L5 a0 x1 x2 μ n v6 (x4 + 1)
def X0_thingsThatAre (a0 : Nat) (x1 : Int32) (x2 : Int32) (μ : Mem) : Option Int32 :=
  (X0_thingsThatAre_L5 a0 x1 x2 μ FU 0 0).bind fun z1 =>
  some (z1.1)
def X0_sayingsWith_L4 (a0 : Nat) (x1 : Int32) (μ : Mem) : Nat → Int32 → Int32 → Option (Int32 × Int32)
  | 0, _, _ => none
  | n + 1, x2, x3 =>
      (gI 0 3 a0 μ).bind fun v1 =>
      if v1 ≤ x3 then
      some ((x2, x3))
      else
      (gR 0 1 a0 μ).bind fun v3 =>
      (aR 5 v3 x3 μ).bind fun v4 =>
      (gI 5 1 v4 μ).bind fun v5 =>
      (some (if (X10_contains v5 x1) = 0 then x2 else x2 + 1 : Int32)).bind fun v7 =>
      X0_sayingsWith_L4 a0 x1 μ n v7 (x3 + 1)
def X0_sayingsWith (a0 : Nat) (x1 : Int32) (μ : Mem) : Option Int32 :=
  (X0_sayingsWith_L4 a0 x1 μ FU 0 0).bind fun z1 =>
  some (z1.1)
def X0_personsWith_L4 (a0 : Nat) (x1 : Int32) (μ : Mem) : Nat → Int32 → Int32 → Option (Int32 × Int32)
  | 0, _, _ => none
  | n + 1, x2, x3 =>
      (gI 0 3 a0 μ).bind fun v1 =>
      if v1 ≤ x3 then
      some ((x2, x3))
      else
      (gR 0 1 a0 μ).bind fun v3 =>
      (aR 5 v3 x3 μ).bind fun v4 =>
      (gI 5 1 v4 μ).bind fun v5 =>
      ((if (X10_contains v5 x1) = 0 then
      some x2
      else
      (gR 0 1 a0 μ).bind fun v7 =>
      (aR 5 v7 x3 μ).bind fun v8 =>
      (gI 5 0 v8 μ).bind fun v9 =>
      some (x2 ||| (1 <<< (v9 &&& 31)))) : Option (Int32)).bind fun z10 =>
      X0_personsWith_L4 a0 x1 μ n z10 (x3 + 1)
def X0_personsWith (a0 : Nat) (x1 : Int32) (μ : Mem) : Option Int32 :=
  (X0_personsWith_L4 a0 x1 μ FU 0 0).bind fun z1 =>
  some (z1.1)
def X0_deadThings_L4 (a0 : Nat) (μ : Mem) : Nat → Int32 → Int32 → Option (Int32 × Int32)
  | 0, _, _ => none
  | n + 1, x1, x2 =>
      (gI 0 2 a0 μ).bind fun v1 =>
      if v1 ≤ x2 then
      some ((x1, x2))
      else
      (gR 0 0 a0 μ).bind fun v3 =>
      (aR 6 v3 x2 μ).bind fun v4 =>
      (gI 6 8 v4 μ).bind fun v5 =>
      (some (if v5 = 0 then x1 else x1 ||| (1 <<< (x2 &&& 31)) : Int32)).bind fun v7 =>
      X0_deadThings_L4 a0 μ n v7 (x2 + 1)
def X0_deadThings (a0 : Nat) (μ : Mem) : Option Int32 :=
  (X0_deadThings_L4 a0 μ FU 0 0).bind fun z1 =>
  some (z1.1)
def X0_canBeSaid_L5 (a0 : Nat) (x1 : Int32) (x2 : Int32) (μ : Mem) : Nat → Int32 → Int32 → Option (Int32)
  | 0, _, _ => none
  | n + 1, x3, x4 =>
      (gI 0 2 a0 μ).bind fun v1 =>
      if v1 ≤ x4 then
      some 1
      else
      if (X10_contains x1 x4) = 0 then
      X0_canBeSaid_L5 a0 x1 x2 μ n x3 (x4 + 1)
      else
      (gR 0 0 a0 μ).bind fun v4 =>
      (aR 6 v4 x4 μ).bind fun v5 =>
      (gI 6 8 v5 μ).bind fun v6 =>
      if v6 = 0 then
      (gI 6 0 v5 μ).bind fun v8 =>
      if (X10_contains v8 x2) = 0 then
      some 0
      else
      if x3 = ((-1)) then
      (gI 6 2 v5 μ).bind fun v11 =>
      X0_canBeSaid_L5 a0 x1 x2 μ n v11 (x4 + 1)
      else
      (gI 6 2 v5 μ).bind fun v12 =>
      if x3 = v12 then
      (gI 6 2 v5 μ).bind fun v14 =>
      X0_canBeSaid_L5 a0 x1 x2 μ n v14 (x4 + 1)
      else
      some 0
      else
      some 0
def X0_canBeSaid (a0 : Nat) (x1 : Int32) (x2 : Int32) (μ : Mem) : Option Int32 :=
  X0_canBeSaid_L5 a0 x1 x2 μ FU ((-1)) 0
def X0_countSaid_L2 (a0 : Nat) (x1 : Int32) (a2 : Nat) : Nat → Int32 → Mem → Option (Int32 × Mem)
  | 0, _, _ => none
  | n + 1, x3, μ =>
      (aL a2 μ).bind fun v1 =>
      if v1 ≤ x3 then
      some ((x3, μ))
      else
      (sI a2 x3 0 μ).bind fun μ3 =>
      X0_countSaid_L2 a0 x1 a2 n (x3 + 1) μ3
def X0_countSaid_L20 (a0 : Nat) (x1 : Int32) (a2 : Nat) : Nat → Int32 → Mem → Option (Int32 × Mem)
  | 0, _, _ => none
  | n + 1, x3, μ =>
      (gI 0 3 a0 μ).bind fun v1 =>
      if v1 ≤ x3 then
      some ((x3, μ))
      else
      (gR 0 1 a0 μ).bind fun v3 =>
      (aR 5 v3 x3 μ).bind fun v4 =>
      (gI 5 3 v4 μ).bind fun v5 =>
      (gR 0 1 a0 μ).bind fun v6 =>
      (aR 5 v6 x3 μ).bind fun v7 =>
      (gI 5 0 v7 μ).bind fun v8 =>
      ((if v8 = x1 then
      if v5 < 0 then
      some μ
      else
      (aL a2 μ).bind fun v11 =>
      if v11 ≤ v5 then
      some μ
      else
      (aI a2 v5 μ).bind fun v13 =>
      (sI a2 v5 (v13 + 1) μ).bind fun μ14 =>
      some μ14
      else
      some μ) : Option (Mem)).bind fun z15 =>
      X0_countSaid_L20 a0 x1 a2 n (x3 + 1) z15
def X0_countSaid (a0 : Nat) (x1 : Int32) (a2 : Nat) (μ : Mem) : Option Mem :=
  (X0_countSaid_L2 a0 x1 a2 FU 0 μ).bind fun z1 =>
  (X0_countSaid_L20 a0 x1 a2 FU 0 z1.2).bind fun z2 =>
  some z2.2
def X0_outcomesBy_L4 (a0 : Nat) (x1 : Int32) (μ : Mem) : Nat → Int32 → Int32 → Option (Int32 × Int32)
  | 0, _, _ => none
  | n + 1, x2, x3 =>
      (gI 0 3 a0 μ).bind fun v1 =>
      if v1 ≤ x3 then
      some ((x2, x3))
      else
      (gR 0 1 a0 μ).bind fun v3 =>
      (aR 5 v3 x3 μ).bind fun v4 =>
      (gI 5 2 v4 μ).bind fun v5 =>
      ((if v5 = x1 then
      (gR 0 1 a0 μ).bind fun v7 =>
      (aR 5 v7 x3 μ).bind fun v8 =>
      (gI 5 4 v8 μ).bind fun v9 =>
      if v9 = 0 then
      some x2
      else
      some (x2 + 1)
      else
      some x2) : Option (Int32)).bind fun z11 =>
      X0_outcomesBy_L4 a0 x1 μ n z11 (x3 + 1)
def X0_outcomesBy (a0 : Nat) (x1 : Int32) (μ : Mem) : Option Int32 :=
  (X0_outcomesBy_L4 a0 x1 μ FU 0 0).bind fun z1 =>
  some (z1.1)
def X0_lookedAtBy_L4 (a0 : Nat) (x1 : Int32) (μ : Mem) : Nat → Int32 → Int32 → Option (Int32 × Int32)
  | 0, _, _ => none
  | n + 1, x2, x3 =>
      (gI 0 3 a0 μ).bind fun v1 =>
      if v1 ≤ x3 then
      some ((x2, x3))
      else
      (gR 0 1 a0 μ).bind fun v3 =>
      (aR 5 v3 x3 μ).bind fun v4 =>
      (gI 5 2 v4 μ).bind fun v5 =>
      ((if v5 = x1 then
      (gR 0 1 a0 μ).bind fun v7 =>
      (aR 5 v7 x3 μ).bind fun v8 =>
      (gI 5 4 v8 μ).bind fun v9 =>
      if v9 = 1 then
      some (x2 + 1)
      else
      some x2
      else
      some x2) : Option (Int32)).bind fun z11 =>
      X0_lookedAtBy_L4 a0 x1 μ n z11 (x3 + 1)
def X0_lookedAtBy (a0 : Nat) (x1 : Int32) (μ : Mem) : Option Int32 :=
  (X0_lookedAtBy_L4 a0 x1 μ FU 0 0).bind fun z1 =>
  some (z1.1)
set_option maxRecDepth 100000 in
def X1_init (a0 : Nat) (μ : Mem) : Option Mem :=
  some μ
def X3_alwaysFrom_L4 (a0 : Nat) (μ : Mem) : Nat → Int32 → Int32 → Option (Int32 × Int32)
  | 0, _, _ => none
  | n + 1, x1, x2 =>
      (gI 3 0 a0 μ).bind fun v1 =>
      if v1 ≤ x2 then
      some ((x1, x2))
      else
      (gR 3 1 a0 μ).bind fun v3 =>
      (aI v3 x2 μ).bind fun v4 =>
      ((if v4 = 4 then
      (gR 3 2 a0 μ).bind fun v6 =>
      (aI v6 x2 μ).bind fun v7 =>
      some (x1 ||| (1 <<< (v7 &&& 31)))
      else
      some x1) : Option (Int32)).bind fun z8 =>
      X3_alwaysFrom_L4 a0 μ n z8 (x2 + 1)
def X3_alwaysFrom (a0 : Nat) (μ : Mem) : Option Int32 :=
  (X3_alwaysFrom_L4 a0 μ FU 0 0).bind fun z1 =>
  some (z1.1)
def X3_barredKinds_L4 (a0 : Nat) (x1 : Int32) (μ : Mem) : Nat → Int32 → Int32 → Option (Int32 × Int32)
  | 0, _, _ => none
  | n + 1, x2, x3 =>
      (gI 3 0 a0 μ).bind fun v1 =>
      if v1 ≤ x3 then
      some ((x2, x3))
      else
      (gR 3 1 a0 μ).bind fun v3 =>
      (aI v3 x3 μ).bind fun v4 =>
      ((if v4 = 2 then
      (gR 3 3 a0 μ).bind fun v6 =>
      (aI v6 x3 μ).bind fun v7 =>
      if x1 ≤ v7 then
      some x2
      else
      (gR 3 2 a0 μ).bind fun v9 =>
      (aI v9 x3 μ).bind fun v10 =>
      some (x2 ||| (1 <<< (v10 &&& 31)))
      else
      some x2) : Option (Int32)).bind fun z11 =>
      X3_barredKinds_L4 a0 x1 μ n z11 (x3 + 1)
def X3_barredKinds (a0 : Nat) (x1 : Int32) (μ : Mem) : Option Int32 :=
  (X3_barredKinds_L4 a0 x1 μ FU 0 0).bind fun z1 =>
  some (z1.1)
def X3_isLikely (a0 : Nat) (x1 : Int32) (a2 : Nat) (μ : Mem) : Option Int32 :=
  (gR 3 3 a0 μ).bind fun v1 =>
  (aI v1 x1 μ).bind fun v2 =>
  ((if v2 < 0 then
  some 0
  else
  (aL a2 μ).bind fun v4 =>
  if v4 ≤ v2 then
  some 0
  else
  (aI a2 v2 μ).bind fun v6 =>
  (gR 3 4 a0 μ).bind fun v7 =>
  (aI v7 x1 μ).bind fun v8 =>
  if (lg_cmp (v6.toInt64 * 100) (v8.toInt64 * 1000000)) < 0 then
  some 0
  else
  some 1) : Option (Int32)).bind fun z10 =>
  (zz z10).bind fun v11 =>
  some v11
def X3_barredWays_L4 (a0 : Nat) (a1 : Nat) (μ : Mem) : Nat → Int32 → Int32 → Option (Int32 × Int32)
  | 0, _, _ => none
  | n + 1, x2, x3 =>
      (gI 3 0 a0 μ).bind fun v1 =>
      if v1 ≤ x3 then
      some ((x2, x3))
      else
      (gR 3 1 a0 μ).bind fun v3 =>
      (aI v3 x3 μ).bind fun v4 =>
      ((if v4 = 0 then
      (gR 3 2 a0 μ).bind fun v6 =>
      (aI v6 x3 μ).bind fun v7 =>
      some (x2 ||| (1 <<< (v7 &&& 31)))
      else
      (gR 3 1 a0 μ).bind fun v8 =>
      (aI v8 x3 μ).bind fun v9 =>
      if v9 = 1 then
      (vO 3 a0 μ).bind fun g11 =>
      (X3_isLikely a0 x3 a1 μ).bind fun v12 =>
      if v12 = 0 then
      some x2
      else
      (gR 3 2 a0 μ).bind fun v14 =>
      (aI v14 x3 μ).bind fun v15 =>
      some (x2 ||| (1 <<< (v15 &&& 31)))
      else
      some x2) : Option (Int32)).bind fun z16 =>
      X3_barredWays_L4 a0 a1 μ n z16 (x3 + 1)
def X3_barredWays (a0 : Nat) (a1 : Nat) (μ : Mem) : Option Int32 :=
  (X3_barredWays_L4 a0 a1 μ FU 0 0).bind fun z1 =>
  some (z1.1)
def X1_open_L36 (a0 : Nat) (a2 : Nat) (x5 : Int32) (x6 : Int32) : Nat → Int32 → Mem → Option (Int32 × Mem)
  | 0, _, _ => none
  | n + 1, x7, μ =>
      (gI 0 2 a2 μ).bind fun v1 =>
      if v1 ≤ x7 then
      some ((x7, μ))
      else
      (gR 0 0 a2 μ).bind fun v3 =>
      (aR 6 v3 x7 μ).bind fun v4 =>
      (gI 6 3 v4 μ).bind fun v5 =>
      ((if (X10_contains x5 v5) = 0 then
      (gR 0 0 a2 μ).bind fun v7 =>
      (aR 6 v7 x7 μ).bind fun v8 =>
      (gI 6 1 v8 μ).bind fun v9 =>
      if (X10_contains x6 v9) = 0 then
      some μ
      else
      (gI 1 1 a0 μ).bind fun v11 =>
      (pI 1 1 a0 (v11 ||| (1 <<< (x7 &&& 31))) μ).bind fun μ12 =>
      some μ12
      else
      (gI 1 0 a0 μ).bind fun v13 =>
      (pI 1 0 a0 (v13 ||| (1 <<< (x7 &&& 31))) μ).bind fun μ14 =>
      some μ14) : Option (Mem)).bind fun z15 =>
      X1_open_L36 a0 a2 x5 x6 n (x7 + 1) z15
def X1_open (a0 : Nat) (a1 : Nat) (a2 : Nat) (x3 : Int32) (a4 : Nat) (μ : Mem) : Option Mem :=
  (vO 3 a1 μ).bind fun g1 =>
  (X3_alwaysFrom a1 μ).bind fun v2 =>
  (vO 3 a1 μ).bind fun g3 =>
  (X3_barredKinds a1 x3 μ).bind fun v4 =>
  (vO 3 a1 μ).bind fun g5 =>
  (X3_barredWays a1 a4 μ).bind fun v6 =>
  (pI 1 2 a0 v6 μ).bind fun μ7 =>
  (pI 1 0 a0 0 μ7).bind fun μ8 =>
  (pI 1 1 a0 0 μ8).bind fun μ9 =>
  (X1_open_L36 a0 a2 v2 v4 FU 0 μ9).bind fun z10 =>
  some z10.2
def X1_isAlways (a0 : Nat) (x1 : Int32) (μ : Mem) : Option Int32 :=
  (gI 1 0 a0 μ).bind fun v1 =>
  (some (if (x1 &&& (v1 ^^^ ((-1)))) = 0 then 1 else 0 : Int32)).bind fun v3 =>
  (zz v3).bind fun v4 =>
  some v4
def X1_bar (a0 : Nat) (x1 : Int32) (x2 : Int32) (x3 : Int32) (μ : Mem) : Option Int32 :=
  (vO 1 a0 μ).bind fun g1 =>
  (X1_isAlways a0 x1 μ).bind fun v2 =>
  if v2 = 0 then
  (gI 1 2 a0 μ).bind fun v9 =>
  if (X10_contains v9 x2) = 0 then
  (gI 1 1 a0 μ).bind fun v11 =>
  if (x1 &&& v11) = 0 then
  (some (if v2 = 0 then if x3 = 0 then 0 else 3 else 0 : Int32)).bind fun v14 =>
  some (v14)
  else
  some (2)
  else
  some (1)
  else
  (gI 1 1 a0 μ).bind fun v4 =>
  if (x1 &&& v4) = 0 then
  (some (if v2 = 0 then if x3 = 0 then 0 else 3 else 0 : Int32)).bind fun v7 =>
  some (v7)
  else
  some (2)
set_option maxRecDepth 100000 in
def X2_init (a0 : Nat) (μ : Mem) : Option Mem :=
  (pI 2 2 a0 ((-1)) μ).bind fun μ1 =>
  (nA 1 (mN μ + 0) 160 μ1).bind fun μ2 =>
  (pR 2 3 a0 (mN μ + 0) μ2).bind fun μ3 =>
  some μ3
def X2_append (a0 : Nat) (x1 : Int32) (μ : Mem) : Option Mem :=
  (gI 2 0 a0 μ).bind fun v1 =>
  ((if (160 : Int32) ≤ v1 then
  some μ
  else
  (gR 2 3 a0 μ).bind fun v3 =>
  (gI 2 0 a0 μ).bind fun v4 =>
  (sI v3 v4 x1 μ).bind fun μ5 =>
  (gI 2 0 a0 μ5).bind fun v6 =>
  (pI 2 0 a0 (v6 + 1) μ5).bind fun μ7 =>
  some μ7) : Option (Mem)).bind fun z8 =>
  some z8
def X2_skipBlanks_L0 (a0 : Nat) : Nat → Mem → Option (Mem)
  | 0, _ => none
  | n + 1, μ =>
      (gI 2 4 a0 μ).bind fun v1 =>
      (gI 2 0 a0 μ).bind fun v2 =>
      if v2 ≤ v1 then
      some μ
      else
      (gR 2 3 a0 μ).bind fun v4 =>
      (gI 2 4 a0 μ).bind fun v5 =>
      (aI v4 v5 μ).bind fun v6 =>
      if v6 = 32 then
      (gI 2 4 a0 μ).bind fun v8 =>
      (pI 2 4 a0 (v8 + 1) μ).bind fun μ9 =>
      X2_skipBlanks_L0 a0 n μ9
      else
      some μ
def X2_skipBlanks (a0 : Nat) (μ : Mem) : Option Mem :=
  (X2_skipBlanks_L0 a0 FU μ).bind fun z1 =>
  some z1
def X2_takeWord_L18 (a0 : Nat) (w1 : Nat) (μ : Mem) : Nat → Int32 → Option (Int32)
  | 0, _ => none
  | n + 1, x2 =>
      (gI 2 0 a0 μ).bind fun v1 =>
      if v1 ≤ x2 then
      some x2
      else
      (gR 2 3 a0 μ).bind fun v3 =>
      (aI v3 x2 μ).bind fun v4 =>
      if v4 < 97 then
      some x2
      else
      (gR 2 3 a0 μ).bind fun v6 =>
      (aI v6 x2 μ).bind fun v7 =>
      if (122 : Int32) < v7 then
      some x2
      else
      X2_takeWord_L18 a0 w1 μ n (x2 + 1)
def X2_takeWord_L71 (a0 : Nat) (w1 : Nat) (x2 : Int32) (μ : Mem) : Nat → Int32 → Option (Int32 × Mem)
  | 0, _ => none
  | n + 1, x3 =>
      (sLe w1).bind fun v1 =>
      if v1 ≤ x3 then
      (pI 2 4 a0 x2 μ).bind fun μ3 =>
      some (1, μ3)
      else
      (gR 2 3 a0 μ).bind fun v4 =>
      (gI 2 4 a0 μ).bind fun v5 =>
      (aI v4 (v5 + x3) μ).bind fun v6 =>
      (sChr w1 x3).bind fun v7 =>
      if v6 = v7 then
      X2_takeWord_L71 a0 w1 x2 μ n (x3 + 1)
      else
      some (0, μ)
def X2_takeWord (a0 : Nat) (w1 : Nat) (μ : Mem) : Option (Int32 × Mem) :=
  (gI 2 1 a0 μ).bind fun v1 =>
  if v1 = 0 then
  (vO 2 a0 μ).bind fun g3 =>
  (X2_skipBlanks a0 μ).bind fun μ4 =>
  (gI 2 4 a0 μ4).bind fun v5 =>
  (X2_takeWord_L18 a0 w1 μ4 FU v5).bind fun z6 =>
  (gI 2 4 a0 μ4).bind fun v7 =>
  (sLe w1).bind fun v8 =>
  if (z6 - v7) = v8 then
  X2_takeWord_L71 a0 w1 z6 μ4 FU 0
  else
  some (0, μ4)
  else
  some (0, μ)
def X2_note (a0 : Nat) (x1 : Int32) (x2 : Int32) (μ : Mem) : Option Mem :=
  (gI 2 1 a0 μ).bind fun v1 =>
  ((if v1 = 0 then
  (pI 2 1 a0 x1 μ).bind fun μ3 =>
  (pI 2 2 a0 x2 μ3).bind fun μ4 =>
  some μ4
  else
  some μ) : Option (Mem)).bind fun z5 =>
  some z5
def X2_refuseNinth (a0 : Nat) (a1 : Nat) (x2 : Int32) (μ : Mem) : Option Mem :=
  (gI 3 0 a1 μ).bind fun v1 =>
  ((if v1 < 8 then
  some μ
  else
  (vO 2 a0 μ).bind fun g3 =>
  (X2_note a0 3 x2 μ).bind fun μ4 =>
  some μ4) : Option (Mem)).bind fun z5 =>
  some z5
def X10_within (x0 : Int32) (x1 : Int32) (x2 : Int32) : Int32 :=
  (if x0 < x1 then 0 else if x2 < x0 then 0 else 1)
def X2_takeNumber_L21 (a0 : Nat) (x1 : Int32) (x2 : Int32) (x3 : Int32) : Nat → Int32 → Mem → Option (Int32 × Mem)
  | 0, _, _ => none
  | n + 1, x4, μ =>
      (gI 2 4 a0 μ).bind fun v1 =>
      (gI 2 0 a0 μ).bind fun v2 =>
      if v2 ≤ v1 then
      some ((x4, μ))
      else
      (gR 2 3 a0 μ).bind fun v4 =>
      (gI 2 4 a0 μ).bind fun v5 =>
      (aI v4 v5 μ).bind fun v6 =>
      if v6 < 48 then
      some ((x4, μ))
      else
      (gR 2 3 a0 μ).bind fun v8 =>
      (gI 2 4 a0 μ).bind fun v9 =>
      (aI v8 v9 μ).bind fun v10 =>
      if (57 : Int32) < v10 then
      some ((x4, μ))
      else
      (gI 2 4 a0 μ).bind fun v12 =>
      ((if (3 : Int32) ≤ (v12 - x3) then
      some x4
      else
      (gR 2 3 a0 μ).bind fun v14 =>
      (gI 2 4 a0 μ).bind fun v15 =>
      (aI v14 v15 μ).bind fun v16 =>
      some (((x4 * 10) + v16) - 48)) : Option (Int32)).bind fun z17 =>
      (gI 2 4 a0 μ).bind fun v18 =>
      (pI 2 4 a0 (v18 + 1) μ).bind fun μ19 =>
      X2_takeNumber_L21 a0 x1 x2 x3 n z17 μ19
def X2_takeNumber (a0 : Nat) (x1 : Int32) (x2 : Int32) (μ : Mem) : Option (Int32 × Mem) :=
  (gI 2 1 a0 μ).bind fun v1 =>
  if v1 = 0 then
  (vO 2 a0 μ).bind fun g3 =>
  (X2_skipBlanks a0 μ).bind fun μ4 =>
  (gI 2 4 a0 μ4).bind fun v5 =>
  (X2_takeNumber_L21 a0 x1 x2 v5 FU 0 μ4).bind fun z6 =>
  (gI 2 4 a0 z6.2).bind fun v7 =>
  ((if v7 = v5 then
  (vO 2 a0 z6.2).bind fun g16 =>
  (X2_note a0 1 v5 z6.2).bind fun μ17 =>
  some μ17
  else
  (gI 2 4 a0 z6.2).bind fun v9 =>
  if (3 : Int32) < (v9 - v5) then
  (vO 2 a0 z6.2).bind fun g11 =>
  (X2_note a0 2 v5 z6.2).bind fun μ12 =>
  some μ12
  else
  if (X10_within z6.1 x1 x2) = 0 then
  (vO 2 a0 z6.2).bind fun g14 =>
  (X2_note a0 2 v5 z6.2).bind fun μ15 =>
  some μ15
  else
  some z6.2) : Option (Mem)).bind fun z18 =>
  some (z6.1, z18)
  else
  some (0, μ)
def X3_add (a0 : Nat) (x1 : Int32) (x2 : Int32) (x3 : Int32) (x4 : Int32) (μ : Mem) : Option Mem :=
  (gI 3 0 a0 μ).bind fun v1 =>
  ((if (8 : Int32) ≤ v1 then
  some μ
  else
  (gR 3 1 a0 μ).bind fun v3 =>
  (gI 3 0 a0 μ).bind fun v4 =>
  (sI v3 v4 x1 μ).bind fun μ5 =>
  (gR 3 2 a0 μ5).bind fun v6 =>
  (gI 3 0 a0 μ5).bind fun v7 =>
  (sI v6 v7 x2 μ5).bind fun μ8 =>
  (gR 3 3 a0 μ8).bind fun v9 =>
  (gI 3 0 a0 μ8).bind fun v10 =>
  (sI v9 v10 x3 μ8).bind fun μ11 =>
  (gR 3 4 a0 μ11).bind fun v12 =>
  (gI 3 0 a0 μ11).bind fun v13 =>
  (sI v12 v13 x4 μ11).bind fun μ14 =>
  (gI 3 0 a0 μ14).bind fun v15 =>
  (pI 3 0 a0 (v15 + 1) μ14).bind fun μ16 =>
  some μ16) : Option (Mem)).bind fun z17 =>
  some z17
def X2_finish (a0 : Nat) (a1 : Nat) (x2 : Int32) (x3 : Int32) (x4 : Int32) (x5 : Int32) (μ : Mem) : Option Mem :=
  (vO 2 a0 μ).bind fun g1 =>
  (X2_skipBlanks a0 μ).bind fun μ2 =>
  (gI 2 4 a0 μ2).bind fun v3 =>
  (gI 2 0 a0 μ2).bind fun v4 =>
  ((if v4 ≤ v3 then
  (gI 2 4 a0 μ2).bind fun v6 =>
  (vO 2 a0 μ2).bind fun g7 =>
  (X2_note a0 1 v6 μ2).bind fun μ8 =>
  some μ8
  else
  (gR 2 3 a0 μ2).bind fun v9 =>
  (gI 2 4 a0 μ2).bind fun v10 =>
  (aI v9 v10 μ2).bind fun v11 =>
  if v11 = 59 then
  some μ2
  else
  (gI 2 4 a0 μ2).bind fun v13 =>
  (vO 2 a0 μ2).bind fun g14 =>
  (X2_note a0 1 v13 μ2).bind fun μ15 =>
  some μ15) : Option (Mem)).bind fun z16 =>
  (gI 2 1 a0 z16).bind fun v17 =>
  ((if v17 = 0 then
  (gI 2 4 a0 z16).bind fun v19 =>
  (pI 2 4 a0 (v19 + 1) z16).bind fun μ20 =>
  (vO 3 a1 μ20).bind fun g21 =>
  (X3_add a1 x2 x3 x4 x5 μ20).bind fun μ22 =>
  some μ22
  else
  some z16) : Option (Mem)).bind fun z23 =>
  some z23
def X2_needWord (a0 : Nat) (w1 : Nat) (μ : Mem) : Option Mem :=
  (vO 2 a0 μ).bind fun g1 =>
  (X2_takeWord a0 w1 μ).bind fun z2 =>
  ((if z2.1 = 0 then
  (gI 2 4 a0 z2.2).bind fun v4 =>
  (vO 2 a0 z2.2).bind fun g5 =>
  (X2_note a0 1 v4 z2.2).bind fun μ6 =>
  some μ6
  else
  some z2.2) : Option (Mem)).bind fun z7 =>
  some z7
def X2_readNever (a0 : Nat) (a1 : Nat) (μ : Mem) : Option Mem :=
  (vO 2 a0 μ).bind fun g1 =>
  (X2_takeWord a0 1 μ).bind fun z2 =>
  ((if z2.1 = 0 then
  (vO 2 a0 z2.2).bind fun g4 =>
  (X2_needWord a0 3 z2.2).bind fun μ5 =>
  (vO 2 a0 μ5).bind fun g6 =>
  (X2_takeNumber a0 0 3 μ5).bind fun z7 =>
  (vO 2 a0 z7.2).bind fun g8 =>
  (X2_needWord a0 4 z7.2).bind fun μ9 =>
  (vO 2 a0 μ9).bind fun g10 =>
  (X2_takeNumber a0 0 60 μ9).bind fun z11 =>
  (vO 2 a0 z11.2).bind fun g12 =>
  (X2_finish a0 a1 2 z7.1 z11.1 0 z11.2).bind fun μ13 =>
  some μ13
  else
  (vO 2 a0 z2.2).bind fun g14 =>
  (X2_takeNumber a0 0 3 z2.2).bind fun z15 =>
  (vO 2 a0 z15.2).bind fun g16 =>
  (X2_takeWord a0 2 z15.2).bind fun z17 =>
  ((if z17.1 = 0 then
  (vO 2 a0 z17.2).bind fun g19 =>
  (X2_finish a0 a1 0 z15.1 0 0 z17.2).bind fun μ20 =>
  some μ20
  else
  (vO 2 a0 z17.2).bind fun g21 =>
  (X2_takeNumber a0 0 3 z17.2).bind fun z22 =>
  (vO 2 a0 z22.2).bind fun g23 =>
  (X2_takeNumber a0 0 100 z22.2).bind fun z24 =>
  (vO 2 a0 z24.2).bind fun g25 =>
  (X2_finish a0 a1 1 z15.1 z22.1 z24.1 z24.2).bind fun μ26 =>
  some μ26) : Option (Mem)).bind fun z27 =>
  some z27) : Option (Mem)).bind fun z28 =>
  some z28
def X2_readClause (a0 : Nat) (a1 : Nat) (μ : Mem) : Option Mem :=
  (gI 2 4 a0 μ).bind fun v1 =>
  (vO 2 a0 μ).bind fun g2 =>
  (X2_takeWord a0 0 μ).bind fun z3 =>
  ((if z3.1 = 0 then
  (vO 2 a0 z3.2).bind fun g5 =>
  (X2_takeWord a0 5 z3.2).bind fun z6 =>
  if z6.1 = 0 then
  (vO 2 a0 z6.2).bind fun g8 =>
  (X2_takeWord a0 7 z6.2).bind fun z9 =>
  if z9.1 = 0 then
  (gI 2 4 a0 z9.2).bind fun v11 =>
  (vO 2 a0 z9.2).bind fun g12 =>
  (X2_note a0 1 v11 z9.2).bind fun μ13 =>
  some μ13
  else
  (vO 2 a0 z9.2).bind fun g14 =>
  (X2_refuseNinth a0 a1 v1 z9.2).bind fun μ15 =>
  (vO 2 a0 μ15).bind fun g16 =>
  (X2_needWord a0 8 μ15).bind fun μ17 =>
  (vO 2 a0 μ17).bind fun g18 =>
  (X2_takeNumber a0 0 9 μ17).bind fun z19 =>
  (vO 2 a0 z19.2).bind fun g20 =>
  (X2_finish a0 a1 4 z19.1 0 0 z19.2).bind fun μ21 =>
  some μ21
  else
  (vO 2 a0 z6.2).bind fun g22 =>
  (X2_refuseNinth a0 a1 v1 z6.2).bind fun μ23 =>
  (vO 2 a0 μ23).bind fun g24 =>
  (X2_takeNumber a0 0 9 μ23).bind fun z25 =>
  (vO 2 a0 z25.2).bind fun g26 =>
  (X2_needWord a0 6 z25.2).bind fun μ27 =>
  (vO 2 a0 μ27).bind fun g28 =>
  (X2_takeNumber a0 1 60 μ27).bind fun z29 =>
  (vO 2 a0 z29.2).bind fun g30 =>
  (X2_finish a0 a1 3 z25.1 z29.1 0 z29.2).bind fun μ31 =>
  some μ31
  else
  (vO 2 a0 z3.2).bind fun g32 =>
  (X2_refuseNinth a0 a1 v1 z3.2).bind fun μ33 =>
  (vO 2 a0 μ33).bind fun g34 =>
  (X2_readNever a0 a1 μ33).bind fun μ35 =>
  some μ35) : Option (Mem)).bind fun z36 =>
  some z36
def X2_parse_L26 (a0 : Nat) (a1 : Nat) : Nat → Int32 → Mem → Option (Int32 × Mem)
  | 0, _, _ => none
  | n + 1, x2, μ =>
      if (160 : Int32) ≤ x2 then
      some ((x2, μ))
      else
      (gI 2 4 a0 μ).bind fun v2 =>
      (gI 2 0 a0 μ).bind fun v3 =>
      if v3 ≤ v2 then
      some ((x2, μ))
      else
      (gI 2 1 a0 μ).bind fun v5 =>
      if v5 = 0 then
      (vO 2 a0 μ).bind fun g7 =>
      (X2_readClause a0 a1 μ).bind fun μ8 =>
      (vO 2 a0 μ8).bind fun g9 =>
      (X2_skipBlanks a0 μ8).bind fun μ10 =>
      X2_parse_L26 a0 a1 n (x2 + 1) μ10
      else
      some ((x2, μ))
def X2_parse (a0 : Nat) (a1 : Nat) (μ : Mem) : Option Mem :=
  (pI 2 4 a0 0 μ).bind fun μ1 =>
  (pI 2 1 a0 0 μ1).bind fun μ2 =>
  (pI 2 2 a0 ((-1)) μ2).bind fun μ3 =>
  (pI 3 0 a1 0 μ3).bind fun μ4 =>
  (vO 2 a0 μ4).bind fun g5 =>
  (X2_skipBlanks a0 μ4).bind fun μ6 =>
  (X2_parse_L26 a0 a1 FU 0 μ6).bind fun z7 =>
  some z7.2
set_option maxRecDepth 100000 in
def X3_init (a0 : Nat) (μ : Mem) : Option Mem :=
  (nA 1 (mN μ + 0) 8 μ).bind fun μ1 =>
  (pR 3 1 a0 (mN μ + 0) μ1).bind fun μ2 =>
  (nA 1 (mN μ + 1) 8 μ2).bind fun μ3 =>
  (pR 3 2 a0 (mN μ + 1) μ3).bind fun μ4 =>
  (nA 1 (mN μ + 2) 8 μ4).bind fun μ5 =>
  (pR 3 3 a0 (mN μ + 2) μ5).bind fun μ6 =>
  (nA 1 (mN μ + 3) 8 μ6).bind fun μ7 =>
  (pR 3 4 a0 (mN μ + 3) μ7).bind fun μ8 =>
  some μ8
def X3_countsSayings_L2 (a0 : Nat) (μ : Mem) : Nat → Int32 → Option (Int32)
  | 0, _ => none
  | n + 1, x1 =>
      (gI 3 0 a0 μ).bind fun v1 =>
      if v1 ≤ x1 then
      some 0
      else
      (gR 3 1 a0 μ).bind fun v3 =>
      (aI v3 x1 μ).bind fun v4 =>
      if v4 = 3 then
      some 1
      else
      X3_countsSayings_L2 a0 μ n (x1 + 1)
def X3_countsSayings (a0 : Nat) (μ : Mem) : Option Int32 :=
  X3_countsSayings_L2 a0 μ FU 0
def X3_saidWithin_L9 (a0 : Nat) (x2 : Int32) (μ : Mem) : Nat → Int32 → Int32 → Option (Int32 × Int32)
  | 0, _, _ => none
  | n + 1, x3, x4 =>
      if x2 < x4 then
      some ((x3, x4))
      else
      (aL a0 μ).bind fun v2 =>
      if v2 ≤ x4 then
      some ((x3, x4))
      else
      (aI a0 x4 μ).bind fun v4 =>
      (some (x3 + v4 : Int32)).bind fun v5 =>
      X3_saidWithin_L9 a0 x2 μ n v5 (x4 + 1)
def X3_saidWithin (a0 : Nat) (x1 : Int32) (x2 : Int32) (μ : Mem) : Option Int32 :=
  (some (if (0 : Int32) < x1 then x1 else 0 : Int32)).bind fun v1 =>
  (X3_saidWithin_L9 a0 x2 μ FU 0 v1).bind fun z2 =>
  some (z2.1)
def X3_mostBars_L2 (a0 : Nat) (a1 : Nat) (x2 : Int32) (μ : Mem) : Nat → Int32 → Option (Int32)
  | 0, _ => none
  | n + 1, x3 =>
      (gI 3 0 a0 μ).bind fun v1 =>
      if v1 ≤ x3 then
      some 0
      else
      (gR 3 1 a0 μ).bind fun v3 =>
      (aI v3 x3 μ).bind fun v4 =>
      if v4 = 3 then
      (gR 3 3 a0 μ).bind fun v6 =>
      (aI v6 x3 μ).bind fun v7 =>
      (X3_saidWithin a1 ((x2 - v7) + 1) x2 μ).bind fun v8 =>
      (gR 3 2 a0 μ).bind fun v9 =>
      (aI v9 x3 μ).bind fun v10 =>
      if v8 < v10 then
      X3_mostBars_L2 a0 a1 x2 μ n (x3 + 1)
      else
      some 1
      else
      X3_mostBars_L2 a0 a1 x2 μ n (x3 + 1)
def X3_mostBars (a0 : Nat) (a1 : Nat) (x2 : Int32) (μ : Mem) : Option Int32 :=
  X3_mostBars_L2 a0 a1 x2 μ FU 0
set_option maxRecDepth 100000 in
def X4_init (a0 : Nat) (a1 : Nat) (a2 : Nat) (a3 : Nat) (μ : Mem) : Option Mem :=
  (nA 1 (mN μ + 0) 6 μ).bind fun μ1 =>
  (pR 4 1 a0 (mN μ + 0) μ1).bind fun μ2 =>
  (nA 1 (mN μ + 1) 6 μ2).bind fun μ3 =>
  (pR 4 2 a0 (mN μ + 1) μ3).bind fun μ4 =>
  (nO 1 (mN μ + 2) μ4).bind fun μ5 =>
  (gN (mN μ + 3) μ5).bind fun g6 =>
  (X1_init (mN μ + 2) μ5).bind fun μ7 =>
  (pR 4 6 a0 (mN μ + 2) μ7).bind fun μ8 =>
  (nA 1 (mN μ + 3) 6 μ8).bind fun μ9 =>
  (pR 4 7 a0 (mN μ + 3) μ9).bind fun μ10 =>
  (nA 1 (mN μ + 4) 64 μ10).bind fun μ11 =>
  (pR 4 8 a0 (mN μ + 4) μ11).bind fun μ12 =>
  (nA 1 (mN μ + 5) 64 μ12).bind fun μ13 =>
  (pR 4 9 a0 (mN μ + 5) μ13).bind fun μ14 =>
  (nA 1 (mN μ + 6) 64 μ14).bind fun μ15 =>
  (pR 4 10 a0 (mN μ + 6) μ15).bind fun μ16 =>
  (nA 1 (mN μ + 7) 4 μ16).bind fun μ17 =>
  (pR 4 11 a0 (mN μ + 7) μ17).bind fun μ18 =>
  (nA 1 (mN μ + 8) 384 μ18).bind fun μ19 =>
  (pR 4 12 a0 (mN μ + 8) μ19).bind fun μ20 =>
  (nA 1 (mN μ + 9) 384 μ20).bind fun μ21 =>
  (pR 4 13 a0 (mN μ + 9) μ21).bind fun μ22 =>
  (nA 1 (mN μ + 10) 4096 μ22).bind fun μ23 =>
  (pR 4 14 a0 (mN μ + 10) μ23).bind fun μ24 =>
  (nA 1 (mN μ + 11) 66 μ24).bind fun μ25 =>
  (pR 4 15 a0 (mN μ + 11) μ25).bind fun μ26 =>
  (pR 4 3 a0 a1 μ26).bind fun μ27 =>
  (pR 4 4 a0 a2 μ27).bind fun μ28 =>
  (pR 4 5 a0 a3 μ28).bind fun μ29 =>
  some μ29
def X4_pick_L7 (a0 : Nat) (x1 : Int32) (x2 : Int32) : Nat → Int32 → Mem → Option (Int32 × Mem)
  | 0, _, _ => none
  | n + 1, x3, μ =>
      (gR 4 5 a0 μ).bind fun v1 =>
      (gI 0 2 v1 μ).bind fun v2 =>
      if v2 ≤ x3 then
      some ((x3, μ))
      else
      (gI 4 16 a0 μ).bind fun v4 =>
      if (6 : Int32) ≤ v4 then
      some ((x3, μ))
      else
      (gR 4 5 a0 μ).bind fun v6 =>
      (gR 0 0 v6 μ).bind fun v7 =>
      (aR 6 v7 x3 μ).bind fun v8 =>
      (gI 6 0 v8 μ).bind fun v9 =>
      ((if (X10_contains v9 x1) = 0 then
      some μ
      else
      (gR 4 5 a0 μ).bind fun v11 =>
      (vO 0 v11 μ).bind fun g12 =>
      (X0_standing v11 x3 x2 μ).bind fun v13 =>
      if v13 = 0 then
      (gR 4 7 a0 μ).bind fun v15 =>
      (gI 4 16 a0 μ).bind fun v16 =>
      (sI v15 v16 x3 μ).bind fun μ17 =>
      (gI 4 16 a0 μ17).bind fun v18 =>
      (pI 4 16 a0 (v18 + 1) μ17).bind fun μ19 =>
      some μ19
      else
      some μ) : Option (Mem)).bind fun z20 =>
      X4_pick_L7 a0 x1 x2 n (x3 + 1) z20
def X4_pick_L123 (a0 : Nat) (x3 : Int32) (x4 : Int32) : Nat → Int32 → Mem → Option (Int32 × Mem)
  | 0, _, _ => none
  | n + 1, x5, μ =>
      if ((1 : Int32) <<< (x3 &&& 31)) ≤ x5 then
      some ((x5, μ))
      else
      (some (x5 ||| (1 <<< (x3 &&& 31)) : Int32)).bind fun v2 =>
      (gR 4 8 a0 μ).bind fun v3 =>
      (gR 4 8 a0 μ).bind fun v4 =>
      (aI v4 x5 μ).bind fun v5 =>
      (gR 4 7 a0 μ).bind fun v6 =>
      (aI v6 x3 μ).bind fun v7 =>
      (sI v3 v2 (v5 ||| (1 <<< (v7 &&& 31))) μ).bind fun μ8 =>
      (gR 4 9 a0 μ8).bind fun v9 =>
      ((if x5 = 0 then
      some x4
      else
      (gR 4 9 a0 μ8).bind fun v11 =>
      (aI v11 x5 μ8).bind fun v12 =>
      if v12 = x4 then
      some x4
      else
      some ((-1))) : Option (Int32)).bind fun z14 =>
      (sI v9 v2 z14 μ8).bind fun μ15 =>
      X4_pick_L123 a0 x3 x4 n (x5 + 1) μ15
def X4_pick_L93 (a0 : Nat) : Nat → Int32 → Mem → Option (Int32 × Mem)
  | 0, _, _ => none
  | n + 1, x3, μ =>
      (gI 4 16 a0 μ).bind fun v1 =>
      if v1 ≤ x3 then
      some ((x3, μ))
      else
      (gR 4 5 a0 μ).bind fun v3 =>
      (gR 0 0 v3 μ).bind fun v4 =>
      (gR 4 7 a0 μ).bind fun v5 =>
      (aI v5 x3 μ).bind fun v6 =>
      (aR 6 v4 v6 μ).bind fun v7 =>
      (gI 6 2 v7 μ).bind fun v8 =>
      (X4_pick_L123 a0 x3 v8 FU 0 μ).bind fun z9 =>
      X4_pick_L93 a0 n (x3 + 1) z9.2
def X4_pick (a0 : Nat) (x1 : Int32) (x2 : Int32) (μ : Mem) : Option Mem :=
  (pI 4 16 a0 0 μ).bind fun μ1 =>
  (X4_pick_L7 a0 x1 x2 FU 0 μ1).bind fun z2 =>
  (gR 4 8 a0 z2.2).bind fun v3 =>
  (sI v3 0 0 z2.2).bind fun μ4 =>
  (X4_pick_L93 a0 FU 0 μ4).bind fun z5 =>
  some z5.2
def X9_factor (x0 : Int32) (x1 : Int32) : Int64 :=
  (if x1 = 0 then x0.toInt64 else if x0 ≤ 0 then x0.toInt64 else 1)
def X9_signFactor (a0 : Nat) (x1 : Int32) (x2 : Int32) (x3 : Int32) (μ : Mem) : Option Int64 :=
  ((if x2 < 0 then
  some 1
  else
  if x2 < 4 then
  (gR 9 1 a0 μ).bind fun v3 =>
  (aR 7 v3 x1 μ).bind fun v4 =>
  (aI v4 x2 μ).bind fun v5 =>
  some (X9_factor v5 x3)
  else
  some 1) : Option (Int64)).bind fun z6 =>
  some (z6)
def X9_weigh_L19 (a0 : Nat) (x1 : Int32) (x2 : Int32) (x3 : Int32) (x4 : Int32) : Nat → Int32 → Mem → Option (Int32 × Mem)
  | 0, _, _ => none
  | n + 1, x5, μ =>
      if (4 : Int32) ≤ x5 then
      some ((x5, μ))
      else
      (gR 9 6 a0 μ).bind fun v2 =>
      (gR 9 2 a0 μ).bind fun v3 =>
      (aI v3 x5 μ).bind fun v4 =>
      (gR 9 3 a0 μ).bind fun v5 =>
      (aR 7 v5 x1 μ).bind fun v6 =>
      (aI v6 x4 μ).bind fun v7 =>
      (vO 9 a0 μ).bind fun g8 =>
      (X9_signFactor a0 x5 v7 x3 μ).bind fun v9 =>
      (sJ v2 x5 ((X9_factor v4 x3) * v9) μ).bind fun μ10 =>
      X9_weigh_L19 a0 x1 x2 x3 x4 n (x5 + 1) μ10
def X9_weigh_L93 (a0 : Nat) (x1 : Int32) (x2 : Int32) (x3 : Int32) (x5 : Int32) (x6 : Int32) (μ : Mem) : Nat → Int64 → Int32 → Option (Int64 × Int32)
  | 0, _, _ => none
  | n + 1, j7, x9 =>
      if (4 : Int32) ≤ x9 then
      some ((j7, x9))
      else
      (gR 9 6 a0 μ).bind fun v2 =>
      (aJ v2 x9 μ).bind fun v3 =>
      (gR 9 0 a0 μ).bind fun v4 =>
      (aR 7 v4 x9 μ).bind fun v5 =>
      (aI v5 x6 μ).bind fun v6 =>
      (some (j7 + (v3 * (X9_factor v6 x3)) : Int64)).bind fun v7 =>
      X9_weigh_L93 a0 x1 x2 x3 x5 x6 μ n v7 (x9 + 1)
def X9_weigh_L81 (a0 : Nat) (x1 : Int32) (x2 : Int32) (x3 : Int32) (x5 : Int32) : Nat → Int32 → Mem → Option (Int32 × Mem)
  | 0, _, _ => none
  | n + 1, x6, μ =>
      if (4 : Int32) ≤ x6 then
      some ((x6, μ))
      else
      (X9_weigh_L93 a0 x1 x2 x3 x5 x6 μ FU 0 0).bind fun z2 =>
      (gR 9 7 a0 μ).bind fun v3 =>
      (gR 9 3 a0 μ).bind fun v4 =>
      (aR 7 v4 x1 μ).bind fun v5 =>
      (aI v5 x5 μ).bind fun v6 =>
      (vO 9 a0 μ).bind fun g7 =>
      (X9_signFactor a0 x6 v6 x3 μ).bind fun v8 =>
      (sJ v3 x6 (z2.1 * v8) μ).bind fun μ9 =>
      X9_weigh_L81 a0 x1 x2 x3 x5 n (x6 + 1) μ9
def X9_weigh_L72 (a0 : Nat) (x1 : Int32) (x2 : Int32) (x3 : Int32) : Nat → Int32 → Mem → Option (Int32 × Mem)
  | 0, _, _ => none
  | n + 1, x5, μ =>
      if x2 < x5 then
      some ((x5, μ))
      else
      (X9_weigh_L81 a0 x1 x2 x3 x5 FU 0 μ).bind fun z2 =>
      (gR 9 6 a0 z2.2).bind fun v3 =>
      (gR 9 7 a0 z2.2).bind fun v4 =>
      (pR 9 6 a0 v4 z2.2).bind fun μ5 =>
      (pR 9 7 a0 v3 μ5).bind fun μ6 =>
      X9_weigh_L72 a0 x1 x2 x3 n (x5 + 1) μ6
def X9_weigh (a0 : Nat) (x1 : Int32) (x2 : Int32) (x3 : Int32) (μ : Mem) : Option Mem :=
  (some (if x2 ≤ 6 then 0 else x2 - 6 : Int32)).bind fun v2 =>
  (X9_weigh_L19 a0 x1 x2 x3 v2 FU 0 μ).bind fun z3 =>
  (some (v2 + 1 : Int32)).bind fun v4 =>
  (X9_weigh_L72 a0 x1 x2 x3 FU v4 z3.2).bind fun z5 =>
  some z5.2
def X9_allWeights (a0 : Nat) (μ : Mem) : Option Int64 :=
  (gR 9 6 a0 μ).bind fun v1 =>
  (aJ v1 0 μ).bind fun v2 =>
  (gR 9 6 a0 μ).bind fun v3 =>
  (aJ v3 1 μ).bind fun v4 =>
  (gR 9 6 a0 μ).bind fun v5 =>
  (aJ v5 2 μ).bind fun v6 =>
  (gR 9 6 a0 μ).bind fun v7 =>
  (aJ v7 3 μ).bind fun v8 =>
  some (((v2 + v4) + v6) + v8)
def X9_moveOn_L2 (a0 : Nat) (a1 : Nat) (a2 : Nat) : Nat → Int32 → Mem → Option (Int32 × Mem)
  | 0, _, _ => none
  | n + 1, x3, μ =>
      if (4 : Int32) ≤ x3 then
      some ((x3, μ))
      else
      (sI a2 x3 0 μ).bind fun μ2 =>
      X9_moveOn_L2 a0 a1 a2 n (x3 + 1) μ2
def X9_moveOn_L69 (a0 : Nat) (a1 : Nat) (a2 : Nat) (x3 : Int32) (x4 : Int32) : Nat → Int32 → Mem → Option (Int32 × Mem)
  | 0, _, _ => none
  | n + 1, x5, μ =>
      if (4 : Int32) ≤ x5 then
      some ((x5, μ))
      else
      (aI a2 x5 μ).bind fun v2 =>
      (aI a1 x3 μ).bind fun v3 =>
      (gR 9 0 a0 μ).bind fun v4 =>
      (aR 7 v4 x3 μ).bind fun v5 =>
      (aI v5 x5 μ).bind fun v6 =>
      (dvI (v3 * v6) x4).bind fun v7 =>
      (sI a2 x5 (v2 + v7) μ).bind fun μ8 =>
      X9_moveOn_L69 a0 a1 a2 x3 x4 n (x5 + 1) μ8
def X9_moveOn_L19 (a0 : Nat) (a1 : Nat) (a2 : Nat) : Nat → Int32 → Mem → Option (Int32 × Mem)
  | 0, _, _ => none
  | n + 1, x3, μ =>
      if (4 : Int32) ≤ x3 then
      some ((x3, μ))
      else
      (gR 9 0 a0 μ).bind fun v2 =>
      (aR 7 v2 x3 μ).bind fun v3 =>
      (aI v3 0 μ).bind fun v4 =>
      (gR 9 0 a0 μ).bind fun v5 =>
      (aR 7 v5 x3 μ).bind fun v6 =>
      (aI v6 1 μ).bind fun v7 =>
      (gR 9 0 a0 μ).bind fun v8 =>
      (aR 7 v8 x3 μ).bind fun v9 =>
      (aI v9 2 μ).bind fun v10 =>
      (gR 9 0 a0 μ).bind fun v11 =>
      (aR 7 v11 x3 μ).bind fun v12 =>
      (aI v12 3 μ).bind fun v13 =>
      (some (((v4 + v7) + v10) + v13 : Int32)).bind fun v14 =>
      ((if v14 ≤ 0 then
      some μ
      else
      (X9_moveOn_L69 a0 a1 a2 x3 v14 FU 0 μ).bind fun z16 =>
      some z16.2) : Option (Mem)).bind fun z17 =>
      X9_moveOn_L19 a0 a1 a2 n (x3 + 1) z17
def X9_moveOn (a0 : Nat) (a1 : Nat) (a2 : Nat) (μ : Mem) : Option Mem :=
  (X9_moveOn_L2 a0 a1 a2 FU 0 μ).bind fun z1 =>
  (X9_moveOn_L19 a0 a1 a2 FU 0 z1.2).bind fun z2 =>
  some z2.2
def X9_lookAhead_L16 (a0 : Nat) (x3 : Int32) (j4 : Int64) : Nat → Int32 → Mem → Option (Int32 × Mem)
  | 0, _, _ => none
  | n + 1, x6, μ =>
      if (4 : Int32) ≤ x6 then
      some ((x6, μ))
      else
      (gR 9 4 a0 μ).bind fun v2 =>
      (aR 7 v2 0 μ).bind fun v3 =>
      ((if (0 : Int32) < (lg_cmp j4 0) then
      (gR 9 6 a0 μ).bind fun v5 =>
      (aJ v5 x6 μ).bind fun v6 =>
      (dvJ (v6 * 1000000) j4).bind fun v7 =>
      some v7.toInt32
      else
      some 0) : Option (Int32)).bind fun z8 =>
      (sI v3 x6 z8 μ).bind fun μ9 =>
      X9_lookAhead_L16 a0 x3 j4 n (x6 + 1) μ9
def X9_lookAhead_L66 (a0 : Nat) (x3 : Int32) : Nat → Int32 → Mem → Option (Int32 × Mem)
  | 0, _, _ => none
  | n + 1, x6, μ =>
      if x3 < x6 then
      some ((x6, μ))
      else
      if (8 : Int32) < x6 then
      some ((x6, μ))
      else
      (gR 9 4 a0 μ).bind fun v3 =>
      (aR 7 v3 (x6 - 1) μ).bind fun v4 =>
      (gR 9 4 a0 μ).bind fun v5 =>
      (aR 7 v5 x6 μ).bind fun v6 =>
      (vO 9 a0 μ).bind fun g7 =>
      (X9_moveOn a0 v4 v6 μ).bind fun μ8 =>
      X9_lookAhead_L66 a0 x3 n (x6 + 1) μ8
def X9_lookAhead (a0 : Nat) (x1 : Int32) (x2 : Int32) (x3 : Int32) (μ : Mem) : Option Mem :=
  (vO 9 a0 μ).bind fun g1 =>
  (X9_weigh a0 x1 x2 0 μ).bind fun μ2 =>
  (vO 9 a0 μ2).bind fun g3 =>
  (X9_allWeights a0 μ2).bind fun v4 =>
  (X9_lookAhead_L16 a0 x3 v4 FU 0 μ2).bind fun z5 =>
  (X9_lookAhead_L66 a0 x3 FU 1 z5.2).bind fun z6 =>
  some z6.2
def X8_lossBy_L5 (a0 : Nat) (x1 : Int32) (a2 : Nat) (μ : Mem) : Nat → Int32 → Int32 → Option (Int32 × Int32)
  | 0, _, _ => none
  | n + 1, x3, x4 =>
      if (4 : Int32) ≤ x4 then
      some ((x3, x4))
      else
      (aI a2 x4 μ).bind fun v2 =>
      (gR 8 0 a0 μ).bind fun v3 =>
      (aR 7 v3 x1 μ).bind fun v4 =>
      (aI v4 x4 μ).bind fun v5 =>
      (dvJ (v2.toInt64 * v5.toInt64) 1000000).bind fun v6 =>
      (some (x3 + v6.toInt32 : Int32)).bind fun v7 =>
      X8_lossBy_L5 a0 x1 a2 μ n v7 (x4 + 1)
def X8_lossBy (a0 : Nat) (x1 : Int32) (a2 : Nat) (μ : Mem) : Option Int32 :=
  (X8_lossBy_L5 a0 x1 a2 μ FU 0 0).bind fun z1 =>
  some (z1.1)
def X9_seamOdds_L4 (a0 : Nat) (x1 : Int32) (μ : Mem) : Nat → Int32 → Int32 → Option (Int32 × Int32)
  | 0, _, _ => none
  | n + 1, x2, x3 =>
      if (4 : Int32) ≤ x3 then
      some ((x2, x3))
      else
      (gI 9 5 a0 μ).bind fun v2 =>
      ((if (X10_contains v2 x3) = 0 then
      some x2
      else
      (gR 9 4 a0 μ).bind fun v4 =>
      (aR 7 v4 x1 μ).bind fun v5 =>
      (aI v5 x3 μ).bind fun v6 =>
      some (x2 + v6)) : Option (Int32)).bind fun z7 =>
      X9_seamOdds_L4 a0 x1 μ n z7 (x3 + 1)
def X9_seamOdds (a0 : Nat) (x1 : Int32) (μ : Mem) : Option Int32 :=
  (X9_seamOdds_L4 a0 x1 μ FU 0 0).bind fun z1 =>
  some (z1.1)
def X6_isMust (a0 : Nat) (μ : Mem) : Option Int32 :=
  (gI 6 1 a0 μ).bind fun v1 =>
  ((if v1 = 0 then
  some 1
  else
  (gI 6 1 a0 μ).bind fun v3 =>
  if v3 = 3 then
  some 1
  else
  some 0) : Option (Int32)).bind fun z5 =>
  (zz z5).bind fun v6 =>
  some v6
def X6_valueIn (a0 : Nat) (x1 : Int32) (x2 : Int32) (μ : Mem) : Option Int32 :=
  (gI 6 8 a0 μ).bind fun v1 =>
  if v1 = 0 then
  (gI 6 6 a0 μ).bind fun v3 =>
  if x1 ≤ v3 then
  (gI 6 4 a0 μ).bind fun v5 =>
  (gI 6 5 a0 μ).bind fun v6 =>
  (gI 6 7 a0 μ).bind fun v7 =>
  (some (if (0 : Int32) < (v5 - (v6 * (x1 - v7))) then v5 - (v6 * (x1 - v7)) else 0 : Int32)).bind fun v8 =>
  (gI 6 1 a0 μ).bind fun v9 =>
  ((if v9 = 2 then
  (dvJ (v8.toInt64 * x2.toInt64) 1000000).bind fun v11 =>
  some v11.toInt32
  else
  some v8) : Option (Int32)).bind fun z12 =>
  some (z12)
  else
  some (0)
  else
  some (0)
def X6_planValueIn (a0 : Nat) (x1 : Int32) (x2 : Int32) (μ : Mem) : Option Int32 :=
  (vO 6 a0 μ).bind fun g1 =>
  (X6_isMust a0 μ).bind fun v2 =>
  ((if v2 = 0 then
  some 0
  else
  (gI 6 6 a0 μ).bind fun v4 =>
  if v4 < x1 then
  some 0
  else
  some 2000) : Option (Int32)).bind fun z6 =>
  (vO 6 a0 μ).bind fun g7 =>
  (X6_valueIn a0 x1 x2 μ).bind fun v8 =>
  some (v8 + z6)
def X4_priceSet_L27 (a0 : Nat) (x1 : Int32) (x2 : Int32) : Nat → Int32 → Mem → Option (Int32 × Mem)
  | 0, _, _ => none
  | n + 1, x3, μ =>
      if (4 : Int32) ≤ x3 then
      some ((x3, μ))
      else
      (gR 4 10 a0 μ).bind fun v2 =>
      (aI v2 x2 μ).bind fun v3 =>
      (gR 4 4 a0 μ).bind fun v4 =>
      (gR 8 1 v4 μ).bind fun v5 =>
      (aI v5 x3 μ).bind fun v6 =>
      (dvI (v3 * v6) 100).bind fun v7 =>
      (gR 4 11 a0 μ).bind fun v8 =>
      (aI v8 x3 μ).bind fun v9 =>
      (some (v7 - v9 : Int32)).bind fun v10 =>
      (gR 4 12 a0 μ).bind fun v11 =>
      (aI v11 x1 μ).bind fun v12 =>
      ((if v10 ≤ v12 then
      some μ
      else
      (gR 4 6 a0 μ).bind fun v14 =>
      (gR 4 8 a0 μ).bind fun v15 =>
      (aI v15 x2 μ).bind fun v16 =>
      (vO 1 v14 μ).bind fun g17 =>
      (X1_bar v14 v16 x3 0 μ).bind fun v18 =>
      if v18 = 0 then
      (gR 4 12 a0 μ).bind fun v20 =>
      (sI v20 x1 v10 μ).bind fun μ21 =>
      (gR 4 13 a0 μ21).bind fun v22 =>
      (sI v22 x1 x3 μ21).bind fun μ23 =>
      some μ23
      else
      some μ) : Option (Mem)).bind fun z24 =>
      X4_priceSet_L27 a0 x1 x2 n (x3 + 1) z24
def X4_priceSet (a0 : Nat) (x1 : Int32) (x2 : Int32) (μ : Mem) : Option Mem :=
  (gR 4 12 a0 μ).bind fun v1 =>
  (sI v1 x1 0 μ).bind fun μ2 =>
  (gR 4 13 a0 μ2).bind fun v3 =>
  (sI v3 x1 ((-1)) μ2).bind fun μ4 =>
  (gR 4 9 a0 μ4).bind fun v5 =>
  (aI v5 x2 μ4).bind fun v6 =>
  if v6 = ((-1)) then
  some μ4
  else
  (X4_priceSet_L27 a0 x1 x2 FU 0 μ4).bind fun z8 =>
  some z8.2
def X4_price_L25 (a0 : Nat) (x1 : Int32) (x2 : Int32) : Nat → Int32 → Mem → Option (Int32 × Mem)
  | 0, _, _ => none
  | n + 1, x4, μ =>
      if (4 : Int32) ≤ x4 then
      some ((x4, μ))
      else
      (gR 4 11 a0 μ).bind fun v2 =>
      (gR 4 4 a0 μ).bind fun v3 =>
      (gR 4 3 a0 μ).bind fun v4 =>
      (gR 9 4 v4 μ).bind fun v5 =>
      (aR 7 v5 x1 μ).bind fun v6 =>
      (vO 8 v3 μ).bind fun g7 =>
      (X8_lossBy v3 x4 v6 μ).bind fun v8 =>
      (sI v2 x4 v8 μ).bind fun μ9 =>
      X4_price_L25 a0 x1 x2 n (x4 + 1) μ9
def X4_price_L113 (a0 : Nat) (x1 : Int32) (x2 : Int32) (x4 : Int32) (x5 : Int32) : Nat → Int32 → Mem → Option (Int32 × Mem)
  | 0, _, _ => none
  | n + 1, x6, μ =>
      if ((1 : Int32) <<< (x4 &&& 31)) ≤ x6 then
      some ((x6, μ))
      else
      (gR 4 10 a0 μ).bind fun v2 =>
      (gR 4 10 a0 μ).bind fun v3 =>
      (aI v3 x6 μ).bind fun v4 =>
      (sI v2 (x6 ||| (1 <<< (x4 &&& 31))) (v4 + x5) μ).bind fun μ5 =>
      X4_price_L113 a0 x1 x2 x4 x5 n (x6 + 1) μ5
def X4_price_L72 (a0 : Nat) (x1 : Int32) (x2 : Int32) : Nat → Int32 → Mem → Option (Int32 × Mem)
  | 0, _, _ => none
  | n + 1, x4, μ =>
      (gI 4 16 a0 μ).bind fun v1 =>
      if v1 ≤ x4 then
      some ((x4, μ))
      else
      (gR 4 5 a0 μ).bind fun v3 =>
      (gR 0 0 v3 μ).bind fun v4 =>
      (gR 4 7 a0 μ).bind fun v5 =>
      (aI v5 x4 μ).bind fun v6 =>
      (aR 6 v4 v6 μ).bind fun v7 =>
      (gR 4 3 a0 μ).bind fun v8 =>
      (vO 9 v8 μ).bind fun g9 =>
      (X9_seamOdds v8 x1 μ).bind fun v10 =>
      (vO 6 v7 μ).bind fun g11 =>
      (X6_planValueIn v7 x2 v10 μ).bind fun v12 =>
      (X4_price_L113 a0 x1 x2 x4 v12 FU 0 μ).bind fun z13 =>
      X4_price_L72 a0 x1 x2 n (x4 + 1) z13.2
def X4_price_L159 (a0 : Nat) (x1 : Int32) : Nat → Int32 → Mem → Option (Int32 × Mem)
  | 0, _, _ => none
  | n + 1, x4, μ =>
      (gI 4 16 a0 μ).bind fun v1 =>
      if ((1 : Int32) <<< (v1 &&& 31)) ≤ x4 then
      some ((x4, μ))
      else
      (vO 4 a0 μ).bind fun g3 =>
      (X4_priceSet a0 ((x1 * 64) + x4) x4 μ).bind fun μ4 =>
      X4_price_L159 a0 x1 n (x4 + 1) μ4
def X4_price (a0 : Nat) (x1 : Int32) (x2 : Int32) (a3 : Nat) (μ : Mem) : Option Mem :=
  (gR 4 6 a0 μ).bind fun v1 =>
  (gR 4 5 a0 μ).bind fun v2 =>
  (gR 4 3 a0 μ).bind fun v3 =>
  (gR 9 4 v3 μ).bind fun v4 =>
  (aR 7 v4 x1 μ).bind fun v5 =>
  (vO 1 v1 μ).bind fun g6 =>
  (X1_open v1 a3 v2 x2 v5 μ).bind fun μ7 =>
  (X4_price_L25 a0 x1 x2 FU 0 μ7).bind fun z8 =>
  (gR 4 10 a0 z8.2).bind fun v9 =>
  (sI v9 0 0 z8.2).bind fun μ10 =>
  (X4_price_L72 a0 x1 x2 FU 0 μ10).bind fun z11 =>
  (X4_price_L159 a0 x1 FU 1 z11.2).bind fun z12 =>
  some z12.2
def X4_mostBarsAt_L23 (a0 : Nat) (x1 : Int32) (x2 : Int32) (x3 : Int32) (x4 : Int32) (a5 : Nat) : Nat → Int32 → Mem → Option (Int32 × Mem)
  | 0, _, _ => none
  | n + 1, x6, μ =>
      if x2 ≤ x6 then
      some ((x6, μ))
      else
      (gR 4 15 a0 μ).bind fun v2 =>
      (sI v2 (x3 + x6) ((x1 >>> (((x2 - 1) - x6) &&& 31)) &&& 1) μ).bind fun μ3 =>
      X4_mostBarsAt_L23 a0 x1 x2 x3 x4 a5 n (x6 + 1) μ3
def X4_mostBarsAt (a0 : Nat) (x1 : Int32) (x2 : Int32) (x3 : Int32) (x4 : Int32) (a5 : Nat) (μ : Mem) : Option (Int32 × Mem) :=
  (gI 4 18 a0 μ).bind fun v1 =>
  if v1 = 0 then
  some (0, μ)
  else
  (gR 4 15 a0 μ).bind fun v3 =>
  (aL v3 μ).bind fun v4 =>
  if (x3 + x2) < v4 then
  (X4_mostBarsAt_L23 a0 x1 x2 x3 x4 a5 FU 0 μ).bind fun z6 =>
  (gR 4 15 a0 z6.2).bind fun v7 =>
  (sI v7 (x3 + x2) 0 z6.2).bind fun μ8 =>
  (gR 4 15 a0 μ8).bind fun v9 =>
  (aI v9 x3 μ8).bind fun v10 =>
  (sI v9 x3 (v10 + x4) μ8).bind fun μ11 =>
  (gR 4 15 a0 μ11).bind fun v12 =>
  (vO 3 a5 μ11).bind fun g13 =>
  (X3_mostBars a5 v12 (x3 + x2) μ11).bind fun v14 =>
  (zz v14).bind fun v15 =>
  some (v15, μ11)
  else
  some (0, μ)
def X4_nodeBehind (a0 : Nat) (x1 : Int32) (x2 : Int32) (μ : Mem) : Option Int32 :=
  ((if x2 = 0 then
  some 0
  else
  (gI 4 18 a0 μ).bind fun v2 =>
  if v2 = 0 then
  some 0
  else
  some 1) : Option (Int32)).bind fun z4 =>
  some ((x1 * 2) + z4)
def X4_total (a0 : Nat) (x1 : Int32) (x2 : Int32) (μ : Mem) : Option Int32 :=
  (gI 4 17 a0 μ).bind fun v1 =>
  ((if x1 < (1 <<< (v1 &&& 31)) then
  (gR 4 14 a0 μ).bind fun v3 =>
  (aI v3 ((x1 * 64) + x2) μ).bind fun v4 =>
  some v4
  else
  some 0) : Option (Int32)).bind fun z5 =>
  some (z5)
def X4_decide_L45 (a0 : Nat) (x1 : Int32) (x2 : Int32) (x3 : Int32) (x4 : Int32) (x5 : Int32) (x9 : Int32) (μ : Mem) : Nat → Int32 → Int32 → Int32 → Int32 → Option (Int32 × Int32 × Int32 × Int32)
  | 0, _, _, _, _ => none
  | n + 1, x6, x7, x8, x10 =>
      if x9 ≤ x10 then
      some ((x6, x7, x8, x10))
      else
      (some ((x8 - x5) &&& x5 : Int32)).bind fun v2 =>
      (gR 4 12 a0 μ).bind fun v3 =>
      (aI v3 ((x2 * 64) + v2) μ).bind fun v4 =>
      ((if v4 ≤ 0 then
      some ((x6, x7))
      else
      if x4 = 0 then
      (vO 4 a0 μ).bind fun g7 =>
      (X4_nodeBehind a0 x1 1 μ).bind fun v8 =>
      (vO 4 a0 μ).bind fun g9 =>
      (X4_total a0 v8 (x3 ||| v2) μ).bind fun v10 =>
      if (v4 + v10) ≤ x7 then
      some ((x6, x7))
      else
      some ((v2, v4 + v10))
      else
      (gR 4 6 a0 μ).bind fun v12 =>
      (gR 4 8 a0 μ).bind fun v13 =>
      (aI v13 v2 μ).bind fun v14 =>
      (vO 1 v12 μ).bind fun g15 =>
      (X1_isAlways v12 v14 μ).bind fun v16 =>
      if v16 = 0 then
      some ((x6, x7))
      else
      (vO 4 a0 μ).bind fun g18 =>
      (X4_nodeBehind a0 x1 1 μ).bind fun v19 =>
      (vO 4 a0 μ).bind fun g20 =>
      (X4_total a0 v19 (x3 ||| v2) μ).bind fun v21 =>
      if (v4 + v21) ≤ x7 then
      some ((x6, x7))
      else
      some ((v2, v4 + v21))) : Option (Int32 × Int32)).bind fun z23 =>
      X4_decide_L45 a0 x1 x2 x3 x4 x5 x9 μ n z23.1 z23.2 v2 (x10 + 1)
def X4_decide (a0 : Nat) (x1 : Int32) (x2 : Int32) (x3 : Int32) (x4 : Int32) (μ : Mem) : Option (Int32 × Mem) :=
  (gI 4 16 a0 μ).bind fun v1 =>
  (some (((1 <<< (v1 &&& 31)) - 1) &&& (x3 ^^^ ((-1))) : Int32)).bind fun v2 =>
  (vO 4 a0 μ).bind fun g3 =>
  (X4_nodeBehind a0 x1 0 μ).bind fun v4 =>
  (vO 4 a0 μ).bind fun g5 =>
  (X4_total a0 v4 x3 μ).bind fun v6 =>
  (some (1 <<< ((J6_bitCount_0f7a4 v2) &&& 31) : Int32)).bind fun v7 =>
  (X4_decide_L45 a0 x1 x2 x3 x4 v2 v7 μ FU 0 v6 0 1).bind fun z8 =>
  (gR 4 14 a0 μ).bind fun v9 =>
  (sI v9 ((x1 * 64) + x3) z8.2.1 μ).bind fun μ10 =>
  some (z8.1, μ10)
def X4_tell_L9 (a0 : Nat) (x1 : Int32) (x2 : Int32) (a3 : Nat) : Nat → Int32 → Int32 → Int32 → Mem → Option (Int32 × Int32 × Int32 × Mem)
  | 0, _, _, _, _ => none
  | n + 1, x4, x5, x6, μ =>
      (gI 4 17 a0 μ).bind fun v1 =>
      if v1 ≤ x6 then
      some ((x4, x5, x6, μ))
      else
      (vO 4 a0 μ).bind fun g3 =>
      (X4_mostBarsAt a0 x4 x6 x1 x2 a3 μ).bind fun z4 =>
      (vO 4 a0 z4.2).bind fun g5 =>
      (X4_decide a0 x4 x6 x5 z4.1 z4.2).bind fun z6 =>
      (gR 4 1 a0 z6.2).bind fun v7 =>
      (gR 4 8 a0 z6.2).bind fun v8 =>
      (aI v8 z6.1 z6.2).bind fun v9 =>
      (sI v7 x6 v9 z6.2).bind fun μ10 =>
      (gR 4 2 a0 μ10).bind fun v11 =>
      ((if z6.1 = 0 then
      some ((-1))
      else
      (gR 4 13 a0 μ10).bind fun v13 =>
      (aI v13 ((x6 * 64) + z6.1) μ10).bind fun v14 =>
      some v14) : Option (Int32)).bind fun z15 =>
      (sI v11 x6 z15 μ10).bind fun μ16 =>
      (some (x5 ||| z6.1 : Int32)).bind fun v17 =>
      (some (if z6.1 = 0 then 0 else 1 : Int32)).bind fun v19 =>
      (vO 4 a0 μ16).bind fun g20 =>
      (X4_nodeBehind a0 x4 v19 μ16).bind fun v21 =>
      X4_tell_L9 a0 x1 x2 a3 n v21 v17 (x6 + 1) μ16
def X4_tell (a0 : Nat) (x1 : Int32) (x2 : Int32) (a3 : Nat) (μ : Mem) : Option Mem :=
  (X4_tell_L9 a0 x1 x2 a3 FU 1 0 0 μ).bind fun z1 =>
  some z1.2.2.2
def X4_make_L43 (a0 : Nat) (x1 : Int32) (x3 : Int32) (a4 : Nat) : Nat → Int32 → Mem → Option (Int32 × Mem)
  | 0, _, _ => none
  | n + 1, x5, μ =>
      (gI 4 17 a0 μ).bind fun v1 =>
      if v1 ≤ x5 then
      some ((x5, μ))
      else
      (vO 4 a0 μ).bind fun g3 =>
      (X4_price a0 x5 (x3 + x5) a4 μ).bind fun μ4 =>
      X4_make_L43 a0 x1 x3 a4 n (x5 + 1) μ4
def X4_make_L156 (a0 : Nat) (x3 : Int32) (a4 : Nat) (x5 : Int32) (x6 : Int32) (x7 : Int32) (x8 : Int32) (x9 : Int32) : Nat → Int32 → Mem → Option (Int32 × Mem)
  | 0, _, _ => none
  | n + 1, x10, μ =>
      (gI 4 16 a0 μ).bind fun v1 =>
      if ((1 : Int32) <<< (v1 &&& 31)) ≤ x10 then
      some ((x10, μ))
      else
      (vO 4 a0 μ).bind fun g3 =>
      (X4_decide a0 x8 x6 x10 x9 μ).bind fun z4 =>
      X4_make_L156 a0 x3 a4 x5 x6 x7 x8 x9 n (x10 + 1) z4.2
def X4_make_L126 (a0 : Nat) (x3 : Int32) (a4 : Nat) (x5 : Int32) (x6 : Int32) (x7 : Int32) : Nat → Int32 → Mem → Option (Int32 × Mem)
  | 0, _, _ => none
  | n + 1, x8, μ =>
      if ((1 <<< (x6 &&& 31)) + x7) ≤ x8 then
      some ((x8, μ))
      else
      (vO 4 a0 μ).bind fun g2 =>
      (X4_mostBarsAt a0 x8 x6 x3 x5 a4 μ).bind fun z3 =>
      (X4_make_L156 a0 x3 a4 x5 x6 x7 x8 z3.1 FU 0 z3.2).bind fun z4 =>
      X4_make_L126 a0 x3 a4 x5 x6 x7 n (x8 + 1) z4.2
def X4_make_L98 (a0 : Nat) (x3 : Int32) (a4 : Nat) (x5 : Int32) : Nat → Int32 → Mem → Option (Int32 × Mem)
  | 0, _, _ => none
  | n + 1, x6, μ =>
      if x6 < 0 then
      some ((x6, μ))
      else
      (gI 4 18 a0 μ).bind fun v2 =>
      (some (if v2 = 0 then 1 else 1 <<< (x6 &&& 31) : Int32)).bind fun v4 =>
      (some (1 <<< (x6 &&& 31) : Int32)).bind fun v5 =>
      (X4_make_L126 a0 x3 a4 x5 x6 v4 FU v5 μ).bind fun z6 =>
      X4_make_L98 a0 x3 a4 x5 n (x6 + (-1)) z6.2
def X4_make (a0 : Nat) (x1 : Int32) (x2 : Int32) (x3 : Int32) (a4 : Nat) (μ : Mem) : Option Mem :=
  (pI 4 17 a0 (if 6 < x2 then 6 else x2) μ).bind fun μ1 =>
  (vO 3 a4 μ1).bind fun g2 =>
  (X3_countsSayings a4 μ1).bind fun v3 =>
  (pZ 4 18 a0 v3 μ1).bind fun μ4 =>
  (vO 4 a0 μ4).bind fun g5 =>
  (X4_pick a0 x1 x3 μ4).bind fun μ6 =>
  (gR 4 3 a0 μ6).bind fun v7 =>
  (gI 4 17 a0 μ6).bind fun v8 =>
  (vO 9 v7 μ6).bind fun g9 =>
  (X9_lookAhead v7 x1 x3 (v8 - 1) μ6).bind fun μ10 =>
  (X4_make_L43 a0 x1 x3 a4 FU 0 μ10).bind fun z11 =>
  (gR 4 5 a0 z11.2).bind fun v12 =>
  (gR 4 15 a0 z11.2).bind fun v13 =>
  (vO 0 v12 z11.2).bind fun g14 =>
  (X0_countSaid v12 x1 v13 z11.2).bind fun μ15 =>
  (gR 4 15 a0 μ15).bind fun v16 =>
  (aI v16 x3 μ15).bind fun v17 =>
  (gI 4 17 a0 μ15).bind fun v18 =>
  (some (v18 - 1 : Int32)).bind fun v19 =>
  (X4_make_L98 a0 x3 a4 v17 FU v19 μ15).bind fun z20 =>
  (gR 4 14 a0 z20.2).bind fun v21 =>
  (aI v21 64 z20.2).bind fun v22 =>
  (pI 4 0 a0 v22 z20.2).bind fun μ23 =>
  (vO 4 a0 μ23).bind fun g24 =>
  (X4_tell a0 x3 v17 a4 μ23).bind fun μ25 =>
  some μ25
set_option maxRecDepth 100000 in
def X7_init (a0 : Nat) (a1 : Nat) (a2 : Nat) (a3 : Nat) (μ : Mem) : Option Mem :=
  (pR 7 4 a0 a1 μ).bind fun μ1 =>
  (pR 7 5 a0 a2 μ1).bind fun μ2 =>
  (pR 7 6 a0 a3 μ2).bind fun μ3 =>
  some μ3
def X7_isLeft (a0 : Nat) (x1 : Int32) (x2 : Int32) (μ : Mem) : Option Int32 :=
  (gR 7 6 a0 μ).bind fun v1 =>
  (gR 0 0 v1 μ).bind fun v2 =>
  (aR 6 v2 x1 μ).bind fun v3 =>
  (gI 6 0 v3 μ).bind fun v4 =>
  ((if (X10_contains v4 x2) = 0 then
  some 0
  else
  (gI 7 7 a0 μ).bind fun v6 =>
  if (X10_contains v6 x1) = 0 then
  some 1
  else
  some 0) : Option (Int32)).bind fun z8 =>
  (zz z8).bind fun v9 =>
  some v9
def X7_sayIn_L3 (a0 : Nat) (x1 : Int32) (x2 : Int32) (x3 : Int32) : Nat → Int32 → Mem → Option (Int32 × Mem)
  | 0, _, _ => none
  | n + 1, x4, μ =>
      (gR 7 6 a0 μ).bind fun v1 =>
      (gI 0 2 v1 μ).bind fun v2 =>
      if v2 ≤ x4 then
      some ((x4, μ))
      else
      (gR 7 6 a0 μ).bind fun v4 =>
      (gR 0 0 v4 μ).bind fun v5 =>
      (aR 6 v5 x4 μ).bind fun v6 =>
      (vO 6 v6 μ).bind fun g7 =>
      (X6_isMust v6 μ).bind fun v8 =>
      ((if v8 = 0 then
      some 0
      else
      (gI 6 6 v6 μ).bind fun v10 =>
      if x1 = v10 then
      some 1
      else
      some 0) : Option (Int32)).bind fun z12 =>
      (vO 7 a0 μ).bind fun g13 =>
      (X7_isLeft a0 x4 x2 μ).bind fun v14 =>
      ((if v14 = 0 then
      some μ
      else
      (gI 6 7 v6 μ).bind fun v16 =>
      if x1 < v16 then
      some μ
      else
      if x3 = 0 then
      if z12 = 0 then
      some μ
      else
      (gI 7 7 a0 μ).bind fun v31 =>
      (pI 7 7 a0 (v31 ||| (1 <<< (x4 &&& 31))) μ).bind fun μ32 =>
      (gI 7 3 a0 μ32).bind fun v33 =>
      (pI 7 3 a0 (v33 + 1) μ32).bind fun μ34 =>
      (gI 7 1 a0 μ34).bind fun v35 =>
      (gI 6 7 v6 μ34).bind fun v36 =>
      (pI 7 1 a0 (v35 + (x1 - v36)) μ34).bind fun μ37 =>
      (gI 6 6 v6 μ37).bind fun v38 =>
      if x1 ≤ v38 then
      some μ37
      else
      (gI 7 0 a0 μ37).bind fun v40 =>
      (pI 7 0 a0 (v40 + 1) μ37).bind fun μ41 =>
      some μ41
      else
      (gI 7 7 a0 μ).bind fun v19 =>
      (pI 7 7 a0 (v19 ||| (1 <<< (x4 &&& 31))) μ).bind fun μ20 =>
      (gI 7 3 a0 μ20).bind fun v21 =>
      (pI 7 3 a0 (v21 + 1) μ20).bind fun μ22 =>
      (gI 7 1 a0 μ22).bind fun v23 =>
      (gI 6 7 v6 μ22).bind fun v24 =>
      (pI 7 1 a0 (v23 + (x1 - v24)) μ22).bind fun μ25 =>
      (gI 6 6 v6 μ25).bind fun v26 =>
      if x1 ≤ v26 then
      some μ25
      else
      (gI 7 0 a0 μ25).bind fun v28 =>
      (pI 7 0 a0 (v28 + 1) μ25).bind fun μ29 =>
      some μ29) : Option (Mem)).bind fun z42 =>
      X7_sayIn_L3 a0 x1 x2 x3 n (x4 + 1) z42
def X7_sayIn (a0 : Nat) (x1 : Int32) (x2 : Int32) (x3 : Int32) (μ : Mem) : Option Mem :=
  (X7_sayIn_L3 a0 x1 x2 x3 FU 0 μ).bind fun z1 =>
  some z1.2
def X7_run_L28 (a0 : Nat) (x1 : Int32) (x2 : Int32) (x3 : Int32) (x4 : Int32) : Nat → Int32 → Mem → Option (Int32 × Mem)
  | 0, _, _ => none
  | n + 1, x5, μ =>
      if x4 ≤ x5 then
      some ((x5, μ))
      else
      (gR 7 4 a0 μ).bind fun v2 =>
      (vO 9 v2 μ).bind fun g3 =>
      (X9_lookAhead v2 x1 x5 0 μ).bind fun μ4 =>
      (gI 7 3 a0 μ4).bind fun v5 =>
      (gR 7 4 a0 μ4).bind fun v6 =>
      (vO 9 v6 μ4).bind fun g7 =>
      (X9_seamOdds v6 0 μ4).bind fun v8 =>
      (some (if v8 < x2 then 0 else 1 : Int32)).bind fun v10 =>
      (vO 7 a0 μ4).bind fun g11 =>
      (X7_sayIn a0 x5 x1 v10 μ4).bind fun μ12 =>
      (gI 7 3 a0 μ12).bind fun v13 =>
      ((if v13 ≤ v5 then
      some μ12
      else
      (gI 7 2 a0 μ12).bind fun v15 =>
      (gR 7 5 a0 μ12).bind fun v16 =>
      (gR 7 4 a0 μ12).bind fun v17 =>
      (gR 9 4 v17 μ12).bind fun v18 =>
      (aR 7 v18 0 μ12).bind fun v19 =>
      (vO 8 v16 μ12).bind fun g20 =>
      (X8_lossBy v16 x3 v19 μ12).bind fun v21 =>
      (pI 7 2 a0 (v15 + v21) μ12).bind fun μ22 =>
      some μ22) : Option (Mem)).bind fun z23 =>
      X7_run_L28 a0 x1 x2 x3 x4 n (x5 + 1) z23
def X7_run_L120 (a0 : Nat) (x1 : Int32) (x4 : Int32) : Nat → Int32 → Mem → Option (Int32 × Mem)
  | 0, _, _ => none
  | n + 1, x5, μ =>
      (gR 7 6 a0 μ).bind fun v1 =>
      (gI 0 2 v1 μ).bind fun v2 =>
      if v2 ≤ x5 then
      some ((x5, μ))
      else
      (vO 7 a0 μ).bind fun g4 =>
      (X7_isLeft a0 x5 x1 μ).bind fun v5 =>
      ((if v5 = 0 then
      some μ
      else
      (gR 7 6 a0 μ).bind fun v7 =>
      (gR 0 0 v7 μ).bind fun v8 =>
      (aR 6 v8 x5 μ).bind fun v9 =>
      (gI 6 6 v9 μ).bind fun v10 =>
      if x4 ≤ v10 then
      some μ
      else
      (gI 7 0 a0 μ).bind fun v12 =>
      (pI 7 0 a0 (v12 + 1) μ).bind fun μ13 =>
      some μ13) : Option (Mem)).bind fun z14 =>
      X7_run_L120 a0 x1 x4 n (x5 + 1) z14
def X7_run (a0 : Nat) (x1 : Int32) (x2 : Int32) (x3 : Int32) (x4 : Int32) (μ : Mem) : Option Mem :=
  (pI 7 0 a0 0 μ).bind fun μ1 =>
  (pI 7 1 a0 0 μ1).bind fun μ2 =>
  (pI 7 2 a0 0 μ2).bind fun μ3 =>
  (pI 7 3 a0 0 μ3).bind fun μ4 =>
  (pI 7 7 a0 0 μ4).bind fun μ5 =>
  (X7_run_L28 a0 x1 x2 x3 x4 FU 0 μ5).bind fun z6 =>
  (X7_run_L120 a0 x1 x4 FU 0 z6.2).bind fun z7 =>
  some z7.2
def X8_init_L38 (a0 : Nat) (x1 : Int32) : Nat → Int32 → Mem → Option (Int32 × Mem)
  | 0, _, _ => none
  | n + 1, x2, μ =>
      if (4 : Int32) ≤ x2 then
      some ((x2, μ))
      else
      (gR 8 0 a0 μ).bind fun v2 =>
      (aR 7 v2 x1 μ).bind fun v3 =>
      (sI v3 x2 10 μ).bind fun μ4 =>
      X8_init_L38 a0 x1 n (x2 + 1) μ4
def X8_init_L23 (a0 : Nat) : Nat → Int32 → Mem → Option (Int32 × Mem)
  | 0, _, _ => none
  | n + 1, x1, μ =>
      if (4 : Int32) ≤ x1 then
      some ((x1, μ))
      else
      (gR 8 1 a0 μ).bind fun v2 =>
      (sI v2 x1 50 μ).bind fun μ3 =>
      (X8_init_L38 a0 x1 FU 0 μ3).bind fun z4 =>
      X8_init_L23 a0 n (x1 + 1) z4.2
set_option maxRecDepth 100000 in
def X8_init (a0 : Nat) (μ : Mem) : Option Mem :=
  (nM (mN μ + 0) 4 4 μ).bind fun μ1 =>
  (pR 8 0 a0 (mN μ + 0) μ1).bind fun μ2 =>
  (nA 1 (mN μ + 5) 4 μ2).bind fun μ3 =>
  (pR 8 1 a0 (mN μ + 5) μ3).bind fun μ4 =>
  (X8_init_L23 a0 FU 0 μ4).bind fun z5 =>
  some z5.2
def X9_init_L83 (a0 : Nat) (x1 : Int32) : Nat → Int32 → Mem → Option (Int32 × Mem)
  | 0, _, _ => none
  | n + 1, x2, μ =>
      if (4 : Int32) ≤ x2 then
      some ((x2, μ))
      else
      (gR 9 0 a0 μ).bind fun v2 =>
      (aR 7 v2 x1 μ).bind fun v3 =>
      (sI v3 x2 1 μ).bind fun μ4 =>
      X9_init_L83 a0 x1 n (x2 + 1) μ4
def X9_init_L105 (a0 : Nat) (x1 : Int32) : Nat → Int32 → Mem → Option (Int32 × Mem)
  | 0, _, _ => none
  | n + 1, x2, μ =>
      if (4 : Int32) ≤ x2 then
      some ((x2, μ))
      else
      (gR 9 1 a0 μ).bind fun v2 =>
      (aR 7 v2 x1 μ).bind fun v3 =>
      (sI v3 x2 1 μ).bind fun μ4 =>
      X9_init_L105 a0 x1 n (x2 + 1) μ4
def X9_init_L69 (a0 : Nat) : Nat → Int32 → Mem → Option (Int32 × Mem)
  | 0, _, _ => none
  | n + 1, x1, μ =>
      if (4 : Int32) ≤ x1 then
      some ((x1, μ))
      else
      (gR 9 2 a0 μ).bind fun v2 =>
      (sI v2 x1 1 μ).bind fun μ3 =>
      (X9_init_L83 a0 x1 FU 0 μ3).bind fun z4 =>
      (X9_init_L105 a0 x1 FU 0 z4.2).bind fun z5 =>
      X9_init_L69 a0 n (x1 + 1) z5.2
def X9_init_L140 (a0 : Nat) (x1 : Int32) : Nat → Int32 → Mem → Option (Int32 × Mem)
  | 0, _, _ => none
  | n + 1, x2, μ =>
      if (60 : Int32) < x2 then
      some ((x2, μ))
      else
      (gR 9 3 a0 μ).bind fun v2 =>
      (aR 7 v2 x1 μ).bind fun v3 =>
      (sI v3 x2 ((-1)) μ).bind fun μ4 =>
      X9_init_L140 a0 x1 n (x2 + 1) μ4
def X9_init_L133 (a0 : Nat) : Nat → Int32 → Mem → Option (Int32 × Mem)
  | 0, _, _ => none
  | n + 1, x1, μ =>
      if (4 : Int32) ≤ x1 then
      some ((x1, μ))
      else
      (X9_init_L140 a0 x1 FU 0 μ).bind fun z2 =>
      X9_init_L133 a0 n (x1 + 1) z2.2
set_option maxRecDepth 100000 in
def X9_init (a0 : Nat) (μ : Mem) : Option Mem :=
  (nM (mN μ + 0) 4 4 μ).bind fun μ1 =>
  (pR 9 0 a0 (mN μ + 0) μ1).bind fun μ2 =>
  (nM (mN μ + 5) 4 4 μ2).bind fun μ3 =>
  (pR 9 1 a0 (mN μ + 5) μ3).bind fun μ4 =>
  (nA 1 (mN μ + 10) 4 μ4).bind fun μ5 =>
  (pR 9 2 a0 (mN μ + 10) μ5).bind fun μ6 =>
  (nM (mN μ + 11) 4 61 μ6).bind fun μ7 =>
  (pR 9 3 a0 (mN μ + 11) μ7).bind fun μ8 =>
  (nM (mN μ + 16) 9 4 μ8).bind fun μ9 =>
  (pR 9 4 a0 (mN μ + 16) μ9).bind fun μ10 =>
  (nA 2 (mN μ + 26) 4 μ10).bind fun μ11 =>
  (pR 9 6 a0 (mN μ + 26) μ11).bind fun μ12 =>
  (nA 2 (mN μ + 27) 4 μ12).bind fun μ13 =>
  (pR 9 7 a0 (mN μ + 27) μ13).bind fun μ14 =>
  (X9_init_L69 a0 FU 0 μ14).bind fun z15 =>
  (X9_init_L133 a0 FU 0 z15.2).bind fun z16 =>
  some z16.2
def X9_fittingRows (a0 : Nat) (x1 : Int32) (x2 : Int32) (μ : Mem) : Option (Int32 × Mem) :=
  (vO 9 a0 μ).bind fun g1 =>
  (X9_weigh a0 x1 x2 1 μ).bind fun μ2 =>
  (vO 9 a0 μ2).bind fun g3 =>
  (X9_allWeights a0 μ2).bind fun v4 =>
  some (v4.toInt32, μ2)
set_option maxRecDepth 100000 in
def X10_init (a0 : Nat) (μ : Mem) : Option Mem :=
  (nO 9 (mN μ + 0) μ).bind fun μ1 =>
  (gN (mN μ + 1) μ1).bind fun g2 =>
  (X9_init (mN μ + 0) μ1).bind fun μ3 =>
  (pR 10 0 a0 (mN μ + 0) μ3).bind fun μ4 =>
  (nO 8 (mN μ + 29) μ4).bind fun μ5 =>
  (gN (mN μ + 30) μ5).bind fun g6 =>
  (X8_init (mN μ + 29) μ5).bind fun μ7 =>
  (pR 10 1 a0 (mN μ + 29) μ7).bind fun μ8 =>
  (nO 0 (mN μ + 36) μ8).bind fun μ9 =>
  (gN (mN μ + 37) μ9).bind fun g10 =>
  (X0_init (mN μ + 36) μ9).bind fun μ11 =>
  (pR 10 2 a0 (mN μ + 36) μ11).bind fun μ12 =>
  (nO 2 (mN μ + 89) μ12).bind fun μ13 =>
  (gN (mN μ + 90) μ13).bind fun g14 =>
  (X2_init (mN μ + 89) μ13).bind fun μ15 =>
  (pR 10 3 a0 (mN μ + 89) μ15).bind fun μ16 =>
  (nA 4 (mN μ + 91) 4 μ16).bind fun μ17 =>
  (pR 10 4 a0 (mN μ + 91) μ17).bind fun μ18 =>
  (nO 1 (mN μ + 92) μ18).bind fun μ19 =>
  (gN (mN μ + 93) μ19).bind fun g20 =>
  (X1_init (mN μ + 92) μ19).bind fun μ21 =>
  (pR 10 5 a0 (mN μ + 92) μ21).bind fun μ22 =>
  (nO 4 (mN μ + 93) μ22).bind fun μ23 =>
  (gR 10 0 a0 μ23).bind fun v24 =>
  (gR 10 1 a0 μ23).bind fun v25 =>
  (gR 10 2 a0 μ23).bind fun v26 =>
  (gN (mN μ + 94) μ23).bind fun g27 =>
  (X4_init (mN μ + 93) v24 v25 v26 μ23).bind fun μ28 =>
  (pR 10 6 a0 (mN μ + 93) μ28).bind fun μ29 =>
  (nO 7 (mN μ + 106) μ29).bind fun μ30 =>
  (gR 10 0 a0 μ30).bind fun v31 =>
  (gR 10 1 a0 μ30).bind fun v32 =>
  (gR 10 2 a0 μ30).bind fun v33 =>
  (gN (mN μ + 107) μ30).bind fun g34 =>
  (X7_init (mN μ + 106) v31 v32 v33 μ30).bind fun μ35 =>
  (pR 10 7 a0 (mN μ + 106) μ35).bind fun μ36 =>
  (nA 1 (mN μ + 107) 66 μ36).bind fun μ37 =>
  (pR 10 8 a0 (mN μ + 107) μ37).bind fun μ38 =>
  (nO 3 (mN μ + 108) μ38).bind fun μ39 =>
  (gN (mN μ + 109) μ39).bind fun g40 =>
  (X3_init (mN μ + 108) μ39).bind fun μ41 =>
  (pR 10 9 a0 (mN μ + 108) μ41).bind fun μ42 =>
  (gR 10 4 a0 μ42).bind fun v43 =>
  (nO 3 (mN μ + 113) μ42).bind fun μ44 =>
  (gN (mN μ + 114) μ44).bind fun g45 =>
  (X3_init (mN μ + 113) μ44).bind fun μ46 =>
  (sR 4 3 v43 0 (mN μ + 113) μ46).bind fun μ47 =>
  (gR 10 4 a0 μ47).bind fun v48 =>
  (nO 3 (mN μ + 118) μ47).bind fun μ49 =>
  (gN (mN μ + 119) μ49).bind fun g50 =>
  (X3_init (mN μ + 118) μ49).bind fun μ51 =>
  (sR 4 3 v48 1 (mN μ + 118) μ51).bind fun μ52 =>
  (gR 10 4 a0 μ52).bind fun v53 =>
  (nO 3 (mN μ + 123) μ52).bind fun μ54 =>
  (gN (mN μ + 124) μ54).bind fun g55 =>
  (X3_init (mN μ + 123) μ54).bind fun μ56 =>
  (sR 4 3 v53 2 (mN μ + 123) μ56).bind fun μ57 =>
  (gR 10 4 a0 μ57).bind fun v58 =>
  (nO 3 (mN μ + 128) μ57).bind fun μ59 =>
  (gN (mN μ + 129) μ59).bind fun g60 =>
  (X3_init (mN μ + 128) μ59).bind fun μ61 =>
  (sR 4 3 v58 3 (mN μ + 128) μ61).bind fun μ62 =>
  some μ62
def X10_isState (x0 : Int32) : Int32 :=
  X10_within x0 0 3
def X10_isOften (x0 : Int32) : Int32 :=
  X10_within x0 0 4
def X10_exchange (a0 : Nat) (x1 : Int32) (x2 : Int32) (μ : Mem) : Option (Int32 × Mem) :=
  if x1 < 0 then
  some ((-1002), μ)
  else
  (aL a0 μ).bind fun v2 =>
  if x1 < v2 then
  (aI a0 x1 μ).bind fun v4 =>
  (sI a0 x1 x2 μ).bind fun μ5 =>
  some (v4, μ5)
  else
  some ((-1002), μ)
def X10_move (a0 : Nat) (x1 : Int32) (x2 : Int32) (x3 : Int32) (μ : Mem) : Option (Int32 × Mem) :=
  if (X10_isState x1) = 0 then
  some ((-1002), μ)
  else
  if (X10_isState x2) = 0 then
  some ((-1002), μ)
  else
  if (X10_isOften x3) = 0 then
  some ((-1002), μ)
  else
  (gR 10 0 a0 μ).bind fun v4 =>
  (gR 9 0 v4 μ).bind fun v5 =>
  (aR 7 v5 x1 μ).bind fun v6 =>
  (X10_exchange v6 x2 x3 μ).bind fun z7 =>
  some (z7.1, z7.2)
def X10_shows (a0 : Nat) (x1 : Int32) (x2 : Int32) (x3 : Int32) (μ : Mem) : Option (Int32 × Mem) :=
  if (X10_isState x1) = 0 then
  some ((-1002), μ)
  else
  if (X10_within x2 0 3) = 0 then
  some ((-1002), μ)
  else
  if (X10_isOften x3) = 0 then
  some ((-1002), μ)
  else
  (gR 10 0 a0 μ).bind fun v4 =>
  (gR 9 1 v4 μ).bind fun v5 =>
  (aR 7 v5 x1 μ).bind fun v6 =>
  (X10_exchange v6 x2 x3 μ).bind fun z7 =>
  some (z7.1, z7.2)
def X10_begins (a0 : Nat) (x1 : Int32) (x2 : Int32) (μ : Mem) : Option (Int32 × Mem) :=
  if (X10_isState x1) = 0 then
  some ((-1002), μ)
  else
  if (X10_isOften x2) = 0 then
  some ((-1002), μ)
  else
  (gR 10 0 a0 μ).bind fun v3 =>
  (gR 9 2 v3 μ).bind fun v4 =>
  (X10_exchange v4 x1 x2 μ).bind fun z5 =>
  some (z5.1, z5.2)
def X10_seams (a0 : Nat) (x1 : Int32) (μ : Mem) : Option (Int32 × Mem) :=
  if (X10_within x1 0 15) = 0 then
  some ((-1002), μ)
  else
  (gR 10 0 a0 μ).bind fun v2 =>
  (gI 9 5 v2 μ).bind fun v3 =>
  (gR 10 0 a0 μ).bind fun v4 =>
  (pI 9 5 v4 x1 μ).bind fun μ5 =>
  some (v3, μ5)
def X10_isPerson (x0 : Int32) : Int32 :=
  X10_within x0 0 3
def X10_sign (a0 : Nat) (x1 : Int32) (x2 : Int32) (μ : Mem) : Option (Int32 × Mem) :=
  if (X10_isPerson x1) = 0 then
  some ((-1001), μ)
  else
  if (X10_within x2 ((-1)) 3) = 0 then
  some ((-1002), μ)
  else
  (gR 10 0 a0 μ).bind fun v3 =>
  (gR 9 3 v3 μ).bind fun v4 =>
  (aR 7 v4 x1 μ).bind fun v5 =>
  (gI 10 10 a0 μ).bind fun v6 =>
  (X10_exchange v5 v6 x2 μ).bind fun z7 =>
  some (1, z7.2)
def X10_go (a0 : Nat) (x1 : Int32) (μ : Mem) : Option (Int32 × Mem) :=
  if (X10_within x1 0 20) = 0 then
  some ((-1002), μ)
  else
  (gI 10 10 a0 μ).bind fun v2 =>
  if (v2 + x1) ≤ 60 then
  (gI 10 10 a0 μ).bind fun v4 =>
  (pI 10 10 a0 (v4 + x1) μ).bind fun μ5 =>
  (gI 10 10 a0 μ5).bind fun v6 =>
  some (v6, μ5)
  else
  some ((-1003), μ)
def X10_fits (a0 : Nat) (x1 : Int32) (x2 : Int32) (μ : Mem) : Option (Int32 × Mem) :=
  if (X10_isPerson x1) = 0 then
  some ((-1001), μ)
  else
  (gI 10 10 a0 μ).bind fun v2 =>
  if (X10_within x2 0 v2) = 0 then
  some ((-1002), μ)
  else
  (gR 10 0 a0 μ).bind fun v4 =>
  (vO 9 v4 μ).bind fun g5 =>
  (X9_fittingRows v4 x1 x2 μ).bind fun z6 =>
  some (z6.1, z6.2)
def X10_isAhead (x0 : Int32) : Int32 :=
  X10_within x0 0 8
def X10_odds (a0 : Nat) (x1 : Int32) (x2 : Int32) (x3 : Int32) (μ : Mem) : Option (Int32 × Mem) :=
  if (X10_isPerson x1) = 0 then
  some ((-1001), μ)
  else
  if (X10_isState x2) = 0 then
  some ((-1002), μ)
  else
  if (X10_isAhead x3) = 0 then
  some ((-1002), μ)
  else
  (gR 10 0 a0 μ).bind fun v4 =>
  (gI 10 10 a0 μ).bind fun v5 =>
  (vO 9 v4 μ).bind fun g6 =>
  (X9_lookAhead v4 x1 v5 x3 μ).bind fun μ7 =>
  (gR 10 0 a0 μ7).bind fun v8 =>
  (gR 9 4 v8 μ7).bind fun v9 =>
  (aR 7 v9 x3 μ7).bind fun v10 =>
  (aI v10 x2 μ7).bind fun v11 =>
  some (v11, μ7)
def X10_seam (a0 : Nat) (x1 : Int32) (x2 : Int32) (μ : Mem) : Option (Int32 × Mem) :=
  if (X10_isPerson x1) = 0 then
  some ((-1001), μ)
  else
  if (X10_isAhead x2) = 0 then
  some ((-1002), μ)
  else
  (gR 10 0 a0 μ).bind fun v3 =>
  (gI 10 10 a0 μ).bind fun v4 =>
  (vO 9 v3 μ).bind fun g5 =>
  (X9_lookAhead v3 x1 v4 x2 μ).bind fun μ6 =>
  (gR 10 0 a0 μ6).bind fun v7 =>
  (vO 9 v7 μ6).bind fun g8 =>
  (X9_seamOdds v7 x2 μ6).bind fun v9 =>
  some (v9, μ6)
def X10_until_L41 (a0 : Nat) (x2 : Int32) (μ : Mem) : Nat → Int32 → Option (Int32 × Mem)
  | 0, _ => none
  | n + 1, x3 =>
      if (8 : Int32) < x3 then
      some ((-1), μ)
      else
      (gR 10 0 a0 μ).bind fun v2 =>
      (vO 9 v2 μ).bind fun g3 =>
      (X9_seamOdds v2 x3 μ).bind fun v4 =>
      if v4 < x2 then
      X10_until_L41 a0 x2 μ n (x3 + 1)
      else
      some (x3, μ)
def X10_until (a0 : Nat) (x1 : Int32) (x2 : Int32) (μ : Mem) : Option (Int32 × Mem) :=
  if (X10_isPerson x1) = 0 then
  some ((-1001), μ)
  else
  if (X10_within x2 0 1000000) = 0 then
  some ((-1002), μ)
  else
  (gR 10 0 a0 μ).bind fun v3 =>
  (gI 10 10 a0 μ).bind fun v4 =>
  (vO 9 v3 μ).bind fun g5 =>
  (X9_lookAhead v3 x1 v4 8 μ).bind fun μ6 =>
  X10_until_L41 a0 x2 μ6 FU 0
def X10_thing (a0 : Nat) (x1 : Int32) (x2 : Int32) (x3 : Int32) (x4 : Int32) (x5 : Int32) (x6 : Int32) (x7 : Int32) (μ : Mem) : Option (Int32 × Mem) :=
  if (X10_within x1 1 15) = 0 then
  some ((-1001), μ)
  else
  if (X10_within x2 0 3) = 0 then
  some ((-1002), μ)
  else
  if (X10_within x3 0 5) = 0 then
  some ((-1002), μ)
  else
  if (X10_within x4 0 9) = 0 then
  some ((-1002), μ)
  else
  if (X10_within x5 0 999) = 0 then
  some ((-1002), μ)
  else
  if (X10_within x6 0 99) = 0 then
  some ((-1002), μ)
  else
  (gI 10 10 a0 μ).bind fun v7 =>
  if (X10_within x7 v7 60) = 0 then
  some ((-1002), μ)
  else
  (gR 10 2 a0 μ).bind fun v9 =>
  (gI 0 2 v9 μ).bind fun v10 =>
  if v10 < 10 then
  (gR 10 2 a0 μ).bind fun v12 =>
  (gR 0 0 v12 μ).bind fun v13 =>
  (gR 10 2 a0 μ).bind fun v14 =>
  (gI 0 2 v14 μ).bind fun v15 =>
  (aR 6 v13 v15 μ).bind fun v16 =>
  (pI 6 0 v16 x1 μ).bind fun μ17 =>
  (pI 6 1 v16 x2 μ17).bind fun μ18 =>
  (pI 6 2 v16 x3 μ18).bind fun μ19 =>
  (pI 6 3 v16 x4 μ19).bind fun μ20 =>
  (pI 6 4 v16 x5 μ20).bind fun μ21 =>
  (pI 6 5 v16 x6 μ21).bind fun μ22 =>
  (pI 6 6 v16 x7 μ22).bind fun μ23 =>
  (gI 10 10 a0 μ23).bind fun v24 =>
  (pI 6 7 v16 v24 μ23).bind fun μ25 =>
  (gR 10 2 a0 μ25).bind fun v26 =>
  (gI 0 2 v26 μ25).bind fun v27 =>
  (pI 0 2 v26 (v27 + 1) μ25).bind fun μ28 =>
  (gR 10 2 a0 μ28).bind fun v29 =>
  (gI 0 2 v29 μ28).bind fun v30 =>
  some (v30 - 1, μ28)
  else
  some ((-1004), μ)
def X10_dead (a0 : Nat) (x1 : Int32) (μ : Mem) : Option (Int32 × Mem) :=
  (gR 10 2 a0 μ).bind fun v1 =>
  (vO 0 v1 μ).bind fun g2 =>
  (X0_hasThing v1 x1 μ).bind fun v3 =>
  if v3 = 0 then
  some ((-1001), μ)
  else
  (gR 10 2 a0 μ).bind fun v5 =>
  (gR 0 0 v5 μ).bind fun v6 =>
  (aR 6 v6 x1 μ).bind fun v7 =>
  (gI 6 8 v7 μ).bind fun v8 =>
  if v8 = 0 then
  (gR 10 2 a0 μ).bind fun v10 =>
  (gR 0 0 v10 μ).bind fun v11 =>
  (aR 6 v11 x1 μ).bind fun v12 =>
  (pZ 6 8 v12 1 μ).bind fun μ13 =>
  (gR 10 2 a0 μ13).bind fun v14 =>
  (vO 0 v14 μ13).bind fun g15 =>
  (X0_sayingsWith v14 x1 μ13).bind fun v16 =>
  some (v16, μ13)
  else
  some ((-1003), μ)
def X10_told (a0 : Nat) (x1 : Int32) (x2 : Int32) (μ : Mem) : Option Int32 :=
  (gR 10 2 a0 μ).bind fun v1 =>
  (vO 0 v1 μ).bind fun g2 =>
  (X0_hasThing v1 x1 μ).bind fun v3 =>
  if v3 = 0 then
  some ((-1001))
  else
  (gR 10 2 a0 μ).bind fun v5 =>
  (gR 0 0 v5 μ).bind fun v6 =>
  (aR 6 v6 x1 μ).bind fun v7 =>
  if x2 = Int32.ofNat 0 then
  (gI 6 0 v7 μ).bind fun v9 =>
  some (v9)
  else
  if x2 = Int32.ofNat 1 then
  (gI 6 1 v7 μ).bind fun v11 =>
  some (v11)
  else
  if x2 = Int32.ofNat 2 then
  (gI 6 2 v7 μ).bind fun v13 =>
  some (v13)
  else
  if x2 = Int32.ofNat 3 then
  (gI 6 3 v7 μ).bind fun v15 =>
  some (v15)
  else
  if x2 = Int32.ofNat 4 then
  (gI 6 6 v7 μ).bind fun v17 =>
  some (v17)
  else
  if x2 = Int32.ofNat 5 then
  (gR 10 2 a0 μ).bind fun v19 =>
  (gI 10 10 a0 μ).bind fun v20 =>
  (vO 0 v19 μ).bind fun g21 =>
  (X0_standing v19 x1 v20 μ).bind fun v22 =>
  some (v22)
  else
  if x2 = Int32.ofNat 6 then
  (gR 10 2 a0 μ).bind fun v24 =>
  (vO 0 v24 μ).bind fun g25 =>
  (X0_sayingsWith v24 x1 μ).bind fun v26 =>
  some (v26)
  else
  if x2 = Int32.ofNat 7 then
  (gI 6 7 v7 μ).bind fun v28 =>
  some (v28)
  else
  some ((-1002))
def X10_value (a0 : Nat) (x1 : Int32) (x2 : Int32) (x3 : Int32) (μ : Mem) : Option (Int32 × Mem) :=
  (gR 10 2 a0 μ).bind fun v1 =>
  (vO 0 v1 μ).bind fun g2 =>
  (X0_hasThing v1 x1 μ).bind fun v3 =>
  if v3 = 0 then
  some ((-1001), μ)
  else
  if (X10_isPerson x2) = 0 then
  some ((-1001), μ)
  else
  if (X10_isAhead x3) = 0 then
  some ((-1002), μ)
  else
  (gR 10 0 a0 μ).bind fun v7 =>
  (gI 10 10 a0 μ).bind fun v8 =>
  (vO 9 v7 μ).bind fun g9 =>
  (X9_lookAhead v7 x2 v8 x3 μ).bind fun μ10 =>
  (gR 10 2 a0 μ10).bind fun v11 =>
  (gR 0 0 v11 μ10).bind fun v12 =>
  (aR 6 v12 x1 μ10).bind fun v13 =>
  (gI 10 10 a0 μ10).bind fun v14 =>
  (gR 10 0 a0 μ10).bind fun v15 =>
  (vO 9 v15 μ10).bind fun g16 =>
  (X9_seamOdds v15 x3 μ10).bind fun v17 =>
  (vO 6 v13 μ10).bind fun g18 =>
  (X6_valueIn v13 (v14 + x3) v17 μ10).bind fun v19 =>
  some (v19, μ10)
def X10_isWay (x0 : Int32) : Int32 :=
  X10_within x0 0 3
def X10_cost (a0 : Nat) (x1 : Int32) (x2 : Int32) (x3 : Int32) (μ : Mem) : Option (Int32 × Mem) :=
  if (X10_isWay x1) = 0 then
  some ((-1002), μ)
  else
  if (X10_isState x2) = 0 then
  some ((-1002), μ)
  else
  if (X10_within x3 0 999) = 0 then
  some ((-1002), μ)
  else
  (gR 10 1 a0 μ).bind fun v4 =>
  (gR 8 0 v4 μ).bind fun v5 =>
  (aR 7 v5 x1 μ).bind fun v6 =>
  (X10_exchange v6 x2 x3 μ).bind fun z7 =>
  some (z7.1, z7.2)
def X10_seen (a0 : Nat) (x1 : Int32) (x2 : Int32) (μ : Mem) : Option (Int32 × Mem) :=
  if (X10_isWay x1) = 0 then
  some ((-1002), μ)
  else
  if (X10_within x2 0 100) = 0 then
  some ((-1002), μ)
  else
  (gR 10 1 a0 μ).bind fun v3 =>
  (gR 8 1 v3 μ).bind fun v4 =>
  (X10_exchange v4 x1 x2 μ).bind fun z5 =>
  some (z5.1, z5.2)
def X10_loss (a0 : Nat) (x1 : Int32) (x2 : Int32) (x3 : Int32) (μ : Mem) : Option (Int32 × Mem) :=
  if (X10_isPerson x1) = 0 then
  some ((-1001), μ)
  else
  if (X10_isWay x2) = 0 then
  some ((-1002), μ)
  else
  if (X10_isAhead x3) = 0 then
  some ((-1002), μ)
  else
  (gR 10 0 a0 μ).bind fun v4 =>
  (gI 10 10 a0 μ).bind fun v5 =>
  (vO 9 v4 μ).bind fun g6 =>
  (X9_lookAhead v4 x1 v5 x3 μ).bind fun μ7 =>
  (gR 10 1 a0 μ7).bind fun v8 =>
  (gR 10 0 a0 μ7).bind fun v9 =>
  (gR 9 4 v9 μ7).bind fun v10 =>
  (aR 7 v10 x3 μ7).bind fun v11 =>
  (vO 8 v8 μ7).bind fun g12 =>
  (X8_lossBy v8 x2 v11 μ7).bind fun v13 =>
  some (v13, μ7)
def X10_count (a0 : Nat) (x1 : Int32) (μ : Mem) : Option Int32 :=
  if x1 = Int32.ofNat 0 then
  (gI 10 10 a0 μ).bind fun v2 =>
  some (v2)
  else
  if x1 = Int32.ofNat 1 then
  (gR 10 2 a0 μ).bind fun v4 =>
  (gI 0 2 v4 μ).bind fun v5 =>
  some (v5)
  else
  if x1 = Int32.ofNat 2 then
  (gR 10 2 a0 μ).bind fun v7 =>
  (gI 10 10 a0 μ).bind fun v8 =>
  (vO 0 v7 μ).bind fun g9 =>
  (X0_thingsThatAre v7 0 v8 μ).bind fun v10 =>
  some (v10)
  else
  if x1 = Int32.ofNat 3 then
  (gR 10 2 a0 μ).bind fun v12 =>
  (gI 10 10 a0 μ).bind fun v13 =>
  (vO 0 v12 μ).bind fun g14 =>
  (X0_thingsThatAre v12 1 v13 μ).bind fun v15 =>
  some (v15)
  else
  if x1 = Int32.ofNat 4 then
  (gR 10 2 a0 μ).bind fun v17 =>
  (gI 10 10 a0 μ).bind fun v18 =>
  (vO 0 v17 μ).bind fun g19 =>
  (X0_thingsThatAre v17 2 v18 μ).bind fun v20 =>
  some (v20)
  else
  if x1 = Int32.ofNat 5 then
  (gR 10 2 a0 μ).bind fun v22 =>
  (gI 10 10 a0 μ).bind fun v23 =>
  (vO 0 v22 μ).bind fun g24 =>
  (X0_thingsThatAre v22 3 v23 μ).bind fun v25 =>
  some (v25)
  else
  if x1 = Int32.ofNat 6 then
  (gR 10 2 a0 μ).bind fun v27 =>
  (gI 0 3 v27 μ).bind fun v28 =>
  some (v28)
  else
  if x1 = Int32.ofNat 7 then
  (gR 10 3 a0 μ).bind fun v30 =>
  (gI 2 0 v30 μ).bind fun v31 =>
  some (v31)
  else
  some ((-1002))
def X10_feed_L38 (a0 : Nat) (j2 : Int64) : Nat → Int32 → Mem → Option (Int32 × Mem)
  | 0, _, _ => none
  | n + 1, x4, μ =>
      if x4 < 0 then
      some ((x4, μ))
      else
      (gR 10 3 a0 μ).bind fun v2 =>
      (vO 2 v2 μ).bind fun g3 =>
      (X2_append v2 ((((j2.toUInt64 >>> ((8 * x4).toInt64.toUInt64 &&& Int64.toUInt64 63)).toInt64).toInt32) &&& 255) μ).bind fun μ4 =>
      X10_feed_L38 a0 j2 n (x4 + (-1)) μ4
def X10_feed (a0 : Nat) (x1 : Int32) (j2 : Int64) (μ : Mem) : Option (Int32 × Mem) :=
  if (X10_within x1 1 8) = 0 then
  some ((-1002), μ)
  else
  (gR 10 3 a0 μ).bind fun v2 =>
  (gI 2 0 v2 μ).bind fun v3 =>
  if (v3 + x1) ≤ 160 then
  (some (x1 - 1 : Int32)).bind fun v5 =>
  (X10_feed_L38 a0 j2 FU v5 μ).bind fun z6 =>
  (gR 10 3 a0 z6.2).bind fun v7 =>
  (gI 2 0 v7 z6.2).bind fun v8 =>
  some (v8, z6.2)
  else
  some ((-1004), μ)
end
section
def X10_read (a0 : Nat) (x1 : Int32) (μ : Mem) : Option (Int32 × Mem) :=
  if (X10_isPerson x1) = 0 then
  some ((-1001), μ)
  else
  (gR 10 3 a0 μ).bind fun v2 =>
  (gR 10 9 a0 μ).bind fun v3 =>
  (vO 2 v2 μ).bind fun g4 =>
  (X2_parse v2 v3 μ).bind fun μ5 =>
  (gR 10 3 a0 μ5).bind fun v6 =>
  (pI 2 0 v6 0 μ5).bind fun μ7 =>
  (gR 10 3 a0 μ7).bind fun v8 =>
  (gI 2 1 v8 μ7).bind fun v9 =>
  if v9 = 0 then
  (gR 10 4 a0 μ7).bind fun v11 =>
  (aR 4 v11 x1 μ7).bind fun v12 =>
  (gR 10 4 a0 μ7).bind fun v13 =>
  (gR 10 9 a0 μ7).bind fun v14 =>
  (sR 4 3 v13 x1 v14 μ7).bind fun μ15 =>
  (pR 10 9 a0 v12 μ15).bind fun μ16 =>
  (gR 10 4 a0 μ16).bind fun v17 =>
  (aR 4 v17 x1 μ16).bind fun v18 =>
  (gI 3 0 v18 μ16).bind fun v19 =>
  some (v19, μ16)
  else
  (gR 10 3 a0 μ7).bind fun v20 =>
  (gI 2 1 v20 μ7).bind fun v21 =>
  some (((-10)) - v21, μ7)
def X10_fault (a0 : Nat) (μ : Mem) : Option Int32 :=
  (gR 10 3 a0 μ).bind fun v1 =>
  (gI 2 2 v1 μ).bind fun v2 =>
  some (v2)
def X10_barNow (a0 : Nat) (x1 : Int32) (x2 : Int32) (x3 : Int32) (μ : Mem) : Option (Int32 × Mem) :=
  (gR 10 0 a0 μ).bind fun v1 =>
  (gI 10 10 a0 μ).bind fun v2 =>
  (vO 9 v1 μ).bind fun g3 =>
  (X9_lookAhead v1 x1 v2 0 μ).bind fun μ4 =>
  (gR 10 5 a0 μ4).bind fun v5 =>
  (gR 10 4 a0 μ4).bind fun v6 =>
  (aR 4 v6 x1 μ4).bind fun v7 =>
  (gR 10 2 a0 μ4).bind fun v8 =>
  (gI 10 10 a0 μ4).bind fun v9 =>
  (gR 10 0 a0 μ4).bind fun v10 =>
  (gR 9 4 v10 μ4).bind fun v11 =>
  (aR 7 v11 0 μ4).bind fun v12 =>
  (vO 1 v5 μ4).bind fun g13 =>
  (X1_open v5 v7 v8 v9 v12 μ4).bind fun μ14 =>
  (gR 10 2 a0 μ14).bind fun v15 =>
  (gR 10 8 a0 μ14).bind fun v16 =>
  (vO 0 v15 μ14).bind fun g17 =>
  (X0_countSaid v15 x1 v16 μ14).bind fun μ18 =>
  (gR 10 5 a0 μ18).bind fun v19 =>
  (gR 10 4 a0 μ18).bind fun v20 =>
  (aR 4 v20 x1 μ18).bind fun v21 =>
  (gR 10 8 a0 μ18).bind fun v22 =>
  (gI 10 10 a0 μ18).bind fun v23 =>
  (vO 3 v21 μ18).bind fun g24 =>
  (X3_mostBars v21 v22 v23 μ18).bind fun v25 =>
  (vO 1 v19 μ18).bind fun g26 =>
  (X1_bar v19 x2 x3 v25 μ18).bind fun v27 =>
  some (v27, μ18)
def X10_barred (a0 : Nat) (x1 : Int32) (x2 : Int32) (x3 : Int32) (μ : Mem) : Option (Int32 × Mem) :=
  if (X10_isPerson x1) = 0 then
  some ((-1001), μ)
  else
  (gR 10 2 a0 μ).bind fun v2 =>
  (vO 0 v2 μ).bind fun g3 =>
  (X0_hasThings v2 x2 μ).bind fun v4 =>
  if v4 = 0 then
  some ((-1001), μ)
  else
  if (X10_isWay x3) = 0 then
  some ((-1002), μ)
  else
  (vO 10 a0 μ).bind fun g7 =>
  (X10_barNow a0 x1 x2 x3 μ).bind fun z8 =>
  some (z8.1, z8.2)
def X10_plan (a0 : Nat) (x1 : Int32) (x2 : Int32) (x3 : Int32) (x4 : Int32) (μ : Mem) : Option (Int32 × Mem) :=
  if (X10_isPerson x1) = 0 then
  some ((-1001), μ)
  else
  if (X10_within x2 1 6) = 0 then
  some ((-1002), μ)
  else
  if (X10_within x3 ((-1)) (x2 - 1)) = 0 then
  some ((-1002), μ)
  else
  if (X10_within x4 0 1) = 0 then
  some ((-1002), μ)
  else
  (gR 10 6 a0 μ).bind fun v5 =>
  (gI 10 10 a0 μ).bind fun v6 =>
  (gR 10 4 a0 μ).bind fun v7 =>
  (aR 4 v7 x1 μ).bind fun v8 =>
  (vO 4 v5 μ).bind fun g9 =>
  (X4_make v5 x1 x2 v6 v8 μ).bind fun μ10 =>
  if x3 = ((-1)) then
  (gR 10 6 a0 μ10).bind fun v20 =>
  (gI 4 0 v20 μ10).bind fun v21 =>
  some (v21, μ10)
  else
  ((if x4 = 0 then
  (gR 10 6 a0 μ10).bind fun v16 =>
  (gR 4 1 v16 μ10).bind fun v17 =>
  (aI v17 x3 μ10).bind fun v18 =>
  some v18
  else
  (gR 10 6 a0 μ10).bind fun v13 =>
  (gR 4 2 v13 μ10).bind fun v14 =>
  (aI v14 x3 μ10).bind fun v15 =>
  some v15) : Option (Int32)).bind fun z19 =>
  some (z19, μ10)
def X10_say (a0 : Nat) (x1 : Int32) (x2 : Int32) (x3 : Int32) (μ : Mem) : Option (Int32 × Mem) :=
  if (X10_isPerson x1) = 0 then
  some ((-1001), μ)
  else
  (gR 10 2 a0 μ).bind fun v2 =>
  (vO 0 v2 μ).bind fun g3 =>
  (X0_hasThings v2 x2 μ).bind fun v4 =>
  if v4 = 0 then
  some ((-1001), μ)
  else
  if (X10_isWay x3) = 0 then
  some ((-1002), μ)
  else
  (vO 10 a0 μ).bind fun g7 =>
  (X10_barNow a0 x1 x2 x3 μ).bind fun z8 =>
  if z8.1 = 0 then
  (gR 10 2 a0 z8.2).bind fun v10 =>
  (vO 0 v10 z8.2).bind fun g11 =>
  (X0_canBeSaid v10 x2 x1 z8.2).bind fun v12 =>
  if v12 = 0 then
  some ((-1003), z8.2)
  else
  (gR 10 2 a0 z8.2).bind fun v14 =>
  (gI 0 3 v14 z8.2).bind fun v15 =>
  if v15 < 40 then
  (gR 10 2 a0 z8.2).bind fun v17 =>
  (gR 0 1 v17 z8.2).bind fun v18 =>
  (gR 10 2 a0 z8.2).bind fun v19 =>
  (gI 0 3 v19 z8.2).bind fun v20 =>
  (aR 5 v18 v20 z8.2).bind fun v21 =>
  (pI 5 0 v21 x1 z8.2).bind fun μ22 =>
  (pI 5 1 v21 x2 μ22).bind fun μ23 =>
  (pI 5 2 v21 x3 μ23).bind fun μ24 =>
  (gI 10 10 a0 μ24).bind fun v25 =>
  (pI 5 3 v21 v25 μ24).bind fun μ26 =>
  (gR 10 2 a0 μ26).bind fun v27 =>
  (gI 0 3 v27 μ26).bind fun v28 =>
  (pI 0 3 v27 (v28 + 1) μ26).bind fun μ29 =>
  (gR 10 2 a0 μ29).bind fun v30 =>
  (gI 0 3 v30 μ29).bind fun v31 =>
  some (v31 - 1, μ29)
  else
  some ((-1004), z8.2)
  else
  some ((-1003), z8.2)
def X10_came (a0 : Nat) (x1 : Int32) (x2 : Int32) (μ : Mem) : Option (Int32 × Mem) :=
  (gR 10 2 a0 μ).bind fun v1 =>
  (vO 0 v1 μ).bind fun g2 =>
  (X0_hasSaying v1 x1 μ).bind fun v3 =>
  if v3 = 0 then
  some ((-1001), μ)
  else
  if (X10_within x2 1 3) = 0 then
  some ((-1002), μ)
  else
  (gR 10 2 a0 μ).bind fun v6 =>
  (gR 0 1 v6 μ).bind fun v7 =>
  (aR 5 v7 x1 μ).bind fun v8 =>
  (gI 5 4 v8 μ).bind fun v9 =>
  if v9 = 0 then
  (gR 10 2 a0 μ).bind fun v11 =>
  (gR 0 1 v11 μ).bind fun v12 =>
  (aR 5 v12 x1 μ).bind fun v13 =>
  (pI 5 4 v13 x2 μ).bind fun μ14 =>
  some (v9, μ14)
  else
  some ((-1003), μ)
def X10_saying (a0 : Nat) (x1 : Int32) (x2 : Int32) (μ : Mem) : Option Int32 :=
  (gR 10 2 a0 μ).bind fun v1 =>
  (vO 0 v1 μ).bind fun g2 =>
  (X0_hasSaying v1 x1 μ).bind fun v3 =>
  if v3 = 0 then
  some ((-1001))
  else
  (gR 10 2 a0 μ).bind fun v5 =>
  (gR 0 1 v5 μ).bind fun v6 =>
  (aR 5 v6 x1 μ).bind fun v7 =>
  if x2 = Int32.ofNat 0 then
  (gI 5 0 v7 μ).bind fun v9 =>
  some (v9)
  else
  if x2 = Int32.ofNat 1 then
  (gI 5 1 v7 μ).bind fun v11 =>
  some (v11)
  else
  if x2 = Int32.ofNat 2 then
  (gI 5 2 v7 μ).bind fun v13 =>
  some (v13)
  else
  if x2 = Int32.ofNat 3 then
  (gI 5 3 v7 μ).bind fun v15 =>
  some (v15)
  else
  if x2 = Int32.ofNat 4 then
  (gI 5 4 v7 μ).bind fun v17 =>
  some (v17)
  else
  if x2 = Int32.ofNat 5 then
  (gI 5 1 v7 μ).bind fun v19 =>
  (gR 10 2 a0 μ).bind fun v20 =>
  (vO 0 v20 μ).bind fun g21 =>
  (X0_deadThings v20 μ).bind fun v22 =>
  some (v19 &&& v22)
  else
  some ((-1002))
def X10_choose_L16 (x0 : Int32) (x1 : Int32) (μ : Mem) : Nat → Int64 → Int32 → Option (Int64 × Int32)
  | 0, _, _ => none
  | n + 1, j2, x4 =>
      if x1 < x4 then
      some ((j2, x4))
      else
      (dvJ (j2 * (((x0 - x1) + x4).toInt64)) x4.toInt64).bind fun v2 =>
      X10_choose_L16 x0 x1 μ n v2 (x4 + 1)
def X10_choose (x0 : Int32) (x1 : Int32) (μ : Mem) : Option Int64 :=
  if x1 < 0 then
  some (0)
  else
  if x1 ≤ x0 then
  (X10_choose_L16 x0 x1 μ FU 1 1).bind fun z3 =>
  some (z3.1)
  else
  some (0)
def X10_commonPart_L9 (μ : Mem) : Nat → Int64 → Int64 → Int32 → Option (Int64 × Int64 × Int32)
  | 0, _, _, _ => none
  | n + 1, j4, j6, x8 =>
      if (200 : Int32) ≤ x8 then
      some ((j4, j6, x8))
      else
      if (lg_cmp j6 0) = 0 then
      some ((j4, j6, x8))
      else
      (rmJ j4 j6).bind fun v3 =>
      X10_commonPart_L9 μ n j6 v3 (x8 + 1)
def X10_commonPart (j0 : Int64) (j2 : Int64) (μ : Mem) : Option Int64 :=
  (X10_commonPart_L9 μ FU j0 j2 0).bind fun z1 =>
  some (z1.1)
def X10_chance_L17 (x0 : Int32) (x1 : Int32) (x2 : Int32) (x3 : Int32) (x4 : Int32) (j5 : Int64) (μ : Mem) : Nat → Int64 → Int32 → Option (Int64 × Int32)
  | 0, _, _ => none
  | n + 1, j7, x9 =>
      if x1 < x9 then
      some ((j7, x9))
      else
      (X10_choose x1 x9 μ).bind fun v2 =>
      (X10_choose x3 ((x0 + x2) - x9) μ).bind fun v3 =>
      (some (j7 + (v2 * v3) : Int64)).bind fun v4 =>
      X10_chance_L17 x0 x1 x2 x3 x4 j5 μ n v4 (x9 + 1)
def X10_chance (x0 : Int32) (x1 : Int32) (x2 : Int32) (x3 : Int32) (x4 : Int32) (μ : Mem) : Option Int32 :=
  (X10_choose (x1 + x3) (x0 + x2) μ).bind fun v1 =>
  (X10_chance_L17 x0 x1 x2 x3 x4 v1 μ FU 0 x0).bind fun z2 =>
  (X10_commonPart z2.1 v1 μ).bind fun v3 =>
  if (0 : Int32) < (lg_cmp v3 0) then
  (some (if x4 = 0 then v1 else z2.1 : Int64)).bind fun v6 =>
  (dvJ v6 v3).bind fun v7 =>
  some (v7.toInt32)
  else
  some ((-1003))
def X10_learnt (a0 : Nat) (x1 : Int32) (x2 : Int32) (x3 : Int32) (μ : Mem) : Option Int32 :=
  if (X10_isWay x1) = 0 then
  some ((-1002))
  else
  if (X10_isWay x2) = 0 then
  some ((-1002))
  else
  if x1 = x2 then
  some ((-1002))
  else
  if (X10_within x3 0 5) = 0 then
  some ((-1002))
  else
  (gR 10 2 a0 μ).bind fun v5 =>
  (vO 0 v5 μ).bind fun g6 =>
  (X0_lookedAtBy v5 x1 μ).bind fun v7 =>
  (gR 10 2 a0 μ).bind fun v8 =>
  (vO 0 v8 μ).bind fun g9 =>
  (X0_outcomesBy v8 x1 μ).bind fun v10 =>
  (gR 10 2 a0 μ).bind fun v11 =>
  (vO 0 v11 μ).bind fun g12 =>
  (X0_lookedAtBy v11 x2 μ).bind fun v13 =>
  (gR 10 2 a0 μ).bind fun v14 =>
  (vO 0 v14 μ).bind fun g15 =>
  (X0_outcomesBy v14 x2 μ).bind fun v16 =>
  if x3 = Int32.ofNat 0 then
  some (v7)
  else
  if x3 = Int32.ofNat 1 then
  some (v10)
  else
  if x3 = Int32.ofNat 2 then
  some (v13)
  else
  if x3 = Int32.ofNat 3 then
  some (v16)
  else
  ((if (v10 + v16) ≤ 30 then
  (some (if x3 = 4 then 1 else 0 : Int32)).bind fun v23 =>
  (X10_chance v7 v10 v13 v16 v23 μ).bind fun v24 =>
  some v24
  else
  some ((-1003))) : Option (Int32)).bind fun z25 =>
  some (z25)
def X10_who_L68 (a0 : Nat) (x3 : Int32) : Nat → Int32 → Int32 → Int32 → Mem → Option (Int32 × Int32 × Int32 × Mem)
  | 0, _, _, _, _ => none
  | n + 1, x4, x5, x6, μ =>
      if (4 : Int32) ≤ x6 then
      some ((x4, x5, x6, μ))
      else
      ((if (X10_contains x3 x6) = 0 then
      some ((x4, x5, μ))
      else
      (gR 10 0 a0 μ).bind fun v3 =>
      (gI 10 10 a0 μ).bind fun v4 =>
      (vO 9 v3 μ).bind fun g5 =>
      (X9_lookAhead v3 x6 v4 0 μ).bind fun μ6 =>
      (gR 10 0 a0 μ6).bind fun v7 =>
      (vO 9 v7 μ6).bind fun g8 =>
      (X9_seamOdds v7 0 μ6).bind fun v9 =>
      if v9 ≤ x5 then
      some ((x4, x5, μ6))
      else
      (gR 10 0 a0 μ6).bind fun v11 =>
      (vO 9 v11 μ6).bind fun g12 =>
      (X9_seamOdds v11 0 μ6).bind fun v13 =>
      some ((x6, v13, μ6))) : Option (Int32 × Int32 × Mem)).bind fun z14 =>
      X10_who_L68 a0 x3 n z14.1 z14.2.1 (x6 + 1) z14.2.2
def X10_who (a0 : Nat) (x1 : Int32) (x2 : Int32) (μ : Mem) : Option (Int32 × Mem) :=
  (gR 10 2 a0 μ).bind fun v1 =>
  (vO 0 v1 μ).bind fun g2 =>
  (X0_hasThing v1 x1 μ).bind fun v3 =>
  if v3 = 0 then
  some ((-1001), μ)
  else
  if (X10_within x2 0 1) = 0 then
  some ((-1002), μ)
  else
  (gR 10 2 a0 μ).bind fun v6 =>
  (gR 0 0 v6 μ).bind fun v7 =>
  (aR 6 v7 x1 μ).bind fun v8 =>
  (gI 6 0 v8 μ).bind fun v9 =>
  ((if x2 = 1 then
  (gR 10 2 a0 μ).bind fun v11 =>
  (vO 0 v11 μ).bind fun g12 =>
  (X0_personsWith v11 x1 μ).bind fun v13 =>
  some (v9 &&& (v13 ^^^ ((-1))))
  else
  some v9) : Option (Int32)).bind fun z14 =>
  (X10_who_L68 a0 z14 FU ((-1)) ((-1)) 0 μ).bind fun z15 =>
  some (z15.1, z15.2.2.2)
def X10_tried (a0 : Nat) (x1 : Int32) (x2 : Int32) (x3 : Int32) (x4 : Int32) (μ : Mem) : Option (Int32 × Mem) :=
  if (X10_isPerson x1) = 0 then
  some ((-1001), μ)
  else
  if (X10_within x2 0 1000000) = 0 then
  some ((-1002), μ)
  else
  if (X10_isWay x3) = 0 then
  some ((-1002), μ)
  else
  if (X10_within x4 0 3) = 0 then
  some ((-1002), μ)
  else
  (gR 10 7 a0 μ).bind fun v5 =>
  (gI 10 10 a0 μ).bind fun v6 =>
  (vO 7 v5 μ).bind fun g7 =>
  (X7_run v5 x1 x2 x3 v6 μ).bind fun μ8 =>
  if x4 = Int32.ofNat 0 then
  (gR 10 7 a0 μ8).bind fun v10 =>
  (gI 7 0 v10 μ8).bind fun v11 =>
  some (v11, μ8)
  else
  if x4 = Int32.ofNat 1 then
  (gR 10 7 a0 μ8).bind fun v13 =>
  (gI 7 1 v13 μ8).bind fun v14 =>
  some (v14, μ8)
  else
  if x4 = Int32.ofNat 2 then
  (gR 10 7 a0 μ8).bind fun v16 =>
  (gI 7 2 v16 μ8).bind fun v17 =>
  some (v17, μ8)
  else
  (gR 10 7 a0 μ8).bind fun v18 =>
  (gI 7 3 v18 μ8).bind fun v19 =>
  some (v19, μ8)
def X11_init_L327 (a0 : Nat) : Nat → Int32 → Mem → Option (Int32 × Mem)
  | 0, _, _ => none
  | n + 1, x1, μ =>
      if (16 : Int32) ≤ x1 then
      some ((x1, μ))
      else
      (gR 11 0 a0 μ).bind fun v2 =>
      (sI v2 x1 1 μ).bind fun μ3 =>
      (gR 11 1 a0 μ3).bind fun v4 =>
      (sI v4 x1 1 μ3).bind fun μ5 =>
      (gR 11 22 a0 μ5).bind fun v6 =>
      (sI v6 x1 10 μ5).bind fun μ7 =>
      X11_init_L327 a0 n (x1 + 1) μ7
def X11_init_L363 (a0 : Nat) : Nat → Int32 → Mem → Option (Int32 × Mem)
  | 0, _, _ => none
  | n + 1, x1, μ =>
      if (4 : Int32) ≤ x1 then
      some ((x1, μ))
      else
      (gR 11 2 a0 μ).bind fun v2 =>
      (sI v2 x1 1 μ).bind fun μ3 =>
      (gR 11 23 a0 μ3).bind fun v4 =>
      (sI v4 x1 50 μ3).bind fun μ5 =>
      X11_init_L363 a0 n (x1 + 1) μ5
def X11_init_L391 (a0 : Nat) : Nat → Int32 → Mem → Option (Int32 × Mem)
  | 0, _, _ => none
  | n + 1, x1, μ =>
      if (244 : Int32) ≤ x1 then
      some ((x1, μ))
      else
      (gR 11 4 a0 μ).bind fun v2 =>
      (sI v2 x1 ((-1)) μ).bind fun μ3 =>
      X11_init_L391 a0 n (x1 + 1) μ3
set_option maxRecDepth 100000 in
def X11_init (a0 : Nat) (μ : Mem) : Option Mem :=
  (nA 1 (mN μ + 0) 16 μ).bind fun μ1 =>
  (pR 11 0 a0 (mN μ + 0) μ1).bind fun μ2 =>
  (nA 1 (mN μ + 1) 16 μ2).bind fun μ3 =>
  (pR 11 1 a0 (mN μ + 1) μ3).bind fun μ4 =>
  (nA 1 (mN μ + 2) 4 μ4).bind fun μ5 =>
  (pR 11 2 a0 (mN μ + 2) μ5).bind fun μ6 =>
  (nA 1 (mN μ + 3) 244 μ6).bind fun μ7 =>
  (pR 11 4 a0 (mN μ + 3) μ7).bind fun μ8 =>
  (nA 2 (mN μ + 4) 4 μ8).bind fun μ9 =>
  (pR 11 6 a0 (mN μ + 4) μ9).bind fun μ10 =>
  (nA 2 (mN μ + 5) 4 μ10).bind fun μ11 =>
  (pR 11 7 a0 (mN μ + 5) μ11).bind fun μ12 =>
  (nA 1 (mN μ + 6) 4 μ12).bind fun μ13 =>
  (pR 11 8 a0 (mN μ + 6) μ13).bind fun μ14 =>
  (nA 1 (mN μ + 7) 4 μ14).bind fun μ15 =>
  (pR 11 9 a0 (mN μ + 7) μ15).bind fun μ16 =>
  (nA 1 (mN μ + 8) 4 μ16).bind fun μ17 =>
  (pR 11 10 a0 (mN μ + 8) μ17).bind fun μ18 =>
  (nA 1 (mN μ + 9) 4 μ18).bind fun μ19 =>
  (pR 11 11 a0 (mN μ + 9) μ19).bind fun μ20 =>
  (nA 1 (mN μ + 10) 10 μ20).bind fun μ21 =>
  (pR 11 13 a0 (mN μ + 10) μ21).bind fun μ22 =>
  (nA 1 (mN μ + 11) 10 μ22).bind fun μ23 =>
  (pR 11 14 a0 (mN μ + 11) μ23).bind fun μ24 =>
  (nA 1 (mN μ + 12) 10 μ24).bind fun μ25 =>
  (pR 11 15 a0 (mN μ + 12) μ25).bind fun μ26 =>
  (nA 1 (mN μ + 13) 10 μ26).bind fun μ27 =>
  (pR 11 16 a0 (mN μ + 13) μ27).bind fun μ28 =>
  (nA 1 (mN μ + 14) 10 μ28).bind fun μ29 =>
  (pR 11 17 a0 (mN μ + 14) μ29).bind fun μ30 =>
  (nA 1 (mN μ + 15) 10 μ30).bind fun μ31 =>
  (pR 11 18 a0 (mN μ + 15) μ31).bind fun μ32 =>
  (nA 1 (mN μ + 16) 10 μ32).bind fun μ33 =>
  (pR 11 19 a0 (mN μ + 16) μ33).bind fun μ34 =>
  (nA 1 (mN μ + 17) 10 μ34).bind fun μ35 =>
  (pR 11 20 a0 (mN μ + 17) μ35).bind fun μ36 =>
  (nA 3 (mN μ + 18) 10 μ36).bind fun μ37 =>
  (pR 11 21 a0 (mN μ + 18) μ37).bind fun μ38 =>
  (nA 1 (mN μ + 19) 16 μ38).bind fun μ39 =>
  (pR 11 22 a0 (mN μ + 19) μ39).bind fun μ40 =>
  (nA 1 (mN μ + 20) 4 μ40).bind fun μ41 =>
  (pR 11 23 a0 (mN μ + 20) μ41).bind fun μ42 =>
  (nA 1 (mN μ + 21) 4 μ42).bind fun μ43 =>
  (pR 11 24 a0 (mN μ + 21) μ43).bind fun μ44 =>
  (nA 1 (mN μ + 22) 32 μ44).bind fun μ45 =>
  (pR 11 25 a0 (mN μ + 22) μ45).bind fun μ46 =>
  (nA 1 (mN μ + 23) 32 μ46).bind fun μ47 =>
  (pR 11 26 a0 (mN μ + 23) μ47).bind fun μ48 =>
  (nA 1 (mN μ + 24) 32 μ48).bind fun μ49 =>
  (pR 11 27 a0 (mN μ + 24) μ49).bind fun μ50 =>
  (nA 1 (mN μ + 25) 32 μ50).bind fun μ51 =>
  (pR 11 28 a0 (mN μ + 25) μ51).bind fun μ52 =>
  (nA 1 (mN μ + 26) 9 μ52).bind fun μ53 =>
  (pR 11 29 a0 (mN μ + 26) μ53).bind fun μ54 =>
  (nA 1 (mN μ + 27) 9 μ54).bind fun μ55 =>
  (pR 11 30 a0 (mN μ + 27) μ55).bind fun μ56 =>
  (nA 1 (mN μ + 28) 9 μ56).bind fun μ57 =>
  (pR 11 31 a0 (mN μ + 28) μ57).bind fun μ58 =>
  (nA 1 (mN μ + 29) 9 μ58).bind fun μ59 =>
  (pR 11 32 a0 (mN μ + 29) μ59).bind fun μ60 =>
  (nA 1 (mN μ + 30) 160 μ60).bind fun μ61 =>
  (pR 11 33 a0 (mN μ + 30) μ61).bind fun μ62 =>
  (pI 11 35 a0 ((-1)) μ62).bind fun μ63 =>
  (nA 1 (mN μ + 31) 6 μ63).bind fun μ64 =>
  (pR 11 40 a0 (mN μ + 31) μ64).bind fun μ65 =>
  (nA 1 (mN μ + 32) 28672 μ65).bind fun μ66 =>
  (pR 11 42 a0 (mN μ + 32) μ66).bind fun μ67 =>
  (nA 1 (mN μ + 33) 384 μ67).bind fun μ68 =>
  (pR 11 43 a0 (mN μ + 33) μ68).bind fun μ69 =>
  (nA 1 (mN μ + 34) 384 μ69).bind fun μ70 =>
  (pR 11 44 a0 (mN μ + 34) μ70).bind fun μ71 =>
  (nA 1 (mN μ + 35) 40 μ71).bind fun μ72 =>
  (pR 11 46 a0 (mN μ + 35) μ72).bind fun μ73 =>
  (nA 1 (mN μ + 36) 40 μ73).bind fun μ74 =>
  (pR 11 47 a0 (mN μ + 36) μ74).bind fun μ75 =>
  (nA 1 (mN μ + 37) 40 μ75).bind fun μ76 =>
  (pR 11 48 a0 (mN μ + 37) μ76).bind fun μ77 =>
  (nA 1 (mN μ + 38) 40 μ77).bind fun μ78 =>
  (pR 11 49 a0 (mN μ + 38) μ78).bind fun μ79 =>
  (nA 1 (mN μ + 39) 40 μ79).bind fun μ80 =>
  (pR 11 50 a0 (mN μ + 39) μ80).bind fun μ81 =>
  (X11_init_L327 a0 FU 0 μ81).bind fun z82 =>
  (X11_init_L363 a0 FU 0 z82.2).bind fun z83 =>
  (X11_init_L391 a0 FU 0 z83.2).bind fun z84 =>
  some z84.2
def X11_in (j0 : Int64) (j2 : Int64) (j4 : Int64) : Int32 :=
  (if (lg_cmp j0 j2) < 0 then 0 else if (0 : Int32) < (lg_cmp j0 j4) then 0 else 1)
def X11_isState (x0 : Int32) : Int32 :=
  X11_in x0.toInt64 0 3
def X11_isPerson (x0 : Int32) : Int32 :=
  X11_in x0.toInt64 0 3
def X11_move (a0 : Nat) (x1 : Int32) (x2 : Int32) (x3 : Int32) (μ : Mem) : Option (Int32 × Mem) :=
  if (X11_isState x1) = 0 then
  some ((-1002), μ)
  else
  if (X11_isState x2) = 0 then
  some ((-1002), μ)
  else
  if (X11_in x3.toInt64 0 4) = 0 then
  some ((-1002), μ)
  else
  (gR 11 0 a0 μ).bind fun v4 =>
  (aI v4 ((4 * x1) + x2) μ).bind fun v5 =>
  (gR 11 0 a0 μ).bind fun v6 =>
  (sI v6 ((4 * x1) + x2) x3 μ).bind fun μ7 =>
  some (v5, μ7)
def X11_shows (a0 : Nat) (x1 : Int32) (x2 : Int32) (x3 : Int32) (μ : Mem) : Option (Int32 × Mem) :=
  if (X11_isState x1) = 0 then
  some ((-1002), μ)
  else
  if (X11_isState x2) = 0 then
  some ((-1002), μ)
  else
  if (X11_in x3.toInt64 0 4) = 0 then
  some ((-1002), μ)
  else
  (gR 11 1 a0 μ).bind fun v4 =>
  (aI v4 ((4 * x1) + x2) μ).bind fun v5 =>
  (gR 11 1 a0 μ).bind fun v6 =>
  (sI v6 ((4 * x1) + x2) x3 μ).bind fun μ7 =>
  some (v5, μ7)
def X11_begins (a0 : Nat) (x1 : Int32) (x2 : Int32) (μ : Mem) : Option (Int32 × Mem) :=
  if (X11_isState x1) = 0 then
  some ((-1002), μ)
  else
  if (X11_in x2.toInt64 0 4) = 0 then
  some ((-1002), μ)
  else
  (gR 11 2 a0 μ).bind fun v3 =>
  (aI v3 x1 μ).bind fun v4 =>
  (gR 11 2 a0 μ).bind fun v5 =>
  (sI v5 x1 x2 μ).bind fun μ6 =>
  some (v4, μ6)
def X11_seams (a0 : Nat) (x1 : Int32) (μ : Mem) : Option (Int32 × Mem) :=
  if (X11_in x1.toInt64 0 15) = 0 then
  some ((-1002), μ)
  else
  (gI 11 3 a0 μ).bind fun v2 =>
  (pI 11 3 a0 x1 μ).bind fun μ3 =>
  some (v2, μ3)
def X11_sign (a0 : Nat) (x1 : Int32) (x2 : Int32) (μ : Mem) : Option (Int32 × Mem) :=
  if (X11_isPerson x1) = 0 then
  some ((-1001), μ)
  else
  if (X11_in x2.toInt64 ((-1)) 3) = 0 then
  some ((-1002), μ)
  else
  (gR 11 4 a0 μ).bind fun v3 =>
  (gI 11 5 a0 μ).bind fun v4 =>
  (sI v3 ((61 * x1) + v4) x2 μ).bind fun μ5 =>
  some (1, μ5)
def X11_go (a0 : Nat) (x1 : Int32) (μ : Mem) : Option (Int32 × Mem) :=
  if (X11_in x1.toInt64 0 20) = 0 then
  some ((-1002), μ)
  else
  (gI 11 5 a0 μ).bind fun v2 =>
  if (v2 + x1) ≤ 60 then
  (gI 11 5 a0 μ).bind fun v4 =>
  (pI 11 5 a0 (v4 + x1) μ).bind fun μ5 =>
  (gI 11 5 a0 μ5).bind fun v6 =>
  some (v6, μ5)
  else
  some ((-1003), μ)
def X11_showsAt (a0 : Nat) (x1 : Int32) (x2 : Int32) (x3 : Int32) (μ : Mem) : Option Int32 :=
  (gR 11 4 a0 μ).bind fun v1 =>
  (aI v1 ((61 * x1) + x2) μ).bind fun v2 =>
  ((if (0 : Int32) ≤ v2 then
  (gR 11 1 a0 μ).bind fun v4 =>
  (aI v4 ((4 * x3) + v2) μ).bind fun v5 =>
  some v5
  else
  some 1) : Option (Int32)).bind fun z6 =>
  some (z6)
def X11_findRows_L18 (a0 : Nat) (x1 : Int32) (x2 : Int32) (x3 : Int32) : Nat → Int32 → Mem → Option (Int32 × Mem)
  | 0, _, _ => none
  | n + 1, x4, μ =>
      if (4 : Int32) ≤ x4 then
      some ((x4, μ))
      else
      (gR 11 6 a0 μ).bind fun v2 =>
      (gR 11 2 a0 μ).bind fun v3 =>
      (aI v3 x4 μ).bind fun v4 =>
      (vO 11 a0 μ).bind fun g5 =>
      (X11_showsAt a0 x1 x3 x4 μ).bind fun v6 =>
      (sJ v2 x4 (v4.toInt64 * v6.toInt64) μ).bind fun μ7 =>
      (gR 11 8 a0 μ7).bind fun v8 =>
      (gR 11 6 a0 μ7).bind fun v9 =>
      (aJ v9 x4 μ7).bind fun v10 =>
      (some (if (lg_cmp v10 0) ≤ 0 then 0 else 1 : Int32)).bind fun v12 =>
      (sI v8 x4 v12 μ7).bind fun μ13 =>
      X11_findRows_L18 a0 x1 x2 x3 n (x4 + 1) μ13
def X11_findRows_L118 (a0 : Nat) (x1 : Int32) (x2 : Int32) (x4 : Int32) (x5 : Int32) : Nat → Int32 → Mem → Option (Int32 × Mem)
  | 0, _, _ => none
  | n + 1, x6, μ =>
      if (4 : Int32) ≤ x6 then
      some ((x6, μ))
      else
      (gR 11 0 a0 μ).bind fun v2 =>
      (aI v2 ((4 * x6) + x5) μ).bind fun v3 =>
      (vO 11 a0 μ).bind fun g4 =>
      (X11_showsAt a0 x1 x4 x5 μ).bind fun v5 =>
      (some (v3 * v5 : Int32)).bind fun v6 =>
      (gR 11 7 a0 μ).bind fun v7 =>
      (aJ v7 x5 μ).bind fun v8 =>
      (gR 11 6 a0 μ).bind fun v9 =>
      (aJ v9 x6 μ).bind fun v10 =>
      (sJ v7 x5 (v8 + (v10 * v6.toInt64)) μ).bind fun μ11 =>
      (gR 11 9 a0 μ11).bind fun v12 =>
      (aI v12 x5 μ11).bind fun v13 =>
      ((if v6 ≤ 0 then
      some 0
      else
      (gR 11 8 a0 μ11).bind fun v15 =>
      (aI v15 x6 μ11).bind fun v16 =>
      some v16) : Option (Int32)).bind fun z17 =>
      (sI v12 x5 (v13 + z17) μ11).bind fun μ18 =>
      X11_findRows_L118 a0 x1 x2 x4 x5 n (x6 + 1) μ18
def X11_findRows_L93 (a0 : Nat) (x1 : Int32) (x2 : Int32) (x4 : Int32) : Nat → Int32 → Mem → Option (Int32 × Mem)
  | 0, _, _ => none
  | n + 1, x5, μ =>
      if (4 : Int32) ≤ x5 then
      some ((x5, μ))
      else
      (gR 11 7 a0 μ).bind fun v2 =>
      (sJ v2 x5 0 μ).bind fun μ3 =>
      (gR 11 9 a0 μ3).bind fun v4 =>
      (sI v4 x5 0 μ3).bind fun μ5 =>
      (X11_findRows_L118 a0 x1 x2 x4 x5 FU 0 μ5).bind fun z6 =>
      X11_findRows_L93 a0 x1 x2 x4 n (x5 + 1) z6.2
def X11_findRows_L210 (a0 : Nat) (x1 : Int32) (x2 : Int32) (x4 : Int32) : Nat → Int32 → Mem → Option (Int32 × Mem)
  | 0, _, _ => none
  | n + 1, x5, μ =>
      if (4 : Int32) ≤ x5 then
      some ((x5, μ))
      else
      (gR 11 6 a0 μ).bind fun v2 =>
      (gR 11 7 a0 μ).bind fun v3 =>
      (aJ v3 x5 μ).bind fun v4 =>
      (sJ v2 x5 v4 μ).bind fun μ5 =>
      (gR 11 8 a0 μ5).bind fun v6 =>
      (gR 11 9 a0 μ5).bind fun v7 =>
      (aI v7 x5 μ5).bind fun v8 =>
      (sI v6 x5 v8 μ5).bind fun μ9 =>
      X11_findRows_L210 a0 x1 x2 x4 n (x5 + 1) μ9
def X11_findRows_L84 (a0 : Nat) (x1 : Int32) (x2 : Int32) : Nat → Int32 → Mem → Option (Int32 × Mem)
  | 0, _, _ => none
  | n + 1, x4, μ =>
      if x2 < x4 then
      some ((x4, μ))
      else
      (X11_findRows_L93 a0 x1 x2 x4 FU 0 μ).bind fun z2 =>
      (X11_findRows_L210 a0 x1 x2 x4 FU 0 z2.2).bind fun z3 =>
      X11_findRows_L84 a0 x1 x2 n (x4 + 1) z3.2
def X11_findRows (a0 : Nat) (x1 : Int32) (x2 : Int32) (μ : Mem) : Option Mem :=
  (some (if (6 : Int32) ≤ x2 then x2 - 6 else 0 : Int32)).bind fun v2 =>
  (X11_findRows_L18 a0 x1 x2 v2 FU 0 μ).bind fun z3 =>
  (some (v2 + 1 : Int32)).bind fun v4 =>
  (X11_findRows_L84 a0 x1 x2 FU v4 z3.2).bind fun z5 =>
  some z5.2
def X11_findOdds_L38 (a0 : Nat) (x3 : Int32) (j4 : Int64) : Nat → Int32 → Mem → Option (Int32 × Mem)
  | 0, _, _ => none
  | n + 1, x6, μ =>
      if (4 : Int32) ≤ x6 then
      some ((x6, μ))
      else
      (gR 11 10 a0 μ).bind fun v2 =>
      ((if (lg_cmp j4 0) = 0 then
      some 0
      else
      (gR 11 6 a0 μ).bind fun v4 =>
      (aJ v4 x6 μ).bind fun v5 =>
      (dvJ (v5 * 1000000) j4).bind fun v6 =>
      some v6.toInt32) : Option (Int32)).bind fun z7 =>
      (sI v2 x6 z7 μ).bind fun μ8 =>
      X11_findOdds_L38 a0 x3 j4 n (x6 + 1) μ8
def X11_findOdds_L112 (a0 : Nat) (x3 : Int32) (x6 : Int32) (x7 : Int32) : Nat → Int32 → Mem → Option (Int32 × Mem)
  | 0, _, _ => none
  | n + 1, x8, μ =>
      if (4 : Int32) ≤ x8 then
      some ((x8, μ))
      else
      (gR 11 0 a0 μ).bind fun v2 =>
      (aI v2 (4 * x8) μ).bind fun v3 =>
      (gR 11 0 a0 μ).bind fun v4 =>
      (aI v4 ((4 * x8) + 1) μ).bind fun v5 =>
      (gR 11 0 a0 μ).bind fun v6 =>
      (aI v6 ((4 * x8) + 2) μ).bind fun v7 =>
      (gR 11 0 a0 μ).bind fun v8 =>
      (aI v8 ((4 * x8) + 3) μ).bind fun v9 =>
      (some (((v3 + v5) + v7) + v9 : Int32)).bind fun v10 =>
      (gR 11 11 a0 μ).bind fun v11 =>
      (aI v11 x7 μ).bind fun v12 =>
      ((if v10 = 0 then
      some 0
      else
      (gR 11 10 a0 μ).bind fun v14 =>
      (aI v14 x8 μ).bind fun v15 =>
      (gR 11 0 a0 μ).bind fun v16 =>
      (aI v16 ((4 * x8) + x7) μ).bind fun v17 =>
      (dvI (v15 * v17) v10).bind fun v18 =>
      some v18) : Option (Int32)).bind fun z19 =>
      (sI v11 x7 (v12 + z19) μ).bind fun μ20 =>
      X11_findOdds_L112 a0 x3 x6 x7 n (x8 + 1) μ20
def X11_findOdds_L95 (a0 : Nat) (x3 : Int32) (x6 : Int32) : Nat → Int32 → Mem → Option (Int32 × Mem)
  | 0, _, _ => none
  | n + 1, x7, μ =>
      if (4 : Int32) ≤ x7 then
      some ((x7, μ))
      else
      (gR 11 11 a0 μ).bind fun v2 =>
      (sI v2 x7 0 μ).bind fun μ3 =>
      (X11_findOdds_L112 a0 x3 x6 x7 FU 0 μ3).bind fun z4 =>
      X11_findOdds_L95 a0 x3 x6 n (x7 + 1) z4.2
def X11_findOdds_L222 (a0 : Nat) (x3 : Int32) (x6 : Int32) : Nat → Int32 → Mem → Option (Int32 × Mem)
  | 0, _, _ => none
  | n + 1, x7, μ =>
      if (4 : Int32) ≤ x7 then
      some ((x7, μ))
      else
      (gR 11 10 a0 μ).bind fun v2 =>
      (gR 11 11 a0 μ).bind fun v3 =>
      (aI v3 x7 μ).bind fun v4 =>
      (sI v2 x7 v4 μ).bind fun μ5 =>
      X11_findOdds_L222 a0 x3 x6 n (x7 + 1) μ5
def X11_findOdds_L86 (a0 : Nat) (x3 : Int32) : Nat → Int32 → Mem → Option (Int32 × Mem)
  | 0, _, _ => none
  | n + 1, x6, μ =>
      if x3 ≤ x6 then
      some ((x6, μ))
      else
      (X11_findOdds_L95 a0 x3 x6 FU 0 μ).bind fun z2 =>
      (X11_findOdds_L222 a0 x3 x6 FU 0 z2.2).bind fun z3 =>
      X11_findOdds_L86 a0 x3 n (x6 + 1) z3.2
def X11_findOdds (a0 : Nat) (x1 : Int32) (x2 : Int32) (x3 : Int32) (μ : Mem) : Option Mem :=
  (vO 11 a0 μ).bind fun g1 =>
  (X11_findRows a0 x1 x2 μ).bind fun μ2 =>
  (gR 11 6 a0 μ2).bind fun v3 =>
  (aJ v3 0 μ2).bind fun v4 =>
  (gR 11 6 a0 μ2).bind fun v5 =>
  (aJ v5 1 μ2).bind fun v6 =>
  (gR 11 6 a0 μ2).bind fun v7 =>
  (aJ v7 2 μ2).bind fun v8 =>
  (gR 11 6 a0 μ2).bind fun v9 =>
  (aJ v9 3 μ2).bind fun v10 =>
  (some (((v4 + v6) + v8) + v10 : Int64)).bind fun v11 =>
  (X11_findOdds_L38 a0 x3 v11 FU 0 μ2).bind fun z12 =>
  (X11_findOdds_L86 a0 x3 FU 0 z12.2).bind fun z13 =>
  some z13.2
def X11_seamOdds_L13 (a0 : Nat) (μ : Mem) : Nat → Int32 → Int32 → Option (Int32 × Int32)
  | 0, _, _ => none
  | n + 1, x4, x5 =>
      if (4 : Int32) ≤ x5 then
      some ((x4, x5))
      else
      (gI 11 3 a0 μ).bind fun v2 =>
      (gR 11 10 a0 μ).bind fun v3 =>
      (aI v3 x5 μ).bind fun v4 =>
      (some (x4 + (((v2 >>> (x5 &&& 31)) &&& 1) * v4) : Int32)).bind fun v5 =>
      X11_seamOdds_L13 a0 μ n v5 (x5 + 1)
def X11_seamOdds (a0 : Nat) (x1 : Int32) (x2 : Int32) (x3 : Int32) (μ : Mem) : Option (Int32 × Mem) :=
  (vO 11 a0 μ).bind fun g1 =>
  (X11_findOdds a0 x1 x2 x3 μ).bind fun μ2 =>
  (X11_seamOdds_L13 a0 μ2 FU 0 0).bind fun z3 =>
  some (z3.1, μ2)
def X11_fits (a0 : Nat) (x1 : Int32) (x2 : Int32) (μ : Mem) : Option (Int32 × Mem) :=
  if (X11_isPerson x1) = 0 then
  some ((-1001), μ)
  else
  (gI 11 5 a0 μ).bind fun v2 =>
  if (X11_in x2.toInt64 0 v2.toInt64) = 0 then
  some ((-1002), μ)
  else
  (vO 11 a0 μ).bind fun g4 =>
  (X11_findRows a0 x1 x2 μ).bind fun μ5 =>
  (gR 11 8 a0 μ5).bind fun v6 =>
  (aI v6 0 μ5).bind fun v7 =>
  (gR 11 8 a0 μ5).bind fun v8 =>
  (aI v8 1 μ5).bind fun v9 =>
  (gR 11 8 a0 μ5).bind fun v10 =>
  (aI v10 2 μ5).bind fun v11 =>
  (gR 11 8 a0 μ5).bind fun v12 =>
  (aI v12 3 μ5).bind fun v13 =>
  some (((v7 + v9) + v11) + v13, μ5)
def X11_odds (a0 : Nat) (x1 : Int32) (x2 : Int32) (x3 : Int32) (μ : Mem) : Option (Int32 × Mem) :=
  if (X11_isPerson x1) = 0 then
  some ((-1001), μ)
  else
  if (X11_isState x2) = 0 then
  some ((-1002), μ)
  else
  if (X11_in x3.toInt64 0 8) = 0 then
  some ((-1002), μ)
  else
  (gI 11 5 a0 μ).bind fun v4 =>
  (vO 11 a0 μ).bind fun g5 =>
  (X11_findOdds a0 x1 v4 x3 μ).bind fun μ6 =>
  (gR 11 10 a0 μ6).bind fun v7 =>
  (aI v7 x2 μ6).bind fun v8 =>
  some (v8, μ6)
def X11_seam (a0 : Nat) (x1 : Int32) (x2 : Int32) (μ : Mem) : Option (Int32 × Mem) :=
  if (X11_isPerson x1) = 0 then
  some ((-1001), μ)
  else
  ((if (X11_in x2.toInt64 0 8) = 0 then
  some (((-1002), μ))
  else
  (gI 11 5 a0 μ).bind fun v3 =>
  (vO 11 a0 μ).bind fun g4 =>
  (X11_seamOdds a0 x1 v3 x2 μ).bind fun z5 =>
  some ((z5.1, z5.2))) : Option (Int32 × Mem)).bind fun z6 =>
  some (z6.1, z6.2)
def X11_until_L29 (a0 : Nat) (x1 : Int32) (x2 : Int32) : Nat → Int32 → Mem → Option (Int32 × Mem)
  | 0, _, _ => none
  | n + 1, x3, μ =>
      if (8 : Int32) < x3 then
      some ((-1), μ)
      else
      (gI 11 5 a0 μ).bind fun v2 =>
      (vO 11 a0 μ).bind fun g3 =>
      (X11_seamOdds a0 x1 v2 x3 μ).bind fun z4 =>
      if z4.1 < x2 then
      X11_until_L29 a0 x1 x2 n (x3 + 1) z4.2
      else
      some (x3, z4.2)
def X11_until (a0 : Nat) (x1 : Int32) (x2 : Int32) (μ : Mem) : Option (Int32 × Mem) :=
  if (X11_isPerson x1) = 0 then
  some ((-1001), μ)
  else
  if (X11_in x2.toInt64 0 1000000) = 0 then
  some ((-1002), μ)
  else
  X11_until_L29 a0 x1 x2 FU 0 μ
def X11_isThing (a0 : Nat) (x1 : Int32) (μ : Mem) : Option Int32 :=
  (gI 11 12 a0 μ).bind fun v1 =>
  (zz (X11_in x1.toInt64 0 ((v1 - 1).toInt64))).bind fun v2 =>
  some v2
def X11_isMust (a0 : Nat) (x1 : Int32) (μ : Mem) : Option Int32 :=
  (gR 11 14 a0 μ).bind fun v1 =>
  (aI v1 x1 μ).bind fun v2 =>
  ((if v2 = 0 then
  some 1
  else
  (gR 11 14 a0 μ).bind fun v4 =>
  (aI v4 x1 μ).bind fun v5 =>
  if v5 = 3 then
  some 1
  else
  some 0) : Option (Int32)).bind fun z7 =>
  (zz z7).bind fun v8 =>
  some v8
def X11_thing (a0 : Nat) (x1 : Int32) (x2 : Int32) (x3 : Int32) (x4 : Int32) (x5 : Int32) (x6 : Int32) (x7 : Int32) (μ : Mem) : Option (Int32 × Mem) :=
  if (X11_in x1.toInt64 1 15) = 0 then
  some ((-1001), μ)
  else
  if (X11_in x2.toInt64 0 3) = 0 then
  some ((-1002), μ)
  else
  if (X11_in x3.toInt64 0 5) = 0 then
  some ((-1002), μ)
  else
  if (X11_in x4.toInt64 0 9) = 0 then
  some ((-1002), μ)
  else
  if (X11_in x5.toInt64 0 999) = 0 then
  some ((-1002), μ)
  else
  if (X11_in x6.toInt64 0 99) = 0 then
  some ((-1002), μ)
  else
  (gI 11 5 a0 μ).bind fun v7 =>
  if (X11_in x7.toInt64 v7.toInt64 60) = 0 then
  some ((-1002), μ)
  else
  (gI 11 12 a0 μ).bind fun v9 =>
  if v9 = 10 then
  some ((-1004), μ)
  else
  (gR 11 13 a0 μ).bind fun v11 =>
  (gI 11 12 a0 μ).bind fun v12 =>
  (sI v11 v12 x1 μ).bind fun μ13 =>
  (gR 11 14 a0 μ13).bind fun v14 =>
  (gI 11 12 a0 μ13).bind fun v15 =>
  (sI v14 v15 x2 μ13).bind fun μ16 =>
  (gR 11 15 a0 μ16).bind fun v17 =>
  (gI 11 12 a0 μ16).bind fun v18 =>
  (sI v17 v18 x3 μ16).bind fun μ19 =>
  (gR 11 16 a0 μ19).bind fun v20 =>
  (gI 11 12 a0 μ19).bind fun v21 =>
  (sI v20 v21 x4 μ19).bind fun μ22 =>
  (gR 11 17 a0 μ22).bind fun v23 =>
  (gI 11 12 a0 μ22).bind fun v24 =>
  (sI v23 v24 x5 μ22).bind fun μ25 =>
  (gR 11 18 a0 μ25).bind fun v26 =>
  (gI 11 12 a0 μ25).bind fun v27 =>
  (sI v26 v27 x6 μ25).bind fun μ28 =>
  (gR 11 19 a0 μ28).bind fun v29 =>
  (gI 11 12 a0 μ28).bind fun v30 =>
  (sI v29 v30 x7 μ28).bind fun μ31 =>
  (gR 11 20 a0 μ31).bind fun v32 =>
  (gI 11 12 a0 μ31).bind fun v33 =>
  (gI 11 5 a0 μ31).bind fun v34 =>
  (sI v32 v33 v34 μ31).bind fun μ35 =>
  (gR 11 21 a0 μ35).bind fun v36 =>
  (gI 11 12 a0 μ35).bind fun v37 =>
  (sZ v36 v37 0 μ35).bind fun μ38 =>
  (gI 11 12 a0 μ38).bind fun v39 =>
  (pI 11 12 a0 (v39 + 1) μ38).bind fun μ40 =>
  (gI 11 12 a0 μ40).bind fun v41 =>
  some (v41 - 1, μ40)
def X11_sayingsOf_L4 (a0 : Nat) (x1 : Int32) (μ : Mem) : Nat → Int32 → Int32 → Option (Int32 × Int32)
  | 0, _, _ => none
  | n + 1, x2, x3 =>
      (gI 11 45 a0 μ).bind fun v1 =>
      if v1 ≤ x3 then
      some ((x2, x3))
      else
      (gR 11 47 a0 μ).bind fun v3 =>
      (aI v3 x3 μ).bind fun v4 =>
      (some (x2 + ((v4 >>> (x1 &&& 31)) &&& 1) : Int32)).bind fun v5 =>
      X11_sayingsOf_L4 a0 x1 μ n v5 (x3 + 1)
def X11_sayingsOf (a0 : Nat) (x1 : Int32) (μ : Mem) : Option Int32 :=
  (X11_sayingsOf_L4 a0 x1 μ FU 0 0).bind fun z1 =>
  some (z1.1)
def X11_dead (a0 : Nat) (x1 : Int32) (μ : Mem) : Option (Int32 × Mem) :=
  (vO 11 a0 μ).bind fun g1 =>
  (X11_isThing a0 x1 μ).bind fun v2 =>
  if v2 = 0 then
  some ((-1001), μ)
  else
  (gR 11 21 a0 μ).bind fun v4 =>
  (aZ v4 x1 μ).bind fun v5 =>
  if v5 = 0 then
  (gR 11 21 a0 μ).bind fun v7 =>
  (sZ v7 x1 1 μ).bind fun μ8 =>
  (vO 11 a0 μ8).bind fun g9 =>
  (X11_sayingsOf a0 x1 μ8).bind fun v10 =>
  some (v10, μ8)
  else
  some ((-1003), μ)
def X11_isTold_L7 (a0 : Nat) (x1 : Int32) (μ : Mem) : Nat → Int32 → Int32 → Int32 → Option (Int32 × Int32 × Int32)
  | 0, _, _, _ => none
  | n + 1, x2, x3, x4 =>
      (gI 11 45 a0 μ).bind fun v1 =>
      if v1 ≤ x4 then
      some ((x2, x3, x4))
      else
      (gR 11 47 a0 μ).bind fun v3 =>
      (aI v3 x4 μ).bind fun v4 =>
      (some (if ((v4 >>> (x1 &&& 31)) &&& 1) = 1 then 1 else 0 : Int32)).bind fun v6 =>
      ((if x2 = 0 then
      if v6 = 0 then
      some 0
      else
      (gR 11 50 a0 μ).bind fun v9 =>
      (aI v9 x4 μ).bind fun v10 =>
      if v10 = 3 then
      some 0
      else
      some 1
      else
      some 1) : Option (Int32)).bind fun z12 =>
      ((if v6 = 0 then
      some 0
      else
      (gR 11 50 a0 μ).bind fun v14 =>
      (aI v14 x4 μ).bind fun v15 =>
      if v15 = 1 then
      (gR 11 46 a0 μ).bind fun v17 =>
      (aI v17 x4 μ).bind fun v18 =>
      some (1 <<< (v18 &&& 31))
      else
      some 0) : Option (Int32)).bind fun z19 =>
      (some (x3 ||| z19 : Int32)).bind fun v20 =>
      X11_isTold_L7 a0 x1 μ n z12 v20 (x4 + 1)
def X11_isTold (a0 : Nat) (x1 : Int32) (μ : Mem) : Option Int32 :=
  (X11_isTold_L7 a0 x1 μ FU 0 0 0).bind fun z1 =>
  (gR 11 14 a0 μ).bind fun v2 =>
  (aI v2 x1 μ).bind fun v3 =>
  (some (if v3 = 3 then if (z1.2.1 &&& (z1.2.1 - 1)) = 0 then 0 else 1 else z1.1 : Int32)).bind fun v5 =>
  (zz v5).bind fun v6 =>
  some v6
def X11_stateOf (a0 : Nat) (x1 : Int32) (μ : Mem) : Option Int32 :=
  (gR 11 21 a0 μ).bind fun v1 =>
  (aZ v1 x1 μ).bind fun v2 =>
  ((if v2 = 0 then
  (vO 11 a0 μ).bind fun g4 =>
  (X11_isTold a0 x1 μ).bind fun v5 =>
  if v5 = 0 then
  (gR 11 19 a0 μ).bind fun v7 =>
  (aI v7 x1 μ).bind fun v8 =>
  (gI 11 5 a0 μ).bind fun v9 =>
  if v9 ≤ v8 then
  some 0
  else
  some 3
  else
  some 1
  else
  some 2) : Option (Int32)).bind fun z11 =>
  some (z11)
def X11_told (a0 : Nat) (x1 : Int32) (x2 : Int32) (μ : Mem) : Option Int32 :=
  (vO 11 a0 μ).bind fun g1 =>
  (X11_isThing a0 x1 μ).bind fun v2 =>
  if v2 = 0 then
  some ((-1001))
  else
  if x2 = Int32.ofNat 0 then
  (gR 11 13 a0 μ).bind fun v5 =>
  (aI v5 x1 μ).bind fun v6 =>
  some (v6)
  else
  if x2 = Int32.ofNat 1 then
  (gR 11 14 a0 μ).bind fun v8 =>
  (aI v8 x1 μ).bind fun v9 =>
  some (v9)
  else
  if x2 = Int32.ofNat 2 then
  (gR 11 15 a0 μ).bind fun v11 =>
  (aI v11 x1 μ).bind fun v12 =>
  some (v12)
  else
  if x2 = Int32.ofNat 3 then
  (gR 11 16 a0 μ).bind fun v14 =>
  (aI v14 x1 μ).bind fun v15 =>
  some (v15)
  else
  if x2 = Int32.ofNat 4 then
  (gR 11 19 a0 μ).bind fun v17 =>
  (aI v17 x1 μ).bind fun v18 =>
  some (v18)
  else
  if x2 = Int32.ofNat 5 then
  (vO 11 a0 μ).bind fun g20 =>
  (X11_stateOf a0 x1 μ).bind fun v21 =>
  some (v21)
  else
  if x2 = Int32.ofNat 6 then
  (vO 11 a0 μ).bind fun g23 =>
  (X11_sayingsOf a0 x1 μ).bind fun v24 =>
  some (v24)
  else
  if x2 = Int32.ofNat 7 then
  (gR 11 20 a0 μ).bind fun v26 =>
  (aI v26 x1 μ).bind fun v27 =>
  some (v27)
  else
  some ((-1002))
def X11_valueOf (a0 : Nat) (x1 : Int32) (x2 : Int32) (x3 : Int32) (μ : Mem) : Option (Int32 × Mem) :=
  (gI 11 5 a0 μ).bind fun v1 =>
  (some (v1 + x3 : Int32)).bind fun v2 =>
  (gR 11 17 a0 μ).bind fun v3 =>
  (aI v3 x1 μ).bind fun v4 =>
  (gR 11 18 a0 μ).bind fun v5 =>
  (aI v5 x1 μ).bind fun v6 =>
  (gR 11 20 a0 μ).bind fun v7 =>
  (aI v7 x1 μ).bind fun v8 =>
  (some (v4 - (v6 * (v2 - v8)) : Int32)).bind fun v9 =>
  (gR 11 21 a0 μ).bind fun v10 =>
  (aZ v10 x1 μ).bind fun v11 =>
  if v11 = 0 then
  (gR 11 19 a0 μ).bind fun v13 =>
  (aI v13 x1 μ).bind fun v14 =>
  if v14 < v2 then
  some (0, μ)
  else
  if (0 : Int32) < v9 then
  (gR 11 14 a0 μ).bind fun v17 =>
  (aI v17 x1 μ).bind fun v18 =>
  ((if v18 = 2 then
  (gI 11 5 a0 μ).bind fun v20 =>
  (vO 11 a0 μ).bind fun g21 =>
  (X11_seamOdds a0 x2 v20 x3 μ).bind fun z22 =>
  (dvJ (v9.toInt64 * z22.1.toInt64) 1000000).bind fun v23 =>
  some ((v23.toInt32, z22.2))
  else
  some ((v9, μ))) : Option (Int32 × Mem)).bind fun z24 =>
  some (z24.1, z24.2)
  else
  some (0, μ)
  else
  some (0, μ)
def X11_value (a0 : Nat) (x1 : Int32) (x2 : Int32) (x3 : Int32) (μ : Mem) : Option (Int32 × Mem) :=
  (vO 11 a0 μ).bind fun g1 =>
  (X11_isThing a0 x1 μ).bind fun v2 =>
  if v2 = 0 then
  some ((-1001), μ)
  else
  if (X11_isPerson x2) = 0 then
  some ((-1001), μ)
  else
  ((if (X11_in x3.toInt64 0 8) = 0 then
  some (((-1002), μ))
  else
  (vO 11 a0 μ).bind fun g6 =>
  (X11_valueOf a0 x1 x2 x3 μ).bind fun z7 =>
  some ((z7.1, z7.2))) : Option (Int32 × Mem)).bind fun z8 =>
  some (z8.1, z8.2)
def X11_isWay (x0 : Int32) : Int32 :=
  X11_in x0.toInt64 0 3
def X11_cost (a0 : Nat) (x1 : Int32) (x2 : Int32) (x3 : Int32) (μ : Mem) : Option (Int32 × Mem) :=
  if (X11_isWay x1) = 0 then
  some ((-1002), μ)
  else
  if (X11_isState x2) = 0 then
  some ((-1002), μ)
  else
  if (X11_in x3.toInt64 0 999) = 0 then
  some ((-1002), μ)
  else
  (gR 11 22 a0 μ).bind fun v4 =>
  (aI v4 ((4 * x1) + x2) μ).bind fun v5 =>
  (gR 11 22 a0 μ).bind fun v6 =>
  (sI v6 ((4 * x1) + x2) x3 μ).bind fun μ7 =>
  some (v5, μ7)
def X11_seen (a0 : Nat) (x1 : Int32) (x2 : Int32) (μ : Mem) : Option (Int32 × Mem) :=
  if (X11_isWay x1) = 0 then
  some ((-1002), μ)
  else
  if (X11_in x2.toInt64 0 100) = 0 then
  some ((-1002), μ)
  else
  (gR 11 23 a0 μ).bind fun v3 =>
  (aI v3 x1 μ).bind fun v4 =>
  (gR 11 23 a0 μ).bind fun v5 =>
  (sI v5 x1 x2 μ).bind fun μ6 =>
  some (v4, μ6)
def X11_lossOf_L14 (a0 : Nat) (x2 : Int32) (μ : Mem) : Nat → Int32 → Int32 → Option (Int32 × Int32)
  | 0, _, _ => none
  | n + 1, x5, x6 =>
      if (4 : Int32) ≤ x6 then
      some ((x5, x6))
      else
      (gR 11 10 a0 μ).bind fun v2 =>
      (aI v2 x6 μ).bind fun v3 =>
      (gR 11 22 a0 μ).bind fun v4 =>
      (aI v4 ((4 * x2) + x6) μ).bind fun v5 =>
      (dvI (v3 * v5) 1000000).bind fun v6 =>
      (some (x5 + v6 : Int32)).bind fun v7 =>
      X11_lossOf_L14 a0 x2 μ n v7 (x6 + 1)
def X11_lossOf (a0 : Nat) (x1 : Int32) (x2 : Int32) (x3 : Int32) (x4 : Int32) (μ : Mem) : Option (Int32 × Mem) :=
  (vO 11 a0 μ).bind fun g1 =>
  (X11_findOdds a0 x1 x3 x4 μ).bind fun μ2 =>
  (X11_lossOf_L14 a0 x2 μ2 FU 0 0).bind fun z3 =>
  some (z3.1, μ2)
def X11_loss (a0 : Nat) (x1 : Int32) (x2 : Int32) (x3 : Int32) (μ : Mem) : Option (Int32 × Mem) :=
  if (X11_isPerson x1) = 0 then
  some ((-1001), μ)
  else
  ((if (X11_isWay x2) = 0 then
  some (((-1002), μ))
  else
  if (X11_in x3.toInt64 0 8) = 0 then
  some (((-1002), μ))
  else
  (gI 11 5 a0 μ).bind fun v4 =>
  (vO 11 a0 μ).bind fun g5 =>
  (X11_lossOf a0 x1 x2 v4 x3 μ).bind fun z6 =>
  some ((z6.1, z6.2))) : Option (Int32 × Mem)).bind fun z7 =>
  some (z7.1, z7.2)
def X11_thingsThat_L4 (a0 : Nat) (x1 : Int32) (μ : Mem) : Nat → Int32 → Int32 → Option (Int32 × Int32)
  | 0, _, _ => none
  | n + 1, x2, x3 =>
      (gI 11 12 a0 μ).bind fun v1 =>
      if v1 ≤ x3 then
      some ((x2, x3))
      else
      (vO 11 a0 μ).bind fun g3 =>
      (X11_stateOf a0 x3 μ).bind fun v4 =>
      (some (if v4 = x1 then 1 else 0 : Int32)).bind fun v6 =>
      (some (x2 + v6 : Int32)).bind fun v7 =>
      X11_thingsThat_L4 a0 x1 μ n v7 (x3 + 1)
def X11_thingsThat (a0 : Nat) (x1 : Int32) (μ : Mem) : Option Int32 :=
  (X11_thingsThat_L4 a0 x1 μ FU 0 0).bind fun z1 =>
  some (z1.1)
def X11_count (a0 : Nat) (x1 : Int32) (μ : Mem) : Option Int32 :=
  if x1 = Int32.ofNat 0 then
  (gI 11 5 a0 μ).bind fun v2 =>
  some (v2)
  else
  if x1 = Int32.ofNat 1 then
  (gI 11 12 a0 μ).bind fun v4 =>
  some (v4)
  else
  if x1 = Int32.ofNat 2 then
  (vO 11 a0 μ).bind fun g6 =>
  (X11_thingsThat a0 0 μ).bind fun v7 =>
  some (v7)
  else
  if x1 = Int32.ofNat 3 then
  (vO 11 a0 μ).bind fun g9 =>
  (X11_thingsThat a0 1 μ).bind fun v10 =>
  some (v10)
  else
  if x1 = Int32.ofNat 4 then
  (vO 11 a0 μ).bind fun g12 =>
  (X11_thingsThat a0 2 μ).bind fun v13 =>
  some (v13)
  else
  if x1 = Int32.ofNat 5 then
  (vO 11 a0 μ).bind fun g15 =>
  (X11_thingsThat a0 3 μ).bind fun v16 =>
  some (v16)
  else
  if x1 = Int32.ofNat 6 then
  (gI 11 45 a0 μ).bind fun v18 =>
  some (v18)
  else
  if x1 = Int32.ofNat 7 then
  (gI 11 34 a0 μ).bind fun v20 =>
  some (v20)
  else
  some ((-1002))
def X11_feed_L37 (a0 : Nat) (j2 : Int64) : Nat → Int32 → Mem → Option (Int32 × Mem)
  | 0, _, _ => none
  | n + 1, x4, μ =>
      if x4 < 0 then
      some ((x4, μ))
      else
      (gR 11 33 a0 μ).bind fun v2 =>
      (gI 11 34 a0 μ).bind fun v3 =>
      (sI v2 v3 (((j2 >>> ((8 * x4).toInt64 &&& 63)) &&& 255).toInt32) μ).bind fun μ4 =>
      (gI 11 34 a0 μ4).bind fun v5 =>
      (pI 11 34 a0 (v5 + 1) μ4).bind fun μ6 =>
      X11_feed_L37 a0 j2 n (x4 + (-1)) μ6
def X11_feed (a0 : Nat) (x1 : Int32) (j2 : Int64) (μ : Mem) : Option (Int32 × Mem) :=
  if (X11_in x1.toInt64 1 8) = 0 then
  some ((-1002), μ)
  else
  (gI 11 34 a0 μ).bind fun v2 =>
  if (v2 + x1) ≤ 160 then
  (some (x1 - 1 : Int32)).bind fun v4 =>
  (X11_feed_L37 a0 j2 FU v4 μ).bind fun z5 =>
  (gI 11 34 a0 z5.2).bind fun v6 =>
  some (v6, z5.2)
  else
  some ((-1004), μ)
def X11_here_L0 (a0 : Nat) : Nat → Mem → Option (Mem)
  | 0, _ => none
  | n + 1, μ =>
      (gI 11 36 a0 μ).bind fun v1 =>
      (gI 11 34 a0 μ).bind fun v2 =>
      if v2 ≤ v1 then
      some μ
      else
      (gR 11 33 a0 μ).bind fun v4 =>
      (gI 11 36 a0 μ).bind fun v5 =>
      (aI v4 v5 μ).bind fun v6 =>
      if v6 = 32 then
      (gI 11 36 a0 μ).bind fun v8 =>
      (pI 11 36 a0 (v8 + 1) μ).bind fun μ9 =>
      X11_here_L0 a0 n μ9
      else
      some μ
def X11_here (a0 : Nat) (μ : Mem) : Option (Int32 × Mem) :=
  (X11_here_L0 a0 FU μ).bind fun z1 =>
  (gI 11 36 a0 z1).bind fun v2 =>
  (gI 11 34 a0 z1).bind fun v3 =>
  ((if v3 ≤ v2 then
  some ((-1))
  else
  (gR 11 33 a0 z1).bind fun v5 =>
  (gI 11 36 a0 z1).bind fun v6 =>
  (aI v5 v6 z1).bind fun v7 =>
  some v7) : Option (Int32)).bind fun z8 =>
  some (z8, z1)
def X11_fails (a0 : Nat) (x1 : Int32) (x2 : Int32) (μ : Mem) : Option (Int32 × Mem) :=
  (pI 11 35 a0 x2 μ).bind fun μ1 =>
  some (x1, μ1)
def X11_readWord_L18 (a0 : Nat) : Nat → Mem → Option (Mem)
  | 0, _ => none
  | n + 1, μ =>
      (gI 11 38 a0 μ).bind fun v1 =>
      (gI 11 34 a0 μ).bind fun v2 =>
      if v2 ≤ v1 then
      some μ
      else
      (gR 11 33 a0 μ).bind fun v4 =>
      (gI 11 38 a0 μ).bind fun v5 =>
      (aI v4 v5 μ).bind fun v6 =>
      if (X11_in v6.toInt64 97 122) = 0 then
      some μ
      else
      (gJ 11 37 a0 μ).bind fun v8 =>
      ((if (lg_cmp v8 10000000000) ≤ 0 then
      (gJ 11 37 a0 μ).bind fun v10 =>
      (gR 11 33 a0 μ).bind fun v11 =>
      (gI 11 38 a0 μ).bind fun v12 =>
      (aI v11 v12 μ).bind fun v13 =>
      some (((27 * v10) + v13.toInt64) - 96)
      else
      some 20000000000) : Option (Int64)).bind fun z14 =>
      (pJ 11 37 a0 z14 μ).bind fun μ15 =>
      (gI 11 38 a0 μ15).bind fun v16 =>
      (pI 11 38 a0 (v16 + 1) μ15).bind fun μ17 =>
      X11_readWord_L18 a0 n μ17
def X11_readWord (a0 : Nat) (μ : Mem) : Option Mem :=
  (vO 11 a0 μ).bind fun g1 =>
  (X11_here a0 μ).bind fun z2 =>
  (pJ 11 37 a0 0 z2.2).bind fun μ3 =>
  (gI 11 36 a0 μ3).bind fun v4 =>
  (pI 11 38 a0 v4 μ3).bind fun μ5 =>
  (X11_readWord_L18 a0 FU μ5).bind fun z6 =>
  some z6
def X11_code (x0 : Int32) (x1 : Int32) (x2 : Int32) (x3 : Int32) (x4 : Int32) (x5 : Int32) : Int64 :=
  (if x5 = 0 then (if x4 = 0 then (if x3 = 0 then (if x2 = 0 then ((27 * (x0.toInt64 - 96)) + x1.toInt64) - 96 else ((27 * (((27 * (x0.toInt64 - 96)) + x1.toInt64) - 96)) + x2.toInt64) - 96) else ((27 * ((if x2 = 0 then ((27 * (x0.toInt64 - 96)) + x1.toInt64) - 96 else ((27 * (((27 * (x0.toInt64 - 96)) + x1.toInt64) - 96)) + x2.toInt64) - 96))) + x3.toInt64) - 96) else ((27 * ((if x3 = 0 then (if x2 = 0 then ((27 * (x0.toInt64 - 96)) + x1.toInt64) - 96 else ((27 * (((27 * (x0.toInt64 - 96)) + x1.toInt64) - 96)) + x2.toInt64) - 96) else ((27 * ((if x2 = 0 then ((27 * (x0.toInt64 - 96)) + x1.toInt64) - 96 else ((27 * (((27 * (x0.toInt64 - 96)) + x1.toInt64) - 96)) + x2.toInt64) - 96))) + x3.toInt64) - 96))) + x4.toInt64) - 96) else ((27 * ((if x4 = 0 then (if x3 = 0 then (if x2 = 0 then ((27 * (x0.toInt64 - 96)) + x1.toInt64) - 96 else ((27 * (((27 * (x0.toInt64 - 96)) + x1.toInt64) - 96)) + x2.toInt64) - 96) else ((27 * ((if x2 = 0 then ((27 * (x0.toInt64 - 96)) + x1.toInt64) - 96 else ((27 * (((27 * (x0.toInt64 - 96)) + x1.toInt64) - 96)) + x2.toInt64) - 96))) + x3.toInt64) - 96) else ((27 * ((if x3 = 0 then (if x2 = 0 then ((27 * (x0.toInt64 - 96)) + x1.toInt64) - 96 else ((27 * (((27 * (x0.toInt64 - 96)) + x1.toInt64) - 96)) + x2.toInt64) - 96) else ((27 * ((if x2 = 0 then ((27 * (x0.toInt64 - 96)) + x1.toInt64) - 96 else ((27 * (((27 * (x0.toInt64 - 96)) + x1.toInt64) - 96)) + x2.toInt64) - 96))) + x3.toInt64) - 96))) + x4.toInt64) - 96))) + x5.toInt64) - 96)
def X11_needs (a0 : Nat) (j1 : Int64) (μ : Mem) : Option (Int32 × Mem) :=
  (vO 11 a0 μ).bind fun g1 =>
  (X11_readWord a0 μ).bind fun μ2 =>
  (gJ 11 37 a0 μ2).bind fun v3 =>
  if (lg_cmp v3 j1) = 0 then
  (gI 11 38 a0 μ2).bind fun v5 =>
  (pI 11 36 a0 v5 μ2).bind fun μ6 =>
  some (0, μ6)
  else
  (gI 11 36 a0 μ2).bind fun v7 =>
  (vO 11 a0 μ2).bind fun g8 =>
  (X11_fails a0 1 v7 μ2).bind fun z9 =>
  some (z9.1, z9.2)
def X11_readNumber_L40 (a0 : Nat) (x1 : Int32) (x2 : Int32) (x4 : Int32) : Nat → Mem → Option (Mem)
  | 0, _ => none
  | n + 1, μ =>
      (gI 11 36 a0 μ).bind fun v1 =>
      (gI 11 34 a0 μ).bind fun v2 =>
      if v2 ≤ v1 then
      some μ
      else
      (gR 11 33 a0 μ).bind fun v4 =>
      (gI 11 36 a0 μ).bind fun v5 =>
      (aI v4 v5 μ).bind fun v6 =>
      if (X11_in v6.toInt64 48 57) = 0 then
      some μ
      else
      (gI 11 39 a0 μ).bind fun v8 =>
      ((if v8 ≤ 10000 then
      (gI 11 39 a0 μ).bind fun v10 =>
      (gR 11 33 a0 μ).bind fun v11 =>
      (gI 11 36 a0 μ).bind fun v12 =>
      (aI v11 v12 μ).bind fun v13 =>
      some (((10 * v10) + v13) - 48)
      else
      (gI 11 39 a0 μ).bind fun v14 =>
      some v14) : Option (Int32)).bind fun z15 =>
      (pI 11 39 a0 z15 μ).bind fun μ16 =>
      (gI 11 36 a0 μ16).bind fun v17 =>
      (pI 11 36 a0 (v17 + 1) μ16).bind fun μ18 =>
      X11_readNumber_L40 a0 x1 x2 x4 n μ18
def X11_readNumber (a0 : Nat) (x1 : Int32) (x2 : Int32) (μ : Mem) : Option (Int32 × Mem) :=
  (vO 11 a0 μ).bind fun g1 =>
  (X11_here a0 μ).bind fun z2 =>
  if (X11_in z2.1.toInt64 48 57) = 0 then
  (gI 11 36 a0 z2.2).bind fun v16 =>
  (vO 11 a0 z2.2).bind fun g17 =>
  (X11_fails a0 1 v16 z2.2).bind fun z18 =>
  some (z18.1, z18.2)
  else
  (gI 11 36 a0 z2.2).bind fun v4 =>
  (pI 11 39 a0 0 z2.2).bind fun μ5 =>
  (X11_readNumber_L40 a0 x1 x2 v4 FU μ5).bind fun z6 =>
  (gI 11 36 a0 z6).bind fun v7 =>
  ((if (3 : Int32) < (v7 - v4) then
  (vO 11 a0 z6).bind fun g9 =>
  (X11_fails a0 2 v4 z6).bind fun z10 =>
  some ((z10.1, z10.2))
  else
  (gI 11 39 a0 z6).bind fun v11 =>
  if (X11_in v11.toInt64 x1.toInt64 x2.toInt64) = 0 then
  (vO 11 a0 z6).bind fun g13 =>
  (X11_fails a0 2 v4 z6).bind fun z14 =>
  some ((z14.1, z14.2))
  else
  some ((0, z6))) : Option (Int32 × Mem)).bind fun z15 =>
  some (z15.1, z15.2)
def X11_readWay (a0 : Nat) (x1 : Int32) (μ : Mem) : Option (Int32 × Mem) :=
  (vO 11 a0 μ).bind fun g1 =>
  (X11_readNumber a0 0 3 μ).bind fun z2 =>
  (gR 11 29 a0 z2.2).bind fun v3 =>
  (sI v3 x1 0 z2.2).bind fun μ4 =>
  (gR 11 30 a0 μ4).bind fun v5 =>
  (gI 11 39 a0 μ4).bind fun v6 =>
  (sI v5 x1 v6 μ4).bind fun μ7 =>
  if (0 : Int32) < z2.1 then
  some (z2.1, μ7)
  else
  (vO 11 a0 μ7).bind fun g9 =>
  (X11_here a0 μ7).bind fun z10 =>
  if (X11_in z10.1.toInt64 97 122) = 0 then
  some (z2.1, z10.2)
  else
  (vO 11 a0 z10.2).bind fun g12 =>
  (X11_needs a0 (X11_code 115 116 97 116 101 0) z10.2).bind fun z13 =>
  ((if z13.1 ≤ 0 then
  (vO 11 a0 z13.2).bind fun g15 =>
  (X11_readNumber a0 0 3 z13.2).bind fun z16 =>
  some ((z16.1, z16.2))
  else
  some ((z13.1, z13.2))) : Option (Int32 × Mem)).bind fun z17 =>
  (gR 11 29 a0 z17.2).bind fun v18 =>
  (sI v18 x1 1 z17.2).bind fun μ19 =>
  (gR 11 31 a0 μ19).bind fun v20 =>
  (gI 11 39 a0 μ19).bind fun v21 =>
  (sI v20 x1 v21 μ19).bind fun μ22 =>
  ((if z17.1 ≤ 0 then
  (vO 11 a0 μ22).bind fun g24 =>
  (X11_readNumber a0 0 100 μ22).bind fun z25 =>
  some ((z25.1, z25.2))
  else
  some ((z17.1, μ22))) : Option (Int32 × Mem)).bind fun z26 =>
  (gR 11 32 a0 z26.2).bind fun v27 =>
  (gI 11 39 a0 z26.2).bind fun v28 =>
  (sI v27 x1 v28 z26.2).bind fun μ29 =>
  some (z26.1, μ29)
def X11_readNever (a0 : Nat) (x1 : Int32) (μ : Mem) : Option (Int32 × Mem) :=
  (vO 11 a0 μ).bind fun g1 =>
  (X11_readWord a0 μ).bind fun μ2 =>
  (gJ 11 37 a0 μ2).bind fun v3 =>
  (some (if (lg_cmp v3 (X11_code 119 97 121 0 0 0)) = 0 then 1 else 0 : Int32)).bind fun v5 =>
  if v5 = 0 then
  (gJ 11 37 a0 μ2).bind fun v30 =>
  if (lg_cmp v30 (X11_code 107 105 110 100 0 0)) = 0 then
  (gI 11 38 a0 μ2).bind fun v32 =>
  (pI 11 36 a0 v32 μ2).bind fun μ33 =>
  if v5 = 0 then
  (vO 11 a0 μ33).bind fun g35 =>
  (X11_readNumber a0 0 3 μ33).bind fun z36 =>
  (gR 11 29 a0 z36.2).bind fun v37 =>
  (sI v37 x1 2 z36.2).bind fun μ38 =>
  (gR 11 30 a0 μ38).bind fun v39 =>
  (gI 11 39 a0 μ38).bind fun v40 =>
  (sI v39 x1 v40 μ38).bind fun μ41 =>
  ((if z36.1 ≤ 0 then
  (vO 11 a0 μ41).bind fun g43 =>
  (X11_needs a0 (X11_code 97 102 116 101 114 0) μ41).bind fun z44 =>
  some ((z44.1, z44.2))
  else
  some ((z36.1, μ41))) : Option (Int32 × Mem)).bind fun z45 =>
  ((if z45.1 ≤ 0 then
  (vO 11 a0 z45.2).bind fun g47 =>
  (X11_readNumber a0 0 60 z45.2).bind fun z48 =>
  some ((z48.1, z48.2))
  else
  some ((z45.1, z45.2))) : Option (Int32 × Mem)).bind fun z49 =>
  (gR 11 31 a0 z49.2).bind fun v50 =>
  (gI 11 39 a0 z49.2).bind fun v51 =>
  (sI v50 x1 v51 z49.2).bind fun μ52 =>
  some (z49.1, μ52)
  else
  (vO 11 a0 μ33).bind fun g53 =>
  (X11_readWay a0 x1 μ33).bind fun z54 =>
  some (z54.1, z54.2)
  else
  (gI 11 36 a0 μ2).bind fun v55 =>
  (vO 11 a0 μ2).bind fun g56 =>
  (X11_fails a0 1 v55 μ2).bind fun z57 =>
  some (z57.1, z57.2)
  else
  (gI 11 38 a0 μ2).bind fun v7 =>
  (pI 11 36 a0 v7 μ2).bind fun μ8 =>
  if v5 = 0 then
  (vO 11 a0 μ8).bind fun g10 =>
  (X11_readNumber a0 0 3 μ8).bind fun z11 =>
  (gR 11 29 a0 z11.2).bind fun v12 =>
  (sI v12 x1 2 z11.2).bind fun μ13 =>
  (gR 11 30 a0 μ13).bind fun v14 =>
  (gI 11 39 a0 μ13).bind fun v15 =>
  (sI v14 x1 v15 μ13).bind fun μ16 =>
  ((if z11.1 ≤ 0 then
  (vO 11 a0 μ16).bind fun g18 =>
  (X11_needs a0 (X11_code 97 102 116 101 114 0) μ16).bind fun z19 =>
  some ((z19.1, z19.2))
  else
  some ((z11.1, μ16))) : Option (Int32 × Mem)).bind fun z20 =>
  ((if z20.1 ≤ 0 then
  (vO 11 a0 z20.2).bind fun g22 =>
  (X11_readNumber a0 0 60 z20.2).bind fun z23 =>
  some ((z23.1, z23.2))
  else
  some ((z20.1, z20.2))) : Option (Int32 × Mem)).bind fun z24 =>
  (gR 11 31 a0 z24.2).bind fun v25 =>
  (gI 11 39 a0 z24.2).bind fun v26 =>
  (sI v25 x1 v26 z24.2).bind fun μ27 =>
  some (z24.1, μ27)
  else
  (vO 11 a0 μ8).bind fun g28 =>
  (X11_readWay a0 x1 μ8).bind fun z29 =>
  some (z29.1, z29.2)
def X11_readMost (a0 : Nat) (x1 : Int32) (μ : Mem) : Option (Int32 × Mem) :=
  (vO 11 a0 μ).bind fun g1 =>
  (X11_readNumber a0 0 9 μ).bind fun z2 =>
  (gR 11 29 a0 z2.2).bind fun v3 =>
  (sI v3 x1 3 z2.2).bind fun μ4 =>
  (gR 11 30 a0 μ4).bind fun v5 =>
  (gI 11 39 a0 μ4).bind fun v6 =>
  (sI v5 x1 v6 μ4).bind fun μ7 =>
  ((if z2.1 ≤ 0 then
  (vO 11 a0 μ7).bind fun g9 =>
  (X11_needs a0 (X11_code 105 110 0 0 0 0) μ7).bind fun z10 =>
  some ((z10.1, z10.2))
  else
  some ((z2.1, μ7))) : Option (Int32 × Mem)).bind fun z11 =>
  ((if z11.1 ≤ 0 then
  (vO 11 a0 z11.2).bind fun g13 =>
  (X11_readNumber a0 1 60 z11.2).bind fun z14 =>
  some ((z14.1, z14.2))
  else
  some ((z11.1, z11.2))) : Option (Int32 × Mem)).bind fun z15 =>
  (gR 11 31 a0 z15.2).bind fun v16 =>
  (gI 11 39 a0 z15.2).bind fun v17 =>
  (sI v16 x1 v17 z15.2).bind fun μ18 =>
  some (z15.1, μ18)
def X11_readAlways (a0 : Nat) (x1 : Int32) (μ : Mem) : Option (Int32 × Mem) :=
  (vO 11 a0 μ).bind fun g1 =>
  (X11_needs a0 (X11_code 102 114 111 109 0 0) μ).bind fun z2 =>
  ((if z2.1 ≤ 0 then
  (vO 11 a0 z2.2).bind fun g4 =>
  (X11_readNumber a0 0 9 z2.2).bind fun z5 =>
  some ((z5.1, z5.2))
  else
  some ((z2.1, z2.2))) : Option (Int32 × Mem)).bind fun z6 =>
  (gR 11 29 a0 z6.2).bind fun v7 =>
  (sI v7 x1 4 z6.2).bind fun μ8 =>
  (gR 11 30 a0 μ8).bind fun v9 =>
  (gI 11 39 a0 μ8).bind fun v10 =>
  (sI v9 x1 v10 μ8).bind fun μ11 =>
  some (z6.1, μ11)
def X11_readClause (a0 : Nat) (x1 : Int32) (μ : Mem) : Option (Int32 × Mem) :=
  (vO 11 a0 μ).bind fun g1 =>
  (X11_readWord a0 μ).bind fun μ2 =>
  (gJ 11 37 a0 μ2).bind fun v3 =>
  ((if (lg_cmp v3 (X11_code 110 101 118 101 114 0)) = 0 then
  some 0
  else
  (gJ 11 37 a0 μ2).bind fun v5 =>
  if (lg_cmp v5 (X11_code 109 111 115 116 0 0)) = 0 then
  some 1
  else
  (gJ 11 37 a0 μ2).bind fun v7 =>
  if (lg_cmp v7 (X11_code 97 108 119 97 121 115)) = 0 then
  some 2
  else
  some ((-1))) : Option (Int32)).bind fun z9 =>
  if z9 < 0 then
  (some (if (0 : Int32) ≤ z9 then 3 else 1 : Int32)).bind fun v12 =>
  (gI 11 36 a0 μ2).bind fun v13 =>
  (vO 11 a0 μ2).bind fun g14 =>
  (X11_fails a0 v12 v13 μ2).bind fun z15 =>
  some (z15.1, z15.2)
  else
  if x1 = 8 then
  (some (if (0 : Int32) ≤ z9 then 3 else 1 : Int32)).bind fun v38 =>
  (gI 11 36 a0 μ2).bind fun v39 =>
  (vO 11 a0 μ2).bind fun g40 =>
  (X11_fails a0 v38 v39 μ2).bind fun z41 =>
  some (z41.1, z41.2)
  else
  (gI 11 38 a0 μ2).bind fun v17 =>
  (pI 11 36 a0 v17 μ2).bind fun μ18 =>
  ((if z9 = 0 then
  (vO 11 a0 μ18).bind fun g25 =>
  (X11_readNever a0 x1 μ18).bind fun z26 =>
  some ((z26.1, z26.2))
  else
  if z9 = 1 then
  (vO 11 a0 μ18).bind fun g23 =>
  (X11_readMost a0 x1 μ18).bind fun z24 =>
  some ((z24.1, z24.2))
  else
  (vO 11 a0 μ18).bind fun g21 =>
  (X11_readAlways a0 x1 μ18).bind fun z22 =>
  some ((z22.1, z22.2))) : Option (Int32 × Mem)).bind fun z27 =>
  if z27.1 ≤ 0 then
  (vO 11 a0 z27.2).bind fun g29 =>
  (X11_here a0 z27.2).bind fun z30 =>
  if z30.1 = 59 then
  (gI 11 36 a0 z30.2).bind fun v32 =>
  (pI 11 36 a0 (v32 + 1) z30.2).bind fun μ33 =>
  some (0, μ33)
  else
  (gI 11 36 a0 z30.2).bind fun v34 =>
  (vO 11 a0 z30.2).bind fun g35 =>
  (X11_fails a0 1 v34 z30.2).bind fun z36 =>
  some (z36.1, z36.2)
  else
  some (z27.1, z27.2)
def X11_read_L25 (a0 : Nat) (x1 : Int32) : Nat → Int32 → Int32 → Mem → Option (Int32 × Int32 × Mem)
  | 0, _, _, _ => none
  | n + 1, x2, x3, μ =>
      if x3 = 0 then
      (vO 11 a0 μ).bind fun g2 =>
      (X11_here a0 μ).bind fun z3 =>
      if z3.1 < 0 then
      some ((x2, x3, z3.2))
      else
      (vO 11 a0 z3.2).bind fun g5 =>
      (X11_readClause a0 x2 z3.2).bind fun z6 =>
      X11_read_L25 a0 x1 n (x2 + 1) z6.1 z6.2
      else
      some ((x2, x3, μ))
def X11_read_L72 (a0 : Nat) (x1 : Int32) (x2 : Int32) : Nat → Int32 → Mem → Option (Int32 × Mem)
  | 0, _, _ => none
  | n + 1, x4, μ =>
      if x2 ≤ x4 then
      some ((x4, μ))
      else
      (gR 11 25 a0 μ).bind fun v2 =>
      (gR 11 29 a0 μ).bind fun v3 =>
      (aI v3 x4 μ).bind fun v4 =>
      (sI v2 ((8 * x1) + x4) v4 μ).bind fun μ5 =>
      (gR 11 26 a0 μ5).bind fun v6 =>
      (gR 11 30 a0 μ5).bind fun v7 =>
      (aI v7 x4 μ5).bind fun v8 =>
      (sI v6 ((8 * x1) + x4) v8 μ5).bind fun μ9 =>
      (gR 11 27 a0 μ9).bind fun v10 =>
      (gR 11 31 a0 μ9).bind fun v11 =>
      (aI v11 x4 μ9).bind fun v12 =>
      (sI v10 ((8 * x1) + x4) v12 μ9).bind fun μ13 =>
      (gR 11 28 a0 μ13).bind fun v14 =>
      (gR 11 32 a0 μ13).bind fun v15 =>
      (aI v15 x4 μ13).bind fun v16 =>
      (sI v14 ((8 * x1) + x4) v16 μ13).bind fun μ17 =>
      X11_read_L72 a0 x1 x2 n (x4 + 1) μ17
def X11_read (a0 : Nat) (x1 : Int32) (μ : Mem) : Option (Int32 × Mem) :=
  if (X11_isPerson x1) = 0 then
  some ((-1001), μ)
  else
  (pI 11 35 a0 ((-1)) μ).bind fun μ2 =>
  (pI 11 36 a0 0 μ2).bind fun μ3 =>
  (X11_read_L25 a0 x1 FU 0 0 μ3).bind fun z4 =>
  (pI 11 34 a0 0 z4.2.2).bind fun μ5 =>
  if z4.2.1 ≤ 0 then
  (gR 11 24 a0 μ5).bind fun v7 =>
  (sI v7 x1 z4.1 μ5).bind fun μ8 =>
  (X11_read_L72 a0 x1 z4.1 FU 0 μ8).bind fun z9 =>
  some (z4.1, z9.2)
  else
  some (((-10)) - z4.2.1, μ5)
def X11_fault (a0 : Nat) (μ : Mem) : Option Int32 :=
  (gI 11 35 a0 μ).bind fun v1 =>
  some (v1)
def X11_isAlways_L5 (a0 : Nat) (x1 : Int32) (x2 : Int32) (μ : Mem) : Nat → Int32 → Int32 → Option (Int32 × Int32)
  | 0, _, _ => none
  | n + 1, x3, x4 =>
      (gR 11 24 a0 μ).bind fun v1 =>
      (aI v1 x1 μ).bind fun v2 =>
      if v2 ≤ x4 then
      some ((x3, x4))
      else
      ((if x3 = 0 then
      (gR 11 25 a0 μ).bind fun v5 =>
      (aI v5 ((8 * x1) + x4) μ).bind fun v6 =>
      if v6 = 4 then
      (gR 11 26 a0 μ).bind fun v8 =>
      (aI v8 ((8 * x1) + x4) μ).bind fun v9 =>
      (gR 11 16 a0 μ).bind fun v10 =>
      (aI v10 x2 μ).bind fun v11 =>
      if v9 = v11 then
      some 1
      else
      some 0
      else
      some 0
      else
      some 1) : Option (Int32)).bind fun z13 =>
      X11_isAlways_L5 a0 x1 x2 μ n z13 (x4 + 1)
def X11_isAlways (a0 : Nat) (x1 : Int32) (x2 : Int32) (μ : Mem) : Option Int32 :=
  (X11_isAlways_L5 a0 x1 x2 μ FU 0 0).bind fun z1 =>
  (zz z1.1).bind fun v2 =>
  some v2
def X11_areAlways_L5 (a0 : Nat) (x1 : Int32) (x2 : Int32) (μ : Mem) : Nat → Int32 → Int32 → Option (Int32 × Int32)
  | 0, _, _ => none
  | n + 1, x3, x4 =>
      (gI 11 12 a0 μ).bind fun v1 =>
      if v1 ≤ x4 then
      some ((x3, x4))
      else
      ((if x3 = 0 then
      some 0
      else
      if ((x2 >>> (x4 &&& 31)) &&& 1) = 0 then
      some 1
      else
      (vO 11 a0 μ).bind fun g5 =>
      (X11_isAlways a0 x1 x4 μ).bind fun v6 =>
      if v6 = 0 then
      some 0
      else
      some 1) : Option (Int32)).bind fun z8 =>
      X11_areAlways_L5 a0 x1 x2 μ n z8 (x4 + 1)
def X11_areAlways (a0 : Nat) (x1 : Int32) (x2 : Int32) (μ : Mem) : Option Int32 :=
  (X11_areAlways_L5 a0 x1 x2 μ FU 1 0).bind fun z1 =>
  (zz z1.1).bind fun v2 =>
  some v2
def X11_isWayBarred_L19 (a0 : Nat) (x1 : Int32) (x2 : Int32) (μ : Mem) : Nat → Int32 → Int32 → Option (Int32 × Int32)
  | 0, _, _ => none
  | n + 1, x4, x5 =>
      (gR 11 24 a0 μ).bind fun v1 =>
      (aI v1 x1 μ).bind fun v2 =>
      if ((8 * x1) + v2) ≤ x5 then
      some ((x4, x5))
      else
      (gR 11 25 a0 μ).bind fun v4 =>
      (aI v4 x5 μ).bind fun v5 =>
      ((if (2 : Int32) ≤ v5 then
      some 0
      else
      (gR 11 26 a0 μ).bind fun v7 =>
      (aI v7 x5 μ).bind fun v8 =>
      if v8 = x2 then
      some 1
      else
      some 0) : Option (Int32)).bind fun z10 =>
      ((if x4 = 0 then
      if z10 = 0 then
      some 0
      else
      (gR 11 25 a0 μ).bind fun v13 =>
      (aI v13 x5 μ).bind fun v14 =>
      if v14 = 0 then
      some 1
      else
      (gR 11 10 a0 μ).bind fun v16 =>
      (gR 11 27 a0 μ).bind fun v17 =>
      (aI v17 x5 μ).bind fun v18 =>
      (aI v16 v18 μ).bind fun v19 =>
      (gR 11 28 a0 μ).bind fun v20 =>
      (aI v20 x5 μ).bind fun v21 =>
      if (lg_cmp (100 * v19.toInt64) (1000000 * v21.toInt64)) < 0 then
      some 0
      else
      some 1
      else
      some 1) : Option (Int32)).bind fun z23 =>
      X11_isWayBarred_L19 a0 x1 x2 μ n z23 (x5 + 1)
def X11_isWayBarred (a0 : Nat) (x1 : Int32) (x2 : Int32) (x3 : Int32) (μ : Mem) : Option (Int32 × Mem) :=
  (gI 11 5 a0 μ).bind fun v1 =>
  (vO 11 a0 μ).bind fun g2 =>
  (X11_findOdds a0 x1 v1 x3 μ).bind fun μ3 =>
  (some (8 * x1 : Int32)).bind fun v4 =>
  (X11_isWayBarred_L19 a0 x1 x2 μ3 FU 0 v4).bind fun z5 =>
  (zz z5.1).bind fun v6 =>
  some (v6, μ3)
def X11_isKindBarred_L48 (a0 : Nat) (x1 : Int32) (x2 : Int32) (x3 : Int32) (x5 : Int32) (x6 : Int32) (μ : Mem) : Nat → Int32 → Int32 → Option (Int32 × Int32)
  | 0, _, _ => none
  | n + 1, x4, x7 =>
      (gR 11 24 a0 μ).bind fun v1 =>
      (aI v1 x1 μ).bind fun v2 =>
      if ((8 * x1) + v2) ≤ x7 then
      some ((x4, x7))
      else
      if x6 = 0 then
      some ((x4, x7))
      else
      ((if x4 = 0 then
      (gR 11 25 a0 μ).bind fun v6 =>
      (aI v6 x7 μ).bind fun v7 =>
      if v7 = 2 then
      (gR 11 26 a0 μ).bind fun v9 =>
      (aI v9 x7 μ).bind fun v10 =>
      (gR 11 14 a0 μ).bind fun v11 =>
      (aI v11 x5 μ).bind fun v12 =>
      if v10 = v12 then
      (gI 11 5 a0 μ).bind fun v14 =>
      (gR 11 27 a0 μ).bind fun v15 =>
      (aI v15 x7 μ).bind fun v16 =>
      if (v14 + x3) ≤ v16 then
      some 0
      else
      some 1
      else
      some 0
      else
      some 0
      else
      some 1) : Option (Int32)).bind fun z18 =>
      X11_isKindBarred_L48 a0 x1 x2 x3 x5 x6 μ n z18 (x7 + 1)
def X11_isKindBarred_L6 (a0 : Nat) (x1 : Int32) (x2 : Int32) (x3 : Int32) (μ : Mem) : Nat → Int32 → Int32 → Option (Int32 × Int32)
  | 0, _, _ => none
  | n + 1, x4, x5 =>
      (gI 11 12 a0 μ).bind fun v1 =>
      if v1 ≤ x5 then
      some ((x4, x5))
      else
      ((if ((x2 >>> (x5 &&& 31)) &&& 1) = 1 then
      (vO 11 a0 μ).bind fun g4 =>
      (X11_isAlways a0 x1 x5 μ).bind fun v5 =>
      if v5 = 0 then
      some 1
      else
      some 0
      else
      some 0) : Option (Int32)).bind fun z7 =>
      (some (8 * x1 : Int32)).bind fun v8 =>
      (X11_isKindBarred_L48 a0 x1 x2 x3 x5 z7 μ FU x4 v8).bind fun z9 =>
      X11_isKindBarred_L6 a0 x1 x2 x3 μ n z9.1 (x5 + 1)
def X11_isKindBarred (a0 : Nat) (x1 : Int32) (x2 : Int32) (x3 : Int32) (μ : Mem) : Option Int32 :=
  (X11_isKindBarred_L6 a0 x1 x2 x3 μ FU 0 0).bind fun z1 =>
  (zz z1.1).bind fun v2 =>
  some v2
def X11_areMost_L50 (a0 : Nat) (x1 : Int32) (x2 : Int32) (x3 : Int32) (x4 : Int32) (x5 : Int32) (x6 : Int32) (μ : Mem) : Nat → Int32 → Int32 → Option (Int32 × Int32)
  | 0, _, _ => none
  | n + 1, x7, x8 =>
      (gI 11 45 a0 μ).bind fun v1 =>
      if v1 ≤ x8 then
      some ((x7, x8))
      else
      (gR 11 46 a0 μ).bind fun v3 =>
      (aI v3 x8 μ).bind fun v4 =>
      ((if v4 = x1 then
      (gR 11 49 a0 μ).bind fun v6 =>
      (aI v6 x8 μ).bind fun v7 =>
      (gR 11 27 a0 μ).bind fun v8 =>
      (aI v8 x6 μ).bind fun v9 =>
      if (X11_in v7.toInt64 (((x5 - v9) + 1).toInt64) x5.toInt64) = 0 then
      some 0
      else
      some 1
      else
      some 0) : Option (Int32)).bind fun z11 =>
      (some (x7 + z11 : Int32)).bind fun v12 =>
      X11_areMost_L50 a0 x1 x2 x3 x4 x5 x6 μ n v12 (x8 + 1)
def X11_areMost_L119 (a0 : Nat) (x1 : Int32) (x2 : Int32) (x3 : Int32) (x4 : Int32) (x5 : Int32) (x6 : Int32) (μ : Mem) : Nat → Int32 → Int32 → Option (Int32 × Int32)
  | 0, _, _ => none
  | n + 1, x7, x8 =>
      if x2 ≤ x8 then
      some ((x7, x8))
      else
      ((if ((x3 >>> (x8 &&& 31)) &&& 1) = 1 then
      (gI 11 5 a0 μ).bind fun v3 =>
      (gR 11 27 a0 μ).bind fun v4 =>
      (aI v4 x6 μ).bind fun v5 =>
      if (v3 + x8) ≤ (x5 - v5) then
      some 0
      else
      some 1
      else
      some 0) : Option (Int32)).bind fun z7 =>
      (some (x7 + z7 : Int32)).bind fun v8 =>
      X11_areMost_L119 a0 x1 x2 x3 x4 x5 x6 μ n v8 (x8 + 1)
def X11_areMost_L17 (a0 : Nat) (x1 : Int32) (x2 : Int32) (x3 : Int32) (x5 : Int32) (μ : Mem) : Nat → Int32 → Int32 → Option (Int32 × Int32)
  | 0, _, _ => none
  | n + 1, x4, x6 =>
      (gR 11 24 a0 μ).bind fun v1 =>
      (aI v1 x1 μ).bind fun v2 =>
      if ((8 * x1) + v2) ≤ x6 then
      some ((x4, x6))
      else
      (gR 11 25 a0 μ).bind fun v4 =>
      (aI v4 x6 μ).bind fun v5 =>
      ((if v5 = 3 then
      (X11_areMost_L50 a0 x1 x2 x3 x4 x5 x6 μ FU 0 0).bind fun z7 =>
      (X11_areMost_L119 a0 x1 x2 x3 x4 x5 x6 μ FU z7.1 0).bind fun z8 =>
      ((if x4 = 0 then
      (gR 11 26 a0 μ).bind fun v10 =>
      (aI v10 x6 μ).bind fun v11 =>
      if z8.1 < v11 then
      some 0
      else
      some 1
      else
      some 1) : Option (Int32)).bind fun z13 =>
      some z13
      else
      some x4) : Option (Int32)).bind fun z14 =>
      X11_areMost_L17 a0 x1 x2 x3 x5 μ n z14 (x6 + 1)
def X11_areMost (a0 : Nat) (x1 : Int32) (x2 : Int32) (x3 : Int32) (μ : Mem) : Option Int32 :=
  (gI 11 5 a0 μ).bind fun v1 =>
  (some (v1 + x2 : Int32)).bind fun v2 =>
  (some (8 * x1 : Int32)).bind fun v3 =>
  (X11_areMost_L17 a0 x1 x2 x3 v2 μ FU 0 v3).bind fun z4 =>
  (zz z4.1).bind fun v5 =>
  some v5
def X11_barring (a0 : Nat) (x1 : Int32) (x2 : Int32) (x3 : Int32) (x4 : Int32) (x5 : Int32) (μ : Mem) : Option (Int32 × Mem) :=
  (vO 11 a0 μ).bind fun g1 =>
  (X11_areAlways a0 x1 x2 μ).bind fun v2 =>
  if v2 = 0 then
  (vO 11 a0 μ).bind fun g12 =>
  (X11_isWayBarred a0 x1 x3 x4 μ).bind fun z13 =>
  if z13.1 = 0 then
  (vO 11 a0 z13.2).bind fun g15 =>
  (X11_isKindBarred a0 x1 x2 x4 z13.2).bind fun v16 =>
  if v16 = 0 then
  ((if v2 = 0 then
  (vO 11 a0 z13.2).bind fun g19 =>
  (X11_areMost a0 x1 x4 x5 z13.2).bind fun v20 =>
  if v20 = 0 then
  some 0
  else
  some 3
  else
  some 0) : Option (Int32)).bind fun z22 =>
  some (z22, z13.2)
  else
  some (2, z13.2)
  else
  some (1, z13.2)
  else
  (vO 11 a0 μ).bind fun g4 =>
  (X11_isKindBarred a0 x1 x2 x4 μ).bind fun v5 =>
  if v5 = 0 then
  ((if v2 = 0 then
  (vO 11 a0 μ).bind fun g8 =>
  (X11_areMost a0 x1 x4 x5 μ).bind fun v9 =>
  if v9 = 0 then
  some 0
  else
  some 3
  else
  some 0) : Option (Int32)).bind fun z11 =>
  some (z11, μ)
  else
  some (2, μ)
def X11_areThings (a0 : Nat) (x1 : Int32) (μ : Mem) : Option Int32 :=
  (gI 11 12 a0 μ).bind fun v1 =>
  (zz (X11_in x1.toInt64 1 (((1 <<< (v1 &&& 31)) - 1).toInt64))).bind fun v2 =>
  some v2
def X11_barred (a0 : Nat) (x1 : Int32) (x2 : Int32) (x3 : Int32) (μ : Mem) : Option (Int32 × Mem) :=
  if (X11_isPerson x1) = 0 then
  some ((-1001), μ)
  else
  (vO 11 a0 μ).bind fun g2 =>
  (X11_areThings a0 x2 μ).bind fun v3 =>
  if v3 = 0 then
  some ((-1001), μ)
  else
  ((if (X11_isWay x3) = 0 then
  some (((-1002), μ))
  else
  (vO 11 a0 μ).bind fun g6 =>
  (X11_barring a0 x1 x2 x3 0 0 μ).bind fun z7 =>
  some ((z7.1, z7.2))) : Option (Int32 × Mem)).bind fun z8 =>
  some (z8.1, z8.2)
def X11_setOf_L4 (a0 : Nat) (x1 : Int32) (μ : Mem) : Nat → Int32 → Int32 → Option (Int32 × Int32)
  | 0, _, _ => none
  | n + 1, x2, x3 =>
      (gI 11 41 a0 μ).bind fun v1 =>
      if v1 ≤ x3 then
      some ((x2, x3))
      else
      (gR 11 40 a0 μ).bind fun v3 =>
      (aI v3 x3 μ).bind fun v4 =>
      (some (x2 ||| (((x1 >>> (x3 &&& 31)) &&& 1) <<< (v4 &&& 31)) : Int32)).bind fun v5 =>
      X11_setOf_L4 a0 x1 μ n v5 (x3 + 1)
def X11_setOf (a0 : Nat) (x1 : Int32) (μ : Mem) : Option Int32 :=
  (X11_setOf_L4 a0 x1 μ FU 0 0).bind fun z1 =>
  some (z1.1)
def X11_isOneMatter_L7 (a0 : Nat) (x1 : Int32) (μ : Mem) : Nat → Int32 → Int32 → Int32 → Option (Int32 × Int32 × Int32)
  | 0, _, _, _ => none
  | n + 1, x2, x3, x4 =>
      (gI 11 12 a0 μ).bind fun v1 =>
      if v1 ≤ x4 then
      some ((x2, x3, x4))
      else
      ((if ((x1 >>> (x4 &&& 31)) &&& 1) = 1 then
      ((if x3 = 0 then
      some 0
      else
      if x2 < 0 then
      some 1
      else
      (gR 11 15 a0 μ).bind fun v6 =>
      (aI v6 x4 μ).bind fun v7 =>
      if v7 = x2 then
      some 1
      else
      some 0) : Option (Int32)).bind fun z9 =>
      (gR 11 15 a0 μ).bind fun v10 =>
      (aI v10 x4 μ).bind fun v11 =>
      some ((v11, z9))
      else
      some ((x2, x3))) : Option (Int32 × Int32)).bind fun z12 =>
      X11_isOneMatter_L7 a0 x1 μ n z12.1 z12.2 (x4 + 1)
def X11_isOneMatter (a0 : Nat) (x1 : Int32) (μ : Mem) : Option Int32 :=
  (X11_isOneMatter_L7 a0 x1 μ FU ((-1)) 1 0).bind fun z1 =>
  (zz z1.2.1).bind fun v2 =>
  some v2
def X11_findGain_L60 (a0 : Nat) (x1 : Int32) (x2 : Int32) (x3 : Int32) (x4 : Int32) (x5 : Int32) : Nat → Int32 → Int32 → Mem → Option (Int32 × Int32 × Mem)
  | 0, _, _, _ => none
  | n + 1, x6, x7, μ =>
      (gI 11 41 a0 μ).bind fun v1 =>
      if v1 ≤ x7 then
      some ((x6, x7, μ))
      else
      (gR 11 40 a0 μ).bind fun v3 =>
      (aI v3 x7 μ).bind fun v4 =>
      (vO 11 a0 μ).bind fun g5 =>
      (X11_valueOf a0 v4 x1 x2 μ).bind fun z6 =>
      (vO 11 a0 z6.2).bind fun g7 =>
      (X11_isMust a0 v4 z6.2).bind fun v8 =>
      ((if v8 = 0 then
      some 0
      else
      (gI 11 5 a0 z6.2).bind fun v10 =>
      (gR 11 19 a0 z6.2).bind fun v11 =>
      (aI v11 v4 z6.2).bind fun v12 =>
      if v12 < (v10 + x2) then
      some 0
      else
      some 2000) : Option (Int32)).bind fun z14 =>
      (some (z6.1 + z14 : Int32)).bind fun v15 =>
      (some (if ((x3 >>> (x7 &&& 31)) &&& 1) = 1 then v15 else 0 : Int32)).bind fun v17 =>
      (some (x6 + v17 : Int32)).bind fun v18 =>
      X11_findGain_L60 a0 x1 x2 x3 x4 x5 n v18 (x7 + 1) z6.2
def X11_findGain_L151 (a0 : Nat) (x1 : Int32) (x2 : Int32) (x4 : Int32) (x5 : Int32) (x6 : Int32) : Nat → Int32 → Mem → Option (Int32 × Mem)
  | 0, _, _ => none
  | n + 1, x7, μ =>
      if (4 : Int32) ≤ x7 then
      some ((x7, μ))
      else
      (gR 11 23 a0 μ).bind fun v2 =>
      (aI v2 x7 μ).bind fun v3 =>
      (dvI (x6 * v3) 100).bind fun v4 =>
      (gI 11 5 a0 μ).bind fun v5 =>
      (vO 11 a0 μ).bind fun g6 =>
      (X11_lossOf a0 x1 x7 v5 x2 μ).bind fun z7 =>
      (some (v4 - z7.1 : Int32)).bind fun v8 =>
      (vO 11 a0 z7.2).bind fun g9 =>
      (X11_areAlways a0 x1 x4 z7.2).bind fun v10 =>
      ((if v10 = 0 then
      (vO 11 a0 z7.2).bind fun g12 =>
      (X11_isWayBarred a0 x1 x7 x2 z7.2).bind fun z13 =>
      if z13.1 = 0 then
      some ((1, z13.2))
      else
      some ((0, z13.2))
      else
      some ((1, z7.2))) : Option (Int32 × Mem)).bind fun z15 =>
      ((if z15.1 = 0 then
      some z15.2
      else
      (gR 11 43 a0 z15.2).bind fun v17 =>
      (aI v17 x5 z15.2).bind fun v18 =>
      if v8 ≤ v18 then
      some z15.2
      else
      (gR 11 43 a0 z15.2).bind fun v20 =>
      (sI v20 x5 v8 z15.2).bind fun μ21 =>
      (gR 11 44 a0 μ21).bind fun v22 =>
      (sI v22 x5 x7 μ21).bind fun μ23 =>
      some μ23) : Option (Mem)).bind fun z24 =>
      X11_findGain_L151 a0 x1 x2 x4 x5 x6 n (x7 + 1) z24
def X11_findGain (a0 : Nat) (x1 : Int32) (x2 : Int32) (x3 : Int32) (μ : Mem) : Option Mem :=
  (vO 11 a0 μ).bind fun g1 =>
  (X11_setOf a0 x3 μ).bind fun v2 =>
  (some ((64 * x2) + x3 : Int32)).bind fun v3 =>
  (gR 11 44 a0 μ).bind fun v4 =>
  (sI v4 v3 ((-1)) μ).bind fun μ5 =>
  (gR 11 43 a0 μ5).bind fun v6 =>
  (sI v6 v3 ((-1000000000)) μ5).bind fun μ7 =>
  (vO 11 a0 μ7).bind fun g8 =>
  (X11_isOneMatter a0 v2 μ7).bind fun v9 =>
  if v9 = 0 then
  some μ7
  else
  (vO 11 a0 μ7).bind fun g11 =>
  (X11_isKindBarred a0 x1 v2 x2 μ7).bind fun v12 =>
  if v12 = 0 then
  (X11_findGain_L60 a0 x1 x2 x3 v2 v3 FU 0 0 μ7).bind fun z14 =>
  (X11_findGain_L151 a0 x1 x2 v2 v3 z14.1 FU 0 z14.2.2).bind fun z15 =>
  some z15.2
  else
  some μ7
def X11_place (x0 : Int32) (x1 : Int32) (x2 : Int32) : Int32 :=
  ((4096 * x0) + (64 * x1)) + x2
def X11_by (a0 : Nat) (x1 : Int32) (x2 : Int32) (x3 : Int32) (x4 : Int32) (x5 : Int32) (μ : Mem) : Option Int32 :=
  (some ((64 * x2) + x5 : Int32)).bind fun v1 =>
  (gR 11 44 a0 μ).bind fun v2 =>
  (aI v2 v1 μ).bind fun v3 =>
  ((if v3 < 0 then
  some 0
  else
  (vO 11 a0 μ).bind fun g5 =>
  (X11_setOf a0 x5 μ).bind fun v6 =>
  (vO 11 a0 μ).bind fun g7 =>
  (X11_areAlways a0 x1 v6 μ).bind fun v8 =>
  if v8 = 0 then
  (vO 11 a0 μ).bind fun g10 =>
  (X11_areMost a0 x1 x2 x4 μ).bind fun v11 =>
  if v11 = 0 then
  some 1
  else
  some 0
  else
  some 1) : Option (Int32)).bind fun z13 =>
  ((if z13 = 0 then
  some ((-1000000000))
  else
  (gR 11 43 a0 μ).bind fun v15 =>
  (aI v15 v1 μ).bind fun v16 =>
  (gR 11 42 a0 μ).bind fun v17 =>
  (aI v17 (X11_place (x2 + 1) (x3 &&& (x5 ^^^ ((-1)))) (x4 ||| (1 <<< (x2 &&& 31)))) μ).bind fun v18 =>
  some (v16 + v18)) : Option (Int32)).bind fun z19 =>
  some (z19)
def X11_findPlans_L7 (a0 : Nat) (x1 : Int32) (x2 : Int32) : Nat → Int32 → Mem → Option (Int32 × Mem)
  | 0, _, _ => none
  | n + 1, x3, μ =>
      (gI 11 12 a0 μ).bind fun v1 =>
      if v1 ≤ x3 then
      some ((x3, μ))
      else
      (gI 11 41 a0 μ).bind fun v3 =>
      if (6 : Int32) ≤ v3 then
      some ((x3, μ))
      else
      (vO 11 a0 μ).bind fun g5 =>
      (X11_stateOf a0 x3 μ).bind fun v6 =>
      ((if v6 = 0 then
      (gR 11 13 a0 μ).bind fun v8 =>
      (aI v8 x3 μ).bind fun v9 =>
      if ((v9 >>> (x1 &&& 31)) &&& 1) = 1 then
      (gR 11 40 a0 μ).bind fun v11 =>
      (gI 11 41 a0 μ).bind fun v12 =>
      (sI v11 v12 x3 μ).bind fun μ13 =>
      (gI 11 41 a0 μ13).bind fun v14 =>
      (pI 11 41 a0 (v14 + 1) μ13).bind fun μ15 =>
      some μ15
      else
      some μ
      else
      some μ) : Option (Mem)).bind fun z16 =>
      X11_findPlans_L7 a0 x1 x2 n (x3 + 1) z16
def X11_findPlans_L86 (a0 : Nat) (x1 : Int32) (x2 : Int32) (x3 : Int32) : Nat → Int32 → Mem → Option (Int32 × Mem)
  | 0, _, _ => none
  | n + 1, x4, μ =>
      if ((4096 * x2) + 4096) ≤ x4 then
      some ((x4, μ))
      else
      (gR 11 42 a0 μ).bind fun v2 =>
      (sI v2 x4 0 μ).bind fun μ3 =>
      X11_findPlans_L86 a0 x1 x2 x3 n (x4 + 1) μ3
def X11_findPlans_L127 (a0 : Nat) (x1 : Int32) (x3 : Int32) (x4 : Int32) : Nat → Int32 → Mem → Option (Int32 × Mem)
  | 0, _, _ => none
  | n + 1, x5, μ =>
      if x3 ≤ x5 then
      some ((x5, μ))
      else
      (vO 11 a0 μ).bind fun g2 =>
      (X11_findGain a0 x1 x4 x5 μ).bind fun μ3 =>
      X11_findPlans_L127 a0 x1 x3 x4 n (x5 + 1) μ3
def X11_findPlans_L191 (a0 : Nat) (x1 : Int32) (x3 : Int32) (x4 : Int32) (x5 : Int32) (x6 : Int32) (μ : Mem) : Nat → Int32 → Int32 → Option (Int32 × Int32)
  | 0, _, _ => none
  | n + 1, x7, x8 =>
      if x8 ≤ 0 then
      some ((x7, x8))
      else
      (vO 11 a0 μ).bind fun g2 =>
      (X11_by a0 x1 x4 x6 x5 x8 μ).bind fun v3 =>
      (some (if v3 ≤ x7 then x7 else v3 : Int32)).bind fun v5 =>
      (some ((x8 - 1) &&& x6 : Int32)).bind fun v6 =>
      X11_findPlans_L191 a0 x1 x3 x4 x5 x6 μ n v5 v6
def X11_findPlans_L163 (a0 : Nat) (x1 : Int32) (x3 : Int32) (x4 : Int32) (x5 : Int32) : Nat → Int32 → Mem → Option (Int32 × Mem)
  | 0, _, _ => none
  | n + 1, x6, μ =>
      if x3 ≤ x6 then
      some ((x6, μ))
      else
      (gR 11 42 a0 μ).bind fun v2 =>
      (aI v2 (X11_place (x4 + 1) x6 x5) μ).bind fun v3 =>
      (X11_findPlans_L191 a0 x1 x3 x4 x5 x6 μ FU v3 x6).bind fun z4 =>
      (gR 11 42 a0 μ).bind fun v5 =>
      (sI v5 (X11_place x4 x6 x5) z4.1 μ).bind fun μ6 =>
      X11_findPlans_L163 a0 x1 x3 x4 x5 n (x6 + 1) μ6
def X11_findPlans_L151 (a0 : Nat) (x1 : Int32) (x3 : Int32) (x4 : Int32) : Nat → Int32 → Mem → Option (Int32 × Mem)
  | 0, _, _ => none
  | n + 1, x5, μ =>
      if ((1 : Int32) <<< (x4 &&& 31)) ≤ x5 then
      some ((x5, μ))
      else
      (X11_findPlans_L163 a0 x1 x3 x4 x5 FU 0 μ).bind fun z2 =>
      X11_findPlans_L151 a0 x1 x3 x4 n (x5 + 1) z2.2
def X11_findPlans_L119 (a0 : Nat) (x1 : Int32) (x3 : Int32) : Nat → Int32 → Mem → Option (Int32 × Mem)
  | 0, _, _ => none
  | n + 1, x4, μ =>
      if x4 < 0 then
      some ((x4, μ))
      else
      (X11_findPlans_L127 a0 x1 x3 x4 FU 1 μ).bind fun z2 =>
      (X11_findPlans_L151 a0 x1 x3 x4 FU 0 z2.2).bind fun z3 =>
      X11_findPlans_L119 a0 x1 x3 n (x4 + (-1)) z3.2
def X11_findPlans (a0 : Nat) (x1 : Int32) (x2 : Int32) (μ : Mem) : Option Mem :=
  (pI 11 41 a0 0 μ).bind fun μ1 =>
  (X11_findPlans_L7 a0 x1 x2 FU 0 μ1).bind fun z2 =>
  (gI 11 41 a0 z2.2).bind fun v3 =>
  (some (1 <<< (v3 &&& 31) : Int32)).bind fun v4 =>
  (some (4096 * x2 : Int32)).bind fun v5 =>
  (X11_findPlans_L86 a0 x1 x2 v4 FU v5 z2.2).bind fun z6 =>
  (some (x2 - 1 : Int32)).bind fun v7 =>
  (X11_findPlans_L119 a0 x1 v4 FU v7 z6.2).bind fun z8 =>
  some z8.2
def X11_plan_L149 (a0 : Nat) (x1 : Int32) (x3 : Int32) (x4 : Int32) (x6 : Int32) (x7 : Int32) (x9 : Int32) (x10 : Int32) (μ : Mem) : Nat → Int32 → Option (Int32)
  | 0, _ => none
  | n + 1, x8 =>
      if (x8 &&& (x6 ^^^ ((-1)))) = 0 then
      (vO 11 a0 μ).bind fun g2 =>
      (X11_by a0 x1 x9 x6 x7 x8 μ).bind fun v3 =>
      if v3 = x10 then
      some x8
      else
      X11_plan_L149 a0 x1 x3 x4 x6 x7 x9 x10 μ n (x8 + 1)
      else
      X11_plan_L149 a0 x1 x3 x4 x6 x7 x9 x10 μ n (x8 + 1)
def X11_plan_L100 (a0 : Nat) (x1 : Int32) (x3 : Int32) (x4 : Int32) (μ : Mem) : Nat → Int32 → Int32 → Int32 → Int32 → Option (Int32 × Int32 × Int32 × Int32)
  | 0, _, _, _, _ => none
  | n + 1, x6, x7, x8, x9 =>
      if x3 < x9 then
      some ((x6, x7, x8, x9))
      else
      (gR 11 42 a0 μ).bind fun v2 =>
      (aI v2 (X11_place x9 x6 x7) μ).bind fun v3 =>
      (gR 11 42 a0 μ).bind fun v4 =>
      (aI v4 (X11_place (x9 + 1) x6 x7) μ).bind fun v5 =>
      ((if v5 = v3 then
      some ((x6, x7, 0))
      else
      (X11_plan_L149 a0 x1 x3 x4 x6 x7 x9 v3 μ FU 1).bind fun z7 =>
      some ((x6 &&& (z7 ^^^ ((-1))), x7 ||| (1 <<< (x9 &&& 31)), z7))) : Option (Int32 × Int32 × Int32)).bind fun z8 =>
      X11_plan_L100 a0 x1 x3 x4 μ n z8.1 z8.2.1 z8.2.2 (x9 + 1)
def X11_plan (a0 : Nat) (x1 : Int32) (x2 : Int32) (x3 : Int32) (x4 : Int32) (μ : Mem) : Option (Int32 × Mem) :=
  if (X11_isPerson x1) = 0 then
  some ((-1001), μ)
  else
  if (X11_in x2.toInt64 1 6) = 0 then
  some ((-1002), μ)
  else
  if (X11_in x3.toInt64 ((-1)) ((x2 - 1).toInt64)) = 0 then
  some ((-1002), μ)
  else
  if (X11_in x4.toInt64 0 1) = 0 then
  some ((-1002), μ)
  else
  (vO 11 a0 μ).bind fun g5 =>
  (X11_findPlans a0 x1 x2 μ).bind fun μ6 =>
  (gI 11 41 a0 μ6).bind fun v7 =>
  (some ((1 <<< (v7 &&& 31)) - 1 : Int32)).bind fun v8 =>
  if x3 = ((-1)) then
  (gR 11 42 a0 μ6).bind fun v18 =>
  (aI v18 (X11_place 0 v8 0) μ6).bind fun v19 =>
  some (v19, μ6)
  else
  (X11_plan_L100 a0 x1 x3 x4 μ6 FU v8 0 0 0).bind fun z10 =>
  ((if x4 = 0 then
  (vO 11 a0 μ6).bind fun g15 =>
  (X11_setOf a0 z10.2.2.1 μ6).bind fun v16 =>
  some v16
  else
  if z10.2.2.1 = 0 then
  some ((-1))
  else
  (gR 11 44 a0 μ6).bind fun v13 =>
  (aI v13 ((64 * x3) + z10.2.2.1) μ6).bind fun v14 =>
  some v14) : Option (Int32)).bind fun z17 =>
  some (z17, μ6)
def X11_deadOf_L4 (a0 : Nat) (x1 : Int32) (μ : Mem) : Nat → Int32 → Int32 → Option (Int32 × Int32)
  | 0, _, _ => none
  | n + 1, x2, x3 =>
      (gI 11 12 a0 μ).bind fun v1 =>
      if v1 ≤ x3 then
      some ((x2, x3))
      else
      (gR 11 21 a0 μ).bind fun v3 =>
      (aZ v3 x3 μ).bind fun v4 =>
      (some (if v4 = 0 then 0 else x1 &&& (1 <<< (x3 &&& 31)) : Int32)).bind fun v6 =>
      (some (x2 ||| v6 : Int32)).bind fun v7 =>
      X11_deadOf_L4 a0 x1 μ n v7 (x3 + 1)
def X11_deadOf (a0 : Nat) (x1 : Int32) (μ : Mem) : Option Int32 :=
  (X11_deadOf_L4 a0 x1 μ FU 0 0).bind fun z1 =>
  some (z1.1)
def X11_areFor_L5 (a0 : Nat) (x1 : Int32) (x2 : Int32) (μ : Mem) : Nat → Int32 → Int32 → Option (Int32 × Int32)
  | 0, _, _ => none
  | n + 1, x3, x4 =>
      (gI 11 12 a0 μ).bind fun v1 =>
      if v1 ≤ x4 then
      some ((x3, x4))
      else
      ((if x3 = 0 then
      some 0
      else
      if ((x2 >>> (x4 &&& 31)) &&& 1) = 0 then
      some 1
      else
      (gR 11 13 a0 μ).bind fun v5 =>
      (aI v5 x4 μ).bind fun v6 =>
      if ((v6 >>> (x1 &&& 31)) &&& 1) = 1 then
      some 1
      else
      some 0) : Option (Int32)).bind fun z8 =>
      X11_areFor_L5 a0 x1 x2 μ n z8 (x4 + 1)
def X11_areFor (a0 : Nat) (x1 : Int32) (x2 : Int32) (μ : Mem) : Option Int32 :=
  (X11_areFor_L5 a0 x1 x2 μ FU 1 0).bind fun z1 =>
  (zz z1.1).bind fun v2 =>
  some v2
def X11_say (a0 : Nat) (x1 : Int32) (x2 : Int32) (x3 : Int32) (μ : Mem) : Option (Int32 × Mem) :=
  if (X11_isPerson x1) = 0 then
  some ((-1001), μ)
  else
  (vO 11 a0 μ).bind fun g2 =>
  (X11_areThings a0 x2 μ).bind fun v3 =>
  if v3 = 0 then
  some ((-1001), μ)
  else
  if (X11_isWay x3) = 0 then
  some ((-1002), μ)
  else
  (vO 11 a0 μ).bind fun g6 =>
  (X11_barring a0 x1 x2 x3 0 0 μ).bind fun z7 =>
  if (0 : Int32) < z7.1 then
  some ((-1003), z7.2)
  else
  (vO 11 a0 z7.2).bind fun g9 =>
  (X11_deadOf a0 x2 z7.2).bind fun v10 =>
  if v10 = 0 then
  (vO 11 a0 z7.2).bind fun g12 =>
  (X11_areFor a0 x1 x2 z7.2).bind fun v13 =>
  if v13 = 0 then
  some ((-1003), z7.2)
  else
  (vO 11 a0 z7.2).bind fun g15 =>
  (X11_isOneMatter a0 x2 z7.2).bind fun v16 =>
  if v16 = 0 then
  some ((-1003), z7.2)
  else
  (gI 11 45 a0 z7.2).bind fun v18 =>
  if v18 = 40 then
  some ((-1004), z7.2)
  else
  (gR 11 46 a0 z7.2).bind fun v20 =>
  (gI 11 45 a0 z7.2).bind fun v21 =>
  (sI v20 v21 x1 z7.2).bind fun μ22 =>
  (gR 11 47 a0 μ22).bind fun v23 =>
  (gI 11 45 a0 μ22).bind fun v24 =>
  (sI v23 v24 x2 μ22).bind fun μ25 =>
  (gR 11 48 a0 μ25).bind fun v26 =>
  (gI 11 45 a0 μ25).bind fun v27 =>
  (sI v26 v27 x3 μ25).bind fun μ28 =>
  (gR 11 49 a0 μ28).bind fun v29 =>
  (gI 11 45 a0 μ28).bind fun v30 =>
  (gI 11 5 a0 μ28).bind fun v31 =>
  (sI v29 v30 v31 μ28).bind fun μ32 =>
  (gR 11 50 a0 μ32).bind fun v33 =>
  (gI 11 45 a0 μ32).bind fun v34 =>
  (sI v33 v34 0 μ32).bind fun μ35 =>
  (gI 11 45 a0 μ35).bind fun v36 =>
  (pI 11 45 a0 (v36 + 1) μ35).bind fun μ37 =>
  (gI 11 45 a0 μ37).bind fun v38 =>
  some (v38 - 1, μ37)
  else
  some ((-1003), z7.2)
def X11_isSaying (a0 : Nat) (x1 : Int32) (μ : Mem) : Option Int32 :=
  (gI 11 45 a0 μ).bind fun v1 =>
  (zz (X11_in x1.toInt64 0 ((v1 - 1).toInt64))).bind fun v2 =>
  some v2
def X11_came (a0 : Nat) (x1 : Int32) (x2 : Int32) (μ : Mem) : Option (Int32 × Mem) :=
  (vO 11 a0 μ).bind fun g1 =>
  (X11_isSaying a0 x1 μ).bind fun v2 =>
  if v2 = 0 then
  some ((-1001), μ)
  else
  if (X11_in x2.toInt64 1 3) = 0 then
  some ((-1002), μ)
  else
  (gR 11 50 a0 μ).bind fun v5 =>
  (aI v5 x1 μ).bind fun v6 =>
  if v6 ≤ 0 then
  (gR 11 50 a0 μ).bind fun v8 =>
  (sI v8 x1 x2 μ).bind fun μ9 =>
  some (0, μ9)
  else
  some ((-1003), μ)
def X11_saying (a0 : Nat) (x1 : Int32) (x2 : Int32) (μ : Mem) : Option Int32 :=
  (vO 11 a0 μ).bind fun g1 =>
  (X11_isSaying a0 x1 μ).bind fun v2 =>
  if v2 = 0 then
  some ((-1001))
  else
  if x2 = Int32.ofNat 0 then
  (gR 11 46 a0 μ).bind fun v5 =>
  (aI v5 x1 μ).bind fun v6 =>
  some (v6)
  else
  if x2 = Int32.ofNat 1 then
  (gR 11 47 a0 μ).bind fun v8 =>
  (aI v8 x1 μ).bind fun v9 =>
  some (v9)
  else
  if x2 = Int32.ofNat 2 then
  (gR 11 48 a0 μ).bind fun v11 =>
  (aI v11 x1 μ).bind fun v12 =>
  some (v12)
  else
  if x2 = Int32.ofNat 3 then
  (gR 11 49 a0 μ).bind fun v14 =>
  (aI v14 x1 μ).bind fun v15 =>
  some (v15)
  else
  if x2 = Int32.ofNat 4 then
  (gR 11 50 a0 μ).bind fun v17 =>
  (aI v17 x1 μ).bind fun v18 =>
  some (v18)
  else
  if x2 = Int32.ofNat 5 then
  (gR 11 47 a0 μ).bind fun v20 =>
  (aI v20 x1 μ).bind fun v21 =>
  (vO 11 a0 μ).bind fun g22 =>
  (X11_deadOf a0 v21 μ).bind fun v23 =>
  some (v23)
  else
  some ((-1002))
def X11_cameOf_L5 (a0 : Nat) (x1 : Int32) (x2 : Int32) (μ : Mem) : Nat → Int32 → Int32 → Option (Int32 × Int32)
  | 0, _, _ => none
  | n + 1, x3, x4 =>
      (gI 11 45 a0 μ).bind fun v1 =>
      if v1 ≤ x4 then
      some ((x3, x4))
      else
      (gR 11 48 a0 μ).bind fun v3 =>
      (aI v3 x4 μ).bind fun v4 =>
      ((if v4 = x1 then
      if x2 = 0 then
      (gR 11 50 a0 μ).bind fun v7 =>
      (aI v7 x4 μ).bind fun v8 =>
      if v8 ≤ 0 then
      some 0
      else
      some 1
      else
      (gR 11 50 a0 μ).bind fun v10 =>
      (aI v10 x4 μ).bind fun v11 =>
      if v11 = 1 then
      some 1
      else
      some 0
      else
      some 0) : Option (Int32)).bind fun z13 =>
      (some (x3 + z13 : Int32)).bind fun v14 =>
      X11_cameOf_L5 a0 x1 x2 μ n v14 (x4 + 1)
def X11_cameOf (a0 : Nat) (x1 : Int32) (x2 : Int32) (μ : Mem) : Option Int32 :=
  (X11_cameOf_L5 a0 x1 x2 μ FU 0 0).bind fun z1 =>
  some (z1.1)
def X11_choose_L5 (x0 : Int32) (x1 : Int32) (μ : Mem) : Nat → Int64 → Int32 → Option (Int64 × Int32)
  | 0, _, _ => none
  | n + 1, j2, x4 =>
      if x1 < x4 then
      some ((j2, x4))
      else
      (dvJ (j2 * (((x0 - x4) + 1).toInt64)) x4.toInt64).bind fun v2 =>
      X11_choose_L5 x0 x1 μ n v2 (x4 + 1)
def X11_choose (x0 : Int32) (x1 : Int32) (μ : Mem) : Option Int64 :=
  (X11_choose_L5 x0 x1 μ FU 1 1).bind fun z1 =>
  (some (if x0 < x1 then 0 else if (0 : Int32) ≤ x1 then z1.1 else 0 : Int64)).bind fun v3 =>
  some (v3)
def X11_gcd_L6 (μ : Mem) : Nat → Int64 → Int64 → Option (Int64 × Int64)
  | 0, _, _ => none
  | n + 1, j4, j6 =>
      if (lg_cmp j6 0) = 0 then
      some ((j4, j6))
      else
      (rmJ j4 j6).bind fun v2 =>
      X11_gcd_L6 μ n j6 v2
def X11_gcd (j0 : Int64) (j2 : Int64) (μ : Mem) : Option Int64 :=
  (X11_gcd_L6 μ FU j0 j2).bind fun z1 =>
  some (z1.1)
def X11_learnt_L125 (x3 : Int32) (x4 : Int32) (x5 : Int32) (x6 : Int32) (x7 : Int32) (μ : Mem) : Nat → Int64 → Int32 → Option (Int64 × Int32)
  | 0, _, _ => none
  | n + 1, j8, x10 =>
      if x5 < x10 then
      some ((j8, x10))
      else
      (X11_choose x5 x10 μ).bind fun v2 =>
      (X11_choose x7 ((x4 + x6) - x10) μ).bind fun v3 =>
      (some (j8 + (v2 * v3) : Int64)).bind fun v4 =>
      X11_learnt_L125 x3 x4 x5 x6 x7 μ n v4 (x10 + 1)
def X11_learnt (a0 : Nat) (x1 : Int32) (x2 : Int32) (x3 : Int32) (μ : Mem) : Option Int32 :=
  if (X11_isWay x1) = 0 then
  some ((-1002))
  else
  if (X11_isWay x2) = 0 then
  some ((-1002))
  else
  if x1 = x2 then
  some ((-1002))
  else
  if (X11_in x3.toInt64 0 5) = 0 then
  some ((-1002))
  else
  (vO 11 a0 μ).bind fun g5 =>
  (X11_cameOf a0 x1 1 μ).bind fun v6 =>
  (vO 11 a0 μ).bind fun g7 =>
  (X11_cameOf a0 x1 0 μ).bind fun v8 =>
  (vO 11 a0 μ).bind fun g9 =>
  (X11_cameOf a0 x2 1 μ).bind fun v10 =>
  (vO 11 a0 μ).bind fun g11 =>
  (X11_cameOf a0 x2 0 μ).bind fun v12 =>
  if (4 : Int32) ≤ x3 then
  if (v8 + v12) ≤ 30 then
  (X11_learnt_L125 x3 v6 v8 v10 v12 μ FU 0 v6).bind fun z15 =>
  (X11_choose (v8 + v12) (v6 + v10) μ).bind fun v16 =>
  (X11_gcd z15.1 v16 μ).bind fun v17 =>
  ((if x3 = 4 then
  (dvJ z15.1 v17).bind fun v20 =>
  some v20
  else
  (dvJ v16 v17).bind fun v19 =>
  some v19) : Option (Int64)).bind fun z21 =>
  some (z21.toInt32)
  else
  some ((-1003))
  else
  (some (if x3 = 0 then v6 else if x3 = 1 then v8 else if x3 = 2 then v10 else v12 : Int32)).bind fun v23 =>
  some (v23)
def X11_who_L31 (a0 : Nat) (x1 : Int32) (x2 : Int32) (μ : Mem) : Nat → Int32 → Int32 → Option (Int32 × Int32)
  | 0, _, _ => none
  | n + 1, x3, x4 =>
      (gI 11 45 a0 μ).bind fun v1 =>
      if v1 ≤ x4 then
      some ((x3, x4))
      else
      (gR 11 47 a0 μ).bind fun v3 =>
      (aI v3 x4 μ).bind fun v4 =>
      ((if ((v4 >>> (x1 &&& 31)) &&& 1) = 1 then
      (gR 11 46 a0 μ).bind fun v6 =>
      (aI v6 x4 μ).bind fun v7 =>
      some (1 <<< (v7 &&& 31))
      else
      some 0) : Option (Int32)).bind fun z8 =>
      (some (x3 ||| z8 : Int32)).bind fun v9 =>
      X11_who_L31 a0 x1 x2 μ n v9 (x4 + 1)
def X11_who_L111 (a0 : Nat) (x4 : Int32) : Nat → Int32 → Int32 → Int32 → Mem → Option (Int32 × Int32 × Int32 × Mem)
  | 0, _, _, _, _ => none
  | n + 1, x5, x6, x7, μ =>
      if (4 : Int32) ≤ x7 then
      some ((x5, x6, x7, μ))
      else
      ((if ((x4 >>> (x7 &&& 31)) &&& 1) = 1 then
      (gI 11 5 a0 μ).bind fun v3 =>
      (vO 11 a0 μ).bind fun g4 =>
      (X11_seamOdds a0 x7 v3 0 μ).bind fun z5 =>
      some ((z5.1, z5.2))
      else
      some (((-1), μ))) : Option (Int32 × Mem)).bind fun z6 =>
      (some (if z6.1 ≤ x6 then x5 else x7 : Int32)).bind fun v8 =>
      (some (if z6.1 ≤ x6 then x6 else z6.1 : Int32)).bind fun v9 =>
      X11_who_L111 a0 x4 n v8 v9 (x7 + 1) z6.2
def X11_who (a0 : Nat) (x1 : Int32) (x2 : Int32) (μ : Mem) : Option (Int32 × Mem) :=
  (vO 11 a0 μ).bind fun g1 =>
  (X11_isThing a0 x1 μ).bind fun v2 =>
  if v2 = 0 then
  some ((-1001), μ)
  else
  if (X11_in x2.toInt64 0 1) = 0 then
  some ((-1002), μ)
  else
  (X11_who_L31 a0 x1 x2 μ FU 0 0).bind fun z5 =>
  ((if x2 = 0 then
  (gR 11 13 a0 μ).bind fun v9 =>
  (aI v9 x1 μ).bind fun v10 =>
  some v10
  else
  (gR 11 13 a0 μ).bind fun v7 =>
  (aI v7 x1 μ).bind fun v8 =>
  some (v8 &&& (z5.1 ^^^ ((-1))))) : Option (Int32)).bind fun z11 =>
  (X11_who_L111 a0 z11 FU ((-1)) ((-1)) 0 μ).bind fun z12 =>
  some (z12.1, z12.2.2.2)
def X11_tried_L99 (a0 : Nat) (x1 : Int32) (x2 : Int32) (x3 : Int32) (x4 : Int32) (x8 : Int32) (x10 : Int32) (x11 : Int32) (μ : Mem) : Nat → Int32 → Int32 → Int32 → Int32 → Int32 → Int32 → Option (Int32 × Int32 × Int32 × Int32 × Int32 × Int32)
  | 0, _, _, _, _, _, _ => none
  | n + 1, x5, x6, x7, x9, x12, x13 =>
      (gI 11 12 a0 μ).bind fun v1 =>
      if v1 ≤ x13 then
      some ((x5, x6, x7, x9, x12, x13))
      else
      (gR 11 13 a0 μ).bind fun v3 =>
      (aI v3 x13 μ).bind fun v4 =>
      ((if ((v4 >>> (x1 &&& 31)) &&& 1) = 1 then
      if ((x5 >>> (x13 &&& 31)) &&& 1) = 0 then
      (gR 11 20 a0 μ).bind fun v7 =>
      (aI v7 x13 μ).bind fun v8 =>
      if x10 < v8 then
      some 0
      else
      some 1
      else
      some 0
      else
      some 0) : Option (Int32)).bind fun z10 =>
      ((if z10 = 0 then
      some ((x5, x6, x7, x9, x12))
      else
      if x11 = 0 then
      (vO 11 a0 μ).bind fun g19 =>
      (X11_isMust a0 x13 μ).bind fun v20 =>
      if v20 = 0 then
      some ((x5, x6, x7, x9, x12))
      else
      (gR 11 19 a0 μ).bind fun v22 =>
      (aI v22 x13 μ).bind fun v23 =>
      if v23 = x10 then
      (gR 11 19 a0 μ).bind fun v25 =>
      (aI v25 x13 μ).bind fun v26 =>
      (some (if x10 ≤ v26 then 0 else 1 : Int32)).bind fun v28 =>
      (gR 11 20 a0 μ).bind fun v29 =>
      (aI v29 x13 μ).bind fun v30 =>
      some ((x5 ||| (1 <<< (x13 &&& 31)), x6 + v28, x7 + (x10 - v30), x9 + 1, 1))
      else
      some ((x5, x6, x7, x9, x12))
      else
      (gR 11 19 a0 μ).bind fun v13 =>
      (aI v13 x13 μ).bind fun v14 =>
      (some (if x10 ≤ v14 then 0 else 1 : Int32)).bind fun v16 =>
      (gR 11 20 a0 μ).bind fun v17 =>
      (aI v17 x13 μ).bind fun v18 =>
      some ((x5 ||| (1 <<< (x13 &&& 31)), x6 + v16, x7 + (x10 - v18), x9 + 1, 1))) : Option (Int32 × Int32 × Int32 × Int32 × Int32)).bind fun z31 =>
      X11_tried_L99 a0 x1 x2 x3 x4 x8 x10 x11 μ n z31.1 z31.2.1 z31.2.2.1 z31.2.2.2.1 z31.2.2.2.2 (x13 + 1)
def X11_tried_L65 (a0 : Nat) (x1 : Int32) (x2 : Int32) (x3 : Int32) (x4 : Int32) : Nat → Int32 → Int32 → Int32 → Int32 → Int32 → Int32 → Mem → Option (Int32 × Int32 × Int32 × Int32 × Int32 × Int32 × Mem)
  | 0, _, _, _, _, _, _, _ => none
  | n + 1, x5, x6, x7, x8, x9, x10, μ =>
      (gI 11 5 a0 μ).bind fun v1 =>
      if v1 ≤ x10 then
      some ((x5, x6, x7, x8, x9, x10, μ))
      else
      (vO 11 a0 μ).bind fun g3 =>
      (X11_seamOdds a0 x1 x10 0 μ).bind fun z4 =>
      (some (if z4.1 < x2 then 0 else 1 : Int32)).bind fun v6 =>
      (X11_tried_L99 a0 x1 x2 x3 x4 x8 x10 v6 z4.2 FU x5 x6 x7 x9 0 0).bind fun z7 =>
      ((if z7.2.2.2.2.1 = 0 then
      some ((0, z4.2))
      else
      (vO 11 a0 z4.2).bind fun g9 =>
      (X11_lossOf a0 x1 x3 x10 0 z4.2).bind fun z10 =>
      some ((z10.1, z10.2))) : Option (Int32 × Mem)).bind fun z11 =>
      (some (x8 + z11.1 : Int32)).bind fun v12 =>
      X11_tried_L65 a0 x1 x2 x3 x4 n z7.1 z7.2.1 z7.2.2.1 v12 z7.2.2.2.1 (x10 + 1) z11.2
def X11_tried_L273 (a0 : Nat) (x1 : Int32) (x4 : Int32) (x5 : Int32) (x7 : Int32) (x8 : Int32) (x9 : Int32) (μ : Mem) : Nat → Int32 → Int32 → Option (Int32 × Int32)
  | 0, _, _ => none
  | n + 1, x6, x10 =>
      (gI 11 12 a0 μ).bind fun v1 =>
      if v1 ≤ x10 then
      some ((x6, x10))
      else
      (gR 11 13 a0 μ).bind fun v3 =>
      (aI v3 x10 μ).bind fun v4 =>
      (some (if ((v4 >>> (x1 &&& 31)) &&& 1) = 1 then if ((x5 >>> (x10 &&& 31)) &&& 1) = 0 then 1 else 0 else 0 : Int32)).bind fun v6 =>
      ((if v6 = 0 then
      some 0
      else
      (gR 11 19 a0 μ).bind fun v8 =>
      (aI v8 x10 μ).bind fun v9 =>
      (gI 11 5 a0 μ).bind fun v10 =>
      if v10 ≤ v9 then
      some 0
      else
      some 1) : Option (Int32)).bind fun z12 =>
      (some (x6 + z12 : Int32)).bind fun v13 =>
      X11_tried_L273 a0 x1 x4 x5 x7 x8 x9 μ n v13 (x10 + 1)
def X11_tried (a0 : Nat) (x1 : Int32) (x2 : Int32) (x3 : Int32) (x4 : Int32) (μ : Mem) : Option (Int32 × Mem) :=
  if (X11_isPerson x1) = 0 then
  some ((-1001), μ)
  else
  if (X11_in x2.toInt64 0 1000000) = 0 then
  some ((-1002), μ)
  else
  if (X11_isWay x3) = 0 then
  some ((-1002), μ)
  else
  if (X11_in x4.toInt64 0 3) = 0 then
  some ((-1002), μ)
  else
  (X11_tried_L65 a0 x1 x2 x3 x4 FU 0 0 0 0 0 0 μ).bind fun z5 =>
  (X11_tried_L273 a0 x1 x4 z5.1 z5.2.2.1 z5.2.2.2.1 z5.2.2.2.2.1 z5.2.2.2.2.2.2 FU z5.2.1 0).bind fun z6 =>
  (some (if x4 = 0 then z6.1 else if x4 = 1 then z5.2.2.1 else if x4 = 2 then z5.2.2.2.1 else z5.2.2.2.2.1 : Int32)).bind fun v8 =>
  some (v8, z5.2.2.2.2.2.2)
end
section
def L_law_L18 (xs : Nat → Int32) (nx : Nat) (a1 : Nat) (a2 : Nat) : Nat → Int32 → Mem → Option (Int32 × Mem)
  | 0, _, _ => none
  | n + 1, x3, μ =>
      if ((Int32.ofNat nx) - 8) < x3 then
      some (1, μ)
      else
      (xsA xs nx x3).bind fun v2 =>
      if (v2 &&& 31) = Int32.ofNat 0 then
      (xsA xs nx (x3 + 1)).bind fun v4 =>
      (xsA xs nx (x3 + 2)).bind fun v5 =>
      (xsA xs nx (x3 + 3)).bind fun v6 =>
      (vO 10 a1 μ).bind fun g7 =>
      (X10_move a1 v4 v5 v6 μ).bind fun z8 =>
      (xsA xs nx (x3 + 1)).bind fun v9 =>
      (xsA xs nx (x3 + 2)).bind fun v10 =>
      (xsA xs nx (x3 + 3)).bind fun v11 =>
      (vO 11 a2 z8.2).bind fun g12 =>
      (X11_move a2 v9 v10 v11 z8.2).bind fun z13 =>
      if z8.1 = z13.1 then
      L_law_L18 xs nx a1 a2 n (x3 + 8) z13.2
      else
      some (0, z13.2)
      else
      if (v2 &&& 31) = Int32.ofNat 1 then
      (xsA xs nx (x3 + 1)).bind fun v16 =>
      (xsA xs nx (x3 + 2)).bind fun v17 =>
      (xsA xs nx (x3 + 3)).bind fun v18 =>
      (vO 10 a1 μ).bind fun g19 =>
      (X10_shows a1 v16 v17 v18 μ).bind fun z20 =>
      (xsA xs nx (x3 + 1)).bind fun v21 =>
      (xsA xs nx (x3 + 2)).bind fun v22 =>
      (xsA xs nx (x3 + 3)).bind fun v23 =>
      (vO 11 a2 z20.2).bind fun g24 =>
      (X11_shows a2 v21 v22 v23 z20.2).bind fun z25 =>
      if z20.1 = z25.1 then
      L_law_L18 xs nx a1 a2 n (x3 + 8) z25.2
      else
      some (0, z25.2)
      else
      if (v2 &&& 31) = Int32.ofNat 2 then
      (xsA xs nx (x3 + 1)).bind fun v28 =>
      (xsA xs nx (x3 + 2)).bind fun v29 =>
      (vO 10 a1 μ).bind fun g30 =>
      (X10_begins a1 v28 v29 μ).bind fun z31 =>
      (xsA xs nx (x3 + 1)).bind fun v32 =>
      (xsA xs nx (x3 + 2)).bind fun v33 =>
      (vO 11 a2 z31.2).bind fun g34 =>
      (X11_begins a2 v32 v33 z31.2).bind fun z35 =>
      if z31.1 = z35.1 then
      L_law_L18 xs nx a1 a2 n (x3 + 8) z35.2
      else
      some (0, z35.2)
      else
      if (v2 &&& 31) = Int32.ofNat 3 then
      (xsA xs nx (x3 + 1)).bind fun v38 =>
      (vO 10 a1 μ).bind fun g39 =>
      (X10_seams a1 v38 μ).bind fun z40 =>
      (xsA xs nx (x3 + 1)).bind fun v41 =>
      (vO 11 a2 z40.2).bind fun g42 =>
      (X11_seams a2 v41 z40.2).bind fun z43 =>
      if z40.1 = z43.1 then
      L_law_L18 xs nx a1 a2 n (x3 + 8) z43.2
      else
      some (0, z43.2)
      else
      if (v2 &&& 31) = Int32.ofNat 4 then
      (xsA xs nx (x3 + 1)).bind fun v46 =>
      (xsA xs nx (x3 + 2)).bind fun v47 =>
      (vO 10 a1 μ).bind fun g48 =>
      (X10_sign a1 v46 v47 μ).bind fun z49 =>
      (xsA xs nx (x3 + 1)).bind fun v50 =>
      (xsA xs nx (x3 + 2)).bind fun v51 =>
      (vO 11 a2 z49.2).bind fun g52 =>
      (X11_sign a2 v50 v51 z49.2).bind fun z53 =>
      if z49.1 = z53.1 then
      L_law_L18 xs nx a1 a2 n (x3 + 8) z53.2
      else
      some (0, z53.2)
      else
      if (v2 &&& 31) = Int32.ofNat 5 then
      (xsA xs nx (x3 + 1)).bind fun v56 =>
      (vO 10 a1 μ).bind fun g57 =>
      (X10_go a1 v56 μ).bind fun z58 =>
      (xsA xs nx (x3 + 1)).bind fun v59 =>
      (vO 11 a2 z58.2).bind fun g60 =>
      (X11_go a2 v59 z58.2).bind fun z61 =>
      if z58.1 = z61.1 then
      L_law_L18 xs nx a1 a2 n (x3 + 8) z61.2
      else
      some (0, z61.2)
      else
      if (v2 &&& 31) = Int32.ofNat 6 then
      (xsA xs nx (x3 + 1)).bind fun v64 =>
      (xsA xs nx (x3 + 2)).bind fun v65 =>
      (vO 10 a1 μ).bind fun g66 =>
      (X10_fits a1 v64 v65 μ).bind fun z67 =>
      (xsA xs nx (x3 + 1)).bind fun v68 =>
      (xsA xs nx (x3 + 2)).bind fun v69 =>
      (vO 11 a2 z67.2).bind fun g70 =>
      (X11_fits a2 v68 v69 z67.2).bind fun z71 =>
      if z67.1 = z71.1 then
      L_law_L18 xs nx a1 a2 n (x3 + 8) z71.2
      else
      some (0, z71.2)
      else
      if (v2 &&& 31) = Int32.ofNat 7 then
      (xsA xs nx (x3 + 1)).bind fun v74 =>
      (xsA xs nx (x3 + 2)).bind fun v75 =>
      (xsA xs nx (x3 + 3)).bind fun v76 =>
      (vO 10 a1 μ).bind fun g77 =>
      (X10_odds a1 v74 v75 v76 μ).bind fun z78 =>
      (xsA xs nx (x3 + 1)).bind fun v79 =>
      (xsA xs nx (x3 + 2)).bind fun v80 =>
      (xsA xs nx (x3 + 3)).bind fun v81 =>
      (vO 11 a2 z78.2).bind fun g82 =>
      (X11_odds a2 v79 v80 v81 z78.2).bind fun z83 =>
      if z78.1 = z83.1 then
      L_law_L18 xs nx a1 a2 n (x3 + 8) z83.2
      else
      some (0, z83.2)
      else
      if (v2 &&& 31) = Int32.ofNat 8 then
      (xsA xs nx (x3 + 1)).bind fun v86 =>
      (xsA xs nx (x3 + 2)).bind fun v87 =>
      (vO 10 a1 μ).bind fun g88 =>
      (X10_seam a1 v86 v87 μ).bind fun z89 =>
      (xsA xs nx (x3 + 1)).bind fun v90 =>
      (xsA xs nx (x3 + 2)).bind fun v91 =>
      (vO 11 a2 z89.2).bind fun g92 =>
      (X11_seam a2 v90 v91 z89.2).bind fun z93 =>
      if z89.1 = z93.1 then
      L_law_L18 xs nx a1 a2 n (x3 + 8) z93.2
      else
      some (0, z93.2)
      else
      if (v2 &&& 31) = Int32.ofNat 9 then
      (xsA xs nx (x3 + 1)).bind fun v96 =>
      (xsA xs nx (x3 + 2)).bind fun v97 =>
      (vO 10 a1 μ).bind fun g98 =>
      (X10_until a1 v96 v97 μ).bind fun z99 =>
      (xsA xs nx (x3 + 1)).bind fun v100 =>
      (xsA xs nx (x3 + 2)).bind fun v101 =>
      (vO 11 a2 z99.2).bind fun g102 =>
      (X11_until a2 v100 v101 z99.2).bind fun z103 =>
      if z99.1 = z103.1 then
      L_law_L18 xs nx a1 a2 n (x3 + 8) z103.2
      else
      some (0, z103.2)
      else
      if (v2 &&& 31) = Int32.ofNat 10 then
      (xsA xs nx (x3 + 1)).bind fun v106 =>
      (xsA xs nx (x3 + 2)).bind fun v107 =>
      (xsA xs nx (x3 + 3)).bind fun v108 =>
      (xsA xs nx (x3 + 4)).bind fun v109 =>
      (xsA xs nx (x3 + 5)).bind fun v110 =>
      (xsA xs nx (x3 + 6)).bind fun v111 =>
      (xsA xs nx (x3 + 7)).bind fun v112 =>
      (vO 10 a1 μ).bind fun g113 =>
      (X10_thing a1 v106 v107 v108 v109 v110 v111 v112 μ).bind fun z114 =>
      (xsA xs nx (x3 + 1)).bind fun v115 =>
      (xsA xs nx (x3 + 2)).bind fun v116 =>
      (xsA xs nx (x3 + 3)).bind fun v117 =>
      (xsA xs nx (x3 + 4)).bind fun v118 =>
      (xsA xs nx (x3 + 5)).bind fun v119 =>
      (xsA xs nx (x3 + 6)).bind fun v120 =>
      (xsA xs nx (x3 + 7)).bind fun v121 =>
      (vO 11 a2 z114.2).bind fun g122 =>
      (X11_thing a2 v115 v116 v117 v118 v119 v120 v121 z114.2).bind fun z123 =>
      if z114.1 = z123.1 then
      L_law_L18 xs nx a1 a2 n (x3 + 8) z123.2
      else
      some (0, z123.2)
      else
      if (v2 &&& 31) = Int32.ofNat 11 then
      (xsA xs nx (x3 + 1)).bind fun v126 =>
      (vO 10 a1 μ).bind fun g127 =>
      (X10_dead a1 v126 μ).bind fun z128 =>
      (xsA xs nx (x3 + 1)).bind fun v129 =>
      (vO 11 a2 z128.2).bind fun g130 =>
      (X11_dead a2 v129 z128.2).bind fun z131 =>
      if z128.1 = z131.1 then
      L_law_L18 xs nx a1 a2 n (x3 + 8) z131.2
      else
      some (0, z131.2)
      else
      if (v2 &&& 31) = Int32.ofNat 12 then
      (xsA xs nx (x3 + 1)).bind fun v134 =>
      (xsA xs nx (x3 + 2)).bind fun v135 =>
      (vO 10 a1 μ).bind fun g136 =>
      (X10_told a1 v134 v135 μ).bind fun v137 =>
      (xsA xs nx (x3 + 1)).bind fun v138 =>
      (xsA xs nx (x3 + 2)).bind fun v139 =>
      (vO 11 a2 μ).bind fun g140 =>
      (X11_told a2 v138 v139 μ).bind fun v141 =>
      if v137 = v141 then
      L_law_L18 xs nx a1 a2 n (x3 + 8) μ
      else
      some (0, μ)
      else
      if (v2 &&& 31) = Int32.ofNat 13 then
      (xsA xs nx (x3 + 1)).bind fun v144 =>
      (xsA xs nx (x3 + 2)).bind fun v145 =>
      (xsA xs nx (x3 + 3)).bind fun v146 =>
      (vO 10 a1 μ).bind fun g147 =>
      (X10_value a1 v144 v145 v146 μ).bind fun z148 =>
      (xsA xs nx (x3 + 1)).bind fun v149 =>
      (xsA xs nx (x3 + 2)).bind fun v150 =>
      (xsA xs nx (x3 + 3)).bind fun v151 =>
      (vO 11 a2 z148.2).bind fun g152 =>
      (X11_value a2 v149 v150 v151 z148.2).bind fun z153 =>
      if z148.1 = z153.1 then
      L_law_L18 xs nx a1 a2 n (x3 + 8) z153.2
      else
      some (0, z153.2)
      else
      if (v2 &&& 31) = Int32.ofNat 14 then
      (xsA xs nx (x3 + 1)).bind fun v156 =>
      (xsA xs nx (x3 + 2)).bind fun v157 =>
      (xsA xs nx (x3 + 3)).bind fun v158 =>
      (vO 10 a1 μ).bind fun g159 =>
      (X10_cost a1 v156 v157 v158 μ).bind fun z160 =>
      (xsA xs nx (x3 + 1)).bind fun v161 =>
      (xsA xs nx (x3 + 2)).bind fun v162 =>
      (xsA xs nx (x3 + 3)).bind fun v163 =>
      (vO 11 a2 z160.2).bind fun g164 =>
      (X11_cost a2 v161 v162 v163 z160.2).bind fun z165 =>
      if z160.1 = z165.1 then
      L_law_L18 xs nx a1 a2 n (x3 + 8) z165.2
      else
      some (0, z165.2)
      else
      if (v2 &&& 31) = Int32.ofNat 15 then
      (xsA xs nx (x3 + 1)).bind fun v168 =>
      (xsA xs nx (x3 + 2)).bind fun v169 =>
      (vO 10 a1 μ).bind fun g170 =>
      (X10_seen a1 v168 v169 μ).bind fun z171 =>
      (xsA xs nx (x3 + 1)).bind fun v172 =>
      (xsA xs nx (x3 + 2)).bind fun v173 =>
      (vO 11 a2 z171.2).bind fun g174 =>
      (X11_seen a2 v172 v173 z171.2).bind fun z175 =>
      if z171.1 = z175.1 then
      L_law_L18 xs nx a1 a2 n (x3 + 8) z175.2
      else
      some (0, z175.2)
      else
      if (v2 &&& 31) = Int32.ofNat 16 then
      (xsA xs nx (x3 + 1)).bind fun v178 =>
      (xsA xs nx (x3 + 2)).bind fun v179 =>
      (xsA xs nx (x3 + 3)).bind fun v180 =>
      (vO 10 a1 μ).bind fun g181 =>
      (X10_loss a1 v178 v179 v180 μ).bind fun z182 =>
      (xsA xs nx (x3 + 1)).bind fun v183 =>
      (xsA xs nx (x3 + 2)).bind fun v184 =>
      (xsA xs nx (x3 + 3)).bind fun v185 =>
      (vO 11 a2 z182.2).bind fun g186 =>
      (X11_loss a2 v183 v184 v185 z182.2).bind fun z187 =>
      if z182.1 = z187.1 then
      L_law_L18 xs nx a1 a2 n (x3 + 8) z187.2
      else
      some (0, z187.2)
      else
      if (v2 &&& 31) = Int32.ofNat 17 then
      (xsA xs nx (x3 + 1)).bind fun v190 =>
      (vO 10 a1 μ).bind fun g191 =>
      (X10_count a1 v190 μ).bind fun v192 =>
      (xsA xs nx (x3 + 1)).bind fun v193 =>
      (vO 11 a2 μ).bind fun g194 =>
      (X11_count a2 v193 μ).bind fun v195 =>
      if v192 = v195 then
      L_law_L18 xs nx a1 a2 n (x3 + 8) μ
      else
      some (0, μ)
      else
      if (v2 &&& 31) = Int32.ofNat 18 then
      (xsA xs nx (x3 + 1)).bind fun v198 =>
      (xsA xs nx (x3 + 2)).bind fun v199 =>
      (xsA xs nx (x3 + 3)).bind fun v200 =>
      (vO 10 a1 μ).bind fun g201 =>
      (X10_feed a1 v198 ((v199.toInt64 <<< ((32 : Int32).toInt64 &&& 63)) ||| (v200.toInt64 &&& 4294967295)) μ).bind fun z202 =>
      (xsA xs nx (x3 + 1)).bind fun v203 =>
      (xsA xs nx (x3 + 2)).bind fun v204 =>
      (xsA xs nx (x3 + 3)).bind fun v205 =>
      (vO 11 a2 z202.2).bind fun g206 =>
      (X11_feed a2 v203 ((v204.toInt64 <<< ((32 : Int32).toInt64 &&& 63)) ||| (v205.toInt64 &&& 4294967295)) z202.2).bind fun z207 =>
      if z202.1 = z207.1 then
      L_law_L18 xs nx a1 a2 n (x3 + 8) z207.2
      else
      some (0, z207.2)
      else
      if (v2 &&& 31) = Int32.ofNat 19 then
      (xsA xs nx (x3 + 1)).bind fun v210 =>
      (vO 10 a1 μ).bind fun g211 =>
      (X10_read a1 v210 μ).bind fun z212 =>
      (xsA xs nx (x3 + 1)).bind fun v213 =>
      (vO 11 a2 z212.2).bind fun g214 =>
      (X11_read a2 v213 z212.2).bind fun z215 =>
      if z212.1 = z215.1 then
      L_law_L18 xs nx a1 a2 n (x3 + 8) z215.2
      else
      some (0, z215.2)
      else
      if (v2 &&& 31) = Int32.ofNat 20 then
      (vO 10 a1 μ).bind fun g218 =>
      (X10_fault a1 μ).bind fun v219 =>
      (vO 11 a2 μ).bind fun g220 =>
      (X11_fault a2 μ).bind fun v221 =>
      if v219 = v221 then
      L_law_L18 xs nx a1 a2 n (x3 + 8) μ
      else
      some (0, μ)
      else
      if (v2 &&& 31) = Int32.ofNat 21 then
      (xsA xs nx (x3 + 1)).bind fun v224 =>
      (xsA xs nx (x3 + 2)).bind fun v225 =>
      (xsA xs nx (x3 + 3)).bind fun v226 =>
      (vO 10 a1 μ).bind fun g227 =>
      (X10_barred a1 v224 v225 v226 μ).bind fun z228 =>
      (xsA xs nx (x3 + 1)).bind fun v229 =>
      (xsA xs nx (x3 + 2)).bind fun v230 =>
      (xsA xs nx (x3 + 3)).bind fun v231 =>
      (vO 11 a2 z228.2).bind fun g232 =>
      (X11_barred a2 v229 v230 v231 z228.2).bind fun z233 =>
      if z228.1 = z233.1 then
      L_law_L18 xs nx a1 a2 n (x3 + 8) z233.2
      else
      some (0, z233.2)
      else
      if (v2 &&& 31) = Int32.ofNat 22 then
      (xsA xs nx (x3 + 1)).bind fun v236 =>
      (xsA xs nx (x3 + 2)).bind fun v237 =>
      (xsA xs nx (x3 + 3)).bind fun v238 =>
      (xsA xs nx (x3 + 4)).bind fun v239 =>
      (vO 10 a1 μ).bind fun g240 =>
      (X10_plan a1 v236 v237 v238 v239 μ).bind fun z241 =>
      (xsA xs nx (x3 + 1)).bind fun v242 =>
      (xsA xs nx (x3 + 2)).bind fun v243 =>
      (xsA xs nx (x3 + 3)).bind fun v244 =>
      (xsA xs nx (x3 + 4)).bind fun v245 =>
      (vO 11 a2 z241.2).bind fun g246 =>
      (X11_plan a2 v242 v243 v244 v245 z241.2).bind fun z247 =>
      if z241.1 = z247.1 then
      L_law_L18 xs nx a1 a2 n (x3 + 8) z247.2
      else
      some (0, z247.2)
      else
      if (v2 &&& 31) = Int32.ofNat 23 then
      (xsA xs nx (x3 + 1)).bind fun v250 =>
      (xsA xs nx (x3 + 2)).bind fun v251 =>
      (xsA xs nx (x3 + 3)).bind fun v252 =>
      (vO 10 a1 μ).bind fun g253 =>
      (X10_say a1 v250 v251 v252 μ).bind fun z254 =>
      (xsA xs nx (x3 + 1)).bind fun v255 =>
      (xsA xs nx (x3 + 2)).bind fun v256 =>
      (xsA xs nx (x3 + 3)).bind fun v257 =>
      (vO 11 a2 z254.2).bind fun g258 =>
      (X11_say a2 v255 v256 v257 z254.2).bind fun z259 =>
      if z254.1 = z259.1 then
      L_law_L18 xs nx a1 a2 n (x3 + 8) z259.2
      else
      some (0, z259.2)
      else
      if (v2 &&& 31) = Int32.ofNat 24 then
      (xsA xs nx (x3 + 1)).bind fun v262 =>
      (xsA xs nx (x3 + 2)).bind fun v263 =>
      (vO 10 a1 μ).bind fun g264 =>
      (X10_came a1 v262 v263 μ).bind fun z265 =>
      (xsA xs nx (x3 + 1)).bind fun v266 =>
      (xsA xs nx (x3 + 2)).bind fun v267 =>
      (vO 11 a2 z265.2).bind fun g268 =>
      (X11_came a2 v266 v267 z265.2).bind fun z269 =>
      if z265.1 = z269.1 then
      L_law_L18 xs nx a1 a2 n (x3 + 8) z269.2
      else
      some (0, z269.2)
      else
      if (v2 &&& 31) = Int32.ofNat 25 then
      (xsA xs nx (x3 + 1)).bind fun v272 =>
      (xsA xs nx (x3 + 2)).bind fun v273 =>
      (vO 10 a1 μ).bind fun g274 =>
      (X10_saying a1 v272 v273 μ).bind fun v275 =>
      (xsA xs nx (x3 + 1)).bind fun v276 =>
      (xsA xs nx (x3 + 2)).bind fun v277 =>
      (vO 11 a2 μ).bind fun g278 =>
      (X11_saying a2 v276 v277 μ).bind fun v279 =>
      if v275 = v279 then
      L_law_L18 xs nx a1 a2 n (x3 + 8) μ
      else
      some (0, μ)
      else
      if (v2 &&& 31) = Int32.ofNat 26 then
      (xsA xs nx (x3 + 1)).bind fun v282 =>
      (xsA xs nx (x3 + 2)).bind fun v283 =>
      (xsA xs nx (x3 + 3)).bind fun v284 =>
      (vO 10 a1 μ).bind fun g285 =>
      (X10_learnt a1 v282 v283 v284 μ).bind fun v286 =>
      (xsA xs nx (x3 + 1)).bind fun v287 =>
      (xsA xs nx (x3 + 2)).bind fun v288 =>
      (xsA xs nx (x3 + 3)).bind fun v289 =>
      (vO 11 a2 μ).bind fun g290 =>
      (X11_learnt a2 v287 v288 v289 μ).bind fun v291 =>
      if v286 = v291 then
      L_law_L18 xs nx a1 a2 n (x3 + 8) μ
      else
      some (0, μ)
      else
      if (v2 &&& 31) = Int32.ofNat 27 then
      (xsA xs nx (x3 + 1)).bind fun v294 =>
      (xsA xs nx (x3 + 2)).bind fun v295 =>
      (vO 10 a1 μ).bind fun g296 =>
      (X10_who a1 v294 v295 μ).bind fun z297 =>
      (xsA xs nx (x3 + 1)).bind fun v298 =>
      (xsA xs nx (x3 + 2)).bind fun v299 =>
      (vO 11 a2 z297.2).bind fun g300 =>
      (X11_who a2 v298 v299 z297.2).bind fun z301 =>
      if z297.1 = z301.1 then
      L_law_L18 xs nx a1 a2 n (x3 + 8) z301.2
      else
      some (0, z301.2)
      else
      if (v2 &&& 31) = Int32.ofNat 28 then
      (xsA xs nx (x3 + 1)).bind fun v304 =>
      (xsA xs nx (x3 + 2)).bind fun v305 =>
      (xsA xs nx (x3 + 3)).bind fun v306 =>
      (xsA xs nx (x3 + 4)).bind fun v307 =>
      (vO 10 a1 μ).bind fun g308 =>
      (X10_tried a1 v304 v305 v306 v307 μ).bind fun z309 =>
      (xsA xs nx (x3 + 1)).bind fun v310 =>
      (xsA xs nx (x3 + 2)).bind fun v311 =>
      (xsA xs nx (x3 + 3)).bind fun v312 =>
      (xsA xs nx (x3 + 4)).bind fun v313 =>
      (vO 11 a2 z309.2).bind fun g314 =>
      (X11_tried a2 v310 v311 v312 v313 z309.2).bind fun z315 =>
      if z309.1 = z315.1 then
      L_law_L18 xs nx a1 a2 n (x3 + 8) z315.2
      else
      some (0, z315.2)
      else
      L_law_L18 xs nx a1 a2 n (x3 + 8) μ
def L_law (xs : Nat → Int32) (nx : Nat) (μ : Mem) : Option (Int32 × Mem) :=
  (nO 10 (mN μ + 0) μ).bind fun μ1 =>
  (gN (mN μ + 1) μ1).bind fun g2 =>
  (X10_init (mN μ + 0) μ1).bind fun μ3 =>
  (nO 11 (mN μ + 134) μ3).bind fun μ4 =>
  (gN (mN μ + 135) μ4).bind fun g5 =>
  (X11_init (mN μ + 134) μ4).bind fun μ6 =>
  L_law_L18 xs nx (mN μ + 0) (mN μ + 134) FU 0 μ6
end
section
-- ===== PART A: goes FIRST, ahead of the names: the tables' words, and 'selects' of the private methods out of them =====
/-- a private method of a class that the tables say can be made, by its rows of tables_1 -/
def lw_okq (q : MethodName × Nat) : Prop := (q.1.cls ≠ "java/lang/invoke/MethodHandle" ∧ q.1.cls ≠ "java/lang/invoke/VarHandle") ∧ Cond.instantiable q.1.cls q.2 ∈ tables_1 ∧ Cond.privateMethod q.1 ∈ tables_1 ∧ Cond.instanceMethod q.1 ∈ tables_1
theorem lw_p0 : lw_okq (⟨"WhenToSpeak$Work", "weigh", "(IIZ)V"⟩, 8) := ⟨⟨by decide +kernel, by decide +kernel⟩, List.mem_of_getElem? (i := 28) (by decide +kernel), List.mem_of_getElem? (i := 449) (by decide +kernel), List.mem_of_getElem? (i := 450) (by decide +kernel)⟩
theorem lw_p1 : lw_okq (⟨"WhenToSpeak$Work", "signFactor", "(IIZ)J"⟩, 8) := ⟨⟨by decide +kernel, by decide +kernel⟩, List.mem_of_getElem? (i := 28) (by decide +kernel), List.mem_of_getElem? (i := 456) (by decide +kernel), List.mem_of_getElem? (i := 457) (by decide +kernel)⟩
theorem lw_p2 : lw_okq (⟨"WhenToSpeak$Work", "allWeights", "()J"⟩, 8) := ⟨⟨by decide +kernel, by decide +kernel⟩, List.mem_of_getElem? (i := 28) (by decide +kernel), List.mem_of_getElem? (i := 460) (by decide +kernel), List.mem_of_getElem? (i := 461) (by decide +kernel)⟩
theorem lw_p3 : lw_okq (⟨"WhenToSpeak$Work", "moveOn", "([I[I)V"⟩, 8) := ⟨⟨by decide +kernel, by decide +kernel⟩, List.mem_of_getElem? (i := 28) (by decide +kernel), List.mem_of_getElem? (i := 476) (by decide +kernel), List.mem_of_getElem? (i := 477) (by decide +kernel)⟩
theorem lw_p4 : lw_okq (⟨"WhenToSpeak$Book", "isTold", "(I)Z"⟩, 4) := ⟨⟨by decide +kernel, by decide +kernel⟩, List.mem_of_getElem? (i := 88) (by decide +kernel), List.mem_of_getElem? (i := 521) (by decide +kernel), List.mem_of_getElem? (i := 522) (by decide +kernel)⟩
theorem lw_p5 : lw_okq (⟨"WhenToSpeak$LawText", "skipBlanks", "()V"⟩, 5) := ⟨⟨by decide +kernel, by decide +kernel⟩, List.mem_of_getElem? (i := 198) (by decide +kernel), List.mem_of_getElem? (i := 588) (by decide +kernel), List.mem_of_getElem? (i := 589) (by decide +kernel)⟩
theorem lw_p6 : lw_okq (⟨"WhenToSpeak$LawText", "readClause", "(LWhenToSpeak$Laws;)V"⟩, 5) := ⟨⟨by decide +kernel, by decide +kernel⟩, List.mem_of_getElem? (i := 198) (by decide +kernel), List.mem_of_getElem? (i := 592) (by decide +kernel), List.mem_of_getElem? (i := 593) (by decide +kernel)⟩
theorem lw_p7 : lw_okq (⟨"WhenToSpeak$LawText", "takeWord", "(Ljava/lang/String;)Z"⟩, 5) := ⟨⟨by decide +kernel, by decide +kernel⟩, List.mem_of_getElem? (i := 198) (by decide +kernel), List.mem_of_getElem? (i := 597) (by decide +kernel), List.mem_of_getElem? (i := 598) (by decide +kernel)⟩
theorem lw_p8 : lw_okq (⟨"WhenToSpeak$LawText", "refuseNinth", "(LWhenToSpeak$Laws;I)V"⟩, 5) := ⟨⟨by decide +kernel, by decide +kernel⟩, List.mem_of_getElem? (i := 198) (by decide +kernel), List.mem_of_getElem? (i := 649) (by decide +kernel), List.mem_of_getElem? (i := 650) (by decide +kernel)⟩
theorem lw_p9 : lw_okq (⟨"WhenToSpeak$LawText", "note", "(II)V"⟩, 5) := ⟨⟨by decide +kernel, by decide +kernel⟩, List.mem_of_getElem? (i := 198) (by decide +kernel), List.mem_of_getElem? (i := 653) (by decide +kernel), List.mem_of_getElem? (i := 654) (by decide +kernel)⟩
theorem lw_p10 : lw_okq (⟨"WhenToSpeak$LawText", "readNever", "(LWhenToSpeak$Laws;)V"⟩, 5) := ⟨⟨by decide +kernel, by decide +kernel⟩, List.mem_of_getElem? (i := 198) (by decide +kernel), List.mem_of_getElem? (i := 657) (by decide +kernel), List.mem_of_getElem? (i := 658) (by decide +kernel)⟩
theorem lw_p11 : lw_okq (⟨"WhenToSpeak$LawText", "takeNumber", "(II)I"⟩, 5) := ⟨⟨by decide +kernel, by decide +kernel⟩, List.mem_of_getElem? (i := 198) (by decide +kernel), List.mem_of_getElem? (i := 662) (by decide +kernel), List.mem_of_getElem? (i := 663) (by decide +kernel)⟩
theorem lw_p12 : lw_okq (⟨"WhenToSpeak$LawText", "finish", "(LWhenToSpeak$Laws;IIII)V"⟩, 5) := ⟨⟨by decide +kernel, by decide +kernel⟩, List.mem_of_getElem? (i := 198) (by decide +kernel), List.mem_of_getElem? (i := 668) (by decide +kernel), List.mem_of_getElem? (i := 669) (by decide +kernel)⟩
theorem lw_p13 : lw_okq (⟨"WhenToSpeak$LawText", "needWord", "(Ljava/lang/String;)V"⟩, 5) := ⟨⟨by decide +kernel, by decide +kernel⟩, List.mem_of_getElem? (i := 198) (by decide +kernel), List.mem_of_getElem? (i := 677) (by decide +kernel), List.mem_of_getElem? (i := 678) (by decide +kernel)⟩
theorem lw_p14 : lw_okq (⟨"WhenToSpeak", "barNow", "(III)I"⟩, 11) := ⟨⟨by decide +kernel, by decide +kernel⟩, List.mem_of_getElem? (i := 20) (by decide +kernel), List.mem_of_getElem? (i := 699) (by decide +kernel), List.mem_of_getElem? (i := 700) (by decide +kernel)⟩
theorem lw_p15 : lw_okq (⟨"WhenToSpeak$Laws", "isLikely", "(I[I)Z"⟩, 5) := ⟨⟨by decide +kernel, by decide +kernel⟩, List.mem_of_getElem? (i := 344) (by decide +kernel), List.mem_of_getElem? (i := 719) (by decide +kernel), List.mem_of_getElem? (i := 720) (by decide +kernel)⟩
def lw_privs_1 : List (MethodName × Nat) := [(⟨"WhenToSpeak$Work", "weigh", "(IIZ)V"⟩, 8), (⟨"WhenToSpeak$Work", "signFactor", "(IIZ)J"⟩, 8), (⟨"WhenToSpeak$Work", "allWeights", "()J"⟩, 8), (⟨"WhenToSpeak$Work", "moveOn", "([I[I)V"⟩, 8), (⟨"WhenToSpeak$Book", "isTold", "(I)Z"⟩, 4), (⟨"WhenToSpeak$LawText", "skipBlanks", "()V"⟩, 5), (⟨"WhenToSpeak$LawText", "readClause", "(LWhenToSpeak$Laws;)V"⟩, 5), (⟨"WhenToSpeak$LawText", "takeWord", "(Ljava/lang/String;)Z"⟩, 5), (⟨"WhenToSpeak$LawText", "refuseNinth", "(LWhenToSpeak$Laws;I)V"⟩, 5), (⟨"WhenToSpeak$LawText", "note", "(II)V"⟩, 5), (⟨"WhenToSpeak$LawText", "readNever", "(LWhenToSpeak$Laws;)V"⟩, 5), (⟨"WhenToSpeak$LawText", "takeNumber", "(II)I"⟩, 5), (⟨"WhenToSpeak$LawText", "finish", "(LWhenToSpeak$Laws;IIII)V"⟩, 5), (⟨"WhenToSpeak$LawText", "needWord", "(Ljava/lang/String;)V"⟩, 5), (⟨"WhenToSpeak", "barNow", "(III)I"⟩, 11), (⟨"WhenToSpeak$Laws", "isLikely", "(I[I)Z"⟩, 5)]
theorem lw_r1 : ∀ q ∈ lw_privs_1, lw_okq q := List.forall_mem_cons.mpr ⟨lw_p0, List.forall_mem_cons.mpr ⟨lw_p1, List.forall_mem_cons.mpr ⟨lw_p2, List.forall_mem_cons.mpr ⟨lw_p3, List.forall_mem_cons.mpr ⟨lw_p4, List.forall_mem_cons.mpr ⟨lw_p5, List.forall_mem_cons.mpr ⟨lw_p6, List.forall_mem_cons.mpr ⟨lw_p7, List.forall_mem_cons.mpr ⟨lw_p8, List.forall_mem_cons.mpr ⟨lw_p9, List.forall_mem_cons.mpr ⟨lw_p10, List.forall_mem_cons.mpr ⟨lw_p11, List.forall_mem_cons.mpr ⟨lw_p12, List.forall_mem_cons.mpr ⟨lw_p13, List.forall_mem_cons.mpr ⟨lw_p14, List.forall_mem_cons.mpr ⟨lw_p15, fun _ h => absurd h List.not_mem_nil⟩⟩⟩⟩⟩⟩⟩⟩⟩⟩⟩⟩⟩⟩⟩⟩
theorem lw_p16 : lw_okq (⟨"WhenToSpeak$Planner", "pick", "(II)V"⟩, 19) := ⟨⟨by decide +kernel, by decide +kernel⟩, List.mem_of_getElem? (i := 241) (by decide +kernel), List.mem_of_getElem? (i := 761) (by decide +kernel), List.mem_of_getElem? (i := 762) (by decide +kernel)⟩
theorem lw_p17 : lw_okq (⟨"WhenToSpeak$Planner", "price", "(IILWhenToSpeak$Laws;)V"⟩, 19) := ⟨⟨by decide +kernel, by decide +kernel⟩, List.mem_of_getElem? (i := 241) (by decide +kernel), List.mem_of_getElem? (i := 768) (by decide +kernel), List.mem_of_getElem? (i := 769) (by decide +kernel)⟩
theorem lw_p18 : lw_okq (⟨"WhenToSpeak$Planner", "priceSet", "(II)V"⟩, 19) := ⟨⟨by decide +kernel, by decide +kernel⟩, List.mem_of_getElem? (i := 241) (by decide +kernel), List.mem_of_getElem? (i := 784) (by decide +kernel), List.mem_of_getElem? (i := 785) (by decide +kernel)⟩
theorem lw_p19 : lw_okq (⟨"WhenToSpeak$Planner", "mostBarsAt", "(IIIILWhenToSpeak$Laws;)Z"⟩, 19) := ⟨⟨by decide +kernel, by decide +kernel⟩, List.mem_of_getElem? (i := 241) (by decide +kernel), List.mem_of_getElem? (i := 790) (by decide +kernel), List.mem_of_getElem? (i := 791) (by decide +kernel)⟩
theorem lw_p20 : lw_okq (⟨"WhenToSpeak$Planner", "decide", "(IIIZ)I"⟩, 19) := ⟨⟨by decide +kernel, by decide +kernel⟩, List.mem_of_getElem? (i := 241) (by decide +kernel), List.mem_of_getElem? (i := 795) (by decide +kernel), List.mem_of_getElem? (i := 796) (by decide +kernel)⟩
theorem lw_p21 : lw_okq (⟨"WhenToSpeak$Planner", "nodeBehind", "(IZ)I"⟩, 19) := ⟨⟨by decide +kernel, by decide +kernel⟩, List.mem_of_getElem? (i := 241) (by decide +kernel), List.mem_of_getElem? (i := 799) (by decide +kernel), List.mem_of_getElem? (i := 800) (by decide +kernel)⟩
theorem lw_p22 : lw_okq (⟨"WhenToSpeak$Planner", "total", "(II)I"⟩, 19) := ⟨⟨by decide +kernel, by decide +kernel⟩, List.mem_of_getElem? (i := 241) (by decide +kernel), List.mem_of_getElem? (i := 803) (by decide +kernel), List.mem_of_getElem? (i := 804) (by decide +kernel)⟩
theorem lw_p23 : lw_okq (⟨"WhenToSpeak$Planner", "tell", "(IILWhenToSpeak$Laws;)V"⟩, 19) := ⟨⟨by decide +kernel, by decide +kernel⟩, List.mem_of_getElem? (i := 241) (by decide +kernel), List.mem_of_getElem? (i := 809) (by decide +kernel), List.mem_of_getElem? (i := 810) (by decide +kernel)⟩
theorem lw_p24 : lw_okq (⟨"WhenToSpeak$Trial", "sayIn", "(IIZ)V"⟩, 8) := ⟨⟨by decide +kernel, by decide +kernel⟩, List.mem_of_getElem? (i := 310) (by decide +kernel), List.mem_of_getElem? (i := 877) (by decide +kernel), List.mem_of_getElem? (i := 878) (by decide +kernel)⟩
theorem lw_p25 : lw_okq (⟨"WhenToSpeak$Trial", "isLeft", "(II)Z"⟩, 8) := ⟨⟨by decide +kernel, by decide +kernel⟩, List.mem_of_getElem? (i := 310) (by decide +kernel), List.mem_of_getElem? (i := 882) (by decide +kernel), List.mem_of_getElem? (i := 883) (by decide +kernel)⟩
theorem lw_p26 : lw_okq (⟨"WhenToSpeakModel", "findRows", "(II)V"⟩, 51) := ⟨⟨by decide +kernel, by decide +kernel⟩, List.mem_of_getElem? (i := 888) (by decide +kernel), List.mem_of_getElem? (i := 1091) (by decide +kernel), List.mem_of_getElem? (i := 1092) (by decide +kernel)⟩
theorem lw_p27 : lw_okq (⟨"WhenToSpeakModel", "showsAt", "(III)I"⟩, 51) := ⟨⟨by decide +kernel, by decide +kernel⟩, List.mem_of_getElem? (i := 888) (by decide +kernel), List.mem_of_getElem? (i := 1095) (by decide +kernel), List.mem_of_getElem? (i := 1096) (by decide +kernel)⟩
theorem lw_p28 : lw_okq (⟨"WhenToSpeakModel", "findOdds", "(III)V"⟩, 51) := ⟨⟨by decide +kernel, by decide +kernel⟩, List.mem_of_getElem? (i := 888) (by decide +kernel), List.mem_of_getElem? (i := 1104) (by decide +kernel), List.mem_of_getElem? (i := 1105) (by decide +kernel)⟩
theorem lw_p29 : lw_okq (⟨"WhenToSpeakModel", "seamOdds", "(III)I"⟩, 51) := ⟨⟨by decide +kernel, by decide +kernel⟩, List.mem_of_getElem? (i := 888) (by decide +kernel), List.mem_of_getElem? (i := 1113) (by decide +kernel), List.mem_of_getElem? (i := 1114) (by decide +kernel)⟩
theorem lw_p30 : lw_okq (⟨"WhenToSpeakModel", "isThing", "(I)Z"⟩, 51) := ⟨⟨by decide +kernel, by decide +kernel⟩, List.mem_of_getElem? (i := 888) (by decide +kernel), List.mem_of_getElem? (i := 1134) (by decide +kernel), List.mem_of_getElem? (i := 1135) (by decide +kernel)⟩
theorem lw_p31 : lw_okq (⟨"WhenToSpeakModel", "sayingsOf", "(I)I"⟩, 51) := ⟨⟨by decide +kernel, by decide +kernel⟩, List.mem_of_getElem? (i := 888) (by decide +kernel), List.mem_of_getElem? (i := 1138) (by decide +kernel), List.mem_of_getElem? (i := 1139) (by decide +kernel)⟩
def lw_privs_2 : List (MethodName × Nat) := [(⟨"WhenToSpeak$Planner", "pick", "(II)V"⟩, 19), (⟨"WhenToSpeak$Planner", "price", "(IILWhenToSpeak$Laws;)V"⟩, 19), (⟨"WhenToSpeak$Planner", "priceSet", "(II)V"⟩, 19), (⟨"WhenToSpeak$Planner", "mostBarsAt", "(IIIILWhenToSpeak$Laws;)Z"⟩, 19), (⟨"WhenToSpeak$Planner", "decide", "(IIIZ)I"⟩, 19), (⟨"WhenToSpeak$Planner", "nodeBehind", "(IZ)I"⟩, 19), (⟨"WhenToSpeak$Planner", "total", "(II)I"⟩, 19), (⟨"WhenToSpeak$Planner", "tell", "(IILWhenToSpeak$Laws;)V"⟩, 19), (⟨"WhenToSpeak$Trial", "sayIn", "(IIZ)V"⟩, 8), (⟨"WhenToSpeak$Trial", "isLeft", "(II)Z"⟩, 8), (⟨"WhenToSpeakModel", "findRows", "(II)V"⟩, 51), (⟨"WhenToSpeakModel", "showsAt", "(III)I"⟩, 51), (⟨"WhenToSpeakModel", "findOdds", "(III)V"⟩, 51), (⟨"WhenToSpeakModel", "seamOdds", "(III)I"⟩, 51), (⟨"WhenToSpeakModel", "isThing", "(I)Z"⟩, 51), (⟨"WhenToSpeakModel", "sayingsOf", "(I)I"⟩, 51)]
theorem lw_r2 : ∀ q ∈ lw_privs_2, lw_okq q := List.forall_mem_cons.mpr ⟨lw_p16, List.forall_mem_cons.mpr ⟨lw_p17, List.forall_mem_cons.mpr ⟨lw_p18, List.forall_mem_cons.mpr ⟨lw_p19, List.forall_mem_cons.mpr ⟨lw_p20, List.forall_mem_cons.mpr ⟨lw_p21, List.forall_mem_cons.mpr ⟨lw_p22, List.forall_mem_cons.mpr ⟨lw_p23, List.forall_mem_cons.mpr ⟨lw_p24, List.forall_mem_cons.mpr ⟨lw_p25, List.forall_mem_cons.mpr ⟨lw_p26, List.forall_mem_cons.mpr ⟨lw_p27, List.forall_mem_cons.mpr ⟨lw_p28, List.forall_mem_cons.mpr ⟨lw_p29, List.forall_mem_cons.mpr ⟨lw_p30, List.forall_mem_cons.mpr ⟨lw_p31, fun _ h => absurd h List.not_mem_nil⟩⟩⟩⟩⟩⟩⟩⟩⟩⟩⟩⟩⟩⟩⟩⟩
theorem lw_p32 : lw_okq (⟨"WhenToSpeakModel", "stateOf", "(I)I"⟩, 51) := ⟨⟨by decide +kernel, by decide +kernel⟩, List.mem_of_getElem? (i := 888) (by decide +kernel), List.mem_of_getElem? (i := 1146) (by decide +kernel), List.mem_of_getElem? (i := 1147) (by decide +kernel)⟩
theorem lw_p33 : lw_okq (⟨"WhenToSpeakModel", "isTold", "(I)Z"⟩, 51) := ⟨⟨by decide +kernel, by decide +kernel⟩, List.mem_of_getElem? (i := 888) (by decide +kernel), List.mem_of_getElem? (i := 1150) (by decide +kernel), List.mem_of_getElem? (i := 1151) (by decide +kernel)⟩
theorem lw_p34 : lw_okq (⟨"WhenToSpeakModel", "valueOf", "(III)I"⟩, 51) := ⟨⟨by decide +kernel, by decide +kernel⟩, List.mem_of_getElem? (i := 888) (by decide +kernel), List.mem_of_getElem? (i := 1158) (by decide +kernel), List.mem_of_getElem? (i := 1159) (by decide +kernel)⟩
theorem lw_p35 : lw_okq (⟨"WhenToSpeakModel", "lossOf", "(IIII)I"⟩, 51) := ⟨⟨by decide +kernel, by decide +kernel⟩, List.mem_of_getElem? (i := 888) (by decide +kernel), List.mem_of_getElem? (i := 1178) (by decide +kernel), List.mem_of_getElem? (i := 1179) (by decide +kernel)⟩
theorem lw_p36 : lw_okq (⟨"WhenToSpeakModel", "thingsThat", "(I)I"⟩, 51) := ⟨⟨by decide +kernel, by decide +kernel⟩, List.mem_of_getElem? (i := 888) (by decide +kernel), List.mem_of_getElem? (i := 1187) (by decide +kernel), List.mem_of_getElem? (i := 1188) (by decide +kernel)⟩
theorem lw_p37 : lw_okq (⟨"WhenToSpeakModel", "here", "()I"⟩, 51) := ⟨⟨by decide +kernel, by decide +kernel⟩, List.mem_of_getElem? (i := 888) (by decide +kernel), List.mem_of_getElem? (i := 1200) (by decide +kernel), List.mem_of_getElem? (i := 1201) (by decide +kernel)⟩
theorem lw_p38 : lw_okq (⟨"WhenToSpeakModel", "readClause", "(I)I"⟩, 51) := ⟨⟨by decide +kernel, by decide +kernel⟩, List.mem_of_getElem? (i := 888) (by decide +kernel), List.mem_of_getElem? (i := 1204) (by decide +kernel), List.mem_of_getElem? (i := 1205) (by decide +kernel)⟩
theorem lw_p39 : lw_okq (⟨"WhenToSpeakModel", "readWord", "()V"⟩, 51) := ⟨⟨by decide +kernel, by decide +kernel⟩, List.mem_of_getElem? (i := 888) (by decide +kernel), List.mem_of_getElem? (i := 1208) (by decide +kernel), List.mem_of_getElem? (i := 1209) (by decide +kernel)⟩
theorem lw_p40 : lw_okq (⟨"WhenToSpeakModel", "fails", "(II)I"⟩, 51) := ⟨⟨by decide +kernel, by decide +kernel⟩, List.mem_of_getElem? (i := 888) (by decide +kernel), List.mem_of_getElem? (i := 1221) (by decide +kernel), List.mem_of_getElem? (i := 1222) (by decide +kernel)⟩
theorem lw_p41 : lw_okq (⟨"WhenToSpeakModel", "readNever", "(I)I"⟩, 51) := ⟨⟨by decide +kernel, by decide +kernel⟩, List.mem_of_getElem? (i := 888) (by decide +kernel), List.mem_of_getElem? (i := 1225) (by decide +kernel), List.mem_of_getElem? (i := 1226) (by decide +kernel)⟩
theorem lw_p42 : lw_okq (⟨"WhenToSpeakModel", "readWay", "(I)I"⟩, 51) := ⟨⟨by decide +kernel, by decide +kernel⟩, List.mem_of_getElem? (i := 888) (by decide +kernel), List.mem_of_getElem? (i := 1229) (by decide +kernel), List.mem_of_getElem? (i := 1230) (by decide +kernel)⟩
theorem lw_p43 : lw_okq (⟨"WhenToSpeakModel", "readNumber", "(II)I"⟩, 51) := ⟨⟨by decide +kernel, by decide +kernel⟩, List.mem_of_getElem? (i := 888) (by decide +kernel), List.mem_of_getElem? (i := 1233) (by decide +kernel), List.mem_of_getElem? (i := 1234) (by decide +kernel)⟩
theorem lw_p44 : lw_okq (⟨"WhenToSpeakModel", "needs", "(J)I"⟩, 51) := ⟨⟨by decide +kernel, by decide +kernel⟩, List.mem_of_getElem? (i := 888) (by decide +kernel), List.mem_of_getElem? (i := 1239) (by decide +kernel), List.mem_of_getElem? (i := 1240) (by decide +kernel)⟩
theorem lw_p45 : lw_okq (⟨"WhenToSpeakModel", "readMost", "(I)I"⟩, 51) := ⟨⟨by decide +kernel, by decide +kernel⟩, List.mem_of_getElem? (i := 888) (by decide +kernel), List.mem_of_getElem? (i := 1243) (by decide +kernel), List.mem_of_getElem? (i := 1244) (by decide +kernel)⟩
theorem lw_p46 : lw_okq (⟨"WhenToSpeakModel", "readAlways", "(I)I"⟩, 51) := ⟨⟨by decide +kernel, by decide +kernel⟩, List.mem_of_getElem? (i := 888) (by decide +kernel), List.mem_of_getElem? (i := 1247) (by decide +kernel), List.mem_of_getElem? (i := 1248) (by decide +kernel)⟩
theorem lw_p47 : lw_okq (⟨"WhenToSpeakModel", "areThings", "(I)Z"⟩, 51) := ⟨⟨by decide +kernel, by decide +kernel⟩, List.mem_of_getElem? (i := 888) (by decide +kernel), List.mem_of_getElem? (i := 1259) (by decide +kernel), List.mem_of_getElem? (i := 1260) (by decide +kernel)⟩
def lw_privs_3 : List (MethodName × Nat) := [(⟨"WhenToSpeakModel", "stateOf", "(I)I"⟩, 51), (⟨"WhenToSpeakModel", "isTold", "(I)Z"⟩, 51), (⟨"WhenToSpeakModel", "valueOf", "(III)I"⟩, 51), (⟨"WhenToSpeakModel", "lossOf", "(IIII)I"⟩, 51), (⟨"WhenToSpeakModel", "thingsThat", "(I)I"⟩, 51), (⟨"WhenToSpeakModel", "here", "()I"⟩, 51), (⟨"WhenToSpeakModel", "readClause", "(I)I"⟩, 51), (⟨"WhenToSpeakModel", "readWord", "()V"⟩, 51), (⟨"WhenToSpeakModel", "fails", "(II)I"⟩, 51), (⟨"WhenToSpeakModel", "readNever", "(I)I"⟩, 51), (⟨"WhenToSpeakModel", "readWay", "(I)I"⟩, 51), (⟨"WhenToSpeakModel", "readNumber", "(II)I"⟩, 51), (⟨"WhenToSpeakModel", "needs", "(J)I"⟩, 51), (⟨"WhenToSpeakModel", "readMost", "(I)I"⟩, 51), (⟨"WhenToSpeakModel", "readAlways", "(I)I"⟩, 51), (⟨"WhenToSpeakModel", "areThings", "(I)Z"⟩, 51)]
theorem lw_r3 : ∀ q ∈ lw_privs_3, lw_okq q := List.forall_mem_cons.mpr ⟨lw_p32, List.forall_mem_cons.mpr ⟨lw_p33, List.forall_mem_cons.mpr ⟨lw_p34, List.forall_mem_cons.mpr ⟨lw_p35, List.forall_mem_cons.mpr ⟨lw_p36, List.forall_mem_cons.mpr ⟨lw_p37, List.forall_mem_cons.mpr ⟨lw_p38, List.forall_mem_cons.mpr ⟨lw_p39, List.forall_mem_cons.mpr ⟨lw_p40, List.forall_mem_cons.mpr ⟨lw_p41, List.forall_mem_cons.mpr ⟨lw_p42, List.forall_mem_cons.mpr ⟨lw_p43, List.forall_mem_cons.mpr ⟨lw_p44, List.forall_mem_cons.mpr ⟨lw_p45, List.forall_mem_cons.mpr ⟨lw_p46, List.forall_mem_cons.mpr ⟨lw_p47, fun _ h => absurd h List.not_mem_nil⟩⟩⟩⟩⟩⟩⟩⟩⟩⟩⟩⟩⟩⟩⟩⟩
theorem lw_p48 : lw_okq (⟨"WhenToSpeakModel", "barring", "(IIIII)I"⟩, 51) := ⟨⟨by decide +kernel, by decide +kernel⟩, List.mem_of_getElem? (i := 888) (by decide +kernel), List.mem_of_getElem? (i := 1263) (by decide +kernel), List.mem_of_getElem? (i := 1264) (by decide +kernel)⟩
theorem lw_p49 : lw_okq (⟨"WhenToSpeakModel", "areAlways", "(II)Z"⟩, 51) := ⟨⟨by decide +kernel, by decide +kernel⟩, List.mem_of_getElem? (i := 888) (by decide +kernel), List.mem_of_getElem? (i := 1267) (by decide +kernel), List.mem_of_getElem? (i := 1268) (by decide +kernel)⟩
theorem lw_p50 : lw_okq (⟨"WhenToSpeakModel", "isAlways", "(II)Z"⟩, 51) := ⟨⟨by decide +kernel, by decide +kernel⟩, List.mem_of_getElem? (i := 888) (by decide +kernel), List.mem_of_getElem? (i := 1271) (by decide +kernel), List.mem_of_getElem? (i := 1272) (by decide +kernel)⟩
theorem lw_p51 : lw_okq (⟨"WhenToSpeakModel", "isWayBarred", "(III)Z"⟩, 51) := ⟨⟨by decide +kernel, by decide +kernel⟩, List.mem_of_getElem? (i := 888) (by decide +kernel), List.mem_of_getElem? (i := 1275) (by decide +kernel), List.mem_of_getElem? (i := 1276) (by decide +kernel)⟩
theorem lw_p52 : lw_okq (⟨"WhenToSpeakModel", "isKindBarred", "(III)Z"⟩, 51) := ⟨⟨by decide +kernel, by decide +kernel⟩, List.mem_of_getElem? (i := 888) (by decide +kernel), List.mem_of_getElem? (i := 1279) (by decide +kernel), List.mem_of_getElem? (i := 1280) (by decide +kernel)⟩
theorem lw_p53 : lw_okq (⟨"WhenToSpeakModel", "areMost", "(III)Z"⟩, 51) := ⟨⟨by decide +kernel, by decide +kernel⟩, List.mem_of_getElem? (i := 888) (by decide +kernel), List.mem_of_getElem? (i := 1283) (by decide +kernel), List.mem_of_getElem? (i := 1284) (by decide +kernel)⟩
theorem lw_p54 : lw_okq (⟨"WhenToSpeakModel", "findPlans", "(II)V"⟩, 51) := ⟨⟨by decide +kernel, by decide +kernel⟩, List.mem_of_getElem? (i := 888) (by decide +kernel), List.mem_of_getElem? (i := 1292) (by decide +kernel), List.mem_of_getElem? (i := 1293) (by decide +kernel)⟩
theorem lw_p55 : lw_okq (⟨"WhenToSpeakModel", "findGain", "(III)V"⟩, 51) := ⟨⟨by decide +kernel, by decide +kernel⟩, List.mem_of_getElem? (i := 888) (by decide +kernel), List.mem_of_getElem? (i := 1296) (by decide +kernel), List.mem_of_getElem? (i := 1297) (by decide +kernel)⟩
theorem lw_p56 : lw_okq (⟨"WhenToSpeakModel", "setOf", "(I)I"⟩, 51) := ⟨⟨by decide +kernel, by decide +kernel⟩, List.mem_of_getElem? (i := 888) (by decide +kernel), List.mem_of_getElem? (i := 1300) (by decide +kernel), List.mem_of_getElem? (i := 1301) (by decide +kernel)⟩
theorem lw_p57 : lw_okq (⟨"WhenToSpeakModel", "isOneMatter", "(I)Z"⟩, 51) := ⟨⟨by decide +kernel, by decide +kernel⟩, List.mem_of_getElem? (i := 888) (by decide +kernel), List.mem_of_getElem? (i := 1305) (by decide +kernel), List.mem_of_getElem? (i := 1306) (by decide +kernel)⟩
theorem lw_p58 : lw_okq (⟨"WhenToSpeakModel", "isMust", "(I)Z"⟩, 51) := ⟨⟨by decide +kernel, by decide +kernel⟩, List.mem_of_getElem? (i := 888) (by decide +kernel), List.mem_of_getElem? (i := 1309) (by decide +kernel), List.mem_of_getElem? (i := 1310) (by decide +kernel)⟩
theorem lw_p59 : lw_okq (⟨"WhenToSpeakModel", "by", "(IIIII)I"⟩, 51) := ⟨⟨by decide +kernel, by decide +kernel⟩, List.mem_of_getElem? (i := 888) (by decide +kernel), List.mem_of_getElem? (i := 1316) (by decide +kernel), List.mem_of_getElem? (i := 1317) (by decide +kernel)⟩
theorem lw_p60 : lw_okq (⟨"WhenToSpeakModel", "deadOf", "(I)I"⟩, 51) := ⟨⟨by decide +kernel, by decide +kernel⟩, List.mem_of_getElem? (i := 888) (by decide +kernel), List.mem_of_getElem? (i := 1324) (by decide +kernel), List.mem_of_getElem? (i := 1325) (by decide +kernel)⟩
theorem lw_p61 : lw_okq (⟨"WhenToSpeakModel", "areFor", "(II)Z"⟩, 51) := ⟨⟨by decide +kernel, by decide +kernel⟩, List.mem_of_getElem? (i := 888) (by decide +kernel), List.mem_of_getElem? (i := 1328) (by decide +kernel), List.mem_of_getElem? (i := 1329) (by decide +kernel)⟩
theorem lw_p62 : lw_okq (⟨"WhenToSpeakModel", "isSaying", "(I)Z"⟩, 51) := ⟨⟨by decide +kernel, by decide +kernel⟩, List.mem_of_getElem? (i := 888) (by decide +kernel), List.mem_of_getElem? (i := 1336) (by decide +kernel), List.mem_of_getElem? (i := 1337) (by decide +kernel)⟩
theorem lw_p63 : lw_okq (⟨"WhenToSpeakModel", "cameOf", "(IZ)I"⟩, 51) := ⟨⟨by decide +kernel, by decide +kernel⟩, List.mem_of_getElem? (i := 888) (by decide +kernel), List.mem_of_getElem? (i := 1348) (by decide +kernel), List.mem_of_getElem? (i := 1349) (by decide +kernel)⟩
def lw_privs_4 : List (MethodName × Nat) := [(⟨"WhenToSpeakModel", "barring", "(IIIII)I"⟩, 51), (⟨"WhenToSpeakModel", "areAlways", "(II)Z"⟩, 51), (⟨"WhenToSpeakModel", "isAlways", "(II)Z"⟩, 51), (⟨"WhenToSpeakModel", "isWayBarred", "(III)Z"⟩, 51), (⟨"WhenToSpeakModel", "isKindBarred", "(III)Z"⟩, 51), (⟨"WhenToSpeakModel", "areMost", "(III)Z"⟩, 51), (⟨"WhenToSpeakModel", "findPlans", "(II)V"⟩, 51), (⟨"WhenToSpeakModel", "findGain", "(III)V"⟩, 51), (⟨"WhenToSpeakModel", "setOf", "(I)I"⟩, 51), (⟨"WhenToSpeakModel", "isOneMatter", "(I)Z"⟩, 51), (⟨"WhenToSpeakModel", "isMust", "(I)Z"⟩, 51), (⟨"WhenToSpeakModel", "by", "(IIIII)I"⟩, 51), (⟨"WhenToSpeakModel", "deadOf", "(I)I"⟩, 51), (⟨"WhenToSpeakModel", "areFor", "(II)Z"⟩, 51), (⟨"WhenToSpeakModel", "isSaying", "(I)Z"⟩, 51), (⟨"WhenToSpeakModel", "cameOf", "(IZ)I"⟩, 51)]
theorem lw_r4 : ∀ q ∈ lw_privs_4, lw_okq q := List.forall_mem_cons.mpr ⟨lw_p48, List.forall_mem_cons.mpr ⟨lw_p49, List.forall_mem_cons.mpr ⟨lw_p50, List.forall_mem_cons.mpr ⟨lw_p51, List.forall_mem_cons.mpr ⟨lw_p52, List.forall_mem_cons.mpr ⟨lw_p53, List.forall_mem_cons.mpr ⟨lw_p54, List.forall_mem_cons.mpr ⟨lw_p55, List.forall_mem_cons.mpr ⟨lw_p56, List.forall_mem_cons.mpr ⟨lw_p57, List.forall_mem_cons.mpr ⟨lw_p58, List.forall_mem_cons.mpr ⟨lw_p59, List.forall_mem_cons.mpr ⟨lw_p60, List.forall_mem_cons.mpr ⟨lw_p61, List.forall_mem_cons.mpr ⟨lw_p62, List.forall_mem_cons.mpr ⟨lw_p63, fun _ h => absurd h List.not_mem_nil⟩⟩⟩⟩⟩⟩⟩⟩⟩⟩⟩⟩⟩⟩⟩⟩
def lw_privs : List (MethodName × Nat) := lw_privs_1 ++ (lw_privs_2 ++ (lw_privs_3 ++ (lw_privs_4)))
def lw_tbl : List Cond := k2_sels lw_privs ++ tables_1
theorem lw_privs_ok : ∀ q ∈ lw_privs, lw_okq q := by
  show ∀ q ∈ lw_privs_1 ++ (lw_privs_2 ++ (lw_privs_3 ++ (lw_privs_4))), lw_okq q
  exact List.forall_mem_append.mpr ⟨lw_r1, List.forall_mem_append.mpr ⟨lw_r2, List.forall_mem_append.mpr ⟨lw_r3, lw_r4⟩⟩⟩
def RX0 : String := "WhenToSpeak$Book"
def TX0 : u_T := fun k => match k with
  | 0 => ("WhenToSpeak$Book", "things", "[LWhenToSpeak$Thing;", true)
  | 1 => ("WhenToSpeak$Book", "sayings", "[LWhenToSpeak$Saying;", true)
  | 2 => ("WhenToSpeak$Book", "thingCount", "I", false)
  | _ => ("WhenToSpeak$Book", "sayingCount", "I", false)
def tyX0 : Nat → FieldType := fun k => match k with
  | 0 => .array (.object "WhenToSpeak$Thing")
  | 1 => .array (.object "WhenToSpeak$Saying")
  | 2 => .int
  | _ => .int
abbrev wsX00 : List Cond := u_ws RX0 TX0 4
theorem nmX0 : ∀ a, a < 4 → ∀ b, b < 4 → a ≠ b → (TX0 a).2.1 ≠ (TX0 b).2.1 := by decide +kernel
theorem tyX0_ok : ∀ k, k < 4 → parseFieldDescriptor (TX0 k).2.2.1 = some (tyX0 k) := by decide +kernel
abbrev cX0_init : ByteArray := prog_2_method_1_code
def yX0_init : MethodName := ⟨RX0, "<init>", "()V"⟩
abbrev cX0_hasThing : ByteArray := prog_2_method_2_code
def yX0_hasThing : MethodName := ⟨RX0, "hasThing", "(I)Z"⟩
abbrev cX0_hasThings : ByteArray := prog_2_method_3_code
def yX0_hasThings : MethodName := ⟨RX0, "hasThings", "(I)Z"⟩
abbrev cX0_hasSaying : ByteArray := prog_2_method_4_code
def yX0_hasSaying : MethodName := ⟨RX0, "hasSaying", "(I)Z"⟩
abbrev cX0_standing : ByteArray := prog_2_method_5_code
def yX0_standing : MethodName := ⟨RX0, "standing", "(II)I"⟩
abbrev cX0_thingsThatAre : ByteArray := prog_2_method_6_code
def yX0_thingsThatAre : MethodName := ⟨RX0, "thingsThatAre", "(II)I"⟩
abbrev cX0_isTold : ByteArray := prog_2_method_7_code
def yX0_isTold : MethodName := ⟨RX0, "isTold", "(I)Z"⟩
abbrev cX0_sayingsWith : ByteArray := prog_2_method_8_code
def yX0_sayingsWith : MethodName := ⟨RX0, "sayingsWith", "(I)I"⟩
abbrev cX0_personsWith : ByteArray := prog_2_method_9_code
def yX0_personsWith : MethodName := ⟨RX0, "personsWith", "(I)I"⟩
abbrev cX0_deadThings : ByteArray := prog_2_method_10_code
def yX0_deadThings : MethodName := ⟨RX0, "deadThings", "()I"⟩
abbrev cX0_canBeSaid : ByteArray := prog_2_method_11_code
def yX0_canBeSaid : MethodName := ⟨RX0, "canBeSaid", "(II)Z"⟩
abbrev cX0_countSaid : ByteArray := prog_2_method_12_code
def yX0_countSaid : MethodName := ⟨RX0, "countSaid", "(I[I)V"⟩
abbrev cX0_outcomesBy : ByteArray := prog_2_method_13_code
def yX0_outcomesBy : MethodName := ⟨RX0, "outcomesBy", "(I)I"⟩
abbrev cX0_lookedAtBy : ByteArray := prog_2_method_14_code
def yX0_lookedAtBy : MethodName := ⟨RX0, "lookedAtBy", "(I)I"⟩
def RX1 : String := "WhenToSpeak$Gate"
def TX1 : u_T := fun k => match k with
  | 0 => ("WhenToSpeak$Gate", "alwaysThings", "I", false)
  | 1 => ("WhenToSpeak$Gate", "kindThings", "I", false)
  | _ => ("WhenToSpeak$Gate", "ways", "I", false)
def tyX1 : Nat → FieldType := fun k => match k with
  | 0 => .int
  | 1 => .int
  | _ => .int
abbrev wsX10 : List Cond := u_ws RX1 TX1 3
theorem nmX1 : ∀ a, a < 3 → ∀ b, b < 3 → a ≠ b → (TX1 a).2.1 ≠ (TX1 b).2.1 := by decide +kernel
theorem tyX1_ok : ∀ k, k < 3 → parseFieldDescriptor (TX1 k).2.2.1 = some (tyX1 k) := by decide +kernel
abbrev cX1_init : ByteArray := prog_3_method_1_code
def yX1_init : MethodName := ⟨RX1, "<init>", "()V"⟩
abbrev cX1_open : ByteArray := prog_3_method_2_code
def yX1_open : MethodName := ⟨RX1, "open", "(LWhenToSpeak$Laws;LWhenToSpeak$Book;I[I)V"⟩
abbrev cX1_bar : ByteArray := prog_3_method_3_code
def yX1_bar : MethodName := ⟨RX1, "bar", "(IIZ)I"⟩
abbrev cX1_isAlways : ByteArray := prog_3_method_4_code
def yX1_isAlways : MethodName := ⟨RX1, "isAlways", "(I)Z"⟩
def RX2 : String := "WhenToSpeak$LawText"
def TX2 : u_T := fun k => match k with
  | 0 => ("WhenToSpeak$LawText", "length", "I", false)
  | 1 => ("WhenToSpeak$LawText", "faultKind", "I", false)
  | 2 => ("WhenToSpeak$LawText", "faultAt", "I", false)
  | 3 => ("WhenToSpeak$LawText", "bytes", "[I", true)
  | _ => ("WhenToSpeak$LawText", "at", "I", false)
def tyX2 : Nat → FieldType := fun k => match k with
  | 0 => .int
  | 1 => .int
  | 2 => .int
  | 3 => .array .int
  | _ => .int
abbrev wsX20 : List Cond := u_ws RX2 TX2 5
theorem nmX2 : ∀ a, a < 5 → ∀ b, b < 5 → a ≠ b → (TX2 a).2.1 ≠ (TX2 b).2.1 := by decide +kernel
theorem tyX2_ok : ∀ k, k < 5 → parseFieldDescriptor (TX2 k).2.2.1 = some (tyX2 k) := by decide +kernel
abbrev cX2_init : ByteArray := prog_4_method_1_code
def yX2_init : MethodName := ⟨RX2, "<init>", "()V"⟩
abbrev cX2_append : ByteArray := prog_4_method_2_code
def yX2_append : MethodName := ⟨RX2, "append", "(I)V"⟩
abbrev cX2_parse : ByteArray := prog_4_method_3_code
def yX2_parse : MethodName := ⟨RX2, "parse", "(LWhenToSpeak$Laws;)V"⟩
abbrev cX2_readClause : ByteArray := prog_4_method_4_code
def yX2_readClause : MethodName := ⟨RX2, "readClause", "(LWhenToSpeak$Laws;)V"⟩
abbrev cX2_readNever : ByteArray := prog_4_method_5_code
def yX2_readNever : MethodName := ⟨RX2, "readNever", "(LWhenToSpeak$Laws;)V"⟩
abbrev cX2_refuseNinth : ByteArray := prog_4_method_6_code
def yX2_refuseNinth : MethodName := ⟨RX2, "refuseNinth", "(LWhenToSpeak$Laws;I)V"⟩
abbrev cX2_finish : ByteArray := prog_4_method_7_code
def yX2_finish : MethodName := ⟨RX2, "finish", "(LWhenToSpeak$Laws;IIII)V"⟩
abbrev cX2_note : ByteArray := prog_4_method_8_code
def yX2_note : MethodName := ⟨RX2, "note", "(II)V"⟩
abbrev cX2_skipBlanks : ByteArray := prog_4_method_9_code
def yX2_skipBlanks : MethodName := ⟨RX2, "skipBlanks", "()V"⟩
abbrev cX2_needWord : ByteArray := prog_4_method_10_code
def yX2_needWord : MethodName := ⟨RX2, "needWord", "(Ljava/lang/String;)V"⟩
abbrev cX2_takeWord : ByteArray := prog_4_method_11_code
def yX2_takeWord : MethodName := ⟨RX2, "takeWord", "(Ljava/lang/String;)Z"⟩
abbrev cX2_takeNumber : ByteArray := prog_4_method_12_code
def yX2_takeNumber : MethodName := ⟨RX2, "takeNumber", "(II)I"⟩
def RX3 : String := "WhenToSpeak$Laws"
def TX3 : u_T := fun k => match k with
  | 0 => ("WhenToSpeak$Laws", "count", "I", false)
  | 1 => ("WhenToSpeak$Laws", "sorts", "[I", true)
  | 2 => ("WhenToSpeak$Laws", "firsts", "[I", true)
  | 3 => ("WhenToSpeak$Laws", "seconds", "[I", true)
  | _ => ("WhenToSpeak$Laws", "thirds", "[I", true)
def tyX3 : Nat → FieldType := fun k => match k with
  | 0 => .int
  | 1 => .array .int
  | 2 => .array .int
  | 3 => .array .int
  | _ => .array .int
abbrev wsX30 : List Cond := u_ws RX3 TX3 5
theorem nmX3 : ∀ a, a < 5 → ∀ b, b < 5 → a ≠ b → (TX3 a).2.1 ≠ (TX3 b).2.1 := by decide +kernel
theorem tyX3_ok : ∀ k, k < 5 → parseFieldDescriptor (TX3 k).2.2.1 = some (tyX3 k) := by decide +kernel
abbrev cX3_init : ByteArray := prog_5_method_1_code
def yX3_init : MethodName := ⟨RX3, "<init>", "()V"⟩
abbrev cX3_add : ByteArray := prog_5_method_2_code
def yX3_add : MethodName := ⟨RX3, "add", "(IIII)V"⟩
abbrev cX3_barredWays : ByteArray := prog_5_method_3_code
def yX3_barredWays : MethodName := ⟨RX3, "barredWays", "([I)I"⟩
abbrev cX3_isLikely : ByteArray := prog_5_method_4_code
def yX3_isLikely : MethodName := ⟨RX3, "isLikely", "(I[I)Z"⟩
abbrev cX3_barredKinds : ByteArray := prog_5_method_5_code
def yX3_barredKinds : MethodName := ⟨RX3, "barredKinds", "(I)I"⟩
abbrev cX3_alwaysFrom : ByteArray := prog_5_method_6_code
def yX3_alwaysFrom : MethodName := ⟨RX3, "alwaysFrom", "()I"⟩
abbrev cX3_countsSayings : ByteArray := prog_5_method_7_code
def yX3_countsSayings : MethodName := ⟨RX3, "countsSayings", "()Z"⟩
abbrev cX3_mostBars : ByteArray := prog_5_method_8_code
def yX3_mostBars : MethodName := ⟨RX3, "mostBars", "([II)Z"⟩
abbrev cX3_saidWithin : ByteArray := prog_5_method_9_code
def yX3_saidWithin : MethodName := ⟨RX3, "saidWithin", "([III)I"⟩
def RX4 : String := "WhenToSpeak$Planner"
def TX4 : u_T := fun k => match k with
  | 0 => ("WhenToSpeak$Planner", "most", "I", false)
  | 1 => ("WhenToSpeak$Planner", "stepSets", "[I", true)
  | 2 => ("WhenToSpeak$Planner", "stepWays", "[I", true)
  | 3 => ("WhenToSpeak$Planner", "work", "LWhenToSpeak$Work;", true)
  | 4 => ("WhenToSpeak$Planner", "ways", "LWhenToSpeak$Ways;", true)
  | 5 => ("WhenToSpeak$Planner", "book", "LWhenToSpeak$Book;", true)
  | 6 => ("WhenToSpeak$Planner", "gate", "LWhenToSpeak$Gate;", true)
  | 7 => ("WhenToSpeak$Planner", "picks", "[I", true)
  | 8 => ("WhenToSpeak$Planner", "realSets", "[I", true)
  | 9 => ("WhenToSpeak$Planner", "matters", "[I", true)
  | 10 => ("WhenToSpeak$Planner", "values", "[I", true)
  | 11 => ("WhenToSpeak$Planner", "losses", "[I", true)
  | 12 => ("WhenToSpeak$Planner", "gains", "[I", true)
  | 13 => ("WhenToSpeak$Planner", "gainWays", "[I", true)
  | 14 => ("WhenToSpeak$Planner", "totals", "[I", true)
  | 15 => ("WhenToSpeak$Planner", "saidIn", "[I", true)
  | 16 => ("WhenToSpeak$Planner", "pickCount", "I", false)
  | 17 => ("WhenToSpeak$Planner", "steps", "I", false)
  | _ => ("WhenToSpeak$Planner", "counting", "Z", false)
def tyX4 : Nat → FieldType := fun k => match k with
  | 0 => .int
  | 1 => .array .int
  | 2 => .array .int
  | 3 => .object "WhenToSpeak$Work"
  | 4 => .object "WhenToSpeak$Ways"
  | 5 => .object "WhenToSpeak$Book"
  | 6 => .object "WhenToSpeak$Gate"
  | 7 => .array .int
  | 8 => .array .int
  | 9 => .array .int
  | 10 => .array .int
  | 11 => .array .int
  | 12 => .array .int
  | 13 => .array .int
  | 14 => .array .int
  | 15 => .array .int
  | 16 => .int
  | 17 => .int
  | _ => .boolean
abbrev wsX40 : List Cond := u_ws RX4 TX4 19
theorem nmX4 : ∀ a, a < 19 → ∀ b, b < 19 → a ≠ b → (TX4 a).2.1 ≠ (TX4 b).2.1 := by decide +kernel
theorem tyX4_ok : ∀ k, k < 19 → parseFieldDescriptor (TX4 k).2.2.1 = some (tyX4 k) := by decide +kernel
abbrev cX4_init : ByteArray := prog_6_method_1_code
def yX4_init : MethodName := ⟨RX4, "<init>", "(LWhenToSpeak$Work;LWhenToSpeak$Ways;LWhenToSpeak$Book;)V"⟩
abbrev cX4_make : ByteArray := prog_6_method_2_code
def yX4_make : MethodName := ⟨RX4, "make", "(IIILWhenToSpeak$Laws;)V"⟩
abbrev cX4_pick : ByteArray := prog_6_method_3_code
def yX4_pick : MethodName := ⟨RX4, "pick", "(II)V"⟩
abbrev cX4_price : ByteArray := prog_6_method_4_code
def yX4_price : MethodName := ⟨RX4, "price", "(IILWhenToSpeak$Laws;)V"⟩
abbrev cX4_priceSet : ByteArray := prog_6_method_5_code
def yX4_priceSet : MethodName := ⟨RX4, "priceSet", "(II)V"⟩
abbrev cX4_mostBarsAt : ByteArray := prog_6_method_6_code
def yX4_mostBarsAt : MethodName := ⟨RX4, "mostBarsAt", "(IIIILWhenToSpeak$Laws;)Z"⟩
abbrev cX4_decide : ByteArray := prog_6_method_7_code
def yX4_decide : MethodName := ⟨RX4, "decide", "(IIIZ)I"⟩
abbrev cX4_nodeBehind : ByteArray := prog_6_method_8_code
def yX4_nodeBehind : MethodName := ⟨RX4, "nodeBehind", "(IZ)I"⟩
abbrev cX4_total : ByteArray := prog_6_method_9_code
def yX4_total : MethodName := ⟨RX4, "total", "(II)I"⟩
abbrev cX4_tell : ByteArray := prog_6_method_10_code
def yX4_tell : MethodName := ⟨RX4, "tell", "(IILWhenToSpeak$Laws;)V"⟩
def RX5 : String := "WhenToSpeak$Saying"
def TX5 : u_T := fun k => match k with
  | 0 => ("WhenToSpeak$Saying", "person", "I", false)
  | 1 => ("WhenToSpeak$Saying", "set", "I", false)
  | 2 => ("WhenToSpeak$Saying", "way", "I", false)
  | 3 => ("WhenToSpeak$Saying", "tick", "I", false)
  | _ => ("WhenToSpeak$Saying", "outcome", "I", false)
def tyX5 : Nat → FieldType := fun k => match k with
  | 0 => .int
  | 1 => .int
  | 2 => .int
  | 3 => .int
  | _ => .int
abbrev wsX50 : List Cond := u_ws RX5 TX5 5
theorem nmX5 : ∀ a, a < 5 → ∀ b, b < 5 → a ≠ b → (TX5 a).2.1 ≠ (TX5 b).2.1 := by decide +kernel
theorem tyX5_ok : ∀ k, k < 5 → parseFieldDescriptor (TX5 k).2.2.1 = some (tyX5 k) := by decide +kernel
abbrev cX5_init : ByteArray := prog_7_method_1_code
def yX5_init : MethodName := ⟨RX5, "<init>", "()V"⟩
def RX6 : String := "WhenToSpeak$Thing"
def TX6 : u_T := fun k => match k with
  | 0 => ("WhenToSpeak$Thing", "persons", "I", false)
  | 1 => ("WhenToSpeak$Thing", "kind", "I", false)
  | 2 => ("WhenToSpeak$Thing", "matter", "I", false)
  | 3 => ("WhenToSpeak$Thing", "from", "I", false)
  | 4 => ("WhenToSpeak$Thing", "worth", "I", false)
  | 5 => ("WhenToSpeak$Thing", "less", "I", false)
  | 6 => ("WhenToSpeak$Thing", "clock", "I", false)
  | 7 => ("WhenToSpeak$Thing", "tick", "I", false)
  | _ => ("WhenToSpeak$Thing", "takenBack", "Z", false)
def tyX6 : Nat → FieldType := fun k => match k with
  | 0 => .int
  | 1 => .int
  | 2 => .int
  | 3 => .int
  | 4 => .int
  | 5 => .int
  | 6 => .int
  | 7 => .int
  | _ => .boolean
abbrev wsX60 : List Cond := u_ws RX6 TX6 9
theorem nmX6 : ∀ a, a < 9 → ∀ b, b < 9 → a ≠ b → (TX6 a).2.1 ≠ (TX6 b).2.1 := by decide +kernel
theorem tyX6_ok : ∀ k, k < 9 → parseFieldDescriptor (TX6 k).2.2.1 = some (tyX6 k) := by decide +kernel
abbrev cX6_init : ByteArray := prog_8_method_1_code
def yX6_init : MethodName := ⟨RX6, "<init>", "()V"⟩
abbrev cX6_valueIn : ByteArray := prog_8_method_2_code
def yX6_valueIn : MethodName := ⟨RX6, "valueIn", "(II)I"⟩
abbrev cX6_planValueIn : ByteArray := prog_8_method_3_code
def yX6_planValueIn : MethodName := ⟨RX6, "planValueIn", "(II)I"⟩
abbrev cX6_isMust : ByteArray := prog_8_method_4_code
def yX6_isMust : MethodName := ⟨RX6, "isMust", "()Z"⟩
def RX7 : String := "WhenToSpeak$Trial"
def TX7 : u_T := fun k => match k with
  | 0 => ("WhenToSpeak$Trial", "late", "I", false)
  | 1 => ("WhenToSpeak$Trial", "waited", "I", false)
  | 2 => ("WhenToSpeak$Trial", "paid", "I", false)
  | 3 => ("WhenToSpeak$Trial", "said", "I", false)
  | 4 => ("WhenToSpeak$Trial", "work", "LWhenToSpeak$Work;", true)
  | 5 => ("WhenToSpeak$Trial", "ways", "LWhenToSpeak$Ways;", true)
  | 6 => ("WhenToSpeak$Trial", "book", "LWhenToSpeak$Book;", true)
  | _ => ("WhenToSpeak$Trial", "done", "I", false)
def tyX7 : Nat → FieldType := fun k => match k with
  | 0 => .int
  | 1 => .int
  | 2 => .int
  | 3 => .int
  | 4 => .object "WhenToSpeak$Work"
  | 5 => .object "WhenToSpeak$Ways"
  | 6 => .object "WhenToSpeak$Book"
  | _ => .int
abbrev wsX70 : List Cond := u_ws RX7 TX7 8
theorem nmX7 : ∀ a, a < 8 → ∀ b, b < 8 → a ≠ b → (TX7 a).2.1 ≠ (TX7 b).2.1 := by decide +kernel
theorem tyX7_ok : ∀ k, k < 8 → parseFieldDescriptor (TX7 k).2.2.1 = some (tyX7 k) := by decide +kernel
abbrev cX7_init : ByteArray := prog_9_method_1_code
def yX7_init : MethodName := ⟨RX7, "<init>", "(LWhenToSpeak$Work;LWhenToSpeak$Ways;LWhenToSpeak$Book;)V"⟩
abbrev cX7_run : ByteArray := prog_9_method_2_code
def yX7_run : MethodName := ⟨RX7, "run", "(IIII)V"⟩
abbrev cX7_sayIn : ByteArray := prog_9_method_3_code
def yX7_sayIn : MethodName := ⟨RX7, "sayIn", "(IIZ)V"⟩
abbrev cX7_isLeft : ByteArray := prog_9_method_4_code
def yX7_isLeft : MethodName := ⟨RX7, "isLeft", "(II)Z"⟩
def RX8 : String := "WhenToSpeak$Ways"
def TX8 : u_T := fun k => match k with
  | 0 => ("WhenToSpeak$Ways", "costs", "[[I", true)
  | _ => ("WhenToSpeak$Ways", "seenOdds", "[I", true)
def tyX8 : Nat → FieldType := fun k => match k with
  | 0 => .array (.array .int)
  | _ => .array .int
abbrev wsX80 : List Cond := u_ws RX8 TX8 2
theorem nmX8 : ∀ a, a < 2 → ∀ b, b < 2 → a ≠ b → (TX8 a).2.1 ≠ (TX8 b).2.1 := by decide +kernel
theorem tyX8_ok : ∀ k, k < 2 → parseFieldDescriptor (TX8 k).2.2.1 = some (tyX8 k) := by decide +kernel
abbrev cX8_init : ByteArray := prog_10_method_1_code
def yX8_init : MethodName := ⟨RX8, "<init>", "()V"⟩
abbrev cX8_lossBy : ByteArray := prog_10_method_2_code
def yX8_lossBy : MethodName := ⟨RX8, "lossBy", "(I[I)I"⟩
def RX9 : String := "WhenToSpeak$Work"
def TX9 : u_T := fun k => match k with
  | 0 => ("WhenToSpeak$Work", "next", "[[I", true)
  | 1 => ("WhenToSpeak$Work", "shown", "[[I", true)
  | 2 => ("WhenToSpeak$Work", "first", "[I", true)
  | 3 => ("WhenToSpeak$Work", "signs", "[[I", true)
  | 4 => ("WhenToSpeak$Work", "ahead", "[[I", true)
  | 5 => ("WhenToSpeak$Work", "seamStates", "I", false)
  | 6 => ("WhenToSpeak$Work", "weights", "[J", false)
  | _ => ("WhenToSpeak$Work", "laterWeights", "[J", false)
def tyX9 : Nat → FieldType := fun k => match k with
  | 0 => .array (.array .int)
  | 1 => .array (.array .int)
  | 2 => .array .int
  | 3 => .array (.array .int)
  | 4 => .array (.array .int)
  | 5 => .int
  | 6 => .array .long
  | _ => .array .long
abbrev wsX90 : List Cond := u_ws RX9 TX9 8
theorem nmX9 : ∀ a, a < 8 → ∀ b, b < 8 → a ≠ b → (TX9 a).2.1 ≠ (TX9 b).2.1 := by decide +kernel
theorem tyX9_ok : ∀ k, k < 8 → parseFieldDescriptor (TX9 k).2.2.1 = some (tyX9 k) := by decide +kernel
abbrev cX9_init : ByteArray := prog_11_method_1_code
def yX9_init : MethodName := ⟨RX9, "<init>", "()V"⟩
abbrev cX9_fittingRows : ByteArray := prog_11_method_2_code
def yX9_fittingRows : MethodName := ⟨RX9, "fittingRows", "(II)I"⟩
abbrev cX9_lookAhead : ByteArray := prog_11_method_3_code
def yX9_lookAhead : MethodName := ⟨RX9, "lookAhead", "(III)V"⟩
abbrev cX9_seamOdds : ByteArray := prog_11_method_4_code
def yX9_seamOdds : MethodName := ⟨RX9, "seamOdds", "(I)I"⟩
abbrev cX9_moveOn : ByteArray := prog_11_method_5_code
def yX9_moveOn : MethodName := ⟨RX9, "moveOn", "([I[I)V"⟩
abbrev cX9_weigh : ByteArray := prog_11_method_6_code
def yX9_weigh : MethodName := ⟨RX9, "weigh", "(IIZ)V"⟩
abbrev cX9_signFactor : ByteArray := prog_11_method_7_code
def yX9_signFactor : MethodName := ⟨RX9, "signFactor", "(IIZ)J"⟩
abbrev cX9_factor : ByteArray := prog_11_method_8_code
def yX9_factor : MethodName := ⟨RX9, "factor", "(IZ)J"⟩
abbrev cX9_allWeights : ByteArray := prog_11_method_9_code
def yX9_allWeights : MethodName := ⟨RX9, "allWeights", "()J"⟩
def RX10 : String := "WhenToSpeak"
def TX10 : u_T := fun k => match k with
  | 0 => ("WhenToSpeak", "work", "LWhenToSpeak$Work;", true)
  | 1 => ("WhenToSpeak", "ways", "LWhenToSpeak$Ways;", true)
  | 2 => ("WhenToSpeak", "book", "LWhenToSpeak$Book;", true)
  | 3 => ("WhenToSpeak", "lawText", "LWhenToSpeak$LawText;", true)
  | 4 => ("WhenToSpeak", "lawsOf", "[LWhenToSpeak$Laws;", true)
  | 5 => ("WhenToSpeak", "gate", "LWhenToSpeak$Gate;", true)
  | 6 => ("WhenToSpeak", "planner", "LWhenToSpeak$Planner;", true)
  | 7 => ("WhenToSpeak", "trial", "LWhenToSpeak$Trial;", true)
  | 8 => ("WhenToSpeak", "saidIn", "[I", true)
  | 9 => ("WhenToSpeak", "spareLaws", "LWhenToSpeak$Laws;", false)
  | _ => ("WhenToSpeak", "now", "I", false)
def tyX10 : Nat → FieldType := fun k => match k with
  | 0 => .object "WhenToSpeak$Work"
  | 1 => .object "WhenToSpeak$Ways"
  | 2 => .object "WhenToSpeak$Book"
  | 3 => .object "WhenToSpeak$LawText"
  | 4 => .array (.object "WhenToSpeak$Laws")
  | 5 => .object "WhenToSpeak$Gate"
  | 6 => .object "WhenToSpeak$Planner"
  | 7 => .object "WhenToSpeak$Trial"
  | 8 => .array .int
  | 9 => .object "WhenToSpeak$Laws"
  | _ => .int
abbrev wsX100 : List Cond := u_ws RX10 TX10 11
theorem nmX10 : ∀ a, a < 11 → ∀ b, b < 11 → a ≠ b → (TX10 a).2.1 ≠ (TX10 b).2.1 := by decide +kernel
theorem tyX10_ok : ∀ k, k < 11 → parseFieldDescriptor (TX10 k).2.2.1 = some (tyX10 k) := by decide +kernel
abbrev cX10_init : ByteArray := prog_1_method_1_code
def yX10_init : MethodName := ⟨RX10, "<init>", "()V"⟩
abbrev cX10_move : ByteArray := prog_1_method_2_code
def yX10_move : MethodName := ⟨RX10, "move", "(III)I"⟩
abbrev cX10_shows : ByteArray := prog_1_method_3_code
def yX10_shows : MethodName := ⟨RX10, "shows", "(III)I"⟩
abbrev cX10_begins : ByteArray := prog_1_method_4_code
def yX10_begins : MethodName := ⟨RX10, "begins", "(II)I"⟩
abbrev cX10_seams : ByteArray := prog_1_method_5_code
def yX10_seams : MethodName := ⟨RX10, "seams", "(I)I"⟩
abbrev cX10_sign : ByteArray := prog_1_method_6_code
def yX10_sign : MethodName := ⟨RX10, "sign", "(II)I"⟩
abbrev cX10_go : ByteArray := prog_1_method_7_code
def yX10_go : MethodName := ⟨RX10, "go", "(I)I"⟩
abbrev cX10_fits : ByteArray := prog_1_method_8_code
def yX10_fits : MethodName := ⟨RX10, "fits", "(II)I"⟩
abbrev cX10_odds : ByteArray := prog_1_method_9_code
def yX10_odds : MethodName := ⟨RX10, "odds", "(III)I"⟩
abbrev cX10_seam : ByteArray := prog_1_method_10_code
def yX10_seam : MethodName := ⟨RX10, "seam", "(II)I"⟩
abbrev cX10_until : ByteArray := prog_1_method_11_code
def yX10_until : MethodName := ⟨RX10, "until", "(II)I"⟩
abbrev cX10_thing : ByteArray := prog_1_method_12_code
def yX10_thing : MethodName := ⟨RX10, "thing", "(IIIIIII)I"⟩
abbrev cX10_dead : ByteArray := prog_1_method_13_code
def yX10_dead : MethodName := ⟨RX10, "dead", "(I)I"⟩
abbrev cX10_told : ByteArray := prog_1_method_14_code
def yX10_told : MethodName := ⟨RX10, "told", "(II)I"⟩
abbrev cX10_value : ByteArray := prog_1_method_15_code
def yX10_value : MethodName := ⟨RX10, "value", "(III)I"⟩
abbrev cX10_cost : ByteArray := prog_1_method_16_code
def yX10_cost : MethodName := ⟨RX10, "cost", "(III)I"⟩
abbrev cX10_seen : ByteArray := prog_1_method_17_code
def yX10_seen : MethodName := ⟨RX10, "seen", "(II)I"⟩
abbrev cX10_loss : ByteArray := prog_1_method_18_code
def yX10_loss : MethodName := ⟨RX10, "loss", "(III)I"⟩
abbrev cX10_count : ByteArray := prog_1_method_19_code
def yX10_count : MethodName := ⟨RX10, "count", "(I)I"⟩
abbrev cX10_feed : ByteArray := prog_1_method_20_code
def yX10_feed : MethodName := ⟨RX10, "feed", "(IJ)I"⟩
abbrev cX10_read : ByteArray := prog_1_method_21_code
def yX10_read : MethodName := ⟨RX10, "read", "(I)I"⟩
abbrev cX10_fault : ByteArray := prog_1_method_22_code
def yX10_fault : MethodName := ⟨RX10, "fault", "()I"⟩
abbrev cX10_barred : ByteArray := prog_1_method_23_code
def yX10_barred : MethodName := ⟨RX10, "barred", "(III)I"⟩
abbrev cX10_barNow : ByteArray := prog_1_method_24_code
def yX10_barNow : MethodName := ⟨RX10, "barNow", "(III)I"⟩
abbrev cX10_plan : ByteArray := prog_1_method_25_code
def yX10_plan : MethodName := ⟨RX10, "plan", "(IIII)I"⟩
abbrev cX10_say : ByteArray := prog_1_method_26_code
def yX10_say : MethodName := ⟨RX10, "say", "(III)I"⟩
abbrev cX10_came : ByteArray := prog_1_method_27_code
def yX10_came : MethodName := ⟨RX10, "came", "(II)I"⟩
abbrev cX10_saying : ByteArray := prog_1_method_28_code
def yX10_saying : MethodName := ⟨RX10, "saying", "(II)I"⟩
abbrev cX10_learnt : ByteArray := prog_1_method_29_code
def yX10_learnt : MethodName := ⟨RX10, "learnt", "(III)I"⟩
abbrev cX10_chance : ByteArray := prog_1_method_30_code
def yX10_chance : MethodName := ⟨RX10, "chance", "(IIIIZ)I"⟩
abbrev cX10_choose : ByteArray := prog_1_method_31_code
def yX10_choose : MethodName := ⟨RX10, "choose", "(II)J"⟩
abbrev cX10_commonPart : ByteArray := prog_1_method_32_code
def yX10_commonPart : MethodName := ⟨RX10, "commonPart", "(JJ)J"⟩
abbrev cX10_who : ByteArray := prog_1_method_33_code
def yX10_who : MethodName := ⟨RX10, "who", "(II)I"⟩
abbrev cX10_tried : ByteArray := prog_1_method_34_code
def yX10_tried : MethodName := ⟨RX10, "tried", "(IIII)I"⟩
abbrev cX10_within : ByteArray := prog_1_method_35_code
def yX10_within : MethodName := ⟨RX10, "within", "(III)Z"⟩
abbrev cX10_isPerson : ByteArray := prog_1_method_36_code
def yX10_isPerson : MethodName := ⟨RX10, "isPerson", "(I)Z"⟩
abbrev cX10_isState : ByteArray := prog_1_method_37_code
def yX10_isState : MethodName := ⟨RX10, "isState", "(I)Z"⟩
abbrev cX10_isWay : ByteArray := prog_1_method_38_code
def yX10_isWay : MethodName := ⟨RX10, "isWay", "(I)Z"⟩
abbrev cX10_isOften : ByteArray := prog_1_method_39_code
def yX10_isOften : MethodName := ⟨RX10, "isOften", "(I)Z"⟩
abbrev cX10_isAhead : ByteArray := prog_1_method_40_code
def yX10_isAhead : MethodName := ⟨RX10, "isAhead", "(I)Z"⟩
abbrev cX10_contains : ByteArray := prog_1_method_41_code
def yX10_contains : MethodName := ⟨RX10, "contains", "(II)Z"⟩
abbrev cX10_exchange : ByteArray := prog_1_method_42_code
def yX10_exchange : MethodName := ⟨RX10, "exchange", "([III)I"⟩
def RX11 : String := "WhenToSpeakModel"
def TX11 : u_T := fun k => match k with
  | 0 => ("WhenToSpeakModel", "moves", "[I", true)
  | 1 => ("WhenToSpeakModel", "shown", "[I", true)
  | 2 => ("WhenToSpeakModel", "begin", "[I", true)
  | 3 => ("WhenToSpeakModel", "seamSet", "I", false)
  | 4 => ("WhenToSpeakModel", "signs", "[I", true)
  | 5 => ("WhenToSpeakModel", "now", "I", false)
  | 6 => ("WhenToSpeakModel", "weights", "[J", true)
  | 7 => ("WhenToSpeakModel", "nextWeights", "[J", true)
  | 8 => ("WhenToSpeakModel", "rows", "[I", true)
  | 9 => ("WhenToSpeakModel", "nextRows", "[I", true)
  | 10 => ("WhenToSpeakModel", "odds", "[I", true)
  | 11 => ("WhenToSpeakModel", "nextOdds", "[I", true)
  | 12 => ("WhenToSpeakModel", "things", "I", false)
  | 13 => ("WhenToSpeakModel", "persons", "[I", true)
  | 14 => ("WhenToSpeakModel", "kinds", "[I", true)
  | 15 => ("WhenToSpeakModel", "matters", "[I", true)
  | 16 => ("WhenToSpeakModel", "froms", "[I", true)
  | 17 => ("WhenToSpeakModel", "worths", "[I", true)
  | 18 => ("WhenToSpeakModel", "falls", "[I", true)
  | 19 => ("WhenToSpeakModel", "clocks", "[I", true)
  | 20 => ("WhenToSpeakModel", "since", "[I", true)
  | 21 => ("WhenToSpeakModel", "isDead", "[Z", true)
  | 22 => ("WhenToSpeakModel", "costs", "[I", true)
  | 23 => ("WhenToSpeakModel", "seens", "[I", true)
  | 24 => ("WhenToSpeakModel", "lawMany", "[I", true)
  | 25 => ("WhenToSpeakModel", "lawKind", "[I", true)
  | 26 => ("WhenToSpeakModel", "lawA", "[I", true)
  | 27 => ("WhenToSpeakModel", "lawB", "[I", true)
  | 28 => ("WhenToSpeakModel", "lawC", "[I", true)
  | 29 => ("WhenToSpeakModel", "freshKind", "[I", true)
  | 30 => ("WhenToSpeakModel", "freshA", "[I", true)
  | 31 => ("WhenToSpeakModel", "freshB", "[I", true)
  | 32 => ("WhenToSpeakModel", "freshC", "[I", true)
  | 33 => ("WhenToSpeakModel", "text", "[I", true)
  | 34 => ("WhenToSpeakModel", "texted", "I", false)
  | 35 => ("WhenToSpeakModel", "faultPlace", "I", false)
  | 36 => ("WhenToSpeakModel", "at0", "I", false)
  | 37 => ("WhenToSpeakModel", "word", "J", false)
  | 38 => ("WhenToSpeakModel", "wordEnd", "I", false)
  | 39 => ("WhenToSpeakModel", "number", "I", false)
  | 40 => ("WhenToSpeakModel", "looked", "[I", true)
  | 41 => ("WhenToSpeakModel", "lookedMany", "I", false)
  | 42 => ("WhenToSpeakModel", "bests", "[I", true)
  | 43 => ("WhenToSpeakModel", "gains", "[I", true)
  | 44 => ("WhenToSpeakModel", "ways", "[I", true)
  | 45 => ("WhenToSpeakModel", "sayings", "I", false)
  | 46 => ("WhenToSpeakModel", "sayPerson", "[I", true)
  | 47 => ("WhenToSpeakModel", "said", "[I", true)
  | 48 => ("WhenToSpeakModel", "sayWay", "[I", true)
  | 49 => ("WhenToSpeakModel", "sayTick", "[I", true)
  | _ => ("WhenToSpeakModel", "results", "[I", true)
def tyX11 : Nat → FieldType := fun k => match k with
  | 0 => .array .int
  | 1 => .array .int
  | 2 => .array .int
  | 3 => .int
  | 4 => .array .int
  | 5 => .int
  | 6 => .array .long
  | 7 => .array .long
  | 8 => .array .int
  | 9 => .array .int
  | 10 => .array .int
  | 11 => .array .int
  | 12 => .int
  | 13 => .array .int
  | 14 => .array .int
  | 15 => .array .int
  | 16 => .array .int
  | 17 => .array .int
  | 18 => .array .int
  | 19 => .array .int
  | 20 => .array .int
  | 21 => .array .boolean
  | 22 => .array .int
  | 23 => .array .int
  | 24 => .array .int
  | 25 => .array .int
  | 26 => .array .int
  | 27 => .array .int
  | 28 => .array .int
  | 29 => .array .int
  | 30 => .array .int
  | 31 => .array .int
  | 32 => .array .int
  | 33 => .array .int
  | 34 => .int
  | 35 => .int
  | 36 => .int
  | 37 => .long
  | 38 => .int
  | 39 => .int
  | 40 => .array .int
  | 41 => .int
  | 42 => .array .int
  | 43 => .array .int
  | 44 => .array .int
  | 45 => .int
  | 46 => .array .int
  | 47 => .array .int
  | 48 => .array .int
  | 49 => .array .int
  | _ => .array .int
abbrev wsX110 : List Cond := u_ws RX11 TX11 51
theorem nmX11 : ∀ a, a < 51 → ∀ b, b < 51 → a ≠ b → (TX11 a).2.1 ≠ (TX11 b).2.1 := by decide +kernel
theorem tyX11_ok : ∀ k, k < 51 → parseFieldDescriptor (TX11 k).2.2.1 = some (tyX11 k) := by decide +kernel
abbrev cX11_init : ByteArray := prog_13_method_1_code
def yX11_init : MethodName := ⟨RX11, "<init>", "()V"⟩
abbrev cX11_in : ByteArray := prog_13_method_3_code
def yX11_in : MethodName := ⟨RX11, "in", "(JJJ)Z"⟩
abbrev cX11_isState : ByteArray := prog_13_method_4_code
def yX11_isState : MethodName := ⟨RX11, "isState", "(I)Z"⟩
abbrev cX11_isPerson : ByteArray := prog_13_method_5_code
def yX11_isPerson : MethodName := ⟨RX11, "isPerson", "(I)Z"⟩
abbrev cX11_move : ByteArray := prog_13_method_6_code
def yX11_move : MethodName := ⟨RX11, "move", "(III)I"⟩
abbrev cX11_shows : ByteArray := prog_13_method_7_code
def yX11_shows : MethodName := ⟨RX11, "shows", "(III)I"⟩
abbrev cX11_begins : ByteArray := prog_13_method_8_code
def yX11_begins : MethodName := ⟨RX11, "begins", "(II)I"⟩
abbrev cX11_seams : ByteArray := prog_13_method_9_code
def yX11_seams : MethodName := ⟨RX11, "seams", "(I)I"⟩
abbrev cX11_sign : ByteArray := prog_13_method_10_code
def yX11_sign : MethodName := ⟨RX11, "sign", "(II)I"⟩
abbrev cX11_go : ByteArray := prog_13_method_11_code
def yX11_go : MethodName := ⟨RX11, "go", "(I)I"⟩
abbrev cX11_showsAt : ByteArray := prog_13_method_12_code
def yX11_showsAt : MethodName := ⟨RX11, "showsAt", "(III)I"⟩
abbrev cX11_findRows : ByteArray := prog_13_method_13_code
def yX11_findRows : MethodName := ⟨RX11, "findRows", "(II)V"⟩
abbrev cX11_findOdds : ByteArray := prog_13_method_14_code
def yX11_findOdds : MethodName := ⟨RX11, "findOdds", "(III)V"⟩
abbrev cX11_seamOdds : ByteArray := prog_13_method_15_code
def yX11_seamOdds : MethodName := ⟨RX11, "seamOdds", "(III)I"⟩
abbrev cX11_fits : ByteArray := prog_13_method_16_code
def yX11_fits : MethodName := ⟨RX11, "fits", "(II)I"⟩
abbrev cX11_odds : ByteArray := prog_13_method_17_code
def yX11_odds : MethodName := ⟨RX11, "odds", "(III)I"⟩
abbrev cX11_seam : ByteArray := prog_13_method_18_code
def yX11_seam : MethodName := ⟨RX11, "seam", "(II)I"⟩
abbrev cX11_until : ByteArray := prog_13_method_19_code
def yX11_until : MethodName := ⟨RX11, "until", "(II)I"⟩
abbrev cX11_isThing : ByteArray := prog_13_method_20_code
def yX11_isThing : MethodName := ⟨RX11, "isThing", "(I)Z"⟩
abbrev cX11_isMust : ByteArray := prog_13_method_21_code
def yX11_isMust : MethodName := ⟨RX11, "isMust", "(I)Z"⟩
abbrev cX11_thing : ByteArray := prog_13_method_22_code
def yX11_thing : MethodName := ⟨RX11, "thing", "(IIIIIII)I"⟩
abbrev cX11_sayingsOf : ByteArray := prog_13_method_23_code
def yX11_sayingsOf : MethodName := ⟨RX11, "sayingsOf", "(I)I"⟩
abbrev cX11_dead : ByteArray := prog_13_method_24_code
def yX11_dead : MethodName := ⟨RX11, "dead", "(I)I"⟩
abbrev cX11_isTold : ByteArray := prog_13_method_25_code
def yX11_isTold : MethodName := ⟨RX11, "isTold", "(I)Z"⟩
abbrev cX11_stateOf : ByteArray := prog_13_method_26_code
def yX11_stateOf : MethodName := ⟨RX11, "stateOf", "(I)I"⟩
abbrev cX11_told : ByteArray := prog_13_method_27_code
def yX11_told : MethodName := ⟨RX11, "told", "(II)I"⟩
abbrev cX11_valueOf : ByteArray := prog_13_method_28_code
def yX11_valueOf : MethodName := ⟨RX11, "valueOf", "(III)I"⟩
abbrev cX11_value : ByteArray := prog_13_method_29_code
def yX11_value : MethodName := ⟨RX11, "value", "(III)I"⟩
abbrev cX11_isWay : ByteArray := prog_13_method_30_code
def yX11_isWay : MethodName := ⟨RX11, "isWay", "(I)Z"⟩
abbrev cX11_cost : ByteArray := prog_13_method_31_code
def yX11_cost : MethodName := ⟨RX11, "cost", "(III)I"⟩
abbrev cX11_seen : ByteArray := prog_13_method_32_code
def yX11_seen : MethodName := ⟨RX11, "seen", "(II)I"⟩
abbrev cX11_lossOf : ByteArray := prog_13_method_33_code
def yX11_lossOf : MethodName := ⟨RX11, "lossOf", "(IIII)I"⟩
abbrev cX11_loss : ByteArray := prog_13_method_34_code
def yX11_loss : MethodName := ⟨RX11, "loss", "(III)I"⟩
abbrev cX11_thingsThat : ByteArray := prog_13_method_35_code
def yX11_thingsThat : MethodName := ⟨RX11, "thingsThat", "(I)I"⟩
abbrev cX11_count : ByteArray := prog_13_method_36_code
def yX11_count : MethodName := ⟨RX11, "count", "(I)I"⟩
abbrev cX11_feed : ByteArray := prog_13_method_37_code
def yX11_feed : MethodName := ⟨RX11, "feed", "(IJ)I"⟩
abbrev cX11_here : ByteArray := prog_13_method_38_code
def yX11_here : MethodName := ⟨RX11, "here", "()I"⟩
abbrev cX11_fails : ByteArray := prog_13_method_39_code
def yX11_fails : MethodName := ⟨RX11, "fails", "(II)I"⟩
abbrev cX11_readWord : ByteArray := prog_13_method_40_code
def yX11_readWord : MethodName := ⟨RX11, "readWord", "()V"⟩
abbrev cX11_code : ByteArray := prog_13_method_41_code
def yX11_code : MethodName := ⟨RX11, "code", "(IIIIII)J"⟩
abbrev cX11_needs : ByteArray := prog_13_method_42_code
def yX11_needs : MethodName := ⟨RX11, "needs", "(J)I"⟩
abbrev cX11_readNumber : ByteArray := prog_13_method_43_code
def yX11_readNumber : MethodName := ⟨RX11, "readNumber", "(II)I"⟩
abbrev cX11_readWay : ByteArray := prog_13_method_44_code
def yX11_readWay : MethodName := ⟨RX11, "readWay", "(I)I"⟩
abbrev cX11_readNever : ByteArray := prog_13_method_45_code
def yX11_readNever : MethodName := ⟨RX11, "readNever", "(I)I"⟩
abbrev cX11_readMost : ByteArray := prog_13_method_46_code
def yX11_readMost : MethodName := ⟨RX11, "readMost", "(I)I"⟩
abbrev cX11_readAlways : ByteArray := prog_13_method_47_code
def yX11_readAlways : MethodName := ⟨RX11, "readAlways", "(I)I"⟩
abbrev cX11_readClause : ByteArray := prog_13_method_48_code
def yX11_readClause : MethodName := ⟨RX11, "readClause", "(I)I"⟩
abbrev cX11_read : ByteArray := prog_13_method_49_code
def yX11_read : MethodName := ⟨RX11, "read", "(I)I"⟩
abbrev cX11_fault : ByteArray := prog_13_method_50_code
def yX11_fault : MethodName := ⟨RX11, "fault", "()I"⟩
abbrev cX11_isAlways : ByteArray := prog_13_method_51_code
def yX11_isAlways : MethodName := ⟨RX11, "isAlways", "(II)Z"⟩
abbrev cX11_areAlways : ByteArray := prog_13_method_52_code
def yX11_areAlways : MethodName := ⟨RX11, "areAlways", "(II)Z"⟩
abbrev cX11_isWayBarred : ByteArray := prog_13_method_53_code
def yX11_isWayBarred : MethodName := ⟨RX11, "isWayBarred", "(III)Z"⟩
abbrev cX11_isKindBarred : ByteArray := prog_13_method_54_code
def yX11_isKindBarred : MethodName := ⟨RX11, "isKindBarred", "(III)Z"⟩
abbrev cX11_areMost : ByteArray := prog_13_method_55_code
def yX11_areMost : MethodName := ⟨RX11, "areMost", "(III)Z"⟩
abbrev cX11_barring : ByteArray := prog_13_method_56_code
def yX11_barring : MethodName := ⟨RX11, "barring", "(IIIII)I"⟩
abbrev cX11_areThings : ByteArray := prog_13_method_57_code
def yX11_areThings : MethodName := ⟨RX11, "areThings", "(I)Z"⟩
abbrev cX11_barred : ByteArray := prog_13_method_58_code
def yX11_barred : MethodName := ⟨RX11, "barred", "(III)I"⟩
abbrev cX11_setOf : ByteArray := prog_13_method_59_code
def yX11_setOf : MethodName := ⟨RX11, "setOf", "(I)I"⟩
abbrev cX11_isOneMatter : ByteArray := prog_13_method_60_code
def yX11_isOneMatter : MethodName := ⟨RX11, "isOneMatter", "(I)Z"⟩
abbrev cX11_findGain : ByteArray := prog_13_method_61_code
def yX11_findGain : MethodName := ⟨RX11, "findGain", "(III)V"⟩
abbrev cX11_place : ByteArray := prog_13_method_62_code
def yX11_place : MethodName := ⟨RX11, "place", "(III)I"⟩
abbrev cX11_by : ByteArray := prog_13_method_63_code
def yX11_by : MethodName := ⟨RX11, "by", "(IIIII)I"⟩
abbrev cX11_findPlans : ByteArray := prog_13_method_64_code
def yX11_findPlans : MethodName := ⟨RX11, "findPlans", "(II)V"⟩
abbrev cX11_plan : ByteArray := prog_13_method_65_code
def yX11_plan : MethodName := ⟨RX11, "plan", "(IIII)I"⟩
abbrev cX11_deadOf : ByteArray := prog_13_method_66_code
def yX11_deadOf : MethodName := ⟨RX11, "deadOf", "(I)I"⟩
abbrev cX11_areFor : ByteArray := prog_13_method_67_code
def yX11_areFor : MethodName := ⟨RX11, "areFor", "(II)Z"⟩
abbrev cX11_say : ByteArray := prog_13_method_68_code
def yX11_say : MethodName := ⟨RX11, "say", "(III)I"⟩
abbrev cX11_isSaying : ByteArray := prog_13_method_69_code
def yX11_isSaying : MethodName := ⟨RX11, "isSaying", "(I)Z"⟩
abbrev cX11_came : ByteArray := prog_13_method_70_code
def yX11_came : MethodName := ⟨RX11, "came", "(II)I"⟩
abbrev cX11_saying : ByteArray := prog_13_method_71_code
def yX11_saying : MethodName := ⟨RX11, "saying", "(II)I"⟩
abbrev cX11_cameOf : ByteArray := prog_13_method_72_code
def yX11_cameOf : MethodName := ⟨RX11, "cameOf", "(IZ)I"⟩
abbrev cX11_choose : ByteArray := prog_13_method_73_code
def yX11_choose : MethodName := ⟨RX11, "choose", "(II)J"⟩
abbrev cX11_gcd : ByteArray := prog_13_method_74_code
def yX11_gcd : MethodName := ⟨RX11, "gcd", "(JJ)J"⟩
abbrev cX11_learnt : ByteArray := prog_13_method_75_code
def yX11_learnt : MethodName := ⟨RX11, "learnt", "(III)I"⟩
abbrev cX11_who : ByteArray := prog_13_method_76_code
def yX11_who : MethodName := ⟨RX11, "who", "(II)I"⟩
abbrev cX11_tried : ByteArray := prog_13_method_77_code
def yX11_tried : MethodName := ⟨RX11, "tried", "(IIII)I"⟩
def RJ6 : String := "java/lang/Integer"
def TJ6 : u_T := fun k => match k with
  | _ => ("", "", "", false)
def tyJ6 : Nat → FieldType := fun k => match k with
  | _ => .int
abbrev wsJ60 : List Cond := u_ws RJ6 TJ6 0
theorem nmJ6 : ∀ a, a < 0 → ∀ b, b < 0 → a ≠ b → (TJ6 a).2.1 ≠ (TJ6 b).2.1 := by decide +kernel
theorem tyJ6_ok : ∀ k, k < 0 → parseFieldDescriptor (TJ6 k).2.2.1 = some (tyJ6 k) := by decide +kernel
abbrev cJ6_bitCount_0f7a4 : ByteArray := prog_14_method_49_code
def yJ6_bitCount_0f7a4 : MethodName := ⟨RJ6, "bitCount", "(I)I"⟩
def RJ9 : String := "java/lang/Math"
def TJ9 : u_T := fun k => match k with
  | _ => ("", "", "", false)
def tyJ9 : Nat → FieldType := fun k => match k with
  | _ => .int
abbrev wsJ90 : List Cond := u_ws RJ9 TJ9 0
theorem nmJ9 : ∀ a, a < 0 → ∀ b, b < 0 → a ≠ b → (TJ9 a).2.1 ≠ (TJ9 b).2.1 := by decide +kernel
theorem tyJ9_ok : ∀ k, k < 0 → parseFieldDescriptor (TJ9 k).2.2.1 = some (tyJ9 k) := by decide +kernel
abbrev cJ9_max_7cf53 : ByteArray := prog_15_method_65_code
def yJ9_max_7cf53 : MethodName := ⟨RJ9, "max", "(II)I"⟩
abbrev cJ9_min_7cf53 : ByteArray := prog_15_method_69_code
def yJ9_min_7cf53 : MethodName := ⟨RJ9, "min", "(II)I"⟩
def RJ0 : String := "java/lang/String"
def TJ0 : u_T := fun k => match k with
  | _ => ("", "", "", false)
def tyJ0 : Nat → FieldType := fun k => match k with
  | _ => .int
abbrev wsJ00 : List Cond := u_ws RJ0 TJ0 0
theorem nmJ0 : ∀ a, a < 0 → ∀ b, b < 0 → a ≠ b → (TJ0 a).2.1 ≠ (TJ0 b).2.1 := by decide +kernel
theorem tyJ0_ok : ∀ k, k < 0 → parseFieldDescriptor (TJ0 k).2.2.1 = some (tyJ0 k) := by decide +kernel
abbrev cJ0_length_8abf5 : ByteArray := prog_16_method_54_code
def yJ0_length_8abf5 : MethodName := ⟨RJ0, "length", "()I"⟩
abbrev cJ0_charAt_5068e : ByteArray := prog_16_method_56_code
def yJ0_charAt_5068e : MethodName := ⟨RJ0, "charAt", "(I)C"⟩
abbrev cJ0_coder_7d493 : ByteArray := prog_16_method_152_code
def yJ0_coder_7d493 : MethodName := ⟨RJ0, "coder", "()B"⟩
abbrev cJ0_isLatin1_aae02 : ByteArray := prog_16_method_154_code
def yJ0_isLatin1_aae02 : MethodName := ⟨RJ0, "isLatin1", "()Z"⟩
abbrev cJ0_checkIndex_df160 : ByteArray := prog_16_method_155_code
def yJ0_checkIndex_df160 : MethodName := ⟨RJ0, "checkIndex", "(II)V"⟩
def RJ1 : String := "java/lang/StringLatin1"
def TJ1 : u_T := fun k => match k with
  | _ => ("", "", "", false)
def tyJ1 : Nat → FieldType := fun k => match k with
  | _ => .int
abbrev wsJ10 : List Cond := u_ws RJ1 TJ1 0
theorem nmJ1 : ∀ a, a < 0 → ∀ b, b < 0 → a ≠ b → (TJ1 a).2.1 ≠ (TJ1 b).2.1 := by decide +kernel
theorem tyJ1_ok : ∀ k, k < 0 → parseFieldDescriptor (TJ1 k).2.2.1 = some (tyJ1 k) := by decide +kernel
abbrev cJ1_charAt_3b067 : ByteArray := prog_17_method_2_code
def yJ1_charAt_3b067 : MethodName := ⟨RJ1, "charAt", "([BI)C"⟩
def RJ2 : String := "java/lang/StringUTF16"
def TJ2 : u_T := fun k => match k with
  | _ => ("", "", "", false)
def tyJ2 : Nat → FieldType := fun k => match k with
  | _ => .int
abbrev wsJ20 : List Cond := u_ws RJ2 TJ2 0
theorem nmJ2 : ∀ a, a < 0 → ∀ b, b < 0 → a ≠ b → (TJ2 a).2.1 ≠ (TJ2 b).2.1 := by decide +kernel
theorem tyJ2_ok : ∀ k, k < 0 → parseFieldDescriptor (TJ2 k).2.2.1 = some (tyJ2 k) := by decide +kernel
abbrev cJ2_getChar_3b067 : ByteArray := prog_18_method_5_code
def yJ2_getChar_3b067 : MethodName := ⟨RJ2, "getChar", "([BI)C"⟩
abbrev cJ2_length_9d52b : ByteArray := prog_18_method_6_code
def yJ2_length_9d52b : MethodName := ⟨RJ2, "length", "([B)I"⟩
abbrev cJ2_charAt_3b067 : ByteArray := prog_18_method_83_code
def yJ2_charAt_3b067 : MethodName := ⟨RJ2, "charAt", "([BI)C"⟩
abbrev cJ2_checkIndex_2214a : ByteArray := prog_18_method_91_code
def yJ2_checkIndex_2214a : MethodName := ⟨RJ2, "checkIndex", "(I[B)V"⟩
def RJ3 : String := "jdk/internal/util/Preconditions"
def TJ3 : u_T := fun k => match k with
  | _ => ("", "", "", false)
def tyJ3 : Nat → FieldType := fun k => match k with
  | _ => .int
abbrev wsJ30 : List Cond := u_ws RJ3 TJ3 0
theorem nmJ3 : ∀ a, a < 0 → ∀ b, b < 0 → a ≠ b → (TJ3 a).2.1 ≠ (TJ3 b).2.1 := by decide +kernel
theorem tyJ3_ok : ∀ k, k < 0 → parseFieldDescriptor (TJ3 k).2.2.1 = some (tyJ3 k) := by decide +kernel
abbrev cJ3_checkIndex_8e157 : ByteArray := prog_19_method_11_code
def yJ3_checkIndex_8e157 : MethodName := ⟨RJ3, "checkIndex", "(IILjava/util/function/BiFunction;)I"⟩
def RL : String := "WhenToSpeakLaw"
abbrev cL_law : ByteArray := code
def yL_law : MethodName := ⟨RL, "law", "([I)Z"⟩
abbrev vwCl : List vw_C := [(RX0, TX0, 4), (RX1, TX1, 3), (RX2, TX2, 5), (RX3, TX3, 5), (RX4, TX4, 19), (RX5, TX5, 5), (RX6, TX6, 9), (RX7, TX7, 8), (RX8, TX8, 2), (RX9, TX9, 8), (RX10, TX10, 11), (RX11, TX11, 51)]
end
section
/-- what the fields of a class are: 0 int or boolean, 1 long, 2 a reference -/
def fTab : Nat → List Nat := fun c => match c with
  | 0 => [2, 2, 0, 0]
  | 1 => [0, 0, 0]
  | 2 => [0, 0, 0, 2, 0]
  | 3 => [0, 2, 2, 2, 2]
  | 4 => [0, 2, 2, 2, 2, 2, 2, 2, 2, 2, 2, 2, 2, 2, 2, 2, 0, 0, 0]
  | 5 => [0, 0, 0, 0, 0]
  | 6 => [0, 0, 0, 0, 0, 0, 0, 0, 0]
  | 7 => [0, 0, 0, 0, 2, 2, 2, 0]
  | 8 => [2, 2]
  | 9 => [2, 2, 2, 2, 2, 0, 2, 2]
  | 10 => [2, 2, 2, 2, 2, 2, 2, 2, 2, 2, 0]
  | _ => [2, 2, 2, 0, 2, 0, 2, 2, 2, 2, 2, 2, 0, 2, 2, 2, 2, 2, 2, 2, 2, 2, 2, 2, 2, 2, 2, 2, 2, 2, 2, 2, 2, 2, 0, 0, 0, 1, 0, 0, 2, 0, 2, 2, 2, 0, 2, 2, 2, 2, 2]
def fN (c : Nat) : Nat := (fTab c).length
def fTy (c k : Nat) : Nat := (fTab c).getD k 0
/-- what all share: class numbers and slots, array classes by kind, the first new address, the text constants and their bytes -/
abbrev GL : Type := va_G × (Nat → ClassId) × Nat × (Nat → Nat) × (Nat → Nat)
def gD (G : GL) : va_G := G.1
def gC (G : GL) : Nat → ClassId := G.2.1
def gZ (G : GL) : Nat := G.2.2.1
def gK (G : GL) : Nat → Nat := G.2.2.2.1
def gV (G : GL) : Nat → Nat := G.2.2.2.2
def gA (G : GL) : Nat → Prop := fun q => gZ G ≤ q
def fv (G : GL) (μ : Mem) (a c k : Nat) : Value := match fTy c k with
  | 0 => .int (mI μ a k)
  | 1 => .long (mJ μ a k)
  | _ => va_rf ((mR μ a k).map (gZ G + ·))
def cel (G : GL) (μ : Mem) (a : Nat) : va_E := match mS μ a with
  | (0, c) => .inr (c, (List.range (fN c)).map (fv G μ a c))
  | (1, n) => .inl (gC G 1, n, .inl (mI μ a))
  | (2, n) => .inl (gC G 2, n, .inr (.inl (mJ μ a)))
  | (3, n) => .inl (gC G 3, n, .inl (mI μ a))
  | (k, n) => .inl (gC G k, n, .inr (.inr (.inr (.inr (fun j => (mR μ a j).map (gZ G + ·))))))
def wsOf (G : GL) (μ : Mem) : va_W := (List.range (mN μ)).map (fun a => (gZ G + a, cel G μ a))
/-- the heap holds the memory -/
def Wd (G : GL) (μ : Mem) (H : Heap) : Prop := va_P (gD G) vwCl (wsOf G μ) H
def tysOf (G : GL) : List (ClassId × FieldType) := [(gC G 1, .int), (gC G 2, .long), (gC G 3, .boolean), (gC G 4, .object RX3), (gC G 5, .object RX5), (gC G 6, .object RX6), (gC G 7, .array .int)]
theorem ws_at {G : GL} {μ : Mem} {a : Nat} (h : a < mN μ) : (wsOf G μ)[a]? = some (gZ G + a, cel G μ a) := by
  simp [wsOf, List.getElem?_map, List.getElem?_range h]
theorem ws_D (G : GL) (μ : Mem) : va_D (gA G) (wsOf G μ) := by
  have h : ∀ (k : Nat) (q : Nat × va_E), (wsOf G μ)[k]? = some q → q.1 = gZ G + k := by
    intro k q hk
    have hl : k < mN μ := by
      have := (List.getElem?_eq_some_iff.mp hk).1
      simpa [wsOf] using this
    rw [ws_at hl] at hk
    cases hk
    rfl
  refine ⟨fun i j p q hi hj e => ?_, fun k q hk => ?_⟩
  · rw [h i p hi, h j q hj] at e
    omega
  · show gZ G ≤ q.1
    rw [h k q hk]
    omega
theorem ws_set {G : GL} {μ μ' : Mem} {a : Nat} (hn : mN μ' = mN μ) (h : ∀ b, b ≠ a → cel G μ' b = cel G μ b) : (wsOf G μ).set a (gZ G + a, cel G μ' a) = wsOf G μ' := by
  apply List.ext_getElem?
  intro i
  rw [List.getElem?_set]
  by_cases e : a = i
  · subst e
    by_cases hl : a < mN μ
    · rw [if_pos rfl, if_pos (by simpa [wsOf] using hl), ws_at (by rw [hn]; exact hl)]
    · rw [if_pos rfl, if_neg (by simpa [wsOf] using hl)]
      rw [List.getElem?_eq_none (by simpa [wsOf, hn] using hl)]
  · rw [if_neg e]
    by_cases hl : i < mN μ
    · rw [ws_at hl, ws_at (by rw [hn]; exact hl), h i (fun q => e q.symm)]
    · rw [List.getElem?_eq_none (by simpa [wsOf] using hl), List.getElem?_eq_none (by simpa [wsOf, hn] using hl)]
theorem ws_push {G : GL} {μ : Mem} {sh : Nat × Nat} : wsOf G (mNew μ sh) = wsOf G μ ++ [(gZ G + mN μ, cel G (mNew μ sh) (mN μ))] := by
  have hc : ∀ b, b < mN μ → cel G (mNew μ sh) b = cel G μ b := by
    intro b hb
    have hne : b ≠ μ.1 := Nat.ne_of_lt hb
    have e1 : mS (mNew μ sh) b = mS μ b := if_neg hne
    have e2 : mI (mNew μ sh) b = mI μ b := if_neg hne
    have e3 : mJ (mNew μ sh) b = mJ μ b := if_neg hne
    have e4 : mR (mNew μ sh) b = mR μ b := if_neg hne
    have e5 : fv G (mNew μ sh) b = fv G μ b := by
      funext c k
      simp only [fv, e2, e3, e4]
    simp only [cel, e1, e2, e3, e4, e5]
  have hN : mN (mNew μ sh) = mN μ + 1 := rfl
  simp only [wsOf, hN, List.range_succ, List.map_append, List.map_cons, List.map_nil]
  congr 1
  apply List.map_congr_left
  intro b hb
  rw [hc b (List.mem_range.mp hb)]
end
section
/-! ===== the words that all methods share ===== -/
def gw : List Cond := lw_tbl.filter goodWord
def isNest : Cond → Bool
  | .methodLinkNest _ _ _ _ => true
  | _ => false
def nestW : List Cond := lw_tbl.filter isNest
theorem gw_good : ∀ w ∈ gw, w ∈ lw_tbl ∧ ((w.onTables && w.keeps) = true ∨ ∃ ty, w = .arrayClass ty) := fun w h => ⟨(List.mem_filter.mp h).1, good_of_word (List.mem_filter.mp h).2⟩
def mws (y : MethodName) (cc : ByteArray) (nL : Nat) (ret : Option FieldType) : List Cond := Cond.code y cc nL ret :: gw
theorem mws_good {y y' : MethodName} {cc cc' : ByteArray} {nL nL' : Nat} {ret ret' : Option FieldType} (h : Cond.code y' cc' nL' ret' ∈ gw) : GoodIn (mws y cc nL ret) (mws y' cc' nL' ret') := by
  intro w hw
  rcases List.mem_cons.mp hw with rfl | hw
  · exact ⟨List.mem_cons_of_mem _ h, (gw_good _ h).2⟩
  · exact ⟨List.mem_cons_of_mem _ hw, (gw_good _ hw).2⟩
/-- where the nine text constants of the class stand in its pool, and their texts -/
def sIx : List Nat := [40, 77, 79, 81, 83, 53, 59, 69, 71]
def sTx : List String := ["never", "way", "state", "kind", "after", "most", "in", "always", "from"]
/-! ===== what holds of the tables all the time ===== -/
def AOA (U : State) : Prop := (Cond.arrayOver (.array .int)).before #[] U = true
def KK (G : GL) (U : State) : Prop := va_K (gD G) vwCl (tysOf G) U ∧ (∀ w ∈ nestW, va_Nw w U) ∧ (va_AO RX3 U ∧ va_AO RX5 U ∧ va_AO RX6 U ∧ AOA U) ∧ ∀ i, i < 9 → vk_R RX2 (sIx.getD i 0) (sTx.getD i "") (gK G i) U
/-- what holds of old cells: the text constants, two statics -/
def EX (G : GL) (U : State) (H : Heap) : Prop := vk_S 9 sLens sByts (gK G) (gV G) (gA G) U H ∧ va_Z "java/lang/String" "COMPACT_STRINGS" "Z" (.int 1) (gA G) U H ∧ ∃ v : Value, v.category = 1 ∧ va_Z "jdk/internal/util/Preconditions" "SIOOBE_FORMATTER" "Ljava/util/function/BiFunction;" v (gA G) U H
theorem EX.moved {G : GL} {u U : State} {H : Heap} (hvm : u.vm.Alike U.vm) (h : EX G u H) : EX G U H := by
  obtain ⟨h1, h2, v, h4, h3⟩ := h
  exact ⟨h1.moved hvm, h2.moved hvm, v, h4, h3.moved hvm⟩
theorem EX.kept {G : GL} {U : State} {H H1 : Heap} (h : EX G U H) (hq : ∀ a : Nat, a < H.size → ¬ gA G a → H1[a]? = H[a]?) : EX G U H1 := by
  obtain ⟨h1, h2, v, h4, h3⟩ := h
  exact ⟨h1.kept hq, h2.kept hq, v, h4, h3.kept hq⟩
theorem AOA.moved {u U : State} (hvm : u.vm.Alike U.vm) (h : AOA u) : AOA U := by
  obtain ⟨comp, c, k, h1, h2, h3, h4, h5⟩ := arrayOver_specB h
  obtain ⟨k', hk', he⟩ := hvm.2.2 _ _ h3
  have hi : (U.vm.classes.findIdx? fun (x : Class) => match x.kind with | .array component _ => component == comp | _ => false) = some c := by
    refine (va_idx_bare U.vm comp).symm.trans ?_
    first | rw [hvm.bare_eq] | rw [← hvm.bare_eq]
    exact (va_idx_bare u.vm comp).trans h2
  have hkind : k'.kind = .array comp (.array .int) := by rw [he]; exact h4
  have f1 : U.vm.findClass (FieldType.array .int).toString = some comp := by rw [hvm.findClass]; exact h1
  have f2 : U.vm.findClass ("[" ++ (FieldType.array .int).toString) = some c := by rw [hvm.findClass]; exact h5
  unfold AOA Cond.before Cond.holds
  simp only [Cond.value]
  rw [f1, Option.bind_some]
  refine (congrArg (fun o : Option Nat => (o.bind (fun c => (U.vm.classes[c]?).map fun (k : Class) => match k.kind with | .array _ ty => decide (ty = FieldType.array .int) && decide (U.vm.findClass ("[" ++ (FieldType.array .int).toString) = some c) | _ => false) == some true)) hi).trans ?_
  simp [hk', hkind, f2]
abbrev CX : Type := Program × Launch × Env × Room × State × MethodId × Array Value × List Frame × Method × Code × (State → Prop)
abbrev xP (X : CX) : Program := X.1
abbrev xL (X : CX) : Launch := X.2.1
abbrev xE (X : CX) : Env := X.2.2.1
abbrev xR (X : CX) : Room := X.2.2.2.1
abbrev xS (X : CX) : State := X.2.2.2.2.1
abbrev xM (X : CX) : MethodId := X.2.2.2.2.2.1
abbrev xA (X : CX) : Array Value := X.2.2.2.2.2.2.1
abbrev xB (X : CX) : List Frame := X.2.2.2.2.2.2.2.1
abbrev xT (X : CX) : Method := X.2.2.2.2.2.2.2.2.1
abbrev xC (X : CX) : Code := X.2.2.2.2.2.2.2.2.2.1
abbrev xQ (X : CX) : State → Prop := X.2.2.2.2.2.2.2.2.2.2
/-- the machine inside a method: its code, its words, its room -/
def Ctx (G : GL) (X : CX) (cc : ByteArray) (nL : Nat) (own : String) (rm : Room) : Prop :=
  (xP X).tables.exec = Jvm.exec ∧ (xC X).code = cc ∧ (xC X).maxLocals = nL ∧ (xS X).vm.findClass own = some (xM X).cls ∧ (∀ w ∈ gw, w.before (xA X) (xS X) = true) ∧ KK G (xS X) ∧ xR X = rm ∧ gZ G ≤ (xS X).heap.size ∧ EX G (xS X) (xS X).heap
/-- from this frame, with this memory, the machine comes to Q -/
def AW (G : GL) (nL : Nat) (X : CX) (cells slots pc : Nat) (L : List (Nat × Value)) (st : List Value) (μ : Mem) : Prop :=
  ∀ (H : Heap) (locs : List Loc) (ls : Array Slot), lv_has ls nL L → Wd G μ H → va_S (gA G) (xS X).heap H locs → W (xP X) (xL X) (xE X) (xR X) (xS X) (xM X) (xA X) (xB X) (xT X) (xC X) H locs cells slots (xQ X) (F0 (xM X) pc ls st)
section AWR
variable {G : GL} {X : CX} {cc : ByteArray} {nL : Nat} {own : String} {rm : Room} {cells slots pc : Nat} {L L' : List (Nat × Value)} {st : List Value} {μ μ' : Mem}
theorem aw_sub (ks : List Nat) (h : lv_pick L ks = L') (k : AW G nL X cells slots pc L' st μ) : AW G nL X cells slots pc L st μ := fun H locs ls a b e => k H locs ls (lv_sub a ks h) b e
theorem aw_topi {x y : Int32} (h : x = y) (k : AW G nL X cells slots pc L (.int y :: st) μ) : AW G nL X cells slots pc L (.int x :: st) μ := h ▸ k
theorem aw_topj {x y : Int64} (h : x = y) (k : AW G nL X cells slots pc L (.long y :: st) μ) : AW G nL X cells slots pc L (.long x :: st) μ := h ▸ k
theorem aw_iconst (C : Ctx G X cc nL own rm) {n : Int} (v : Int32) (d : decode cc pc = .ok (.iconst n, 1)) (hv : Int32.ofInt n = v) (k : AW G nL X cells slots (pc + 1) L (.int v :: st) μ) : AW G nL X cells slots pc L st μ := fun H locs ls a b e => lv_iconst C.1 C.2.1 d hv (k H locs ls a b e)
theorem aw_bipush (C : Ctx G X cc nL own rm) {n : Int} (v : Int32) (d : decode cc pc = .ok (.bipush n, 2)) (hv : (Int8.ofInt n).toInt32 = v) (k : AW G nL X cells slots (pc + 2) L (.int v :: st) μ) : AW G nL X cells slots pc L st μ := fun H locs ls a b e => lv_bipush C.1 C.2.1 d hv (k H locs ls a b e)
theorem aw_sipush (C : Ctx G X cc nL own rm) {n : Int} (v : Int32) (d : decode cc pc = .ok (.sipush n, 3)) (hv : (Int16.ofInt n).toInt32 = v) (k : AW G nL X cells slots (pc + 3) L (.int v :: st) μ) : AW G nL X cells slots pc L st μ := fun H locs ls a b e => lv_sipush C.1 C.2.1 d hv (k H locs ls a b e)
theorem aw_lconst (C : Ctx G X cc nL own rm) {n : Fin 2} (v : Int64) (d : decode cc pc = .ok (.lconst n, 1)) (hv : Int64.ofNat (n : Nat) = v) (k : AW G nL X cells slots (pc + 1) L (.long v :: st) μ) : AW G nL X cells slots pc L st μ := fun H locs ls a b e => lv_lconst C.1 C.2.1 d hv (k H locs ls a b e)
theorem aw_ldc (C : Ctx G X cc nL own rm) {i : Nat} {v : Int32} (hw : Cond.constant own i v ∈ gw) (d : decode cc pc = .ok (.ldc i, 2)) (k : AW G nL X cells slots (pc + 2) L (.int v :: st) μ) : AW G nL X cells slots pc L st μ := fun H locs ls a b e => lv_ldc C.1 C.2.1 C.2.2.2.1 (C.2.2.2.2.1 _ hw) d (k H locs ls a b e)
theorem aw_ldcw (C : Ctx G X cc nL own rm) {i : Nat} {v : Int32} (hw : Cond.constant own i v ∈ gw) (d : decode cc pc = .ok (.ldc_w i, 3)) (k : AW G nL X cells slots (pc + 3) L (.int v :: st) μ) : AW G nL X cells slots pc L st μ := fun H locs ls a b e => lv_ldcw C.1 C.2.1 C.2.2.2.1 (C.2.2.2.2.1 _ hw) d (k H locs ls a b e)
theorem aw_ldc2 (C : Ctx G X cc nL own rm) {i : Nat} {v : Int64} (hw : Cond.constantLong own i v ∈ gw) (d : decode cc pc = .ok (.ldc2_w i, 3)) (k : AW G nL X cells slots (pc + 3) L (.long v :: st) μ) : AW G nL X cells slots pc L st μ := fun H locs ls a b e => lv_ldc2 C.1 C.2.1 C.2.2.2.1 (C.2.2.2.2.1 _ hw) d (k H locs ls a b e)
theorem aw_iload_n (C : Ctx G X cc nL own rm) {n : Fin 4} {i : Nat} {x : Int32} (j : Nat) (d : decode cc pc = .ok (.iload_n n, 1)) (hi : (n : Nat) = i) (hj : L[j]? = some (i, .int x)) (k : AW G nL X cells slots (pc + 1) L (.int x :: st) μ) : AW G nL X cells slots pc L st μ := fun H locs ls a b e => lv_iload_n C.1 C.2.1 d hi (lv_at a j hj) (k H locs ls a b e)
theorem aw_iload (C : Ctx G X cc nL own rm) {i : Nat} {x : Int32} (j : Nat) (d : decode cc pc = .ok (.iload i, 2)) (hj : L[j]? = some (i, .int x)) (k : AW G nL X cells slots (pc + 2) L (.int x :: st) μ) : AW G nL X cells slots pc L st μ := fun H locs ls a b e => lv_iload C.1 C.2.1 d (lv_at a j hj) (k H locs ls a b e)
theorem aw_lload_n (C : Ctx G X cc nL own rm) {n : Fin 4} {i : Nat} {x : Int64} (j : Nat) (d : decode cc pc = .ok (.lload_n n, 1)) (hi : (n : Nat) = i) (hj : L[j]? = some (i, .long x)) (k : AW G nL X cells slots (pc + 1) L (.long x :: st) μ) : AW G nL X cells slots pc L st μ := fun H locs ls a b e => lv_lload_n C.1 C.2.1 d hi (lv_at a j hj) (k H locs ls a b e)
theorem aw_lload (C : Ctx G X cc nL own rm) {i : Nat} {x : Int64} (j : Nat) (d : decode cc pc = .ok (.lload i, 2)) (hj : L[j]? = some (i, .long x)) (k : AW G nL X cells slots (pc + 2) L (.long x :: st) μ) : AW G nL X cells slots pc L st μ := fun H locs ls a b e => lv_lload C.1 C.2.1 d (lv_at a j hj) (k H locs ls a b e)
theorem aw_aload_n (C : Ctx G X cc nL own rm) {n : Fin 4} {i : Nat} {x : Nat} (j : Nat) (d : decode cc pc = .ok (.aload_n n, 1)) (hi : (n : Nat) = i) (hj : L[j]? = some (i, .ref x)) (k : AW G nL X cells slots (pc + 1) L (.ref x :: st) μ) : AW G nL X cells slots pc L st μ := fun H locs ls a b e => lv_aload_n C.1 C.2.1 d hi (lv_at a j hj) (k H locs ls a b e)
theorem aw_aload (C : Ctx G X cc nL own rm) {i : Nat} {x : Nat} (j : Nat) (d : decode cc pc = .ok (.aload i, 2)) (hj : L[j]? = some (i, .ref x)) (k : AW G nL X cells slots (pc + 2) L (.ref x :: st) μ) : AW G nL X cells slots pc L st μ := fun H locs ls a b e => lv_aload C.1 C.2.1 d (lv_at a j hj) (k H locs ls a b e)
theorem aw_istore_n (C : Ctx G X cc nL own rm) {n : Fin 4} {i : Nat} {x : Int32} (L' : List (Nat × Value)) (d : decode cc pc = .ok (.istore_n n, 1)) (hi : (n : Nat) = i) (hn : i < nL) (hl : (i, Value.int x) :: L.filter (fun q => !(q.1 == i) && !(q.1 + 1 == i && q.2.category == 2)) = L') (k : AW G nL X cells slots (pc + 1) L' st μ) : AW G nL X cells slots pc L (.int x :: st) μ := fun H locs ls a b e => lv_istore_n C.1 C.2.1 d hi a hn hl (fun ls' a' => k H locs ls' a' b e)
theorem aw_istore (C : Ctx G X cc nL own rm) {i : Nat} {x : Int32} (L' : List (Nat × Value)) (d : decode cc pc = .ok (.istore i, 2)) (hn : i < nL) (hl : (i, Value.int x) :: L.filter (fun q => !(q.1 == i) && !(q.1 + 1 == i && q.2.category == 2)) = L') (k : AW G nL X cells slots (pc + 2) L' st μ) : AW G nL X cells slots pc L (.int x :: st) μ := fun H locs ls a b e => lv_istore C.1 C.2.1 d a hn hl (fun ls' a' => k H locs ls' a' b e)
theorem aw_lstore_n (C : Ctx G X cc nL own rm) {n : Fin 4} {i : Nat} {x : Int64} (L' : List (Nat × Value)) (d : decode cc pc = .ok (.lstore_n n, 1)) (hi : (n : Nat) = i) (hn : i + 1 < nL) (hl : (i, Value.long x) :: L.filter (fun q => !(q.1 == i) && (!(q.1 == i + 1) && !(q.1 + 1 == i && q.2.category == 2))) = L') (k : AW G nL X cells slots (pc + 1) L' st μ) : AW G nL X cells slots pc L (.long x :: st) μ := fun H locs ls a b e => lv_lstore_n C.1 C.2.1 d hi a hn hl (fun ls' a' => k H locs ls' a' b e)
theorem aw_lstore (C : Ctx G X cc nL own rm) {i : Nat} {x : Int64} (L' : List (Nat × Value)) (d : decode cc pc = .ok (.lstore i, 2)) (hn : i + 1 < nL) (hl : (i, Value.long x) :: L.filter (fun q => !(q.1 == i) && (!(q.1 == i + 1) && !(q.1 + 1 == i && q.2.category == 2))) = L') (k : AW G nL X cells slots (pc + 2) L' st μ) : AW G nL X cells slots pc L (.long x :: st) μ := fun H locs ls a b e => lv_lstore C.1 C.2.1 d a hn hl (fun ls' a' => k H locs ls' a' b e)
theorem aw_astore_n (C : Ctx G X cc nL own rm) {n : Fin 4} {i : Nat} {x : Nat} (L' : List (Nat × Value)) (d : decode cc pc = .ok (.astore_n n, 1)) (hi : (n : Nat) = i) (hn : i < nL) (hl : (i, Value.ref x) :: L.filter (fun q => !(q.1 == i) && !(q.1 + 1 == i && q.2.category == 2)) = L') (k : AW G nL X cells slots (pc + 1) L' st μ) : AW G nL X cells slots pc L (.ref x :: st) μ := fun H locs ls a b e => lv_astore_n C.1 C.2.1 d hi a hn hl (fun ls' a' => k H locs ls' a' b e)
theorem aw_astore (C : Ctx G X cc nL own rm) {i : Nat} {x : Nat} (L' : List (Nat × Value)) (d : decode cc pc = .ok (.astore i, 2)) (hn : i < nL) (hl : (i, Value.ref x) :: L.filter (fun q => !(q.1 == i) && !(q.1 + 1 == i && q.2.category == 2)) = L') (k : AW G nL X cells slots (pc + 2) L' st μ) : AW G nL X cells slots pc L (.ref x :: st) μ := fun H locs ls a b e => lv_astore C.1 C.2.1 d a hn hl (fun ls' a' => k H locs ls' a' b e)
theorem aw_iinc (C : Ctx G X cc nL own rm) {i : Nat} {n : Int} {x : Int32} (v : Int32) (j : Nat) (L' : List (Nat × Value)) (d : decode cc pc = .ok (.iinc i n, 3)) (hj : L[j]? = some (i, .int x)) (hv : x + Int32.ofInt n = v) (hn : i < nL) (hl : (i, Value.int v) :: L.filter (fun q => !(q.1 == i) && !(q.1 + 1 == i && q.2.category == 2)) = L') (k : AW G nL X cells slots (pc + 3) L' st μ) : AW G nL X cells slots pc L st μ := fun H locs ls a b e => lv_iinc C.1 C.2.1 d a hj hv hn hl (fun ls' a' => k H locs ls' a' b e)
theorem aw_iadd (C : Ctx G X cc nL own rm) {x y : Int32} (d : decode cc pc = .ok (.iadd, 1)) (k : AW G nL X cells slots (pc + 1) L (.int (x + y) :: st) μ) : AW G nL X cells slots pc L (.int y :: .int x :: st) μ := fun H locs ls a b e => lv_iadd C.1 C.2.1 d (k H locs ls a b e)
theorem aw_isub (C : Ctx G X cc nL own rm) {x y : Int32} (d : decode cc pc = .ok (.isub, 1)) (k : AW G nL X cells slots (pc + 1) L (.int (x - y) :: st) μ) : AW G nL X cells slots pc L (.int y :: .int x :: st) μ := fun H locs ls a b e => lv_isub C.1 C.2.1 d (k H locs ls a b e)
theorem aw_imul (C : Ctx G X cc nL own rm) {x y : Int32} (d : decode cc pc = .ok (.imul, 1)) (k : AW G nL X cells slots (pc + 1) L (.int (x * y) :: st) μ) : AW G nL X cells slots pc L (.int y :: .int x :: st) μ := fun H locs ls a b e => lv_imul C.1 C.2.1 d (k H locs ls a b e)
theorem aw_iand (C : Ctx G X cc nL own rm) {x y : Int32} (d : decode cc pc = .ok (.iand, 1)) (k : AW G nL X cells slots (pc + 1) L (.int (x &&& y) :: st) μ) : AW G nL X cells slots pc L (.int y :: .int x :: st) μ := fun H locs ls a b e => lv_iand C.1 C.2.1 d (k H locs ls a b e)
theorem aw_ior (C : Ctx G X cc nL own rm) {x y : Int32} (d : decode cc pc = .ok (.ior, 1)) (k : AW G nL X cells slots (pc + 1) L (.int (x ||| y) :: st) μ) : AW G nL X cells slots pc L (.int y :: .int x :: st) μ := fun H locs ls a b e => lv_ior C.1 C.2.1 d (k H locs ls a b e)
theorem aw_ixor (C : Ctx G X cc nL own rm) {x y : Int32} (d : decode cc pc = .ok (.ixor, 1)) (k : AW G nL X cells slots (pc + 1) L (.int (x ^^^ y) :: st) μ) : AW G nL X cells slots pc L (.int y :: .int x :: st) μ := fun H locs ls a b e => lv_ixor C.1 C.2.1 d (k H locs ls a b e)
theorem aw_ishl (C : Ctx G X cc nL own rm) {x y : Int32} (d : decode cc pc = .ok (.ishl, 1)) (k : AW G nL X cells slots (pc + 1) L (.int (x <<< (y &&& 31)) :: st) μ) : AW G nL X cells slots pc L (.int y :: .int x :: st) μ := fun H locs ls a b e => lv_ishl C.1 C.2.1 d (k H locs ls a b e)
theorem aw_ishr (C : Ctx G X cc nL own rm) {x y : Int32} (d : decode cc pc = .ok (.ishr, 1)) (k : AW G nL X cells slots (pc + 1) L (.int (x >>> (y &&& 31)) :: st) μ) : AW G nL X cells slots pc L (.int y :: .int x :: st) μ := fun H locs ls a b e => lv_ishr C.1 C.2.1 d (k H locs ls a b e)
theorem aw_iushr (C : Ctx G X cc nL own rm) {x y : Int32} (d : decode cc pc = .ok (.iushr, 1)) (k : AW G nL X cells slots (pc + 1) L (.int ((x.toUInt32 >>> (y.toUInt32 &&& Int32.toUInt32 31)).toInt32) :: st) μ) : AW G nL X cells slots pc L (.int y :: .int x :: st) μ := fun H locs ls a b e => lv_iushr C.1 C.2.1 d (by first | exact rfl | exact (k H locs ls a b e)) (k H locs ls a b e)
theorem aw_ladd (C : Ctx G X cc nL own rm) {x y : Int64} (d : decode cc pc = .ok (.ladd, 1)) (k : AW G nL X cells slots (pc + 1) L (.long (x + y) :: st) μ) : AW G nL X cells slots pc L (.long y :: .long x :: st) μ := fun H locs ls a b e => lv_ladd C.1 C.2.1 d (k H locs ls a b e)
theorem aw_lsub (C : Ctx G X cc nL own rm) {x y : Int64} (d : decode cc pc = .ok (.lsub, 1)) (k : AW G nL X cells slots (pc + 1) L (.long (x - y) :: st) μ) : AW G nL X cells slots pc L (.long y :: .long x :: st) μ := fun H locs ls a b e => lv_lsub C.1 C.2.1 d (k H locs ls a b e)
theorem aw_lmul (C : Ctx G X cc nL own rm) {x y : Int64} (d : decode cc pc = .ok (.lmul, 1)) (k : AW G nL X cells slots (pc + 1) L (.long (x * y) :: st) μ) : AW G nL X cells slots pc L (.long y :: .long x :: st) μ := fun H locs ls a b e => lv_lmul C.1 C.2.1 d (k H locs ls a b e)
theorem aw_land (C : Ctx G X cc nL own rm) {x y : Int64} (d : decode cc pc = .ok (.land, 1)) (k : AW G nL X cells slots (pc + 1) L (.long (x &&& y) :: st) μ) : AW G nL X cells slots pc L (.long y :: .long x :: st) μ := fun H locs ls a b e => lv_land C.1 C.2.1 d (k H locs ls a b e)
theorem aw_lor (C : Ctx G X cc nL own rm) {x y : Int64} (d : decode cc pc = .ok (.lor, 1)) (k : AW G nL X cells slots (pc + 1) L (.long (x ||| y) :: st) μ) : AW G nL X cells slots pc L (.long y :: .long x :: st) μ := fun H locs ls a b e => lv_lor C.1 C.2.1 d (k H locs ls a b e)
theorem aw_lshl (C : Ctx G X cc nL own rm) {x : Int64} {y : Int32} (d : decode cc pc = .ok (.lshl, 1)) (k : AW G nL X cells slots (pc + 1) L (.long (x <<< (y.toInt64 &&& 63)) :: st) μ) : AW G nL X cells slots pc L (.int y :: .long x :: st) μ := fun H locs ls a b e => lv_lshl C.1 C.2.1 d rfl (k H locs ls a b e)
theorem aw_lshr (C : Ctx G X cc nL own rm) {x : Int64} {y : Int32} (d : decode cc pc = .ok (.lshr, 1)) (k : AW G nL X cells slots (pc + 1) L (.long (x >>> (y.toInt64 &&& 63)) :: st) μ) : AW G nL X cells slots pc L (.int y :: .long x :: st) μ := fun H locs ls a b e => lv_lshr C.1 C.2.1 d rfl (k H locs ls a b e)
theorem aw_lushr (C : Ctx G X cc nL own rm) {x : Int64} {y : Int32} (d : decode cc pc = .ok (.lushr, 1)) (k : AW G nL X cells slots (pc + 1) L (.long ((x.toUInt64 >>> (y.toInt64.toUInt64 &&& Int64.toUInt64 63)).toInt64) :: st) μ) : AW G nL X cells slots pc L (.int y :: .long x :: st) μ := fun H locs ls a b e => lv_lushr C.1 C.2.1 d rfl (k H locs ls a b e)
theorem aw_i2l (C : Ctx G X cc nL own rm) {x : Int32} (d : decode cc pc = .ok (.i2l, 1)) (k : AW G nL X cells slots (pc + 1) L (.long (x.toInt64) :: st) μ) : AW G nL X cells slots pc L (.int x :: st) μ := fun H locs ls a b e => lv_i2l C.1 C.2.1 d rfl (k H locs ls a b e)
theorem aw_l2i (C : Ctx G X cc nL own rm) {x : Int64} (d : decode cc pc = .ok (.l2i, 1)) (k : AW G nL X cells slots (pc + 1) L (.int (x.toInt32) :: st) μ) : AW G nL X cells slots pc L (.long x :: st) μ := fun H locs ls a b e => lv_l2i C.1 C.2.1 d rfl (k H locs ls a b e)
theorem aw_idiv (C : Ctx G X cc nL own rm) {x y v : Int32} (h : dvI x y = some v) (d : decode cc pc = .ok (.idiv, 1)) (k : AW G nL X cells slots (pc + 1) L (.int v :: st) μ) : AW G nL X cells slots pc L (.int y :: .int x :: st) μ := by
  unfold dvI at h
  split at h
  · cases h
  · rename_i hy
    cases h
    exact fun H locs ls a b e => lv_idiv C.1 C.2.1 d hy (k H locs ls a b e)
theorem aw_ldiv (C : Ctx G X cc nL own rm) {x y v : Int64} (h : dvJ x y = some v) (d : decode cc pc = .ok (.ldiv, 1)) (k : AW G nL X cells slots (pc + 1) L (.long v :: st) μ) : AW G nL X cells slots pc L (.long y :: .long x :: st) μ := by
  unfold dvJ at h
  split at h
  · cases h
  · rename_i hy
    cases h
    exact fun H locs ls a b e => lv_ldiv C.1 C.2.1 d hy (k H locs ls a b e)
theorem aw_lrem (C : Ctx G X cc nL own rm) {x y v : Int64} (h : rmJ x y = some v) (d : decode cc pc = .ok (.lrem, 1)) (k : AW G nL X cells slots (pc + 1) L (.long v :: st) μ) : AW G nL X cells slots pc L (.long y :: .long x :: st) μ := by
  unfold rmJ at h
  split at h
  · cases h
  · rename_i hy
    cases h
    exact fun H locs ls a b e => lv_lrem C.1 C.2.1 d hy (k H locs ls a b e)
theorem aw_dup (C : Ctx G X cc nL own rm) {v : Value} (d : decode cc pc = .ok (.dup, 1)) (hv : v.category = 1) (k : AW G nL X cells slots (pc + 1) L (v :: v :: st) μ) : AW G nL X cells slots pc L (v :: st) μ := fun H locs ls a b e => lv_dup C.1 C.2.1 d hv (k H locs ls a b e)
theorem aw_dup2 (C : Ctx G X cc nL own rm) {v w : Value} (d : decode cc pc = .ok (.dup2, 1)) (hv : v.category = 1) (hw : w.category = 1) (k : AW G nL X cells slots (pc + 1) L (v :: w :: v :: w :: st) μ) : AW G nL X cells slots pc L (v :: w :: st) μ := fun H locs ls a b e => lv_dup2_11 C.1 C.2.1 d hv hw (k H locs ls a b e)
theorem aw_pop (C : Ctx G X cc nL own rm) {v : Value} (d : decode cc pc = .ok (.pop, 1)) (hv : v.category = 1) (k : AW G nL X cells slots (pc + 1) L (st) μ) : AW G nL X cells slots pc L (v :: st) μ := fun H locs ls a b e => lv_pop C.1 C.2.1 d hv (k H locs ls a b e)
theorem aw_goto (C : Ctx G X cc nL own rm) {off : Int} (tgt : Nat) (d : decode cc pc = .ok (.goto off, 3)) (ht : (pc : Int) + off = (tgt : Int)) (k : AW G nL X cells slots tgt L (st) μ) : AW G nL X cells slots pc L (st) μ := fun H locs ls a b e => lv_goto C.1 C.2.1 d ht (k H locs ls a b e)
theorem aw_icmp_eq (C : Ctx G X cc nL own rm) {x y : Int32} {off : Int} (tgt : Nat) (d : decode cc pc = .ok (.if_icmp .eq off, 3)) (ht : (pc : Int) + off = (tgt : Int)) (kt : x = y → AW G nL X cells slots tgt L (st) μ) (kf : ¬ x = y → AW G nL X cells slots (pc + 3) L (st) μ) : AW G nL X cells slots pc L (.int y :: .int x :: st) μ := fun H locs ls a b e => lv_icmp_eq C.1 C.2.1 d ht (fun c => kt c H locs ls a b e) (fun c => kf c H locs ls a b e)
theorem aw_if_eq (C : Ctx G X cc nL own rm) {x : Int32} {off : Int} (tgt : Nat) (d : decode cc pc = .ok (.ifCond .eq off, 3)) (ht : (pc : Int) + off = (tgt : Int)) (kt : x = 0 → AW G nL X cells slots tgt L (st) μ) (kf : ¬ x = 0 → AW G nL X cells slots (pc + 3) L (st) μ) : AW G nL X cells slots pc L (.int x :: st) μ := fun H locs ls a b e => lv_if_eq C.1 C.2.1 d ht (fun c => kt c H locs ls a b e) (fun c => kf c H locs ls a b e)
theorem aw_icmp_ne (C : Ctx G X cc nL own rm) {x y : Int32} {off : Int} (tgt : Nat) (d : decode cc pc = .ok (.if_icmp .ne off, 3)) (ht : (pc : Int) + off = (tgt : Int)) (kt : ¬ x = y → AW G nL X cells slots tgt L (st) μ) (kf : x = y → AW G nL X cells slots (pc + 3) L (st) μ) : AW G nL X cells slots pc L (.int y :: .int x :: st) μ := fun H locs ls a b e => lv_icmp_ne C.1 C.2.1 d ht (fun c => kt c H locs ls a b e) (fun c => kf (by first | exact c | exact Classical.not_not.mp c) H locs ls a b e)
theorem aw_if_ne (C : Ctx G X cc nL own rm) {x : Int32} {off : Int} (tgt : Nat) (d : decode cc pc = .ok (.ifCond .ne off, 3)) (ht : (pc : Int) + off = (tgt : Int)) (kt : ¬ x = 0 → AW G nL X cells slots tgt L (st) μ) (kf : x = 0 → AW G nL X cells slots (pc + 3) L (st) μ) : AW G nL X cells slots pc L (.int x :: st) μ := fun H locs ls a b e => lv_if_ne C.1 C.2.1 d ht (fun c => kt c H locs ls a b e) (fun c => kf (by first | exact c | exact Classical.not_not.mp c) H locs ls a b e)
theorem aw_icmp_lt (C : Ctx G X cc nL own rm) {x y : Int32} {off : Int} (tgt : Nat) (d : decode cc pc = .ok (.if_icmp .lt off, 3)) (ht : (pc : Int) + off = (tgt : Int)) (kt : x < y → AW G nL X cells slots tgt L (st) μ) (kf : ¬ x < y → AW G nL X cells slots (pc + 3) L (st) μ) : AW G nL X cells slots pc L (.int y :: .int x :: st) μ := fun H locs ls a b e => lv_icmp_lt C.1 C.2.1 d ht (fun c => kt c H locs ls a b e) (fun c => kf c H locs ls a b e)
theorem aw_if_lt (C : Ctx G X cc nL own rm) {x : Int32} {off : Int} (tgt : Nat) (d : decode cc pc = .ok (.ifCond .lt off, 3)) (ht : (pc : Int) + off = (tgt : Int)) (kt : x < 0 → AW G nL X cells slots tgt L (st) μ) (kf : ¬ x < 0 → AW G nL X cells slots (pc + 3) L (st) μ) : AW G nL X cells slots pc L (.int x :: st) μ := fun H locs ls a b e => lv_if_lt C.1 C.2.1 d ht (fun c => kt c H locs ls a b e) (fun c => kf c H locs ls a b e)
theorem aw_icmp_ge (C : Ctx G X cc nL own rm) {x y : Int32} {off : Int} (tgt : Nat) (d : decode cc pc = .ok (.if_icmp .ge off, 3)) (ht : (pc : Int) + off = (tgt : Int)) (kt : y ≤ x → AW G nL X cells slots tgt L (st) μ) (kf : ¬ y ≤ x → AW G nL X cells slots (pc + 3) L (st) μ) : AW G nL X cells slots pc L (.int y :: .int x :: st) μ := fun H locs ls a b e => lv_icmp_ge C.1 C.2.1 d ht (fun c => kt c H locs ls a b e) (fun c => kf c H locs ls a b e)
theorem aw_if_ge (C : Ctx G X cc nL own rm) {x : Int32} {off : Int} (tgt : Nat) (d : decode cc pc = .ok (.ifCond .ge off, 3)) (ht : (pc : Int) + off = (tgt : Int)) (kt : 0 ≤ x → AW G nL X cells slots tgt L (st) μ) (kf : ¬ 0 ≤ x → AW G nL X cells slots (pc + 3) L (st) μ) : AW G nL X cells slots pc L (.int x :: st) μ := fun H locs ls a b e => lv_if_ge C.1 C.2.1 d ht (fun c => kt c H locs ls a b e) (fun c => kf c H locs ls a b e)
theorem aw_icmp_gt (C : Ctx G X cc nL own rm) {x y : Int32} {off : Int} (tgt : Nat) (d : decode cc pc = .ok (.if_icmp .gt off, 3)) (ht : (pc : Int) + off = (tgt : Int)) (kt : y < x → AW G nL X cells slots tgt L (st) μ) (kf : ¬ y < x → AW G nL X cells slots (pc + 3) L (st) μ) : AW G nL X cells slots pc L (.int y :: .int x :: st) μ := fun H locs ls a b e => lv_icmp_gt C.1 C.2.1 d ht (fun c => kt c H locs ls a b e) (fun c => kf c H locs ls a b e)
theorem aw_if_gt (C : Ctx G X cc nL own rm) {x : Int32} {off : Int} (tgt : Nat) (d : decode cc pc = .ok (.ifCond .gt off, 3)) (ht : (pc : Int) + off = (tgt : Int)) (kt : 0 < x → AW G nL X cells slots tgt L (st) μ) (kf : ¬ 0 < x → AW G nL X cells slots (pc + 3) L (st) μ) : AW G nL X cells slots pc L (.int x :: st) μ := fun H locs ls a b e => lv_if_gt C.1 C.2.1 d ht (fun c => kt c H locs ls a b e) (fun c => kf c H locs ls a b e)
theorem aw_icmp_le (C : Ctx G X cc nL own rm) {x y : Int32} {off : Int} (tgt : Nat) (d : decode cc pc = .ok (.if_icmp .le off, 3)) (ht : (pc : Int) + off = (tgt : Int)) (kt : x ≤ y → AW G nL X cells slots tgt L (st) μ) (kf : ¬ x ≤ y → AW G nL X cells slots (pc + 3) L (st) μ) : AW G nL X cells slots pc L (.int y :: .int x :: st) μ := fun H locs ls a b e => lv_icmp_le C.1 C.2.1 d ht (fun c => kt c H locs ls a b e) (fun c => kf c H locs ls a b e)
theorem aw_if_le (C : Ctx G X cc nL own rm) {x : Int32} {off : Int} (tgt : Nat) (d : decode cc pc = .ok (.ifCond .le off, 3)) (ht : (pc : Int) + off = (tgt : Int)) (kt : x ≤ 0 → AW G nL X cells slots tgt L (st) μ) (kf : ¬ x ≤ 0 → AW G nL X cells slots (pc + 3) L (st) μ) : AW G nL X cells slots pc L (.int x :: st) μ := fun H locs ls a b e => lv_if_le C.1 C.2.1 d ht (fun c => kt c H locs ls a b e) (fun c => kf c H locs ls a b e)
end AWR
end
section
/-! ===== fields and rows: the rules ===== -/
def FL (own : String) (idx ci k : Nat) (ty : FieldType) (fin : Bool) : Prop := ∃ (C : String) (T : u_T) (N : Nat) (t0 : Nat → FieldType), vwCl[ci]? = some (C, T, N) ∧ (∀ w ∈ u_ws C T N, w ∈ gw) ∧ (∀ j, j < N → parseFieldDescriptor (T j).2.2.1 = some (t0 j)) ∧ (∀ a, a < N → ∀ b, b < N → a ≠ b → (T a).2.1 ≠ (T b).2.1) ∧ N = fN ci ∧ k < N ∧ Cond.fieldLink own idx (T k).1 (T k).2.1 (T k).2.2.1 ∈ gw ∧ parseFieldDescriptor (T k).2.2.1 = some ty ∧ (T k).2.2.2 = fin ∧ (T k).1 = C
theorem cel_o {G : GL} {μ : Mem} {a c : Nat} (h : mS μ a = (0, c)) : cel G μ a = .inr (c, (List.range (fN c)).map (fv G μ a c)) := by
  unfold cel
  rw [h]
  rfl
theorem cel_1 {G : GL} {μ : Mem} {a : Nat} (h : (mS μ a).1 = 1) : cel G μ a = .inl (gC G 1, (mS μ a).2, .inl (mI μ a)) := by
  unfold cel
  rw [show mS μ a = (1, (mS μ a).2) from Prod.ext h rfl]
  rfl
theorem cel_2 {G : GL} {μ : Mem} {a : Nat} (h : (mS μ a).1 = 2) : cel G μ a = .inl (gC G 2, (mS μ a).2, .inr (.inl (mJ μ a))) := by
  unfold cel
  rw [show mS μ a = (2, (mS μ a).2) from Prod.ext h rfl]
  rfl
theorem cel_3 {G : GL} {μ : Mem} {a : Nat} (h : (mS μ a).1 = 3) : cel G μ a = .inl (gC G 3, (mS μ a).2, .inl (mI μ a)) := by
  unfold cel
  rw [show mS μ a = (3, (mS μ a).2) from Prod.ext h rfl]
  rfl
theorem cel_r {G : GL} {μ : Mem} {a kd : Nat} (h : (mS μ a).1 = kd) (hk : kd = 4 ∨ kd = 5 ∨ kd = 6 ∨ kd = 7) : cel G μ a = .inl (gC G kd, (mS μ a).2, .inr (.inr (.inr (.inr (fun j => (mR μ a j).map (gZ G + ·)))))) := by
  unfold cel
  rw [show mS μ a = (kd, (mS μ a).2) from Prod.ext h rfl]
  rcases hk with rfl | rfl | rfl | rfl <;> rfl
theorem fs_at {G : GL} {μ : Mem} {a c k : Nat} (h : k < fN c) : ((List.range (fN c)).map (fv G μ a c))[k]? = some (fv G μ a c k) := by
  rw [List.getElem?_map, List.getElem?_range h]
  rfl
theorem fs_set {G : GL} {μ μ' : Mem} {a c k : Nat} {v : Value} (hv : fv G μ' a c k = v) (h : ∀ j, j ≠ k → fv G μ' a c j = fv G μ a c j) : ((List.range (fN c)).map (fv G μ a c)).set k v = (List.range (fN c)).map (fv G μ' a c) := by
  apply List.ext_getElem?
  intro i
  rw [List.getElem?_set]
  by_cases e : k = i
  · subst e
    by_cases hl : k < fN c
    · rw [if_pos rfl, if_pos (by simpa using hl), fs_at hl, hv]
    · rw [if_pos rfl, if_neg (by simpa using hl), List.getElem?_eq_none (by simpa using hl)]
  · rw [if_neg e]
    by_cases hl : i < fN c
    · rw [fs_at hl, fs_at hl, h i (fun q => e q.symm)]
    · rw [List.getElem?_eq_none (by simpa using hl), List.getElem?_eq_none (by simpa using hl)]
theorem up2_s {α : Type} (f : Nat → Nat → α) (a k : Nat) (v : α) : up2 f a k v a k = v := if_pos ⟨rfl, rfl⟩
theorem up2_n {α : Type} (f : Nat → Nat → α) {a k b j : Nat} (v : α) (h : ¬ (b = a ∧ j = k)) : up2 f a k v b j = f b j := if_neg h
theorem up2_a {α : Type} (f : Nat → Nat → α) {a k b : Nat} (v : α) (h : b ≠ a) : up2 f a k v b = f b := funext fun _ => if_neg fun q => h q.1
theorem cel_ne {G : GL} {μ μ' : Mem} {b : Nat} (e1 : mS μ' b = mS μ b) (e2 : mI μ' b = mI μ b) (e3 : mJ μ' b = mJ μ b) (e4 : mR μ' b = mR μ b) : cel G μ' b = cel G μ b := by
  have e5 : fv G μ' b = fv G μ b := by
    funext c k
    simp only [fv, e2, e3, e4]
  simp only [cel, e1, e2, e3, e4, e5]
theorem wI_ne {G : GL} {μ : Mem} {a k b : Nat} {x : Int32} (h : b ≠ a) : cel G (wI μ a k x) b = cel G μ b := cel_ne rfl (up2_a _ _ h) rfl rfl
theorem wJ_ne {G : GL} {μ : Mem} {a k b : Nat} {x : Int64} (h : b ≠ a) : cel G (wJ μ a k x) b = cel G μ b := cel_ne rfl rfl (up2_a _ _ h) rfl
theorem wR_ne {G : GL} {μ : Mem} {a k b : Nat} {x : Nat} (h : b ≠ a) : cel G (wR μ a k x) b = cel G μ b := cel_ne rfl rfl rfl (up2_a _ _ h)
theorem wI_set {G : GL} {μ : Mem} {a c k : Nat} {x : Int32} (hs : mS μ a = (0, c)) (ht : fTy c k = 0) : (wsOf G μ).set a (gZ G + a, .inr (c, ((List.range (fN c)).map (fv G μ a c)).set k (.int x))) = wsOf G (wI μ a k x) := by
  have h1 : cel G (wI μ a k x) a = .inr (c, (List.range (fN c)).map (fv G (wI μ a k x) a c)) := cel_o hs
  rw [fs_set (μ' := wI μ a k x), ← h1]
  · exact ws_set rfl (fun b hb => wI_ne hb)
  · unfold fv
    rw [ht]
    exact congrArg Value.int (up2_s _ _ _ _)
  · intro j hj
    have e : mI (wI μ a k x) a j = mI μ a j := up2_n _ _ (fun q => hj q.2)
    simp only [fv, e]
    rfl
theorem wJ_set {G : GL} {μ : Mem} {a c k : Nat} {x : Int64} (hs : mS μ a = (0, c)) (ht : fTy c k = 1) : (wsOf G μ).set a (gZ G + a, .inr (c, ((List.range (fN c)).map (fv G μ a c)).set k (.long x))) = wsOf G (wJ μ a k x) := by
  have h1 : cel G (wJ μ a k x) a = .inr (c, (List.range (fN c)).map (fv G (wJ μ a k x) a c)) := cel_o hs
  rw [fs_set (μ' := wJ μ a k x), ← h1]
  · exact ws_set rfl (fun b hb => wJ_ne hb)
  · unfold fv
    rw [ht]
    exact congrArg Value.long (up2_s _ _ _ _)
  · intro j hj
    have e : mJ (wJ μ a k x) a j = mJ μ a j := up2_n _ _ (fun q => hj q.2)
    simp only [fv, e]
    rfl
theorem wR_set {G : GL} {μ : Mem} {a c k : Nat} {x : Nat} (hs : mS μ a = (0, c)) (ht : fTy c k = 2) : (wsOf G μ).set a (gZ G + a, .inr (c, ((List.range (fN c)).map (fv G μ a c)).set k (.ref (gZ G + x)))) = wsOf G (wR μ a k x) := by
  have h1 : cel G (wR μ a k x) a = .inr (c, (List.range (fN c)).map (fv G (wR μ a k x) a c)) := cel_o hs
  rw [fs_set (μ' := wR μ a k x), ← h1]
  · exact ws_set rfl (fun b hb => wR_ne hb)
  · have e : mR (wR μ a k x) a k = some x := up2_s _ _ _ _
    unfold fv
    rw [ht]
    show va_rf ((mR (wR μ a k x) a k).map (gZ G + ·)) = _
    rw [e]
    rfl
  · intro j hj
    have e : mR (wR μ a k x) a j = mR μ a j := up2_n _ _ (fun q => hj q.2)
    simp only [fv, e]
    rfl
section AWH
variable {G : GL} {X : CX} {cc : ByteArray} {nL : Nat} {own : String} {rm : Room} {cells slots pc : Nat} {L L' : List (Nat × Value)} {st : List Value} {μ μ' : Mem}
theorem aw_lcmp (C : Ctx G X cc nL own rm) {x y : Int64} (d : decode cc pc = .ok (.lcmp, 1)) (k : AW G nL X cells slots (pc + 1) L (.int (lg_cmp x y) :: st) μ) : AW G nL X cells slots pc L (.long y :: .long x :: st) μ := fun H locs ls a b e => W.lcmp C.1 C.2.1 d (k H locs ls a b e)
theorem aw_gI (C : Ctx G X cc nL own rm) {ci k a idx : Nat} {x : Int32} {ty : FieldType} {fin : Bool} (F : FL own idx ci k ty fin) (hty : fTy ci k = 0) (h : gI ci k a μ = some x) (d : decode cc pc = .ok (.getfield idx, 3)) (kk : AW G nL X cells slots (pc + 3) L (.int x :: st) μ) : AW G nL X cells slots pc L (.ref (gZ G + a) :: st) μ := by
  unfold gI at h
  split at h
  · rename_i ha
    cases h
    obtain ⟨Cn, T, N, t0, h1, h2, h3, h4, h5, h6, h7, h8, h9, h10⟩ := F
    subst h5
    intro H locs ls a1 b e
    refine va_get C.1 C.2.1 C.2.2.2.2.1 h2 C.2.2.2.1 C.2.2.2.2.2.1.1 b a (he := by rw [ws_at ha.1, cel_o ha.2]) h1 k h6 (C.2.2.2.2.1 _ h7) (fun _ q => q) (v := .int (mI μ a k)) (by rw [fs_at h6]; unfold fv; rw [hty]; rfl) d (kk H locs ls a1 b e)
  · cases h
theorem aw_gJ (C : Ctx G X cc nL own rm) {ci k a idx : Nat} {x : Int64} {ty : FieldType} {fin : Bool} (F : FL own idx ci k ty fin) (hty : fTy ci k = 1) (h : gJ ci k a μ = some x) (d : decode cc pc = .ok (.getfield idx, 3)) (kk : AW G nL X cells slots (pc + 3) L (.long x :: st) μ) : AW G nL X cells slots pc L (.ref (gZ G + a) :: st) μ := by
  unfold gJ at h
  split at h
  · rename_i ha
    cases h
    obtain ⟨Cn, T, N, t0, h1, h2, h3, h4, h5, h6, h7, h8, h9, h10⟩ := F
    subst h5
    intro H locs ls a1 b e
    refine va_get C.1 C.2.1 C.2.2.2.2.1 h2 C.2.2.2.1 C.2.2.2.2.2.1.1 b a (he := by rw [ws_at ha.1, cel_o ha.2]) h1 k h6 (C.2.2.2.2.1 _ h7) (fun _ q => q) (v := .long (mJ μ a k)) (by rw [fs_at h6]; unfold fv; rw [hty]; rfl) d (kk H locs ls a1 b e)
  · cases h
theorem aw_gR (C : Ctx G X cc nL own rm) {ci k a idx x : Nat} {ty : FieldType} {fin : Bool} (F : FL own idx ci k ty fin) (hty : fTy ci k = 2) (h : gR ci k a μ = some x) (d : decode cc pc = .ok (.getfield idx, 3)) (kk : AW G nL X cells slots (pc + 3) L (.ref (gZ G + x) :: st) μ) : AW G nL X cells slots pc L (.ref (gZ G + a) :: st) μ := by
  unfold gR at h
  split at h
  · rename_i ha
    obtain ⟨Cn, T, N, t0, h1, h2, h3, h4, h5, h6, h7, h8, h9, h10⟩ := F
    subst h5
    intro H locs ls a1 b e
    refine va_get C.1 C.2.1 C.2.2.2.2.1 h2 C.2.2.2.1 C.2.2.2.2.2.1.1 b a (he := by rw [ws_at ha.1, cel_o ha.2]) h1 k h6 (C.2.2.2.2.1 _ h7) (fun _ q => q) (v := .ref (gZ G + x)) (by rw [fs_at h6]; unfold fv; rw [hty, h]; rfl) d (kk H locs ls a1 b e)
  · cases h
theorem aw_pI (C : Ctx G X cc nL own rm) {ci k a idx : Nat} {x : Int32} (F : FL own idx ci k .int false) (hty : fTy ci k = 0) (h : pI ci k a x μ = some μ') (d : decode cc pc = .ok (.putfield idx, 3)) (kk : AW G nL X cells slots (pc + 3) L st μ') : AW G nL X cells slots pc L (.int x :: .ref (gZ G + a) :: st) μ := by
  unfold pI at h
  split at h
  · rename_i ha
    cases h
    obtain ⟨Cn, T, N, t0, h1, h2, h3, h4, h5, h6, h7, h8, h9, h10⟩ := F
    subst h5
    intro H locs ls a1 b e
    refine va_put C.1 C.2.1 C.2.2.2.2.1 h2 t0 h3 h4 C.2.2.2.1 C.2.2.2.2.2.1.1 b (ws_D G μ) e a (he := by rw [ws_at ha.1, cel_o ha.2]) h1 k h6 (C.2.2.2.2.1 _ h7) (fun _ q => q) h9 h8 rfl rfl (by simpa using h6) d (fun H1 locs1 hP hD hS => kk H1 locs1 ls a1 ?_ hS)
    rw [wI_set ha.2 hty] at hP
    exact hP
  · cases h
theorem aw_pZ (C : Ctx G X cc nL own rm) {ci k a idx : Nat} {x : Int32} (F : FL own idx ci k .boolean false) (hty : fTy ci k = 0) (h : pZ ci k a x μ = some μ') (d : decode cc pc = .ok (.putfield idx, 3)) (kk : AW G nL X cells slots (pc + 3) L st μ') : AW G nL X cells slots pc L (.int x :: .ref (gZ G + a) :: st) μ := by
  unfold pZ at h
  split at h
  · rename_i ha
    cases h
    obtain ⟨ha, hx⟩ := ha
    obtain ⟨Cn, T, N, t0, h1, h2, h3, h4, h5, h6, h7, h8, h9, h10⟩ := F
    subst h5
    intro H locs ls a1 b e
    refine va_put C.1 C.2.1 C.2.2.2.2.1 h2 t0 h3 h4 C.2.2.2.1 C.2.2.2.2.2.1.1 b (ws_D G μ) e a (he := by rw [ws_at ha.1, cel_o ha.2]) h1 k h6 (C.2.2.2.2.1 _ h7) (fun _ q => q) h9 h8 (by rcases hx with rfl | rfl <;> rfl) (by rcases hx with rfl | rfl <;> rfl) (by simpa using h6) d (fun H1 locs1 hP hD hS => kk H1 locs1 ls a1 ?_ hS)
    rw [wI_set ha.2 hty] at hP
    exact hP
  · cases h
theorem aw_pJ (C : Ctx G X cc nL own rm) {ci k a idx : Nat} {x : Int64} (F : FL own idx ci k .long false) (hty : fTy ci k = 1) (h : pJ ci k a x μ = some μ') (d : decode cc pc = .ok (.putfield idx, 3)) (kk : AW G nL X cells slots (pc + 3) L st μ') : AW G nL X cells slots pc L (.long x :: .ref (gZ G + a) :: st) μ := by
  unfold pJ at h
  split at h
  · rename_i ha
    cases h
    obtain ⟨Cn, T, N, t0, h1, h2, h3, h4, h5, h6, h7, h8, h9, h10⟩ := F
    subst h5
    intro H locs ls a1 b e
    refine va_put C.1 C.2.1 C.2.2.2.2.1 h2 t0 h3 h4 C.2.2.2.1 C.2.2.2.2.2.1.1 b (ws_D G μ) e a (he := by rw [ws_at ha.1, cel_o ha.2]) h1 k h6 (C.2.2.2.2.1 _ h7) (fun _ q => q) h9 h8 rfl rfl (by simpa using h6) d (fun H1 locs1 hP hD hS => kk H1 locs1 ls a1 ?_ hS)
    rw [wJ_set ha.2 hty] at hP
    exact hP
  · cases h
theorem aw_pR (C : Ctx G X cc nL own rm) {ci k a idx x : Nat} {ty : FieldType} (F : FL own idx ci k ty false) (hr : fits ty (.ref (gZ G + x)) = true) (hn : narrow ty (.ref (gZ G + x)) = .ref (gZ G + x)) (hty : fTy ci k = 2) (h : pR ci k a x μ = some μ') (d : decode cc pc = .ok (.putfield idx, 3)) (kk : AW G nL X cells slots (pc + 3) L st μ') : AW G nL X cells slots pc L (.ref (gZ G + x) :: .ref (gZ G + a) :: st) μ := by
  unfold pR at h
  split at h
  · rename_i ha
    cases h
    obtain ⟨Cn, T, N, t0, h1, h2, h3, h4, h5, h6, h7, h8, h9, h10⟩ := F
    subst h5
    intro H locs ls a1 b e
    refine va_put C.1 C.2.1 C.2.2.2.2.1 h2 t0 h3 h4 C.2.2.2.1 C.2.2.2.2.2.1.1 b (ws_D G μ) e a (he := by rw [ws_at ha.1, cel_o ha.2]) h1 k h6 (C.2.2.2.2.1 _ h7) (fun _ q => q) h9 h8 hn hr (by simpa using h6) d (fun H1 locs1 hP hD hS => kk H1 locs1 ls a1 ?_ hS)
    rw [wR_set ha.2 hty] at hP
    exact hP
  · cases h
theorem aw_pRF (C : Ctx G X cc nL own rm) {ci k a idx x : Nat} {ty : FieldType} (F : FL own idx ci k ty true) (hi : (xT X).name = "<init>") (ho : vwCl[ci]? = some (own, (vwCl.getD ci ("", fun _ => ("", "", "", false), 0)).2)) (hr : fits ty (.ref (gZ G + x)) = true) (hn : narrow ty (.ref (gZ G + x)) = .ref (gZ G + x)) (hty : fTy ci k = 2) (h : pR ci k a x μ = some μ') (d : decode cc pc = .ok (.putfield idx, 3)) (kk : AW G nL X cells slots (pc + 3) L st μ') : AW G nL X cells slots pc L (.ref (gZ G + x) :: .ref (gZ G + a) :: st) μ := by
  unfold pR at h
  split at h
  · rename_i ha
    cases h
    obtain ⟨Cn, T, N, t0, h1, h2, h3, h4, h5, h6, h7, h8, h9, h10⟩ := F
    subst h5
    rw [h1] at ho
    have ho1 : Cn = own := congrArg Prod.fst (Option.some.inj ho)
    intro H locs ls a1 b e
    refine va_putF C.1 C.2.1 C.2.2.2.2.1 h2 t0 h3 h4 C.2.2.2.1 C.2.2.2.2.2.1.1 b (ws_D G μ) e a (he := by rw [ws_at ha.1, cel_o ha.2]) h1 k h6 (C.2.2.2.2.1 _ h7) (fun _ q => q) h9 hi (h10.trans ho1) h8 hn hr (by simpa using h6) d (fun H1 locs1 hP hD hS => kk H1 locs1 ls a1 ?_ hS)
    rw [wR_set ha.2 hty] at hP
    exact hP
  · cases h
theorem aw_aI (C : Ctx G X cc nL own rm) {a : Nat} {i x : Int32} (h : aI a i μ = some x) (d : decode cc pc = .ok (.iaload, 1)) (kk : AW G nL X cells slots (pc + 1) L (.int x :: st) μ) : AW G nL X cells slots pc L (.int i :: .ref (gZ G + a) :: st) μ := by
  unfold aI at h
  split at h
  · rename_i ha
    cases h
    intro H locs ls a1 b e
    exact va_iald C.1 C.2.1 C.2.2.2.2.2.1.1 b a 0 (by rw [ws_at ha.1, cel_1 ha.2.1]) rfl ha.2.2 d (kk H locs ls a1 b e)
  · cases h
theorem aw_aJ (C : Ctx G X cc nL own rm) {a : Nat} {i : Int32} {x : Int64} (h : aJ a i μ = some x) (d : decode cc pc = .ok (.laload, 1)) (kk : AW G nL X cells slots (pc + 1) L (.long x :: st) μ) : AW G nL X cells slots pc L (.int i :: .ref (gZ G + a) :: st) μ := by
  unfold aJ at h
  split at h
  · rename_i ha
    cases h
    intro H locs ls a1 b e
    exact va_lald C.1 C.2.1 C.2.2.2.2.2.1.1 b a 1 (by rw [ws_at ha.1, cel_2 ha.2.1]) rfl ha.2.2 d (kk H locs ls a1 b e)
  · cases h
theorem aw_aZ (C : Ctx G X cc nL own rm) {a : Nat} {i x : Int32} (h : aZ a i μ = some x) (d : decode cc pc = .ok (.baload, 1)) (kk : AW G nL X cells slots (pc + 1) L (.int x :: st) μ) : AW G nL X cells slots pc L (.int i :: .ref (gZ G + a) :: st) μ := by
  unfold aZ at h
  split at h
  · rename_i ha
    cases h
    intro H locs ls a1 b e
    exact va_zald C.1 C.2.1 C.2.2.2.2.2.1.1 b a 2 (by rw [ws_at ha.1, cel_3 ha.2.1]) rfl ha.2.2 d (kk H locs ls a1 b e)
  · cases h
theorem aw_aR (C : Ctx G X cc nL own rm) {kd a x : Nat} {i : Int32} {ty : FieldType} (hk : kd = 4 ∨ kd = 5 ∨ kd = 6 ∨ kd = 7) (ht : (tysOf G)[kd - 1]? = some (gC G kd, ty)) (hr : ty.isReference = true) (h : aR kd a i μ = some x) (d : decode cc pc = .ok (.aaload, 1)) (kk : AW G nL X cells slots (pc + 1) L (.ref (gZ G + x) :: st) μ) : AW G nL X cells slots pc L (.int i :: .ref (gZ G + a) :: st) μ := by
  unfold aR at h
  split at h
  · rename_i ha
    intro H locs ls a1 b e
    have hlt : i.toNatClampNeg < (mS μ a).2 := Nat.not_le.mp fun q => ha.2.2 (Or.inr q)
    have hat : va_at (gD G) vwCl (gZ G + a, cel G μ a) H := b a _ (ws_at ha.1)
    rw [cel_r ha.2.1 hk] at hat
    exact W.aald (v := .ref (gZ G + x)) (ty := ty) C.1 C.2.1 hat ((C.2.2.2.2.2.1.1.2 _ _ ht).1 (mS μ a).2 (fun j => va_rf ((mR μ a j).map (gZ G + ·)))) hr (fun q => by cases q) (by show ¬ (i < 0 ∨ (arrV _ _ _).slots.size ≤ _); rw [arrV_size]; exact ha.2.2) (by show (arrV _ _ _).slots[_]? = _; rw [arrV_read _ _ hlt]; show some (va_rf ((mR μ a i.toNatClampNeg).map _)) = _; rw [h]; rfl) rfl rfl d (kk H locs ls a1 b e)
  · cases h
theorem aw_aL (C : Ctx G X cc nL own rm) {a : Nat} {x : Int32} (h : aL a μ = some x) (d : decode cc pc = .ok (.arraylength, 1)) (kk : AW G nL X cells slots (pc + 1) L (.int x :: st) μ) : AW G nL X cells slots pc L (.ref (gZ G + a) :: st) μ := by
  unfold aL at h
  split at h
  · rename_i ha
    cases h
    intro H locs ls a1 b e
    have key : ∃ (cA : ClassId) (y : vp_A) (t0 : Nat) (ty : FieldType), cel G μ a = .inl (cA, y) ∧ y.1 = (mS μ a).2 ∧ (tysOf G)[t0]? = some (cA, ty) := by
      obtain ⟨-, h0, h7⟩ := ha
      rcases (show (mS μ a).1 = 1 ∨ (mS μ a).1 = 2 ∨ (mS μ a).1 = 3 ∨ (mS μ a).1 = 4 ∨ (mS μ a).1 = 5 ∨ (mS μ a).1 = 6 ∨ (mS μ a).1 = 7 by omega) with q | q | q | q | q | q | q
      · exact ⟨_, _, 0, _, cel_1 q, rfl, rfl⟩
      · exact ⟨_, _, 1, _, cel_2 q, rfl, rfl⟩
      · exact ⟨_, _, 2, _, cel_3 q, rfl, rfl⟩
      · exact ⟨_, _, 3, _, cel_r q (by omega), rfl, rfl⟩
      · exact ⟨_, _, 4, _, cel_r q (by omega), rfl, rfl⟩
      · exact ⟨_, _, 5, _, cel_r q (by omega), rfl, rfl⟩
      · exact ⟨_, _, 6, _, cel_r q (by omega), rfl, rfl⟩
    obtain ⟨cA, y, t0, ty, k1, k2, k3⟩ := key
    exact va_alen C.1 C.2.1 C.2.2.2.2.2.1.1 b a t0 (by rw [ws_at ha.1, k1]) k3 (by rw [k2]) d (kk H locs ls a1 b e)
  · cases h
theorem aw_sI (C : Ctx G X cc nL own rm) {a : Nat} {i x : Int32} (h : sI a i x μ = some μ') (d : decode cc pc = .ok (.iastore, 1)) (kk : AW G nL X cells slots (pc + 1) L st μ') : AW G nL X cells slots pc L (.int x :: .int i :: .ref (gZ G + a) :: st) μ := by
  unfold sI at h
  split at h
  · rename_i ha
    cases h
    intro H locs ls a1 b e
    refine va_iast C.1 C.2.1 C.2.2.2.2.2.1.1 b (ws_D G μ) e a 0 (by rw [ws_at ha.1, cel_1 ha.2.1]) rfl ha.2.2 d (fun H1 locs1 hP hD hS => kk H1 locs1 ls a1 ?_ hS)
    have h1 : cel G (wI μ a i.toNatClampNeg x) a = .inl (gC G 1, (mS μ a).2, .inl (upd (mI μ a) i.toNatClampNeg x)) := by
      rw [cel_1 (μ := wI μ a i.toNatClampNeg x) ha.2.1]
      have e2 : mI (wI μ a i.toNatClampNeg x) a = upd (mI μ a) i.toNatClampNeg x := funext fun j => by
        by_cases q : j = i.toNatClampNeg
        · subst q; exact (up2_s _ _ _ _).trans (if_pos rfl).symm
        · exact (up2_n _ _ (fun z => q z.2)).trans (if_neg q).symm
      rw [e2]
      rfl
    have e9 := ws_set (G := G) (μ := μ) (μ' := wI μ a i.toNatClampNeg x) (a := a) rfl (fun b hb => wI_ne hb)
    rw [h1] at e9
    show va_P _ _ _ _
    rw [← e9]
    exact hP
  · cases h
theorem aw_sZ (C : Ctx G X cc nL own rm) {a : Nat} {i x : Int32} (h : sZ a i x μ = some μ') (d : decode cc pc = .ok (.bastore, 1)) (kk : AW G nL X cells slots (pc + 1) L st μ') : AW G nL X cells slots pc L (.int x :: .int i :: .ref (gZ G + a) :: st) μ := by
  unfold sZ at h
  split at h
  · rename_i ha
    cases h
    obtain ⟨ha, hx⟩ := ha
    intro H locs ls a1 b e
    refine va_zast C.1 C.2.1 C.2.2.2.2.2.1.1 b (ws_D G μ) e a 2 (by rw [ws_at ha.1, cel_3 ha.2.1]) rfl ha.2.2 d (fun H1 locs1 hP hD hS => kk H1 locs1 ls a1 ?_ hS)
    have hx2 : vp_nar .boolean x = x := by rcases hx with rfl | rfl <;> rfl
    rw [hx2] at hP
    have h1 : cel G (wI μ a i.toNatClampNeg x) a = .inl (gC G 3, (mS μ a).2, .inl (upd (mI μ a) i.toNatClampNeg x)) := by
      rw [cel_3 (μ := wI μ a i.toNatClampNeg x) ha.2.1]
      have e2 : mI (wI μ a i.toNatClampNeg x) a = upd (mI μ a) i.toNatClampNeg x := funext fun j => by
        by_cases q : j = i.toNatClampNeg
        · subst q; exact (up2_s _ _ _ _).trans (if_pos rfl).symm
        · exact (up2_n _ _ (fun z => q z.2)).trans (if_neg q).symm
      rw [e2]
      rfl
    have e9 := ws_set (G := G) (μ := μ) (μ' := wI μ a i.toNatClampNeg x) (a := a) rfl (fun b hb => wI_ne hb)
    rw [h1] at e9
    show va_P _ _ _ _
    rw [← e9]
    exact hP
  · cases h
theorem aw_sJ (C : Ctx G X cc nL own rm) {a : Nat} {i : Int32} {x : Int64} (h : sJ a i x μ = some μ') (d : decode cc pc = .ok (.lastore, 1)) (kk : AW G nL X cells slots (pc + 1) L st μ') : AW G nL X cells slots pc L (.long x :: .int i :: .ref (gZ G + a) :: st) μ := by
  unfold sJ at h
  split at h
  · rename_i ha
    cases h
    intro H locs ls a1 b e
    refine va_last C.1 C.2.1 C.2.2.2.2.2.1.1 b (ws_D G μ) e a 1 (by rw [ws_at ha.1, cel_2 ha.2.1]) rfl ha.2.2 d (fun H1 locs1 hP hD hS => kk H1 locs1 ls a1 ?_ hS)
    have h1 : cel G (wJ μ a i.toNatClampNeg x) a = .inl (gC G 2, (mS μ a).2, .inr (.inl (vp_updL (mJ μ a) i.toNatClampNeg x))) := by
      rw [cel_2 (μ := wJ μ a i.toNatClampNeg x) ha.2.1]
      have e2 : mJ (wJ μ a i.toNatClampNeg x) a = vp_updL (mJ μ a) i.toNatClampNeg x := funext fun j => by
        by_cases q : j = i.toNatClampNeg
        · subst q; exact (up2_s _ _ _ _).trans (if_pos rfl).symm
        · exact (up2_n _ _ (fun z => q z.2)).trans (if_neg q).symm
      rw [e2]
      rfl
    have e9 := ws_set (G := G) (μ := μ) (μ' := wJ μ a i.toNatClampNeg x) (a := a) rfl (fun b hb => wJ_ne hb)
    rw [h1] at e9
    show va_P _ _ _ _
    rw [← e9]
    exact hP
  · cases h
theorem aw_sR (C : Ctx G X cc nL own rm) {kd ci a x : Nat} {i : Int32} {r : vw_C} (hk : kd = 4 ∨ kd = 5 ∨ kd = 6 ∨ kd = 7) (hc : vwCl[ci]? = some r) (ht : (tysOf G)[kd - 1]? = some (gC G kd, .object r.1)) (h : sR kd ci a i x μ = some μ') (d : decode cc pc = .ok (.aastore, 1)) (kk : AW G nL X cells slots (pc + 1) L st μ') : AW G nL X cells slots pc L (.ref (gZ G + x) :: .int i :: .ref (gZ G + a) :: st) μ := by
  unfold sR at h
  split at h
  · rename_i ha
    cases h
    obtain ⟨ha, hx⟩ := ha
    intro H locs ls a1 b e
    refine va_astq C.1 C.2.1 C.2.2.2.2.2.1.1 b (ws_D G μ) e a (kd - 1) x ci (by rw [ws_at ha.1, cel_r ha.2.1 hk]) ht (by rw [ws_at hx.1, cel_o hx.2]) hc ha.2.2 d (fun H1 locs1 hP hD hS => kk H1 locs1 ls a1 ?_ hS)
    have h1 : cel G (wR μ a i.toNatClampNeg x) a = .inl (gC G kd, (mS μ a).2, .inr (.inr (.inr (.inr (va_up (fun j => (mR μ a j).map (gZ G + ·)) i.toNatClampNeg (some (gZ G + x))))))) := by
      rw [cel_r (μ := wR μ a i.toNatClampNeg x) ha.2.1 hk]
      have e2 : (fun j => (mR (wR μ a i.toNatClampNeg x) a j).map (gZ G + ·)) = va_up (fun j => (mR μ a j).map (gZ G + ·)) i.toNatClampNeg (some (gZ G + x)) := funext fun j => by
        by_cases q : j = i.toNatClampNeg
        · subst q
          have e3 : mR (wR μ a i.toNatClampNeg x) a i.toNatClampNeg = some x := up2_s _ _ _ _
          rw [e3]
          exact (if_pos rfl).symm
        · have e3 : mR (wR μ a i.toNatClampNeg x) a j = mR μ a j := up2_n _ _ (fun z => q z.2)
          rw [e3]
          exact (if_neg q).symm
      rw [e2]
      rfl
    have e9 := ws_set (G := G) (μ := μ) (μ' := wR μ a i.toNatClampNeg x) (a := a) rfl (fun b hb => wR_ne hb)
    rw [h1] at e9
    show va_P _ _ _ _
    rw [← e9]
    exact hP
  · cases h
end AWH
end
section
/-! ===== contracts, calls, returns ===== -/
def PreW (G : GL) (b : Bool) (μ : Mem) (U : State) : Prop := Wd G μ U.heap ∧ KK G U ∧ gZ G ≤ U.heap.size ∧ EX G U U.heap ∧ (b = true → U.heap.size = gZ G + mN μ)
abbrev MtI (G : GL) (l : Launch) (y : MethodName) (cc : ByteArray) (nL : Nat) (ret : Option FieldType) (rm : Room) (b : Bool) (av : List Value) (μ : Mem) (r : Int32) (μ' : Mem) : Prop :=
  Met l y (mws y cc nL ret) rm (va_Pc av (PreW G b μ)) (va_Qi (fun r' (_ : Unit) => r' = r) (fun _ t => Wd G μ' t.heap) (gA G)) rm.cells rm.slots (gA G)
abbrev MtJ (G : GL) (l : Launch) (y : MethodName) (cc : ByteArray) (nL : Nat) (ret : Option FieldType) (rm : Room) (b : Bool) (av : List Value) (μ : Mem) (r : Int64) (μ' : Mem) : Prop :=
  Met l y (mws y cc nL ret) rm (va_Pc av (PreW G b μ)) (va_Ql (fun r' (_ : Unit) => r' = r) (fun _ t => Wd G μ' t.heap) (gA G)) rm.cells rm.slots (gA G)
abbrev MtV (G : GL) (l : Launch) (y : MethodName) (cc : ByteArray) (nL : Nat) (ret : Option FieldType) (rm : Room) (b : Bool) (av : List Value) (μ : Mem) (μ' : Mem) : Prop :=
  Met l y (mws y cc nL ret) rm (va_Pc av (PreW G b μ)) (va_Qv (fun (_ : Unit) => True) (fun _ t => Wd G μ' t.heap) (gA G)) rm.cells rm.slots (gA G)
/-- what holds of a callee wherever it is called from -/
def CS (y : MethodName) (cc : ByteArray) (nL : Nat) (ret : Option FieldType) (n : Nat) : Prop := Cond.code y cc nL ret ∈ gw ∧ Cond.initialized y.cls ∈ gw ∧ (y.cls ≠ "java/lang/invoke/MethodHandle" ∧ y.cls ≠ "java/lang/invoke/VarHandle" ∧ (parseMethodDescriptor y.desc).map (fun d => d.parameters.length) = some n)
theorem KK.blind {G : GL} {U : State} {g : JFrame} {mk : MethodId} {a : Array Value} (h : KK G U) : KK G (U.calling g mk a) :=
  ⟨va_K.moved (u := U) (U := U.calling g mk a) (Vm.Alike.refl U.vm) h.1, fun w hw => va_Nw.same (u := U) (by
    have := (List.mem_filter.mp hw).2
    cases w <;> first | rfl | cases this) rfl (h.2.1 w hw),
   ⟨va_AO.moved (u := U) (U := U.calling g mk a) (Vm.Alike.refl U.vm) h.2.2.1.1, va_AO.moved (u := U) (U := U.calling g mk a) (Vm.Alike.refl U.vm) h.2.2.1.2.1, va_AO.moved (u := U) (U := U.calling g mk a) (Vm.Alike.refl U.vm) h.2.2.1.2.2.1, AOA.moved (u := U) (U := U.calling g mk a) (Vm.Alike.refl U.vm) h.2.2.1.2.2.2⟩,
   fun i hi => vk_R.same (u := U) rfl (h.2.2.2 i hi)⟩
theorem KK.warm {G : GL} {s U : State} (hW : s.WarmedH U.vm) (h : KK G s) : KK G U := by
  refine ⟨va_K.moved hW.alike h.1, fun w hw => ?_, ⟨h.2.2.1.1.moved hW.alike, h.2.2.1.2.1.moved hW.alike, h.2.2.1.2.2.1.moved hW.alike, h.2.2.1.2.2.2.moved hW.alike⟩, fun i hi => (h.2.2.2 i hi).warm hW⟩
  have hm := (List.mem_filter.mp hw).2
  have h1 := h.2.1 w hw
  cases w <;> first | exact va_Nw.warmM hW h1 | cases hm
theorem blindW {G : GL} {b : Bool} {μ : Mem} {av : List Value} : FrameBlind (va_Pc av (PreW G b μ)) := fun a U g mk q => by
  obtain ⟨q1, q2, q3, q4, q5, q6⟩ := q
  exact ⟨q1, q2, q3.blind, q4, EX.moved (u := U) (U := U.calling g mk a) (Vm.Alike.refl U.vm) q5, q6⟩
theorem gw_in {y : MethodName} {cc : ByteArray} {nL : Nat} {ret : Option FieldType} (h : Cond.code y cc nL ret ∈ gw) : GoodIn gw (mws y cc nL ret) := by
  intro w hw
  rcases List.mem_cons.mp hw with rfl | hw
  · exact ⟨h, (gw_good _ h).2⟩
  · exact ⟨hw, (gw_good _ hw).2⟩
theorem W.size {p : Program} {l : Launch} {e : Env} {R : Room} {s : State} {m : MethodId} {args : Array Value} {below : List Frame} {meth : Method} {c : Code} {H : Heap} {locs : List Loc} {cells slots : Nat} {Q : State → Prop} {g : JFrame} (h : H.size ≤ s.heap.size + cells → W p l e R s m args below meth c H locs cells slots Q g) : W p l e R s m args below meth c H locs cells slots Q g := fun T hT X => h (hT ▸ X.heapSize) T hT X
theorem Wd.low {G : GL} {μ : Mem} {H : Heap} (h : Wd G μ H) (hz : gZ G ≤ H.size) : gZ G + mN μ ≤ H.size := by
  cases hn : mN μ with
  | zero => exact hz
  | succ n =>
    have := (h n _ (ws_at (by rw [hn]; exact Nat.lt_succ_self n))).lt
    simp only at this
    omega
section AWC
variable {G : GL} {X : CX} {cc : ByteArray} {nL : Nat} {own : String} {rm : Room} {cells slots pc : Nat} {L L' : List (Nat × Value)} {st : List Value} {μ μ' : Mem}
variable {y : MethodName} {cc' : ByteArray} {nL' n idx : Nat} {ret' : Option FieldType} {rm' : Room} {b : Bool} {As : List Value}
/-- what a callee's start needs, out of the caller's world -/
theorem preW (C : Ctx G X cc nL own rm) {H : Heap} {locs : List Loc} (hw : Wd G μ H) (hs : va_S (gA G) (xS X).heap H locs) (hb : b = true → H.size = gZ G + mN μ) (U : State) (hU : U.heap = H) (hW : (xS X).WarmedH U.vm) : PreW G b μ U :=
  ⟨by rw [hU]; exact hw, C.2.2.2.2.2.1.warm hW, by rw [hU]; exact Nat.le_trans C.2.2.2.2.2.2.2.1 hs.1, by rw [hU]; exact (C.2.2.2.2.2.2.2.2.kept hs.2.1).moved hW.alike, by rw [hU]; exact hb⟩
theorem szW (C : Ctx G X cc nL own rm) {H : Heap} {locs : List Loc} (hw : Wd G μ H) (hs : va_S (gA G) (xS X).heap H locs) (hz : b = true → (xS X).heap.size + cells = gZ G + mN μ) (h : H.size ≤ (xS X).heap.size + cells) : b = true → H.size = gZ G + mN μ := fun hb => by
  have h1 := hz hb
  have h2 := hw.low (Nat.le_trans C.2.2.2.2.2.2.2.1 hs.1)
  omega
theorem cbS (C : Ctx G X cc nL own rm) (S : CS y cc' nL' ret' n) (hl : Cond.methodLink own idx y ∈ gw) (hR : rm'.frames + 1 ≤ rm.frames ∧ 8 + (nL' + 11) + rm'.locals ≤ rm.locals) : CallB (xR X) (xS X) (xA X) own idx y cc' nL' ret' (mws y cc' nL' ret') rm' rm'.cells rm'.slots n :=
  callB_of n C.2.2.2.2.1 (gw_in S.1) rfl rfl rfl (C.2.2.2.2.1 _ S.2.1) (C.2.2.2.2.1 _ hl) S.2.2 (by rw [C.2.2.2.2.2.2.1]; exact hR)
theorem cbN (C : Ctx G X cc nL own rm) (S : CS y cc' nL' ret' n) {host : String} (hl : Cond.methodLinkNest own idx y host ∈ nestW) (hR : rm'.frames + 1 ≤ rm.frames ∧ 8 + (nL' + 11) + rm'.locals ≤ rm.locals) : va_CN (xR X) (xS X) (xA X) own idx y host cc' nL' ret' (mws y cc' nL' ret') rm' rm'.cells rm'.slots n :=
  va_cnB n C.2.2.2.2.1 (gw_in S.1) rfl rfl rfl (C.2.2.2.2.2.1.2.1 _ hl) (C.2.2.2.2.1 _ S.2.1) S.2.2 (by rw [C.2.2.2.2.2.2.1]; exact hR)
theorem cfix (C : Ctx G X cc nL own rm) : CallFix (xP X) (xM X) (xC X) cc nL (xS X) (xA X) gw own := ⟨C.1, C.2.1, C.2.2.1, C.2.2.2.1, C.2.2.2.2.1⟩
theorem cfR (C : Ctx G X cc nL own rm) (h : cells + rm'.cells ≤ rm.cells ∧ slots + rm'.slots ≤ rm.slots) : cells + rm'.cells ≤ (xR X).cells ∧ slots + rm'.slots ≤ (xR X).slots := by rw [C.2.2.2.2.2.2.1]; exact h
theorem recvW (C : Ctx G X cc nL own rm) {H : Heap} (hw : Wd G μ H) {c a : Nat} {r : vw_C} (hv : vO c a μ = some ()) (hc : vwCl[c]? = some r) : ∃ cellB : Cell, H[gZ G + a]? = some cellB ∧ cellB.vm.isStatics = false ∧ (xS X).vm.findClass r.1 = some cellB.cls := by
  unfold vO at hv
  split at hv
  · rename_i ha
    exact va_recv C.2.2.2.2.2.1.1 hw (ci := c) (q0 := a) hc (by rw [ws_at ha.1, cel_o ha.2])
  · cases hv
theorem aw_callS_I (C : Ctx G X cc nL own rm) {r : Int32} (As : List Value) (st0 : List Value) (hM : MtI G (xL X) y cc' nL' ret' rm' b (As) μ r μ') (S : CS y cc' nL' ret' n) (hl : Cond.methodLink own idx y ∈ gw) (hs : Cond.static y ∈ gw) (hR : rm'.frames + 1 ≤ rm.frames ∧ 8 + (nL' + 11) + rm'.locals ≤ rm.locals) (hf : cells + rm'.cells ≤ rm.cells ∧ slots + rm'.slots ≤ rm.slots) (hn : As.length = n) (hst : st0 = As.reverse ++ st) (hW : (st.map fun v => v.category).sum ≤ 8) (hz0 : b = true → (xS X).heap.size + cells = gZ G + mN μ) (d : decode cc pc = .ok (.invokestatic idx, 3)) (k : AW G nL X (cells + rm'.cells) (slots + rm'.slots) (pc + 3) L (.int r :: st) μ') : AW G nL X cells slots pc L st0 μ := by
  intro H locs ls a1 b1 e
  refine W.size fun hsz => ?_
  refine va_calli (S := Unit) (va_runS (As := As) (rest := st) (cfix C) hM ⟨cbS C S hl hR, C.2.2.2.2.1 _ hs⟩ ⟨blindW, fun U hU hW => ⟨rfl, preW C b1 e (szW C b1 e hz0 hsz) U hU hW⟩⟩ rfl hn a1.1 hst (lv_room hW) d (cfR C hf)) e (fun q _ h => h) (fun q h => h) (fun r0 u t H1 locs1 ht hvm hp hB hz hk hS => ?_)
  cases hp
  exact k H1 locs1 ls a1 (by rw [ht] at hB; exact hB) hS
theorem aw_callS_J (C : Ctx G X cc nL own rm) {r : Int64} (As : List Value) (st0 : List Value) (hM : MtJ G (xL X) y cc' nL' ret' rm' b (As) μ r μ') (S : CS y cc' nL' ret' n) (hl : Cond.methodLink own idx y ∈ gw) (hs : Cond.static y ∈ gw) (hR : rm'.frames + 1 ≤ rm.frames ∧ 8 + (nL' + 11) + rm'.locals ≤ rm.locals) (hf : cells + rm'.cells ≤ rm.cells ∧ slots + rm'.slots ≤ rm.slots) (hn : As.length = n) (hst : st0 = As.reverse ++ st) (hW : (st.map fun v => v.category).sum ≤ 8) (hz0 : b = true → (xS X).heap.size + cells = gZ G + mN μ) (d : decode cc pc = .ok (.invokestatic idx, 3)) (k : AW G nL X (cells + rm'.cells) (slots + rm'.slots) (pc + 3) L (.long r :: st) μ') : AW G nL X cells slots pc L st0 μ := by
  intro H locs ls a1 b1 e
  refine W.size fun hsz => ?_
  refine va_calll (S := Unit) (va_runS (As := As) (rest := st) (cfix C) hM ⟨cbS C S hl hR, C.2.2.2.2.1 _ hs⟩ ⟨blindW, fun U hU hW => ⟨rfl, preW C b1 e (szW C b1 e hz0 hsz) U hU hW⟩⟩ rfl hn a1.1 hst (lv_room hW) d (cfR C hf)) e (fun q _ h => h) (fun q h => h) (fun r0 u t H1 locs1 ht hvm hp hB hz hk hS => ?_)
  cases hp
  exact k H1 locs1 ls a1 (by rw [ht] at hB; exact hB) hS
theorem aw_callS_V (C : Ctx G X cc nL own rm) (As : List Value) (st0 : List Value) (hM : MtV G (xL X) y cc' nL' ret' rm' b (As) μ μ') (S : CS y cc' nL' ret' n) (hl : Cond.methodLink own idx y ∈ gw) (hs : Cond.static y ∈ gw) (hR : rm'.frames + 1 ≤ rm.frames ∧ 8 + (nL' + 11) + rm'.locals ≤ rm.locals) (hf : cells + rm'.cells ≤ rm.cells ∧ slots + rm'.slots ≤ rm.slots) (hn : As.length = n) (hst : st0 = As.reverse ++ st) (hW : (st.map fun v => v.category).sum ≤ 8) (hz0 : b = true → (xS X).heap.size + cells = gZ G + mN μ) (d : decode cc pc = .ok (.invokestatic idx, 3)) (k : AW G nL X (cells + rm'.cells) (slots + rm'.slots) (pc + 3) L (st) μ') : AW G nL X cells slots pc L st0 μ := by
  intro H locs ls a1 b1 e
  refine W.size fun hsz => ?_
  refine va_callv (S := Unit) (va_runS (As := As) (rest := st) (cfix C) hM ⟨cbS C S hl hR, C.2.2.2.2.1 _ hs⟩ ⟨blindW, fun U hU hW => ⟨rfl, preW C b1 e (szW C b1 e hz0 hsz) U hU hW⟩⟩ rfl hn a1.1 hst (lv_room hW) d (cfR C hf)) e (fun q _ h => h) (fun q h => h) (fun u t H1 locs1 ht hvm hp hB hz hk hS => ?_)
  skip
  exact k H1 locs1 ls a1 (by rw [ht] at hB; exact hB) hS
theorem aw_callSN_I (C : Ctx G X cc nL own rm) {r : Int32} {host : String} (As : List Value) (st0 : List Value) (hM : MtI G (xL X) y cc' nL' ret' rm' b (As) μ r μ') (S : CS y cc' nL' ret' n) (hl : Cond.methodLinkNest own idx y host ∈ nestW) (hs : Cond.static y ∈ gw) (hR : rm'.frames + 1 ≤ rm.frames ∧ 8 + (nL' + 11) + rm'.locals ≤ rm.locals) (hf : cells + rm'.cells ≤ rm.cells ∧ slots + rm'.slots ≤ rm.slots) (hn : As.length = n) (hst : st0 = As.reverse ++ st) (hW : (st.map fun v => v.category).sum ≤ 8) (hz0 : b = true → (xS X).heap.size + cells = gZ G + mN μ) (d : decode cc pc = .ok (.invokestatic idx, 3)) (k : AW G nL X (cells + rm'.cells) (slots + rm'.slots) (pc + 3) L (.int r :: st) μ') : AW G nL X cells slots pc L st0 μ := by
  intro H locs ls a1 b1 e
  refine W.size fun hsz => ?_
  refine va_calli (S := Unit) (va_runSN (As := As) (rest := st) (cfix C) hM ⟨cbN C S hl hR, C.2.2.2.2.1 _ hs, trivial⟩ ⟨blindW, fun U hU hW => ⟨rfl, preW C b1 e (szW C b1 e hz0 hsz) U hU hW⟩⟩ rfl hn a1.1 hst (lv_room hW) d (cfR C hf)) e (fun q _ h => h) (fun q h => h) (fun r0 u t H1 locs1 ht hvm hp hB hz hk hS => ?_)
  cases hp
  exact k H1 locs1 ls a1 (by rw [ht] at hB; exact hB) hS
theorem aw_callSN_J (C : Ctx G X cc nL own rm) {r : Int64} {host : String} (As : List Value) (st0 : List Value) (hM : MtJ G (xL X) y cc' nL' ret' rm' b (As) μ r μ') (S : CS y cc' nL' ret' n) (hl : Cond.methodLinkNest own idx y host ∈ nestW) (hs : Cond.static y ∈ gw) (hR : rm'.frames + 1 ≤ rm.frames ∧ 8 + (nL' + 11) + rm'.locals ≤ rm.locals) (hf : cells + rm'.cells ≤ rm.cells ∧ slots + rm'.slots ≤ rm.slots) (hn : As.length = n) (hst : st0 = As.reverse ++ st) (hW : (st.map fun v => v.category).sum ≤ 8) (hz0 : b = true → (xS X).heap.size + cells = gZ G + mN μ) (d : decode cc pc = .ok (.invokestatic idx, 3)) (k : AW G nL X (cells + rm'.cells) (slots + rm'.slots) (pc + 3) L (.long r :: st) μ') : AW G nL X cells slots pc L st0 μ := by
  intro H locs ls a1 b1 e
  refine W.size fun hsz => ?_
  refine va_calll (S := Unit) (va_runSN (As := As) (rest := st) (cfix C) hM ⟨cbN C S hl hR, C.2.2.2.2.1 _ hs, trivial⟩ ⟨blindW, fun U hU hW => ⟨rfl, preW C b1 e (szW C b1 e hz0 hsz) U hU hW⟩⟩ rfl hn a1.1 hst (lv_room hW) d (cfR C hf)) e (fun q _ h => h) (fun q h => h) (fun r0 u t H1 locs1 ht hvm hp hB hz hk hS => ?_)
  cases hp
  exact k H1 locs1 ls a1 (by rw [ht] at hB; exact hB) hS
theorem aw_callSN_V (C : Ctx G X cc nL own rm) {host : String} (As : List Value) (st0 : List Value) (hM : MtV G (xL X) y cc' nL' ret' rm' b (As) μ μ') (S : CS y cc' nL' ret' n) (hl : Cond.methodLinkNest own idx y host ∈ nestW) (hs : Cond.static y ∈ gw) (hR : rm'.frames + 1 ≤ rm.frames ∧ 8 + (nL' + 11) + rm'.locals ≤ rm.locals) (hf : cells + rm'.cells ≤ rm.cells ∧ slots + rm'.slots ≤ rm.slots) (hn : As.length = n) (hst : st0 = As.reverse ++ st) (hW : (st.map fun v => v.category).sum ≤ 8) (hz0 : b = true → (xS X).heap.size + cells = gZ G + mN μ) (d : decode cc pc = .ok (.invokestatic idx, 3)) (k : AW G nL X (cells + rm'.cells) (slots + rm'.slots) (pc + 3) L (st) μ') : AW G nL X cells slots pc L st0 μ := by
  intro H locs ls a1 b1 e
  refine W.size fun hsz => ?_
  refine va_callv (S := Unit) (va_runSN (As := As) (rest := st) (cfix C) hM ⟨cbN C S hl hR, C.2.2.2.2.1 _ hs, trivial⟩ ⟨blindW, fun U hU hW => ⟨rfl, preW C b1 e (szW C b1 e hz0 hsz) U hU hW⟩⟩ rfl hn a1.1 hst (lv_room hW) d (cfR C hf)) e (fun q _ h => h) (fun q h => h) (fun u t H1 locs1 ht hvm hp hB hz hk hS => ?_)
  skip
  exact k H1 locs1 ls a1 (by rw [ht] at hB; exact hB) hS
theorem aw_callV_I (C : Ctx G X cc nL own rm) {a : Nat} {r : Int32} (As : List Value) (st0 : List Value) (hM : MtI G (xL X) y cc' nL' ret' rm' b (.ref (gZ G + a) :: As) μ r μ') (S : CS y cc' nL' ret' n) (hl : Cond.methodLink own idx y ∈ gw) (hi : Cond.instanceMethod y ∈ gw) (hse : Cond.selects y.cls y y ∈ gw) {ci : Nat} {cr : vw_C} (hcl : vwCl[ci]? = some cr) (hcy : cr.1 = y.cls) (hv : vO ci a μ = some ()) (hR : rm'.frames + 1 ≤ rm.frames ∧ 8 + (nL' + 11) + rm'.locals ≤ rm.locals) (hf : cells + rm'.cells ≤ rm.cells ∧ slots + rm'.slots ≤ rm.slots) (hn : As.length = n) (hst : st0 = As.reverse ++ .ref (gZ G + a) :: st) (hW : (st.map fun v => v.category).sum ≤ 8) (hz0 : b = true → (xS X).heap.size + cells = gZ G + mN μ) (d : decode cc pc = .ok (.invokevirtual idx, 3)) (k : AW G nL X (cells + rm'.cells) (slots + rm'.slots) (pc + 3) L (.int r :: st) μ') : AW G nL X cells slots pc L st0 μ := by
  intro H locs ls a1 b1 e
  refine W.size fun hsz => ?_
  refine va_calli (S := Unit) (va_runV (As := As) (rest := st) (cfix C) hM ⟨cbS C S hl hR, C.2.2.2.2.1 _ hi, C.2.2.2.2.1 _ hse⟩ ⟨blindW, hcy ▸ recvW C b1 hv hcl, fun U hU hW => ⟨rfl, preW C b1 e (szW C b1 e hz0 hsz) U hU hW⟩⟩ rfl hn a1.1 hst (lv_room hW) d (cfR C hf)) e (fun q _ h => h) (fun q h => h) (fun r0 u t H1 locs1 ht hvm hp hB hz hk hS => ?_)
  cases hp
  exact k H1 locs1 ls a1 (by rw [ht] at hB; exact hB) hS
theorem aw_callV_J (C : Ctx G X cc nL own rm) {a : Nat} {r : Int64} (As : List Value) (st0 : List Value) (hM : MtJ G (xL X) y cc' nL' ret' rm' b (.ref (gZ G + a) :: As) μ r μ') (S : CS y cc' nL' ret' n) (hl : Cond.methodLink own idx y ∈ gw) (hi : Cond.instanceMethod y ∈ gw) (hse : Cond.selects y.cls y y ∈ gw) {ci : Nat} {cr : vw_C} (hcl : vwCl[ci]? = some cr) (hcy : cr.1 = y.cls) (hv : vO ci a μ = some ()) (hR : rm'.frames + 1 ≤ rm.frames ∧ 8 + (nL' + 11) + rm'.locals ≤ rm.locals) (hf : cells + rm'.cells ≤ rm.cells ∧ slots + rm'.slots ≤ rm.slots) (hn : As.length = n) (hst : st0 = As.reverse ++ .ref (gZ G + a) :: st) (hW : (st.map fun v => v.category).sum ≤ 8) (hz0 : b = true → (xS X).heap.size + cells = gZ G + mN μ) (d : decode cc pc = .ok (.invokevirtual idx, 3)) (k : AW G nL X (cells + rm'.cells) (slots + rm'.slots) (pc + 3) L (.long r :: st) μ') : AW G nL X cells slots pc L st0 μ := by
  intro H locs ls a1 b1 e
  refine W.size fun hsz => ?_
  refine va_calll (S := Unit) (va_runV (As := As) (rest := st) (cfix C) hM ⟨cbS C S hl hR, C.2.2.2.2.1 _ hi, C.2.2.2.2.1 _ hse⟩ ⟨blindW, hcy ▸ recvW C b1 hv hcl, fun U hU hW => ⟨rfl, preW C b1 e (szW C b1 e hz0 hsz) U hU hW⟩⟩ rfl hn a1.1 hst (lv_room hW) d (cfR C hf)) e (fun q _ h => h) (fun q h => h) (fun r0 u t H1 locs1 ht hvm hp hB hz hk hS => ?_)
  cases hp
  exact k H1 locs1 ls a1 (by rw [ht] at hB; exact hB) hS
theorem aw_callV_V (C : Ctx G X cc nL own rm) {a : Nat} (As : List Value) (st0 : List Value) (hM : MtV G (xL X) y cc' nL' ret' rm' b (.ref (gZ G + a) :: As) μ μ') (S : CS y cc' nL' ret' n) (hl : Cond.methodLink own idx y ∈ gw) (hi : Cond.instanceMethod y ∈ gw) (hse : Cond.selects y.cls y y ∈ gw) {ci : Nat} {cr : vw_C} (hcl : vwCl[ci]? = some cr) (hcy : cr.1 = y.cls) (hv : vO ci a μ = some ()) (hR : rm'.frames + 1 ≤ rm.frames ∧ 8 + (nL' + 11) + rm'.locals ≤ rm.locals) (hf : cells + rm'.cells ≤ rm.cells ∧ slots + rm'.slots ≤ rm.slots) (hn : As.length = n) (hst : st0 = As.reverse ++ .ref (gZ G + a) :: st) (hW : (st.map fun v => v.category).sum ≤ 8) (hz0 : b = true → (xS X).heap.size + cells = gZ G + mN μ) (d : decode cc pc = .ok (.invokevirtual idx, 3)) (k : AW G nL X (cells + rm'.cells) (slots + rm'.slots) (pc + 3) L (st) μ') : AW G nL X cells slots pc L st0 μ := by
  intro H locs ls a1 b1 e
  refine W.size fun hsz => ?_
  refine va_callv (S := Unit) (va_runV (As := As) (rest := st) (cfix C) hM ⟨cbS C S hl hR, C.2.2.2.2.1 _ hi, C.2.2.2.2.1 _ hse⟩ ⟨blindW, hcy ▸ recvW C b1 hv hcl, fun U hU hW => ⟨rfl, preW C b1 e (szW C b1 e hz0 hsz) U hU hW⟩⟩ rfl hn a1.1 hst (lv_room hW) d (cfR C hf)) e (fun q _ h => h) (fun q h => h) (fun u t H1 locs1 ht hvm hp hB hz hk hS => ?_)
  skip
  exact k H1 locs1 ls a1 (by rw [ht] at hB; exact hB) hS
theorem aw_callVN_I (C : Ctx G X cc nL own rm) {a : Nat} {r : Int32} {host : String} (As : List Value) (st0 : List Value) (hM : MtI G (xL X) y cc' nL' ret' rm' b (.ref (gZ G + a) :: As) μ r μ') (S : CS y cc' nL' ret' n) (hl : Cond.methodLinkNest own idx y host ∈ nestW) (hi : Cond.instanceMethod y ∈ gw) (hse : Cond.selects y.cls y y ∈ gw) {ci : Nat} {cr : vw_C} (hcl : vwCl[ci]? = some cr) (hcy : cr.1 = y.cls) (hv : vO ci a μ = some ()) (hR : rm'.frames + 1 ≤ rm.frames ∧ 8 + (nL' + 11) + rm'.locals ≤ rm.locals) (hf : cells + rm'.cells ≤ rm.cells ∧ slots + rm'.slots ≤ rm.slots) (hn : As.length = n) (hst : st0 = As.reverse ++ .ref (gZ G + a) :: st) (hW : (st.map fun v => v.category).sum ≤ 8) (hz0 : b = true → (xS X).heap.size + cells = gZ G + mN μ) (d : decode cc pc = .ok (.invokevirtual idx, 3)) (k : AW G nL X (cells + rm'.cells) (slots + rm'.slots) (pc + 3) L (.int r :: st) μ') : AW G nL X cells slots pc L st0 μ := by
  intro H locs ls a1 b1 e
  refine W.size fun hsz => ?_
  refine va_calli (S := Unit) (va_runVN (As := As) (rest := st) (cfix C) hM ⟨cbN C S hl hR, C.2.2.2.2.1 _ hi, C.2.2.2.2.1 _ hse⟩ ⟨blindW, hcy ▸ recvW C b1 hv hcl, fun U hU hW => ⟨rfl, preW C b1 e (szW C b1 e hz0 hsz) U hU hW⟩⟩ rfl hn a1.1 hst (lv_room hW) d (cfR C hf)) e (fun q _ h => h) (fun q h => h) (fun r0 u t H1 locs1 ht hvm hp hB hz hk hS => ?_)
  cases hp
  exact k H1 locs1 ls a1 (by rw [ht] at hB; exact hB) hS
theorem aw_callVN_J (C : Ctx G X cc nL own rm) {a : Nat} {r : Int64} {host : String} (As : List Value) (st0 : List Value) (hM : MtJ G (xL X) y cc' nL' ret' rm' b (.ref (gZ G + a) :: As) μ r μ') (S : CS y cc' nL' ret' n) (hl : Cond.methodLinkNest own idx y host ∈ nestW) (hi : Cond.instanceMethod y ∈ gw) (hse : Cond.selects y.cls y y ∈ gw) {ci : Nat} {cr : vw_C} (hcl : vwCl[ci]? = some cr) (hcy : cr.1 = y.cls) (hv : vO ci a μ = some ()) (hR : rm'.frames + 1 ≤ rm.frames ∧ 8 + (nL' + 11) + rm'.locals ≤ rm.locals) (hf : cells + rm'.cells ≤ rm.cells ∧ slots + rm'.slots ≤ rm.slots) (hn : As.length = n) (hst : st0 = As.reverse ++ .ref (gZ G + a) :: st) (hW : (st.map fun v => v.category).sum ≤ 8) (hz0 : b = true → (xS X).heap.size + cells = gZ G + mN μ) (d : decode cc pc = .ok (.invokevirtual idx, 3)) (k : AW G nL X (cells + rm'.cells) (slots + rm'.slots) (pc + 3) L (.long r :: st) μ') : AW G nL X cells slots pc L st0 μ := by
  intro H locs ls a1 b1 e
  refine W.size fun hsz => ?_
  refine va_calll (S := Unit) (va_runVN (As := As) (rest := st) (cfix C) hM ⟨cbN C S hl hR, C.2.2.2.2.1 _ hi, C.2.2.2.2.1 _ hse⟩ ⟨blindW, hcy ▸ recvW C b1 hv hcl, fun U hU hW => ⟨rfl, preW C b1 e (szW C b1 e hz0 hsz) U hU hW⟩⟩ rfl hn a1.1 hst (lv_room hW) d (cfR C hf)) e (fun q _ h => h) (fun q h => h) (fun r0 u t H1 locs1 ht hvm hp hB hz hk hS => ?_)
  cases hp
  exact k H1 locs1 ls a1 (by rw [ht] at hB; exact hB) hS
theorem aw_callVN_V (C : Ctx G X cc nL own rm) {a : Nat} {host : String} (As : List Value) (st0 : List Value) (hM : MtV G (xL X) y cc' nL' ret' rm' b (.ref (gZ G + a) :: As) μ μ') (S : CS y cc' nL' ret' n) (hl : Cond.methodLinkNest own idx y host ∈ nestW) (hi : Cond.instanceMethod y ∈ gw) (hse : Cond.selects y.cls y y ∈ gw) {ci : Nat} {cr : vw_C} (hcl : vwCl[ci]? = some cr) (hcy : cr.1 = y.cls) (hv : vO ci a μ = some ()) (hR : rm'.frames + 1 ≤ rm.frames ∧ 8 + (nL' + 11) + rm'.locals ≤ rm.locals) (hf : cells + rm'.cells ≤ rm.cells ∧ slots + rm'.slots ≤ rm.slots) (hn : As.length = n) (hst : st0 = As.reverse ++ .ref (gZ G + a) :: st) (hW : (st.map fun v => v.category).sum ≤ 8) (hz0 : b = true → (xS X).heap.size + cells = gZ G + mN μ) (d : decode cc pc = .ok (.invokevirtual idx, 3)) (k : AW G nL X (cells + rm'.cells) (slots + rm'.slots) (pc + 3) L (st) μ') : AW G nL X cells slots pc L st0 μ := by
  intro H locs ls a1 b1 e
  refine W.size fun hsz => ?_
  refine va_callv (S := Unit) (va_runVN (As := As) (rest := st) (cfix C) hM ⟨cbN C S hl hR, C.2.2.2.2.1 _ hi, C.2.2.2.2.1 _ hse⟩ ⟨blindW, hcy ▸ recvW C b1 hv hcl, fun U hU hW => ⟨rfl, preW C b1 e (szW C b1 e hz0 hsz) U hU hW⟩⟩ rfl hn a1.1 hst (lv_room hW) d (cfR C hf)) e (fun q _ h => h) (fun q h => h) (fun u t H1 locs1 ht hvm hp hB hz hk hS => ?_)
  skip
  exact k H1 locs1 ls a1 (by rw [ht] at hB; exact hB) hS
theorem aw_callI_V (C : Ctx G X cc nL own rm) {a : Nat} (As : List Value) (st0 : List Value) (hM : MtV G (xL X) y cc' nL' none rm' b (.ref (gZ G + a) :: As) μ μ') (S : CS y cc' nL' none n) (hl : Cond.methodLink own idx y ∈ gw) (hi : Cond.instanceMethod y ∈ gw) (hnm : y.name = "<init>") (hR : rm'.frames + 1 ≤ rm.frames ∧ 8 + (nL' + 11) + rm'.locals ≤ rm.locals) (hf : cells + rm'.cells ≤ rm.cells ∧ slots + rm'.slots ≤ rm.slots) (hn : As.length = n) (hst : st0 = As.reverse ++ .ref (gZ G + a) :: st) (hW : (st.map fun v => v.category).sum ≤ 8) (hz0 : b = true → (xS X).heap.size + cells = gZ G + mN μ) (d : decode cc pc = .ok (.invokespecial idx, 3)) (k : AW G nL X (cells + rm'.cells) (slots + rm'.slots) (pc + 3) L (st) μ') : AW G nL X cells slots pc L st0 μ := by
  intro H locs ls a1 b1 e
  refine W.size fun hsz => ?_
  refine va_callv (S := Unit) (va_runI (As := As) (rest := st) (cfix C) hM ⟨cbS C S hl hR, hnm, C.2.2.2.2.1 _ hi⟩ ⟨blindW, fun U hU hW => ⟨rfl, preW C b1 e (szW C b1 e hz0 hsz) U hU hW⟩⟩ rfl hn a1.1 hst (lv_room hW) d (cfR C hf)) e (fun q _ h => h) (fun q h => h) (fun u t H1 locs1 ht hvm hp hB hz hk hS => ?_)
  skip
  exact k H1 locs1 ls a1 (by rw [ht] at hB; exact hB) hS
theorem aw_callIN_V (C : Ctx G X cc nL own rm) {a : Nat} {host : String} (As : List Value) (st0 : List Value) (hM : MtV G (xL X) y cc' nL' none rm' b (.ref (gZ G + a) :: As) μ μ') (S : CS y cc' nL' none n) (hl : Cond.methodLinkNest own idx y host ∈ nestW) (hi : Cond.instanceMethod y ∈ gw) (hnm : y.name = "<init>") (hR : rm'.frames + 1 ≤ rm.frames ∧ 8 + (nL' + 11) + rm'.locals ≤ rm.locals) (hf : cells + rm'.cells ≤ rm.cells ∧ slots + rm'.slots ≤ rm.slots) (hn : As.length = n) (hst : st0 = As.reverse ++ .ref (gZ G + a) :: st) (hW : (st.map fun v => v.category).sum ≤ 8) (hz0 : b = true → (xS X).heap.size + cells = gZ G + mN μ) (d : decode cc pc = .ok (.invokespecial idx, 3)) (k : AW G nL X (cells + rm'.cells) (slots + rm'.slots) (pc + 3) L (st) μ') : AW G nL X cells slots pc L st0 μ := by
  intro H locs ls a1 b1 e
  refine W.size fun hsz => ?_
  refine va_callv (S := Unit) (va_runIN (As := As) (rest := st) (cfix C) hM ⟨cbN C S hl hR, hnm, C.2.2.2.2.1 _ hi⟩ ⟨blindW, fun U hU hW => ⟨rfl, preW C b1 e (szW C b1 e hz0 hsz) U hU hW⟩⟩ rfl hn a1.1 hst (lv_room hW) d (cfR C hf)) e (fun q _ h => h) (fun q h => h) (fun u t H1 locs1 ht hvm hp hB hz hk hS => ?_)
  skip
  exact k H1 locs1 ls a1 (by rw [ht] at hB; exact hB) hS
/-- the method's end: an int, a long, nothing -/
def RtI (G : GL) (nL : Nat) (X : CX) (cc : ByteArray) (cells slots : Nat) (r : Int32) (μ : Mem) : Prop := ∀ (pc : Nat) (L : List (Nat × Value)), decode cc pc = .ok (.ireturn, 1) → AW G nL X cells slots pc L [.int r] μ
def RtJ (G : GL) (nL : Nat) (X : CX) (cc : ByteArray) (cells slots : Nat) (r : Int64) (μ : Mem) : Prop := ∀ (pc : Nat) (L : List (Nat × Value)), decode cc pc = .ok (.lreturn, 1) → AW G nL X cells slots pc L [.long r] μ
def RtV (G : GL) (nL : Nat) (X : CX) (cc : ByteArray) (cells slots : Nat) (μ : Mem) : Prop := ∀ (pc : Nat) (L : List (Nat × Value)), decode cc pc = .ok (.return_, 1) → AW G nL X cells slots pc L [] μ
end AWC
theorem met_I {G : GL} {l : Launch} {y : MethodName} {cc : ByteArray} {nL : Nat} {ret : Option FieldType} {rm : Room} {b : Bool} {av : List Value} {μ μ' : Mem} {r : Int32} {ty : FieldType} (hy : plainName y.cls = true) (hret : ret = some ty) (hnr : narrow ty (.int r) = .int r) (hn : (lg_sl av).length ≤ nL)
    (wk : ∀ X : CX, xL X = l → Ctx G X cc nL y.cls rm → (xT X).name = y.name → (b = true → (xS X).heap.size = gZ G + mN μ) → RtI G nL X cc rm.cells rm.slots r μ' → AW G nL X 0 0 0 (lv_args 0 av) [] μ) : MtI G l y cc nL ret rm b av μ r μ' := by
  refine Met.ofW (cc := cc) (maxL := nL) (ret := ret) hy rfl ?_
  intro p e s m args below meth c s₁ B hml hv
  obtain ⟨rfl, hw, hK, hZ, hE, hb⟩ := hv
  have hts := atoms_spec (ws := mws y cc nL ret) B.pre
  have hl := lv_entry av (n := nL) hn
  rw [lg_entry_eq]
  refine wk (p, l, e, rm, s, m, av.toArray, below, meth, c, MQ below (va_Qi (fun r' (_ : Unit) => r' = r) (fun _ t => Wd G μ' t.heap) (gA G)) av.toArray s rm.cells rm.slots (gA G)) rfl ⟨B.exec, B.bytes, hml, findClass_of_methodNamed B.named, fun w hw => hts w (List.mem_cons_of_mem _ hw), hK, rfl, hZ, hE⟩ (name_of_methodNamed B.named B.method).1 hb ?_ s.heap [] _ hl hw va_S.rf
  intro pc L d H locs ls a1 b1 e1
  refine W.zret (ty := ty) B.exec B.bytes (B.returns.trans hret) hnr (fun t ht hW => ⟨⟨r, (), rfl, rfl, by show Wd G μ' t.heap; rw [ht]; exact b1⟩, ?_⟩) e1.2.2 d B.notSynchronized
  exact e1.F ht
theorem met_J {G : GL} {l : Launch} {y : MethodName} {cc : ByteArray} {nL : Nat} {ret : Option FieldType} {rm : Room} {b : Bool} {av : List Value} {μ μ' : Mem} {r : Int64} (hy : plainName y.cls = true) (hret : ret = some .long) (hn : (lg_sl av).length ≤ nL)
    (wk : ∀ X : CX, xL X = l → Ctx G X cc nL y.cls rm → (xT X).name = y.name → (b = true → (xS X).heap.size = gZ G + mN μ) → RtJ G nL X cc rm.cells rm.slots r μ' → AW G nL X 0 0 0 (lv_args 0 av) [] μ) : MtJ G l y cc nL ret rm b av μ r μ' := by
  refine Met.ofW (cc := cc) (maxL := nL) (ret := ret) hy rfl ?_
  intro p e s m args below meth c s₁ B hml hv
  obtain ⟨rfl, hw, hK, hZ, hE, hb⟩ := hv
  have hts := atoms_spec (ws := mws y cc nL ret) B.pre
  have hl := lv_entry av (n := nL) hn
  rw [lg_entry_eq]
  refine wk (p, l, e, rm, s, m, av.toArray, below, meth, c, MQ below (va_Ql (fun r' (_ : Unit) => r' = r) (fun _ t => Wd G μ' t.heap) (gA G)) av.toArray s rm.cells rm.slots (gA G)) rfl ⟨B.exec, B.bytes, hml, findClass_of_methodNamed B.named, fun w hw => hts w (List.mem_cons_of_mem _ hw), hK, rfl, hZ, hE⟩ (name_of_methodNamed B.named B.method).1 hb ?_ s.heap [] _ hl hw va_S.rf
  intro pc L d H locs ls a1 b1 e1
  refine W.lret B.exec B.bytes (B.returns.trans hret) (fun t ht hW => ⟨⟨r, (), rfl, rfl, by show Wd G μ' t.heap; rw [ht]; exact b1⟩, ?_⟩) e1.2.2 d B.notSynchronized
  exact e1.F ht
theorem met_V {G : GL} {l : Launch} {y : MethodName} {cc : ByteArray} {nL : Nat} {ret : Option FieldType} {rm : Room} {b : Bool} {av : List Value} {μ μ' : Mem} (hy : plainName y.cls = true) (hret : ret = none) (hn : (lg_sl av).length ≤ nL)
    (wk : ∀ X : CX, xL X = l → Ctx G X cc nL y.cls rm → (xT X).name = y.name → (b = true → (xS X).heap.size = gZ G + mN μ) → RtV G nL X cc rm.cells rm.slots μ' → AW G nL X 0 0 0 (lv_args 0 av) [] μ) : MtV G l y cc nL ret rm b av μ μ' := by
  refine Met.ofW (cc := cc) (maxL := nL) (ret := ret) hy rfl ?_
  intro p e s m args below meth c s₁ B hml hv
  obtain ⟨rfl, hw, hK, hZ, hE, hb⟩ := hv
  have hts := atoms_spec (ws := mws y cc nL ret) B.pre
  have hl := lv_entry av (n := nL) hn
  rw [lg_entry_eq]
  refine wk (p, l, e, rm, s, m, av.toArray, below, meth, c, MQ below (va_Qv (fun (_ : Unit) => True) (fun _ t => Wd G μ' t.heap) (gA G)) av.toArray s rm.cells rm.slots (gA G)) rfl ⟨B.exec, B.bytes, hml, findClass_of_methodNamed B.named, fun w hw => hts w (List.mem_cons_of_mem _ hw), hK, rfl, hZ, hE⟩ (name_of_methodNamed B.named B.method).1 hb ?_ s.heap [] _ hl hw va_S.rf
  intro pc L d H locs ls a1 b1 e1
  refine W.vret B.exec B.bytes (B.returns.trans hret) (fun t ht hW => ⟨⟨(), rfl, trivial, by show Wd G μ' t.heap; rw [ht]; exact b1⟩, ?_⟩) e1.2.2 d B.notSynchronized
  exact e1.F ht
end
section
/-! ===== small helps of the walks ===== -/
def RtZ (G : GL) (nL : Nat) (X : CX) (cc : ByteArray) (cells slots : Nat) (r : Int32) (μ : Mem) : Prop := ∀ (pc : Nat) (L : List (Nat × Value)), decode cc pc = .ok (.ireturn, 1) → (r = 0 ∨ r = 1) → AW G nL X cells slots pc L [.int r] μ
theorem met_Z {G : GL} {l : Launch} {y : MethodName} {cc : ByteArray} {nL : Nat} {ret : Option FieldType} {rm : Room} {b : Bool} {av : List Value} {μ μ' : Mem} {r : Int32} (hy : plainName y.cls = true) (hret : ret = some .boolean) (hn : (lg_sl av).length ≤ nL)
    (wk : ∀ X : CX, xL X = l → Ctx G X cc nL y.cls rm → (xT X).name = y.name → (b = true → (xS X).heap.size = gZ G + mN μ) → RtZ G nL X cc rm.cells rm.slots r μ' → AW G nL X 0 0 0 (lv_args 0 av) [] μ) : MtI G l y cc nL ret rm b av μ r μ' := by
  refine Met.ofW (cc := cc) (maxL := nL) (ret := ret) hy rfl ?_
  intro p e s m args below meth c s₁ B hml hv
  obtain ⟨rfl, hw, hK, hZ, hE, hb⟩ := hv
  have hts := atoms_spec (ws := mws y cc nL ret) B.pre
  have hl := lv_entry av (n := nL) hn
  rw [lg_entry_eq]
  refine wk (p, l, e, rm, s, m, av.toArray, below, meth, c, MQ below (va_Qi (fun r' (_ : Unit) => r' = r) (fun _ t => Wd G μ' t.heap) (gA G)) av.toArray s rm.cells rm.slots (gA G)) rfl ⟨B.exec, B.bytes, hml, findClass_of_methodNamed B.named, fun w hw => hts w (List.mem_cons_of_mem _ hw), hK, rfl, hZ, hE⟩ (name_of_methodNamed B.named B.method).1 hb ?_ s.heap [] _ hl hw va_S.rf
  intro pc L d hr H locs ls a1 b1 e1
  refine W.zret (ty := .boolean) B.exec B.bytes (B.returns.trans hret) (by rcases hr with rfl | rfl <;> rfl) (fun t ht hW => ⟨⟨r, (), rfl, rfl, by show Wd G μ' t.heap; rw [ht]; exact b1⟩, ?_⟩) e1.2.2 d B.notSynchronized
  exact e1.F ht
theorem tsw_out {x : Int32} (n : Nat) (hn : n < 2 ^ 31) (h : ∀ k : Nat, k < n → ¬ x = Int32.ofNat k) : x.toInt < 0 ∨ (n : Int) - 1 < x.toInt := by
  by_cases h0 : x.toInt < 0
  · exact Or.inl h0
  · by_cases h1 : (n : Int) - 1 < x.toInt
    · exact Or.inr h1
    · exfalso
      have hx : ¬ x < 0 := fun q => h0 (by have := Int32.lt_iff_toInt_lt.mp q; simpa using this)
      obtain ⟨j, hj, e⟩ := nI_of hx
      have ht : x.toInt = (j : Int) := by rw [e]; exact nI_toInt hj
      exact h j (by omega) e
section AWM
variable {G : GL} {X : CX} {cc : ByteArray} {nL : Nat} {own : String} {rm : Room} {cells slots pc : Nat} {L L' : List (Nat × Value)} {st : List Value} {μ μ' : Mem}
variable {y : MethodName} {cc' : ByteArray} {nL' n idx : Nat} {ret' : Option FieldType} {rm' : Room} {b : Bool} {As : List Value}
theorem aw_tin (C : Ctx G X cc nL own rm) {x : Int32} {dflt lo hi off : Int} {offs : Array Int} {len : Nat} (k : Nat) (tgt : Nat) (hx : x = Int32.ofNat k) (d : decode cc pc = .ok (.tableswitch dflt lo hi offs, len)) (h1 : ¬ (Int32.ofNat k).toInt < lo) (h2 : ¬ hi < (Int32.ofNat k).toInt) (ho : offs[((Int32.ofNat k).toInt - lo).toNat]? = some off) (ht : (pc : Int) + off = (tgt : Int)) (kk : AW G nL X cells slots tgt L st μ) : AW G nL X cells slots pc L (.int x :: st) μ := by
  subst hx
  exact fun H locs ls a b e => lv_tableIn C.1 C.2.1 d h1 h2 ho ht (kk H locs ls a b e)
theorem aw_tout (C : Ctx G X cc nL own rm) {x : Int32} {dflt lo hi : Int} {offs : Array Int} {len : Nat} (tgt : Nat) (d : decode cc pc = .ok (.tableswitch dflt lo hi offs, len)) (h : x.toInt < lo ∨ hi < x.toInt) (ht : (pc : Int) + dflt = (tgt : Int)) (kk : AW G nL X cells slots tgt L st μ) : AW G nL X cells slots pc L (.int x :: st) μ := fun H locs ls a b e => lv_tableOut C.1 C.2.1 d h ht (kk H locs ls a b e)
theorem mm_max : Cond.static Lib.Math.max.name ∈ gw ∧ Cond.initialized "java/lang/Math" ∈ gw ∧ Cond.code Lib.Math.max.name Lib.Math.max.code 2 (some .int) ∈ gw := by decide +kernel
theorem aw_mmax (C : Ctx G X cc nL own rm) {x y : Int32} (hl : Cond.methodLink own idx Lib.Math.max.name ∈ gw) (hf : 1 ≤ rm.frames) (ho : 21 ≤ rm.locals) (hc : cells ≤ rm.cells ∧ slots ≤ rm.slots) (hW : (st.map fun v => v.category).sum ≤ 8) (d : decode cc pc = .ok (.invokestatic idx, 3)) (k : AW G nL X cells slots (pc + 3) L (.int (if x < y then y else x) :: st) μ) : AW G nL X cells slots pc L (.int y :: .int x :: st) μ := fun H locs ls a b e => va_mmax C.1 C.2.1 (C.2.2.1.trans a.1.symm) C.2.2.2.1 (C.2.2.2.2.1 _ hl) (C.2.2.2.2.1 _ mm_max.1) (C.2.2.2.2.1 _ mm_max.2.1) (C.2.2.2.2.1 _ mm_max.2.2) (by rw [C.2.2.2.2.2.2.1]; exact hf) (by rw [C.2.2.2.2.2.2.1]; omega) (by rw [C.2.2.2.2.2.2.1]; exact hc.1) (by rw [C.2.2.2.2.2.2.1]; exact hc.2) d (k H locs ls a b e)
theorem mm_min : Cond.static Lib.Math.min.name ∈ gw ∧ Cond.initialized "java/lang/Math" ∈ gw ∧ Cond.code Lib.Math.min.name Lib.Math.min.code 2 (some .int) ∈ gw := by decide +kernel
theorem aw_mmin (C : Ctx G X cc nL own rm) {x y : Int32} (hl : Cond.methodLink own idx Lib.Math.min.name ∈ gw) (hf : 1 ≤ rm.frames) (ho : 21 ≤ rm.locals) (hc : cells ≤ rm.cells ∧ slots ≤ rm.slots) (hW : (st.map fun v => v.category).sum ≤ 8) (d : decode cc pc = .ok (.invokestatic idx, 3)) (k : AW G nL X cells slots (pc + 3) L (.int (if y < x then y else x) :: st) μ) : AW G nL X cells slots pc L (.int y :: .int x :: st) μ := fun H locs ls a b e => va_mmin C.1 C.2.1 (C.2.2.1.trans a.1.symm) C.2.2.2.1 (C.2.2.2.2.1 _ hl) (C.2.2.2.2.1 _ mm_min.1) (C.2.2.2.2.1 _ mm_min.2.1) (C.2.2.2.2.1 _ mm_min.2.2) (by rw [C.2.2.2.2.2.2.1]; exact hf) (by rw [C.2.2.2.2.2.2.1]; omega) (by rw [C.2.2.2.2.2.2.1]; exact hc.1) (by rw [C.2.2.2.2.2.2.1]; exact hc.2) d (k H locs ls a b e)
theorem aw_cS_I (C : Ctx G X cc nL own rm) {r : Int32} (As : List Value) (st0 : List Value) (hM : MtI G (xL X) y cc' nL' ret' rm' false (As) μ r μ') (S : CS y cc' nL' ret' n) (hl : Cond.methodLink own idx y ∈ gw) (hs : Cond.static y ∈ gw) (hR : rm'.frames + 1 ≤ rm.frames ∧ 8 + (nL' + 11) + rm'.locals ≤ rm.locals) (h0 : rm'.cells = 0 ∧ rm'.slots = 0) (hf : cells ≤ rm.cells ∧ slots ≤ rm.slots) (hn : As.length = n) (hst : st0 = As.reverse ++ st) (hW : (st.map fun v => v.category).sum ≤ 8) (d : decode cc pc = .ok (.invokestatic idx, 3)) (k : AW G nL X cells slots (pc + 3) L (.int r :: st) μ') : AW G nL X cells slots pc L st0 μ :=
  aw_callS_I C As st0 hM S hl hs hR (by rw [h0.1, h0.2]; exact hf) hn hst hW (fun q => by cases q) d (by rw [h0.1, h0.2]; exact k)
theorem aw_cS_J (C : Ctx G X cc nL own rm) {r : Int64} (As : List Value) (st0 : List Value) (hM : MtJ G (xL X) y cc' nL' ret' rm' false (As) μ r μ') (S : CS y cc' nL' ret' n) (hl : Cond.methodLink own idx y ∈ gw) (hs : Cond.static y ∈ gw) (hR : rm'.frames + 1 ≤ rm.frames ∧ 8 + (nL' + 11) + rm'.locals ≤ rm.locals) (h0 : rm'.cells = 0 ∧ rm'.slots = 0) (hf : cells ≤ rm.cells ∧ slots ≤ rm.slots) (hn : As.length = n) (hst : st0 = As.reverse ++ st) (hW : (st.map fun v => v.category).sum ≤ 8) (d : decode cc pc = .ok (.invokestatic idx, 3)) (k : AW G nL X cells slots (pc + 3) L (.long r :: st) μ') : AW G nL X cells slots pc L st0 μ :=
  aw_callS_J C As st0 hM S hl hs hR (by rw [h0.1, h0.2]; exact hf) hn hst hW (fun q => by cases q) d (by rw [h0.1, h0.2]; exact k)
theorem aw_cS_V (C : Ctx G X cc nL own rm)  (As : List Value) (st0 : List Value) (hM : MtV G (xL X) y cc' nL' ret' rm' false (As) μ μ') (S : CS y cc' nL' ret' n) (hl : Cond.methodLink own idx y ∈ gw) (hs : Cond.static y ∈ gw) (hR : rm'.frames + 1 ≤ rm.frames ∧ 8 + (nL' + 11) + rm'.locals ≤ rm.locals) (h0 : rm'.cells = 0 ∧ rm'.slots = 0) (hf : cells ≤ rm.cells ∧ slots ≤ rm.slots) (hn : As.length = n) (hst : st0 = As.reverse ++ st) (hW : (st.map fun v => v.category).sum ≤ 8) (d : decode cc pc = .ok (.invokestatic idx, 3)) (k : AW G nL X cells slots (pc + 3) L (st) μ') : AW G nL X cells slots pc L st0 μ :=
  aw_callS_V C As st0 hM S hl hs hR (by rw [h0.1, h0.2]; exact hf) hn hst hW (fun q => by cases q) d (by rw [h0.1, h0.2]; exact k)
theorem aw_cSN_I (C : Ctx G X cc nL own rm) {r : Int32} {host : String} (As : List Value) (st0 : List Value) (hM : MtI G (xL X) y cc' nL' ret' rm' false (As) μ r μ') (S : CS y cc' nL' ret' n) (hl : Cond.methodLinkNest own idx y host ∈ nestW) (hs : Cond.static y ∈ gw) (hR : rm'.frames + 1 ≤ rm.frames ∧ 8 + (nL' + 11) + rm'.locals ≤ rm.locals) (h0 : rm'.cells = 0 ∧ rm'.slots = 0) (hf : cells ≤ rm.cells ∧ slots ≤ rm.slots) (hn : As.length = n) (hst : st0 = As.reverse ++ st) (hW : (st.map fun v => v.category).sum ≤ 8) (d : decode cc pc = .ok (.invokestatic idx, 3)) (k : AW G nL X cells slots (pc + 3) L (.int r :: st) μ') : AW G nL X cells slots pc L st0 μ :=
  aw_callSN_I C As st0 hM S hl hs hR (by rw [h0.1, h0.2]; exact hf) hn hst hW (fun q => by cases q) d (by rw [h0.1, h0.2]; exact k)
theorem aw_cSN_J (C : Ctx G X cc nL own rm) {r : Int64} {host : String} (As : List Value) (st0 : List Value) (hM : MtJ G (xL X) y cc' nL' ret' rm' false (As) μ r μ') (S : CS y cc' nL' ret' n) (hl : Cond.methodLinkNest own idx y host ∈ nestW) (hs : Cond.static y ∈ gw) (hR : rm'.frames + 1 ≤ rm.frames ∧ 8 + (nL' + 11) + rm'.locals ≤ rm.locals) (h0 : rm'.cells = 0 ∧ rm'.slots = 0) (hf : cells ≤ rm.cells ∧ slots ≤ rm.slots) (hn : As.length = n) (hst : st0 = As.reverse ++ st) (hW : (st.map fun v => v.category).sum ≤ 8) (d : decode cc pc = .ok (.invokestatic idx, 3)) (k : AW G nL X cells slots (pc + 3) L (.long r :: st) μ') : AW G nL X cells slots pc L st0 μ :=
  aw_callSN_J C As st0 hM S hl hs hR (by rw [h0.1, h0.2]; exact hf) hn hst hW (fun q => by cases q) d (by rw [h0.1, h0.2]; exact k)
theorem aw_cSN_V (C : Ctx G X cc nL own rm)  {host : String} (As : List Value) (st0 : List Value) (hM : MtV G (xL X) y cc' nL' ret' rm' false (As) μ μ') (S : CS y cc' nL' ret' n) (hl : Cond.methodLinkNest own idx y host ∈ nestW) (hs : Cond.static y ∈ gw) (hR : rm'.frames + 1 ≤ rm.frames ∧ 8 + (nL' + 11) + rm'.locals ≤ rm.locals) (h0 : rm'.cells = 0 ∧ rm'.slots = 0) (hf : cells ≤ rm.cells ∧ slots ≤ rm.slots) (hn : As.length = n) (hst : st0 = As.reverse ++ st) (hW : (st.map fun v => v.category).sum ≤ 8) (d : decode cc pc = .ok (.invokestatic idx, 3)) (k : AW G nL X cells slots (pc + 3) L (st) μ') : AW G nL X cells slots pc L st0 μ :=
  aw_callSN_V C As st0 hM S hl hs hR (by rw [h0.1, h0.2]; exact hf) hn hst hW (fun q => by cases q) d (by rw [h0.1, h0.2]; exact k)
theorem aw_cV_I (C : Ctx G X cc nL own rm) {a : Nat} {r : Int32} (As : List Value) (st0 : List Value) (hM : MtI G (xL X) y cc' nL' ret' rm' false (.ref (gZ G + a) :: As) μ r μ') (S : CS y cc' nL' ret' n) (hl : Cond.methodLink own idx y ∈ gw) (hi : Cond.instanceMethod y ∈ gw) (hse : Cond.selects y.cls y y ∈ gw) {ci : Nat} {cr : vw_C} (hcl : vwCl[ci]? = some cr) (hcy : cr.1 = y.cls) (hv : vO ci a μ = some ()) (hR : rm'.frames + 1 ≤ rm.frames ∧ 8 + (nL' + 11) + rm'.locals ≤ rm.locals) (h0 : rm'.cells = 0 ∧ rm'.slots = 0) (hf : cells ≤ rm.cells ∧ slots ≤ rm.slots) (hn : As.length = n) (hst : st0 = As.reverse ++ .ref (gZ G + a) :: st) (hW : (st.map fun v => v.category).sum ≤ 8) (d : decode cc pc = .ok (.invokevirtual idx, 3)) (k : AW G nL X cells slots (pc + 3) L (.int r :: st) μ') : AW G nL X cells slots pc L st0 μ :=
  aw_callV_I C As st0 hM S hl hi hse hcl hcy hv hR (by rw [h0.1, h0.2]; exact hf) hn hst hW (fun q => by cases q) d (by rw [h0.1, h0.2]; exact k)
theorem aw_cV_J (C : Ctx G X cc nL own rm) {a : Nat} {r : Int64} (As : List Value) (st0 : List Value) (hM : MtJ G (xL X) y cc' nL' ret' rm' false (.ref (gZ G + a) :: As) μ r μ') (S : CS y cc' nL' ret' n) (hl : Cond.methodLink own idx y ∈ gw) (hi : Cond.instanceMethod y ∈ gw) (hse : Cond.selects y.cls y y ∈ gw) {ci : Nat} {cr : vw_C} (hcl : vwCl[ci]? = some cr) (hcy : cr.1 = y.cls) (hv : vO ci a μ = some ()) (hR : rm'.frames + 1 ≤ rm.frames ∧ 8 + (nL' + 11) + rm'.locals ≤ rm.locals) (h0 : rm'.cells = 0 ∧ rm'.slots = 0) (hf : cells ≤ rm.cells ∧ slots ≤ rm.slots) (hn : As.length = n) (hst : st0 = As.reverse ++ .ref (gZ G + a) :: st) (hW : (st.map fun v => v.category).sum ≤ 8) (d : decode cc pc = .ok (.invokevirtual idx, 3)) (k : AW G nL X cells slots (pc + 3) L (.long r :: st) μ') : AW G nL X cells slots pc L st0 μ :=
  aw_callV_J C As st0 hM S hl hi hse hcl hcy hv hR (by rw [h0.1, h0.2]; exact hf) hn hst hW (fun q => by cases q) d (by rw [h0.1, h0.2]; exact k)
theorem aw_cV_V (C : Ctx G X cc nL own rm) {a : Nat}  (As : List Value) (st0 : List Value) (hM : MtV G (xL X) y cc' nL' ret' rm' false (.ref (gZ G + a) :: As) μ μ') (S : CS y cc' nL' ret' n) (hl : Cond.methodLink own idx y ∈ gw) (hi : Cond.instanceMethod y ∈ gw) (hse : Cond.selects y.cls y y ∈ gw) {ci : Nat} {cr : vw_C} (hcl : vwCl[ci]? = some cr) (hcy : cr.1 = y.cls) (hv : vO ci a μ = some ()) (hR : rm'.frames + 1 ≤ rm.frames ∧ 8 + (nL' + 11) + rm'.locals ≤ rm.locals) (h0 : rm'.cells = 0 ∧ rm'.slots = 0) (hf : cells ≤ rm.cells ∧ slots ≤ rm.slots) (hn : As.length = n) (hst : st0 = As.reverse ++ .ref (gZ G + a) :: st) (hW : (st.map fun v => v.category).sum ≤ 8) (d : decode cc pc = .ok (.invokevirtual idx, 3)) (k : AW G nL X cells slots (pc + 3) L (st) μ') : AW G nL X cells slots pc L st0 μ :=
  aw_callV_V C As st0 hM S hl hi hse hcl hcy hv hR (by rw [h0.1, h0.2]; exact hf) hn hst hW (fun q => by cases q) d (by rw [h0.1, h0.2]; exact k)
theorem aw_cVN_I (C : Ctx G X cc nL own rm) {a : Nat} {r : Int32} {host : String} (As : List Value) (st0 : List Value) (hM : MtI G (xL X) y cc' nL' ret' rm' false (.ref (gZ G + a) :: As) μ r μ') (S : CS y cc' nL' ret' n) (hl : Cond.methodLinkNest own idx y host ∈ nestW) (hi : Cond.instanceMethod y ∈ gw) (hse : Cond.selects y.cls y y ∈ gw) {ci : Nat} {cr : vw_C} (hcl : vwCl[ci]? = some cr) (hcy : cr.1 = y.cls) (hv : vO ci a μ = some ()) (hR : rm'.frames + 1 ≤ rm.frames ∧ 8 + (nL' + 11) + rm'.locals ≤ rm.locals) (h0 : rm'.cells = 0 ∧ rm'.slots = 0) (hf : cells ≤ rm.cells ∧ slots ≤ rm.slots) (hn : As.length = n) (hst : st0 = As.reverse ++ .ref (gZ G + a) :: st) (hW : (st.map fun v => v.category).sum ≤ 8) (d : decode cc pc = .ok (.invokevirtual idx, 3)) (k : AW G nL X cells slots (pc + 3) L (.int r :: st) μ') : AW G nL X cells slots pc L st0 μ :=
  aw_callVN_I C As st0 hM S hl hi hse hcl hcy hv hR (by rw [h0.1, h0.2]; exact hf) hn hst hW (fun q => by cases q) d (by rw [h0.1, h0.2]; exact k)
theorem aw_cVN_J (C : Ctx G X cc nL own rm) {a : Nat} {r : Int64} {host : String} (As : List Value) (st0 : List Value) (hM : MtJ G (xL X) y cc' nL' ret' rm' false (.ref (gZ G + a) :: As) μ r μ') (S : CS y cc' nL' ret' n) (hl : Cond.methodLinkNest own idx y host ∈ nestW) (hi : Cond.instanceMethod y ∈ gw) (hse : Cond.selects y.cls y y ∈ gw) {ci : Nat} {cr : vw_C} (hcl : vwCl[ci]? = some cr) (hcy : cr.1 = y.cls) (hv : vO ci a μ = some ()) (hR : rm'.frames + 1 ≤ rm.frames ∧ 8 + (nL' + 11) + rm'.locals ≤ rm.locals) (h0 : rm'.cells = 0 ∧ rm'.slots = 0) (hf : cells ≤ rm.cells ∧ slots ≤ rm.slots) (hn : As.length = n) (hst : st0 = As.reverse ++ .ref (gZ G + a) :: st) (hW : (st.map fun v => v.category).sum ≤ 8) (d : decode cc pc = .ok (.invokevirtual idx, 3)) (k : AW G nL X cells slots (pc + 3) L (.long r :: st) μ') : AW G nL X cells slots pc L st0 μ :=
  aw_callVN_J C As st0 hM S hl hi hse hcl hcy hv hR (by rw [h0.1, h0.2]; exact hf) hn hst hW (fun q => by cases q) d (by rw [h0.1, h0.2]; exact k)
theorem aw_cVN_V (C : Ctx G X cc nL own rm) {a : Nat}  {host : String} (As : List Value) (st0 : List Value) (hM : MtV G (xL X) y cc' nL' ret' rm' false (.ref (gZ G + a) :: As) μ μ') (S : CS y cc' nL' ret' n) (hl : Cond.methodLinkNest own idx y host ∈ nestW) (hi : Cond.instanceMethod y ∈ gw) (hse : Cond.selects y.cls y y ∈ gw) {ci : Nat} {cr : vw_C} (hcl : vwCl[ci]? = some cr) (hcy : cr.1 = y.cls) (hv : vO ci a μ = some ()) (hR : rm'.frames + 1 ≤ rm.frames ∧ 8 + (nL' + 11) + rm'.locals ≤ rm.locals) (h0 : rm'.cells = 0 ∧ rm'.slots = 0) (hf : cells ≤ rm.cells ∧ slots ≤ rm.slots) (hn : As.length = n) (hst : st0 = As.reverse ++ .ref (gZ G + a) :: st) (hW : (st.map fun v => v.category).sum ≤ 8) (d : decode cc pc = .ok (.invokevirtual idx, 3)) (k : AW G nL X cells slots (pc + 3) L (st) μ') : AW G nL X cells slots pc L st0 μ :=
  aw_callVN_V C As st0 hM S hl hi hse hcl hcy hv hR (by rw [h0.1, h0.2]; exact hf) hn hst hW (fun q => by cases q) d (by rw [h0.1, h0.2]; exact k)
end AWM
theorem mg {w : Cond} (i : Nat) (h : tables_1[i]? = some w) (g : goodWord w = true) : w ∈ gw := List.mem_filter.mpr ⟨List.mem_append_right _ (List.mem_of_getElem? h), g⟩
theorem mgs {y : MethodName} {k : Nat} (i : Nat) (h : lw_privs[i]? = some (y, k)) : Cond.selects y.cls y y ∈ gw := List.mem_filter.mpr ⟨List.mem_append_left _ (List.mem_map.mpr ⟨(y, k), List.mem_of_getElem? h, rfl⟩), rfl⟩
theorem mn {w : Cond} (i : Nat) (h : tables_1[i]? = some w) (g : isNest w = true) : w ∈ nestW := List.mem_filter.mpr ⟨List.mem_append_right _ (List.mem_of_getElem? h), g⟩
end
section
/-! ===== new cells, constructors' calls ===== -/
def dfl (c k : Nat) : Value := match fTy c k with
  | 0 => .int 0
  | 1 => .long 0
  | _ => .null
theorem mNew_I {μ : Mem} {sh : Nat × Nat} : mI (mNew μ sh) (mN μ) = fun _ => 0 := if_pos rfl
theorem mNew_J {μ : Mem} {sh : Nat × Nat} : mJ (mNew μ sh) (mN μ) = fun _ => 0 := if_pos rfl
theorem mNew_R {μ : Mem} {sh : Nat × Nat} : mR (mNew μ sh) (mN μ) = fun _ => none := if_pos rfl
theorem mNew_S {μ : Mem} {sh : Nat × Nat} : mS (mNew μ sh) (mN μ) = sh := if_pos rfl
theorem fv_new {G : GL} {μ : Mem} {sh : Nat × Nat} {c k : Nat} : fv G (mNew μ sh) (mN μ) c k = dfl c k := by
  simp only [fv, dfl, mNew_I, mNew_J, mNew_R]
  rfl
section AWN
variable {G : GL} {X : CX} {cc : ByteArray} {nL : Nat} {own : String} {rm : Room} {cells slots pc : Nat} {L L' : List (Nat × Value)} {st : List Value} {μ μ' : Mem}
variable {y : MethodName} {cc' : ByteArray} {nL' n idx : Nat} {ret' : Option FieldType} {rm' : Room} {b : Bool} {As : List Value}
theorem aw_oinit (C : Ctx G X cc nL own rm) {a : Nat} (hl : Cond.methodLink own idx Lib.objectInit ∈ gw) (hi : Cond.instanceMethod Lib.objectInit ∈ gw) (hc : Cond.code Lib.objectInit ⟨#[0xb1]⟩ 1 none ∈ gw) (hf : 1 ≤ rm.frames) (ho : 20 ≤ rm.locals) (hW : (st.map fun v => v.category).sum ≤ 8) (d : decode cc pc = .ok (.invokespecial idx, 3)) (k : AW G nL X cells slots (pc + 3) L st μ) : AW G nL X cells slots pc L (.ref a :: st) μ := fun H locs ls a1 b1 e =>
  W.objInit C.1 C.2.1 C.2.2.2.1 (C.2.2.2.2.1 _ hl) (C.2.2.2.2.1 _ hi) (C.2.2.2.2.1 _ hc) rfl (a1.1.trans C.2.2.1.symm) rfl d (by rw [C.2.2.2.2.2.2.1]; exact hf) (by
    have h9 := lv_room (m := xM X) (pc := pc) (ls := ls) (rest := .ref a :: st) hW
    rw [C.2.2.2.2.2.2.1]
    omega) (k H locs ls a1 b1 e)
theorem aw_new (C : Ctx G X cc nL own rm) {ci N : Nat} {Cn : String} {T : u_T} (c1 s1 : Nat) (t0 : Nat → FieldType) (hc : vwCl[ci]? = some (Cn, T, N)) (hws : ∀ w ∈ u_ws Cn T N, w ∈ gw) (hty : ∀ k, k < N → parseFieldDescriptor (T k).2.2.1 = some (t0 k)) (hN : N = fN ci) (hdf : ∀ j, j < N → defaultValue (t0 j) = dfl ci j) (hcl : Cond.classLink own idx Cn ∈ gw) (hin : Cond.instantiable Cn N ∈ gw) (hini : Cond.initialized Cn ∈ gw) {n0 : Nat} (hb : (xS X).heap.size = gZ G + n0) (h : nO ci (n0 + cells) μ = some μ') (hcells : c1 ≤ rm.cells) (hslots : s1 ≤ rm.slots) (e1 : cells + 1 = c1) (e2 : slots + N = s1) (d : decode cc pc = .ok (.new idx, 3)) (k : AW G nL X c1 s1 (pc + 3) L (.ref (gZ G + (n0 + cells)) :: st) μ') : AW G nL X cells slots pc L st μ := by
  subst e1
  subst e2
  subst hN
  unfold nO at h
  split at h
  · rename_i hm
    cases h
    intro H locs ls a1 b1 e
    refine W.size fun hs => ?_
    have hH : H.size = gZ G + mN μ := szW (b := true) C b1 e (fun _ => by rw [hb, hm]; omega) hs rfl
    have hKn := C.2.2.2.2.2.1.1.1 ci _ hc
    refine W.newcK C.1 C.2.1 C.2.2.2.1 (C.2.2.2.2.1 _ hcl) (C.2.2.2.2.1 _ hin) (C.2.2.2.2.1 _ hini) rfl d (by rw [C.2.2.2.2.2.2.1]; exact hcells) (by rw [C.2.2.2.2.2.2.1]; exact hslots) hKn.2.1 hH fun H1 kC hkC e1 z1 o1 => ?_
    have hk : ∀ (k : Nat) (x : Nat × va_E), (wsOf G μ)[k]? = some x → H1[x.1]? = H[x.1]? := fun k x hx => o1 x.1 (by rw [← hH]; exact (b1 k x hx).lt)
    have hP : Wd G (mNew μ (0, ci)) H1 := by
      show va_P _ _ _ _
      rw [ws_push]
      refine va_P.app (va_P.kept b1 hk) (fun k x hx => ?_)
      have hz : k < 1 := (List.getElem?_eq_some_iff.mp hx).1
      rw [show k = 0 by omega] at hx
      cases hx
      show va_at _ _ _ _
      rw [cel_o (c := ci) mNew_S]
      refine ⟨_, hc, (u_born t0 C.2.2.2.2.1 hws hKn hkC e1 hty).to (fun j hj => ?_)⟩
      rw [hdf j hj]
      show dfl ci j = ((List.range (fN ci)).map (fv G (mNew μ (0, ci)) (mN μ) ci)).getD j .null
      rw [List.getD_eq_getElem?_getD, fs_at hj, fv_new]
      rfl
    have k2 := k H1 locs ls a1 hP ⟨Nat.le_trans e.1 (by omega), fun x h1 h2 => (o1 x (by have := e.1; omega)).trans (e.2.1 x h1 h2), e.2.2⟩
    rw [← hm] at k2
    exact k2
  · cases h
theorem aw_newa (C : Ctx G X cc nL own rm) {kd N' : Nat} {nn : Int32} {ty : FieldType} {at0 : ArrayType} {y0 : (Nat → Int32) ⊕ (Nat → Int64) ⊕ (Nat → UInt32) ⊕ (Nat → UInt64) ⊕ (Nat → Option Nat)} (c1 s1 : Nat) (hat : newarray.typeOf at0 = ty) (ht : (tysOf G)[kd - 1]? = some (gC G kd, ty)) (hra : ∀ (U : State) (cA : ClassId), va_RA U cA ty → U.vm.findClass ("[" ++ ty.toString) = some cA) (hcv : cel G (mNew μ (kd, N')) (mN μ) = .inl (gC G kd, N', y0)) (hvp : vp_cell (gC G kd) (N', y0) = arrV (gC G kd) N' (fun _ => defaultValue ty)) (hcl : Cond.arrayClass ty ∈ gw) {n0 : Nat} (hb : (xS X).heap.size = gZ G + n0) (h : nA kd (n0 + cells) nn μ = some μ') (hNN : nn.toNatClampNeg = N') (hby : N' * componentBytes ty ≤ 536870912) (hcells : c1 ≤ rm.cells) (hslots : s1 ≤ rm.slots) (e1 : cells + 1 = c1) (e2 : slots + N' = s1) (d : decode cc pc = .ok (.newarray at0, 2)) (k : AW G nL X c1 s1 (pc + 2) L (.ref (gZ G + (n0 + cells)) :: st) μ') : AW G nL X cells slots pc L (.int nn :: st) μ := by
  subst e1
  subst e2
  subst hNN
  subst hat
  unfold nA at h
  split at h
  · rename_i hm
    obtain ⟨hm, hnn⟩ := hm
    cases h
    intro H locs ls a1 b1 e
    refine W.size fun hs => ?_
    have hH : H.size = gZ G + mN μ := szW (b := true) C b1 e (fun _ => by rw [hb, hm]; omega) hs rfl
    refine va_newaK C.1 C.2.1 (C.2.2.2.2.1 _ hcl) (g := F0 (xM X) pc ls (.int nn :: st)) rfl d rfl hnn rfl hby (by rw [C.2.2.2.2.2.2.1]; exact hcells) (by rw [C.2.2.2.2.2.2.1]; exact hslots) hH (fun H1 cA e1 z1 o1 _ hf => ?_)
    have hcA : cA = gC G kd := Option.some.inj (hf.symm.trans (hra _ _ (C.2.2.2.2.2.1.1.2 _ _ ht).2))
    subst hcA
    have hk : ∀ (k : Nat) (x : Nat × va_E), (wsOf G μ)[k]? = some x → H1[x.1]? = H[x.1]? := fun k x hx => o1 x.1 (by rw [← hH]; exact (b1 k x hx).lt)
    have hP : Wd G (mNew μ (kd, nn.toNatClampNeg)) H1 := by
      show va_P _ _ _ _
      rw [ws_push]
      refine va_P.app (va_P.kept b1 hk) (fun k x hx => ?_)
      have hz : k < 1 := (List.getElem?_eq_some_iff.mp hx).1
      rw [show k = 0 by omega] at hx
      cases hx
      show va_at _ _ _ _
      rw [hcv]
      show H1[gZ G + mN μ]? = some (vp_cell _ _)
      rw [hvp]
      exact e1
    have k2 := k H1 locs ls a1 hP ⟨Nat.le_trans e.1 (by omega), fun x h1 h2 => (o1 x (by have := e.1; omega)).trans (e.2.1 x h1 h2), e.2.2⟩
    rw [← hm] at k2
    exact k2
  · cases h
theorem cv_1 {N : Nat} : cel G (mNew μ (1, N)) (mN μ) = .inl (gC G 1, N, .inl (fun _ => 0)) := by
  rw [cel_1 (by rw [mNew_S]), mNew_I, mNew_S]
theorem cv_2 {N : Nat} : cel G (mNew μ (2, N)) (mN μ) = .inl (gC G 2, N, .inr (.inl (fun _ => 0))) := by
  rw [cel_2 (by rw [mNew_S]), mNew_J, mNew_S]
theorem cv_3 {N : Nat} : cel G (mNew μ (3, N)) (mN μ) = .inl (gC G 3, N, .inl (fun _ => 0)) := by
  rw [cel_3 (by rw [mNew_S]), mNew_I, mNew_S]
theorem cv_r {kd N : Nat} (hk : kd = 4 ∨ kd = 5 ∨ kd = 6 ∨ kd = 7) : cel G (mNew μ (kd, N)) (mN μ) = .inl (gC G kd, N, .inr (.inr (.inr (.inr (fun _ => none))))) := by
  rw [cel_r (kd := kd) (by rw [mNew_S]) hk, mNew_R, mNew_S]
  rfl
theorem aw_anew (C : Ctx G X cc nL own rm) {kd N' : Nat} {nn : Int32} {Cn : String} (c1 s1 : Nat) (hk : kd = 4 ∨ kd = 5 ∨ kd = 6 ∨ kd = 7) (ht : (tysOf G)[kd - 1]? = some (gC G kd, .object Cn)) (hao : KK G (xS X) → va_AO Cn (xS X)) (hcl : Cond.classLink own idx Cn ∈ gw) {n0 : Nat} (hb : (xS X).heap.size = gZ G + n0) (h : nA kd (n0 + cells) nn μ = some μ') (hNN : nn.toNatClampNeg = N') (hby : N' * 4 ≤ 536870912) (hcells : c1 ≤ rm.cells) (hslots : s1 ≤ rm.slots) (e1 : cells + 1 = c1) (e2 : slots + N' = s1) (d : decode cc pc = .ok (.anewarray idx, 3)) (k : AW G nL X c1 s1 (pc + 3) L (.ref (gZ G + (n0 + cells)) :: st) μ') : AW G nL X cells slots pc L (.int nn :: st) μ := by
  subst e1
  subst e2
  subst hNN
  unfold nA at h
  split at h
  · rename_i hm
    obtain ⟨hm, hnn⟩ := hm
    cases h
    intro H locs ls a1 b1 e
    refine W.size fun hs => ?_
    have hH : H.size = gZ G + mN μ := szW (b := true) C b1 e (fun _ => by rw [hb, hm]; omega) hs rfl
    refine W.anew C.1 C.2.1 C.2.2.2.1 (C.2.2.2.2.1 _ hcl) (va_AO.use (hao C.2.2.2.2.2.1)) rfl d rfl hnn hby (by rw [C.2.2.2.2.2.2.1]; exact hcells) (by rw [C.2.2.2.2.2.2.1]; exact hslots) fun cA kA comp f1 f2 f3 f4 => ?_
    have hra := (C.2.2.2.2.2.1.1.2 _ _ ht).2
    obtain ⟨kB, cB, -, -, -, g4⟩ := hra
    have hcA : cA = gC G kd := Option.some.inj (f1.symm.trans g4)
    subst hcA
    generalize hH1 : H.push ({ cls := gC G kd, slots := Array.replicate nn.toNatClampNeg .null, vm := .none } : Cell) = H1
    have z1 : H1.size = H.size + 1 := by rw [← hH1, Array.size_push]
    have e1 : H1[H.size]? = some (arrV (gC G kd) nn.toNatClampNeg (fun _ => .null)) := by rw [← hH1, Array.getElem?_push_size, ← arrV_new]
    have o1 : ∀ q : Nat, q < H.size → H1[q]? = H[q]? := fun q hq => by rw [← hH1, Array.getElem?_push, if_neg (Nat.ne_of_lt hq)]
    have hk2 : ∀ (k : Nat) (x : Nat × va_E), (wsOf G μ)[k]? = some x → H1[x.1]? = H[x.1]? := fun k x hx => o1 x.1 ((b1 k x hx).lt)
    have hP : Wd G (mNew μ (kd, nn.toNatClampNeg)) H1 := by
      show va_P _ _ _ _
      rw [ws_push]
      refine va_P.app (va_P.kept b1 hk2) (fun k x hx => ?_)
      have hz : k < 1 := (List.getElem?_eq_some_iff.mp hx).1
      rw [show k = 0 by omega] at hx
      cases hx
      show va_at _ _ _ _
      rw [cv_r hk]
      show H1[gZ G + mN μ]? = some (vp_cell _ _)
      rw [vp_cell_q, ← hH]
      exact e1
    have k2 := k H1 locs ls a1 hP ⟨Nat.le_trans e.1 (by omega), fun x h1 h2 => (o1 x (by have := e.1; omega)).trans (e.2.1 x h1 h2), e.2.2⟩
    rw [← hm, ← hH] at k2
    exact k2
  · cases h
theorem ws_grid {N K : Nat} : wsOf G (mGrid μ N K) = (wsOf G μ ++ [(gZ G + mN μ, .inl (gC G 7, N, .inr (.inr (.inr (.inr (fun j => if j < N then some (gZ G + mN μ + 1 + j) else none))))))]) ++ (List.range N).map (fun i => (gZ G + mN μ + 1 + i, .inl (gC G 1, K, .inl (fun _ => 0)))) := by
  apply List.ext_getElem?
  intro i
  have hl : (wsOf G μ).length = mN μ := by simp [wsOf]
  have hN : mN (mGrid μ N K) = mN μ + 1 + N := rfl
  by_cases h1 : i < mN μ
  · rw [ws_at (by rw [hN]; omega), List.getElem?_append_left (by simp [hl]; omega), List.getElem?_append_left (by rw [hl]; exact h1), ws_at h1]
    have q1 : ¬ i = μ.1 := Nat.ne_of_lt h1
    have q2 : ¬ (μ.1 < i ∧ i ≤ μ.1 + N) := fun q => by have := q.1; have h9 : i < μ.1 := h1; omega
    have q3 : ¬ (μ.1 ≤ i ∧ i ≤ μ.1 + N) := fun q => by have := q.1; have h9 : i < μ.1 := h1; omega
    rw [cel_ne (μ := μ) (μ' := mGrid μ N K)]
    · exact (if_neg q1).trans (if_neg q2)
    · exact if_neg q3
    · exact if_neg q3
    · exact (if_neg q1).trans (if_neg q2)
  · by_cases h2 : i = mN μ
    · subst h2
      rw [ws_at (by rw [hN]; omega), List.getElem?_append_left (by simp [hl]), List.getElem?_append_right (by rw [hl]; exact Nat.le_refl _), hl, Nat.sub_self]
      have e1 : mS (mGrid μ N K) (mN μ) = (7, N) := if_pos rfl
      have e2 : mR (mGrid μ N K) (mN μ) = fun j => if j < N then some (mN μ + 1 + j) else none := if_pos rfl
      rw [cel_r (kd := 7) (by rw [e1]) (by decide), e1, e2]
      refine congrArg (fun z => some (gZ G + mN μ, Sum.inl (gC G 7, N, Sum.inr (Sum.inr (Sum.inr (Sum.inr z)))))) (funext fun j => ?_)
      show Option.map (fun x => gZ G + x) (if j < N then some (mN μ + 1 + j) else none) = (if j < N then some (gZ G + mN μ + 1 + j) else none)
      by_cases hj : j < N
      · rw [if_pos hj, if_pos hj]
        show some (gZ G + (mN μ + 1 + j)) = some (gZ G + mN μ + 1 + j)
        rw [show gZ G + (mN μ + 1 + j) = gZ G + mN μ + 1 + j by omega]
      · rw [if_neg hj, if_neg hj]
        rfl
    · by_cases h3 : i < mN μ + 1 + N
      · rw [ws_at (by rw [hN]; exact h3), List.getElem?_append_right (by simp [hl]; omega), List.length_append, hl, List.length_singleton, List.getElem?_map, List.getElem?_range (by omega)]
        have e0 : mN μ < i ∧ i ≤ mN μ + N := ⟨by omega, by omega⟩
        have e1 : mS (mGrid μ N K) i = (1, K) := (if_neg h2).trans (if_pos e0)
        have e2 : mI (mGrid μ N K) i = fun _ => 0 := if_pos ⟨Nat.le_of_lt e0.1, e0.2⟩
        rw [cel_1 (by rw [e1]), e1, e2]
        exact congrArg (fun z => some (z, _)) (by omega)
      · rw [List.getElem?_eq_none (by simp [wsOf, hN]; omega), List.getElem?_eq_none (by simp [hl]; omega)]
theorem aw_mna (C : Ctx G X cc nL own rm) {N K : Nat} {nn kk : Int32} (c1 s1 : Nat) (hcl : Cond.classLink own idx ("[" ++ (FieldType.array .int).toString) ∈ gw) (hac : Cond.arrayClass .int ∈ gw) {n0 : Nat} (hb : (xS X).heap.size = gZ G + n0) (h : nM (n0 + cells) nn kk μ = some μ') (hNN : nn.toNatClampNeg = N) (hKK : kk.toNatClampNeg = K) (hb1 : N * 4 ≤ 536870912) (hb2 : K * 4 ≤ 536870912) (hb3 : K ≤ 536870912) (hcells : c1 ≤ rm.cells) (hslots : s1 ≤ rm.slots) (e1 : cells + 1 + N = c1) (e2 : slots + N + N * K = s1) (d : decode cc pc = .ok (.multianewarray idx 2, 4)) (k : AW G nL X c1 s1 (pc + 4) L (.ref (gZ G + (n0 + cells)) :: st) μ') : AW G nL X cells slots pc L (.int kk :: .int nn :: st) μ := by
  subst e1
  subst e2
  subst hNN
  subst hKK
  unfold nM at h
  split at h
  · rename_i hm
    obtain ⟨hm, hnn, hkk⟩ := hm
    cases h
    intro H locs ls a1 b1 e
    refine W.size fun hs => ?_
    have hH : H.size = gZ G + mN μ := szW (b := true) C b1 e (fun _ => by rw [hb, hm]; omega) hs rfl
    intro T hT Xs
    obtain ⟨vm₁, cA, comp, -, fA, fC, -, -, X', step⟩ := Xs.multianewarray2F C.1 C.2.2.2.1 (C.2.2.2.2.1 _ hcl) C.2.2.2.2.2.1.2.2.1.2.2.2 (C.2.2.2.2.1 _ hac) (ty := .int) (g := F0 (xM X) pc ls (.int kk :: .int nn :: st)) rfl (by rw [C.2.1]; exact d) rfl hnn hkk hb1 hb2 hb3 rfl rfl (by rw [C.2.2.2.2.2.2.1]; omega) (by rw [C.2.2.2.2.2.2.1]; omega)
    have hc7 : cA = gC G 7 := Option.some.inj (fA.symm.trans (C.2.2.2.2.2.1.1.2 6 (gC G 7, .array .int) rfl).2)
    have hc1 : comp = gC G 1 := Option.some.inj (fC.symm.trans (C.2.2.2.2.2.1.1.2 0 (gC G 1, .int) rfl).2)
    subst hc7
    subst hc1
    generalize hF : Jvm.Free.Multi.fill (T.setVm vm₁) (gC G 7) (gC G 1) nn.toNatClampNeg kk.toNatClampNeg (defaultValue .int) nn.toNatClampNeg = F at X' step
    have hTh : (T.setVm vm₁).heap = H := hT
    obtain ⟨f1, f2, -, -⟩ := Jvm.Free.Multi.fill_facts (T.setVm vm₁) (gC G 7) (gC G 1) nn.toNatClampNeg kk.toNatClampNeg (defaultValue .int) nn.toNatClampNeg
    rw [hF, hTh] at f1 f2
    have hold : ∀ x : Nat, x < H.size → F.heap[x]? = H[x]? := fun x hx => by
      have := Jvm.Free.Multi.fill_old (T.setVm vm₁) (gC G 7) (gC G 1) nn.toNatClampNeg kk.toNatClampNeg (defaultValue .int) (a := x) (by rw [hTh]; exact hx) nn.toNatClampNeg
      rw [hF, hTh] at this
      exact this
    have hrow : ∀ j : Nat, j < nn.toNatClampNeg → F.heap[H.size + 1 + j]? = some (vp_cell (gC G 1) (kk.toNatClampNeg, .inl (fun _ => 0))) := fun j hj => by
      have := Jvm.Free.Multi.fill_inner (T.setVm vm₁) (gC G 7) (gC G 1) nn.toNatClampNeg kk.toNatClampNeg (defaultValue .int) nn.toNatClampNeg j hj
      rw [hF, hTh] at this
      rw [this]
      exact congrArg some (arrV_new _ _ _)
    have hout : ∀ (cx : ClassId) (N9 h9 i : Nat), Jvm.Free.Multi.outerC cx N9 h9 i = arrV cx N9 (fun j => va_rf (if j < i then some (h9 + 1 + j) else none)) := by
      intro cx N9 h9 i
      induction i with
      | zero =>
        show ({ cls := cx, slots := Array.replicate N9 .null, vm := .none } : Cell) = _
        rw [arrV_new]
        refine congrArg (arrV cx N9) (funext fun j => ?_)
        simp [va_rf]
      | succ i ih =>
        show (Jvm.Free.Multi.outerC cx N9 h9 i).setSlot i (.ref (h9 + 1 + i)) = _
        rw [ih, arrV_store]
        refine congrArg (arrV cx N9) (funext fun j => ?_)
        by_cases e : j = i
        · subst e
          simp [updV, va_rf]
        · by_cases h : j < i
          · simp [updV, e, h, Nat.lt_succ_of_lt h]
          · simp [updV, e, h, show ¬ j < i + 1 by omega]
    rw [hout] at f2
    have hP : Wd G (mGrid μ nn.toNatClampNeg kk.toNatClampNeg) F.heap := by
      show va_P _ _ _ _
      rw [ws_grid]
      refine va_P.app (va_P.app (va_P.kept b1 (fun k x hx => hold x.1 ((b1 k x hx).lt))) (fun k x hx => ?_)) (fun k x hx => ?_)
      · have hz : k < 1 := (List.getElem?_eq_some_iff.mp hx).1
        rw [show k = 0 by omega] at hx
        cases hx
        show F.heap[gZ G + mN μ]? = some (vp_cell _ _)
        rw [vp_cell_q, ← hH]
        exact f2
      · obtain ⟨i, hi, rfl⟩ := List.mem_map.mp (List.mem_of_getElem? hx)
        show F.heap[gZ G + mN μ + 1 + i]? = some (vp_cell _ _)
        rw [← hH]
        exact hrow i (List.mem_range.mp hi)
    have k2 := k F.heap locs ls a1 hP ⟨by rw [f1]; have := e.1; omega, fun x h1 h2 => (hold x (by have := e.1; omega)).trans (e.2.1 x h1 h2), e.2.2⟩ F rfl X'
    rw [← hm, ← hH] at k2
    obtain ⟨t, g1, g2⟩ := k2
    refine ⟨t, step t ?_, g2⟩
    have e9 : T.heap.size = H.size := by rw [hT]
    rw [e9]
    exact g1
  · cases h
theorem gnE {n0 : Nat} (h : gN n0 μ = some ()) : mN μ = n0 := by
  unfold gN at h
  split at h
  · assumption
  · cases h
theorem aw_cI_V (C : Ctx G X cc nL own rm) {a n0 : Nat} (c1 s1 : Nat) (As : List Value) (st0 : List Value) (hM : MtV G (xL X) y cc' nL' none rm' true (.ref (gZ G + a) :: As) μ μ') (S : CS y cc' nL' none n) (hl : Cond.methodLink own idx y ∈ gw) (hi : Cond.instanceMethod y ∈ gw) (hnm : y.name = "<init>") (hR : rm'.frames + 1 ≤ rm.frames ∧ 8 + (nL' + 11) + rm'.locals ≤ rm.locals) (hb : (xS X).heap.size = gZ G + n0) (hg : gN (n0 + cells) μ = some ()) (hc1 : c1 ≤ rm.cells) (hs1 : s1 ≤ rm.slots) (e1 : cells + rm'.cells = c1) (e2 : slots + rm'.slots = s1) (hn : As.length = n) (hst : st0 = As.reverse ++ .ref (gZ G + a) :: st) (hW : (st.map fun v => v.category).sum ≤ 8) (d : decode cc pc = .ok (.invokespecial idx, 3)) (k : AW G nL X c1 s1 (pc + 3) L st μ') : AW G nL X cells slots pc L st0 μ := by
  subst e1
  subst e2
  exact aw_callI_V C As st0 hM S hl hi hnm hR ⟨hc1, hs1⟩ hn hst hW (fun _ => by rw [hb, gnE hg]; omega) d k
theorem aw_cIN_V (C : Ctx G X cc nL own rm) {a n0 : Nat} {host : String} (c1 s1 : Nat) (As : List Value) (st0 : List Value) (hM : MtV G (xL X) y cc' nL' none rm' true (.ref (gZ G + a) :: As) μ μ') (S : CS y cc' nL' none n) (hl : Cond.methodLinkNest own idx y host ∈ nestW) (hi : Cond.instanceMethod y ∈ gw) (hnm : y.name = "<init>") (hR : rm'.frames + 1 ≤ rm.frames ∧ 8 + (nL' + 11) + rm'.locals ≤ rm.locals) (hb : (xS X).heap.size = gZ G + n0) (hg : gN (n0 + cells) μ = some ()) (hc1 : c1 ≤ rm.cells) (hs1 : s1 ≤ rm.slots) (e1 : cells + rm'.cells = c1) (e2 : slots + rm'.slots = s1) (hn : As.length = n) (hst : st0 = As.reverse ++ .ref (gZ G + a) :: st) (hW : (st.map fun v => v.category).sum ≤ 8) (d : decode cc pc = .ok (.invokespecial idx, 3)) (k : AW G nL X c1 s1 (pc + 3) L st μ') : AW G nL X cells slots pc L st0 μ := by
  subst e1
  subst e2
  exact aw_callIN_V C As st0 hM S hl hi hnm hR ⟨hc1, hs1⟩ hn hst hW (fun _ => by rw [hb, gnE hg]; omega) d k
end AWN
end
section
theorem dJ0_length_8abf5_0 : decode cJ0_length_8abf5 0 = .ok (.aload_n 0, 1) := by decide +kernel
theorem dJ0_length_8abf5_1 : decode cJ0_length_8abf5 1 = .ok (.getfield 9, 3) := by decide +kernel
theorem dJ0_length_8abf5_4 : decode cJ0_length_8abf5 4 = .ok (.arraylength, 1) := by decide +kernel
theorem dJ0_length_8abf5_5 : decode cJ0_length_8abf5 5 = .ok (.aload_n 0, 1) := by decide +kernel
theorem dJ0_length_8abf5_6 : decode cJ0_length_8abf5 6 = .ok (.invokevirtual 335, 3) := by decide +kernel
theorem dJ0_length_8abf5_9 : decode cJ0_length_8abf5 9 = .ok (.ishr, 1) := by decide +kernel
theorem dJ0_length_8abf5_10 : decode cJ0_length_8abf5 10 = .ok (.ireturn, 1) := by decide +kernel
theorem cs_J0_length_8abf5 : CS yJ0_length_8abf5 cJ0_length_8abf5 1 (some .int) 0 := ⟨mg 603 (by decide +kernel) rfl, mg 15 (by decide +kernel) rfl, by decide +kernel⟩
theorem im_J0_length_8abf5 : Cond.instanceMethod yJ0_length_8abf5 ∈ gw := mg 601 (by decide +kernel) rfl
theorem se_J0_length_8abf5 : Cond.selects "java/lang/String" yJ0_length_8abf5 yJ0_length_8abf5 ∈ gw := mg 602 (by decide +kernel) rfl
theorem dJ0_charAt_5068e_0 : decode cJ0_charAt_5068e 0 = .ok (.aload_n 0, 1) := by decide +kernel
theorem dJ0_charAt_5068e_1 : decode cJ0_charAt_5068e 1 = .ok (.invokevirtual 492, 3) := by decide +kernel
theorem dJ0_charAt_5068e_4 : decode cJ0_charAt_5068e 4 = .ok (.ifCond .eq 12, 3) := by decide +kernel
theorem dJ0_charAt_5068e_7 : decode cJ0_charAt_5068e 7 = .ok (.aload_n 0, 1) := by decide +kernel
theorem dJ0_charAt_5068e_8 : decode cJ0_charAt_5068e 8 = .ok (.getfield 9, 3) := by decide +kernel
theorem dJ0_charAt_5068e_11 : decode cJ0_charAt_5068e 11 = .ok (.iload_n 1, 1) := by decide +kernel
theorem dJ0_charAt_5068e_12 : decode cJ0_charAt_5068e 12 = .ok (.invokestatic 495, 3) := by decide +kernel
theorem dJ0_charAt_5068e_15 : decode cJ0_charAt_5068e 15 = .ok (.ireturn, 1) := by decide +kernel
theorem dJ0_charAt_5068e_16 : decode cJ0_charAt_5068e 16 = .ok (.aload_n 0, 1) := by decide +kernel
theorem dJ0_charAt_5068e_17 : decode cJ0_charAt_5068e 17 = .ok (.getfield 9, 3) := by decide +kernel
theorem dJ0_charAt_5068e_20 : decode cJ0_charAt_5068e 20 = .ok (.iload_n 1, 1) := by decide +kernel
theorem dJ0_charAt_5068e_21 : decode cJ0_charAt_5068e 21 = .ok (.invokestatic 498, 3) := by decide +kernel
theorem dJ0_charAt_5068e_24 : decode cJ0_charAt_5068e 24 = .ok (.ireturn, 1) := by decide +kernel
theorem cs_J0_charAt_5068e : CS yJ0_charAt_5068e cJ0_charAt_5068e 2 (some .char) 1 := ⟨mg 613 (by decide +kernel) rfl, mg 15 (by decide +kernel) rfl, by decide +kernel⟩
theorem im_J0_charAt_5068e : Cond.instanceMethod yJ0_charAt_5068e ∈ gw := mg 611 (by decide +kernel) rfl
theorem se_J0_charAt_5068e : Cond.selects "java/lang/String" yJ0_charAt_5068e yJ0_charAt_5068e ∈ gw := mg 612 (by decide +kernel) rfl
theorem dJ0_coder_7d493_0 : decode cJ0_coder_7d493 0 = .ok (.getstatic 38, 3) := by decide +kernel
theorem dJ0_coder_7d493_3 : decode cJ0_coder_7d493 3 = .ok (.ifCond .eq 10, 3) := by decide +kernel
theorem dJ0_coder_7d493_6 : decode cJ0_coder_7d493 6 = .ok (.aload_n 0, 1) := by decide +kernel
theorem dJ0_coder_7d493_7 : decode cJ0_coder_7d493 7 = .ok (.getfield 15, 3) := by decide +kernel
theorem dJ0_coder_7d493_10 : decode cJ0_coder_7d493 10 = .ok (.goto 4, 3) := by decide +kernel
theorem dJ0_coder_7d493_13 : decode cJ0_coder_7d493 13 = .ok (.iconst 1, 1) := by decide +kernel
theorem dJ0_coder_7d493_14 : decode cJ0_coder_7d493 14 = .ok (.ireturn, 1) := by decide +kernel
theorem cs_J0_coder_7d493 : CS yJ0_coder_7d493 cJ0_coder_7d493 1 (some .byte) 0 := ⟨mg 607 (by decide +kernel) rfl, mg 15 (by decide +kernel) rfl, by decide +kernel⟩
theorem im_J0_coder_7d493 : Cond.instanceMethod yJ0_coder_7d493 ∈ gw := mg 605 (by decide +kernel) rfl
theorem se_J0_coder_7d493 : Cond.selects "java/lang/String" yJ0_coder_7d493 yJ0_coder_7d493 ∈ gw := mg 606 (by decide +kernel) rfl
theorem dJ0_isLatin1_aae02_0 : decode cJ0_isLatin1_aae02 0 = .ok (.getstatic 38, 3) := by decide +kernel
theorem dJ0_isLatin1_aae02_3 : decode cJ0_isLatin1_aae02 3 = .ok (.ifCond .eq 14, 3) := by decide +kernel
theorem dJ0_isLatin1_aae02_6 : decode cJ0_isLatin1_aae02 6 = .ok (.aload_n 0, 1) := by decide +kernel
theorem dJ0_isLatin1_aae02_7 : decode cJ0_isLatin1_aae02 7 = .ok (.getfield 15, 3) := by decide +kernel
theorem dJ0_isLatin1_aae02_10 : decode cJ0_isLatin1_aae02 10 = .ok (.ifCond .ne 7, 3) := by decide +kernel
theorem dJ0_isLatin1_aae02_13 : decode cJ0_isLatin1_aae02 13 = .ok (.iconst 1, 1) := by decide +kernel
theorem dJ0_isLatin1_aae02_14 : decode cJ0_isLatin1_aae02 14 = .ok (.goto 4, 3) := by decide +kernel
theorem dJ0_isLatin1_aae02_17 : decode cJ0_isLatin1_aae02 17 = .ok (.iconst 0, 1) := by decide +kernel
theorem dJ0_isLatin1_aae02_18 : decode cJ0_isLatin1_aae02 18 = .ok (.ireturn, 1) := by decide +kernel
theorem cs_J0_isLatin1_aae02 : CS yJ0_isLatin1_aae02 cJ0_isLatin1_aae02 1 (some .boolean) 0 := ⟨mg 617 (by decide +kernel) rfl, mg 15 (by decide +kernel) rfl, by decide +kernel⟩
theorem im_J0_isLatin1_aae02 : Cond.instanceMethod yJ0_isLatin1_aae02 ∈ gw := mg 615 (by decide +kernel) rfl
theorem se_J0_isLatin1_aae02 : Cond.selects "java/lang/String" yJ0_isLatin1_aae02 yJ0_isLatin1_aae02 ∈ gw := mg 616 (by decide +kernel) rfl
theorem dJ0_checkIndex_df160_0 : decode cJ0_checkIndex_df160 0 = .ok (.iload_n 0, 1) := by decide +kernel
theorem dJ0_checkIndex_df160_1 : decode cJ0_checkIndex_df160 1 = .ok (.iload_n 1, 1) := by decide +kernel
theorem dJ0_checkIndex_df160_2 : decode cJ0_checkIndex_df160 2 = .ok (.getstatic 1053, 3) := by decide +kernel
theorem dJ0_checkIndex_df160_5 : decode cJ0_checkIndex_df160 5 = .ok (.invokestatic 1059, 3) := by decide +kernel
theorem dJ0_checkIndex_df160_8 : decode cJ0_checkIndex_df160 8 = .ok (.pop, 1) := by decide +kernel
theorem dJ0_checkIndex_df160_9 : decode cJ0_checkIndex_df160 9 = .ok (.return_, 1) := by decide +kernel
theorem cs_J0_checkIndex_df160 : CS yJ0_checkIndex_df160 cJ0_checkIndex_df160 2 none 2 := ⟨mg 623 (by decide +kernel) rfl, mg 15 (by decide +kernel) rfl, by decide +kernel⟩
theorem st_J0_checkIndex_df160 : Cond.static yJ0_checkIndex_df160 ∈ gw := mg 622 (by decide +kernel) rfl
theorem dJ1_charAt_3b067_0 : decode cJ1_charAt_3b067 0 = .ok (.iload_n 1, 1) := by decide +kernel
theorem dJ1_charAt_3b067_1 : decode cJ1_charAt_3b067 1 = .ok (.aload_n 0, 1) := by decide +kernel
theorem dJ1_charAt_3b067_2 : decode cJ1_charAt_3b067 2 = .ok (.arraylength, 1) := by decide +kernel
theorem dJ1_charAt_3b067_3 : decode cJ1_charAt_3b067 3 = .ok (.invokestatic 9, 3) := by decide +kernel
theorem dJ1_charAt_3b067_6 : decode cJ1_charAt_3b067 6 = .ok (.aload_n 0, 1) := by decide +kernel
theorem dJ1_charAt_3b067_7 : decode cJ1_charAt_3b067 7 = .ok (.iload_n 1, 1) := by decide +kernel
theorem dJ1_charAt_3b067_8 : decode cJ1_charAt_3b067 8 = .ok (.baload, 1) := by decide +kernel
theorem dJ1_charAt_3b067_9 : decode cJ1_charAt_3b067 9 = .ok (.sipush 255, 3) := by decide +kernel
theorem dJ1_charAt_3b067_12 : decode cJ1_charAt_3b067 12 = .ok (.iand, 1) := by decide +kernel
theorem dJ1_charAt_3b067_13 : decode cJ1_charAt_3b067 13 = .ok (.i2c, 1) := by decide +kernel
theorem dJ1_charAt_3b067_14 : decode cJ1_charAt_3b067 14 = .ok (.ireturn, 1) := by decide +kernel
theorem cs_J1_charAt_3b067 : CS yJ1_charAt_3b067 cJ1_charAt_3b067 2 (some .char) 2 := ⟨mg 620 (by decide +kernel) rfl, mg 16 (by decide +kernel) rfl, by decide +kernel⟩
theorem st_J1_charAt_3b067 : Cond.static yJ1_charAt_3b067 ∈ gw := mg 619 (by decide +kernel) rfl
theorem dJ3_checkIndex_8e157_0 : decode cJ3_checkIndex_8e157 0 = .ok (.iload_n 0, 1) := by decide +kernel
theorem dJ3_checkIndex_8e157_1 : decode cJ3_checkIndex_8e157 1 = .ok (.ifCond .lt 8, 3) := by decide +kernel
theorem dJ3_checkIndex_8e157_4 : decode cJ3_checkIndex_8e157 4 = .ok (.iload_n 0, 1) := by decide +kernel
theorem dJ3_checkIndex_8e157_5 : decode cJ3_checkIndex_8e157 5 = .ok (.iload_n 1, 1) := by decide +kernel
theorem dJ3_checkIndex_8e157_6 : decode cJ3_checkIndex_8e157 6 = .ok (.if_icmp .lt 10, 3) := by decide +kernel
theorem dJ3_checkIndex_8e157_9 : decode cJ3_checkIndex_8e157 9 = .ok (.aload_n 2, 1) := by decide +kernel
theorem dJ3_checkIndex_8e157_10 : decode cJ3_checkIndex_8e157 10 = .ok (.iload_n 0, 1) := by decide +kernel
theorem dJ3_checkIndex_8e157_11 : decode cJ3_checkIndex_8e157 11 = .ok (.iload_n 1, 1) := by decide +kernel
theorem dJ3_checkIndex_8e157_12 : decode cJ3_checkIndex_8e157 12 = .ok (.invokestatic 95, 3) := by decide +kernel
theorem dJ3_checkIndex_8e157_15 : decode cJ3_checkIndex_8e157 15 = .ok (.athrow, 1) := by decide +kernel
theorem dJ3_checkIndex_8e157_16 : decode cJ3_checkIndex_8e157 16 = .ok (.iload_n 0, 1) := by decide +kernel
theorem dJ3_checkIndex_8e157_17 : decode cJ3_checkIndex_8e157 17 = .ok (.ireturn, 1) := by decide +kernel
theorem cs_J3_checkIndex_8e157 : CS yJ3_checkIndex_8e157 cJ3_checkIndex_8e157 3 (some .int) 3 := ⟨mg 628 (by decide +kernel) rfl, mg 17 (by decide +kernel) rfl, by decide +kernel⟩
theorem st_J3_checkIndex_8e157 : Cond.static yJ3_checkIndex_8e157 ∈ gw := mg 627 (by decide +kernel) rfl
theorem ml_J0_335 : Cond.methodLink RJ0 335 yJ0_coder_7d493 ∈ gw := mg 604 (by decide +kernel) rfl
theorem ml_J0_492 : Cond.methodLink RJ0 492 yJ0_isLatin1_aae02 ∈ gw := mg 614 (by decide +kernel) rfl
theorem ml_J0_495 : Cond.methodLink RJ0 495 yJ1_charAt_3b067 ∈ gw := mg 618 (by decide +kernel) rfl
theorem ml_J0_1059 : Cond.methodLink RJ0 1059 yJ3_checkIndex_8e157 ∈ gw := mg 626 (by decide +kernel) rfl
theorem ml_J1_9 : Cond.methodLink RJ1 9 yJ0_checkIndex_df160 ∈ gw := mg 621 (by decide +kernel) rfl
theorem ml_X2_89 : Cond.methodLink RX2 89 yJ0_length_8abf5 ∈ gw := mg 600 (by decide +kernel) rfl
theorem ml_X2_94 : Cond.methodLink RX2 94 yJ0_charAt_5068e ∈ gw := mg 610 (by decide +kernel) rfl
theorem fk_J0_9 : Cond.fieldLink RJ0 9 "java/lang/String" "value" "[B" ∈ gw := mg 1366 (by decide +kernel) rfl
theorem fk_J0_15 : Cond.fieldLink RJ0 15 "java/lang/String" "coder" "B" ∈ gw := mg 1367 (by decide +kernel) rfl
theorem fk_J0_38 : Cond.fieldLink RJ0 38 "java/lang/String" "COMPACT_STRINGS" "Z" ∈ gw := mg 608 (by decide +kernel) rfl
theorem fk_J0_1053 : Cond.fieldLink RJ0 1053 "jdk/internal/util/Preconditions" "SIOOBE_FORMATTER" "Ljava/util/function/BiFunction;" ∈ gw := mg 624 (by decide +kernel) rfl
theorem b_ok : ∀ j, j < 9 → ∀ i, i < sLens.getD j 0 → ((((sByts.getD j []).getD i 0) &&& 255).toUInt32 % 65536).toInt32 = (sByts.getD j []).getD i 0 ∧ narrow .char (.int ((sByts.getD j []).getD i 0)) = .int ((sByts.getD j []).getD i 0) := by decide +kernel
theorem b_len : ∀ j, j < 9 → sLens.getD j 0 < 10 := by decide +kernel
section AWT
variable {G : GL} {X : CX} {cc : ByteArray} {nL : Nat} {own : String} {rm : Room} {cells slots pc : Nat} {L L' : List (Nat × Value)} {st : List Value} {μ μ' : Mem}
variable {y : MethodName} {cc' : ByteArray} {nL' n idx : Nat} {ret' : Option FieldType} {rm' : Room} {As : List Value}
theorem aw_ldcS (C : Ctx G X cc nL RX2 rm) {i j : Nat} (hj : (decide (j < 9) && sIx.getD j 0 == i) = true) (d : decode cc pc = .ok (.ldc i, 2)) (k : AW G nL X cells slots (pc + 2) L (.ref (gK G j) :: st) μ) : AW G nL X cells slots pc L st μ := by
  simp only [Bool.and_eq_true, decide_eq_true_eq, beq_iff_eq] at hj
  obtain ⟨h1, h2⟩ := hj
  subst h2
  exact fun H locs ls a b e => va_ldcS C.1 C.2.1 C.2.2.2.1 (C.2.2.2.2.2.1.2.2.2 j h1) d (k H locs ls a b e)
theorem aw_gets (C : Ctx G X cc nL own rm) {Cn nm ds : String} {v : Value} (hZ : va_Z Cn nm ds v (gA G) (xS X) (xS X).heap) (hl : Cond.fieldLink own idx Cn nm ds ∈ gw) (d : decode cc pc = .ok (.getstatic idx, 3)) (k : AW G nL X cells slots (pc + 3) L (v :: st) μ) : AW G nL X cells slots pc L st μ := fun H locs ls a b e => va_gets C.1 C.2.1 hZ e C.2.2.2.1 (C.2.2.2.2.1 _ hl) (fun _ h => h) d (k H locs ls a b e)
theorem aw_sget (C : Ctx G X cc nL own rm) {Cn nm ds : String} {v : Value} {q : Nat} (hE : va_OF Cn nm ds v q (gA G) (xS X) (xS X).heap) (hl : Cond.fieldLink own idx Cn nm ds ∈ gw) (d : decode cc pc = .ok (.getfield idx, 3)) (k : AW G nL X cells slots (pc + 3) L (v :: st) μ) : AW G nL X cells slots pc L (.ref q :: st) μ := fun H locs ls a b e => vk_getf C.1 C.2.1 hE e C.2.2.2.1 (C.2.2.2.2.1 _ hl) (fun _ h => h) d (k H locs ls a b e)
theorem aw_tlen (C : Ctx G X cc nL own rm) {ty : FieldType} {t N : Nat} {f : Nat → Value} (hT : va_T ty t N f (gA G) (xS X) (xS X).heap) (d : decode cc pc = .ok (.arraylength, 1)) (k : AW G nL X cells slots (pc + 1) L (.int (Int32.ofNat N) :: st) μ) : AW G nL X cells slots pc L (.ref t :: st) μ := fun H locs ls a b e => va_tlen C.1 C.2.1 hT e rfl d (k H locs ls a b e)
theorem aw_tb (C : Ctx G X cc nL own rm) {t N : Nat} {f : Nat → Value} {i : Int32} (hT : va_T .byte t N f (gA G) (xS X) (xS X).heap) (hin : ¬ (i < 0 ∨ N ≤ i.toNatClampNeg)) (d : decode cc pc = .ok (.baload, 1)) (k : AW G nL X cells slots (pc + 1) L (f i.toNatClampNeg :: st) μ) : AW G nL X cells slots pc L (.int i :: .ref t :: st) μ := fun H locs ls a b e => va_tb C.1 C.2.1 hT e hin rfl d (k H locs ls a b e)
theorem aw_i2c (C : Ctx G X cc nL own rm) {x : Int32} (d : decode cc pc = .ok (.i2c, 1)) (k : AW G nL X cells slots (pc + 1) L (.int (x.toUInt32 % 65536).toInt32 :: st) μ) : AW G nL X cells slots pc L (.int x :: st) μ := fun H locs ls a b e => lv_i2c C.1 C.2.1 d rfl (k H locs ls a b e)
/-- a call on a text constant -/
theorem aw_cT_I (C : Ctx G X cc nL own rm) {j : Nat} {r : Int32} (hj : j < 9) (As : List Value) (st0 : List Value) (hM : MtI G (xL X) y cc' nL' ret' rm' false (.ref (gK G j) :: As) μ r μ') (S : CS y cc' nL' ret' n) (hl : Cond.methodLink own idx y ∈ gw) (hi : Cond.instanceMethod y ∈ gw) (hse : Cond.selects "java/lang/String" y y ∈ gw) (hR : rm'.frames + 1 ≤ rm.frames ∧ 8 + (nL' + 11) + rm'.locals ≤ rm.locals) (h0 : rm'.cells = 0 ∧ rm'.slots = 0) (hf : cells ≤ rm.cells ∧ slots ≤ rm.slots) (hn : As.length = n) (hst : st0 = As.reverse ++ .ref (gK G j) :: st) (hW : (st.map fun v => v.category).sum ≤ 8) (d : decode cc pc = .ok (.invokevirtual idx, 3)) (k : AW G nL X cells slots (pc + 3) L (.int r :: st) μ') : AW G nL X cells slots pc L st0 μ := by
  intro H locs ls a1 b1 e
  refine va_calli (S := Unit) (va_runV (As := As) (rest := st) (cfix C) hM ⟨cbS C S hl hR, C.2.2.2.2.1 _ hi, C.2.2.2.2.1 _ hse⟩ ⟨blindW, vk_recv C.2.2.2.2.2.2.2.2.1 hj e, fun U hU hW => ⟨rfl, preW (b := false) C b1 e (fun q => by cases q) U hU hW⟩⟩ rfl hn a1.1 hst (lv_room hW) d (cfR C (by rw [h0.1, h0.2]; exact hf))) e (fun q _ h => h) (fun q h => h) (fun r0 u t H1 locs1 ht hvm hp hB hz hk hS => ?_)
  cases hp
  rw [h0.1, h0.2]
  exact k H1 locs1 ls a1 (by rw [ht] at hB; exact hB) hS
end AWT
def rm_J0_coder_7d493 : Room := { frames := 0, cells := 0, slots := 0, locals := 0 }
def rm_J0_isLatin1_aae02 : Room := { frames := 0, cells := 0, slots := 0, locals := 0 }
def rm_J3_checkIndex_8e157 : Room := { frames := 0, cells := 0, slots := 0, locals := 0 }
def rm_J0_length_8abf5 : Room := { frames := 1, cells := 0, slots := 0, locals := 20 }
def rm_J0_checkIndex_df160 : Room := { frames := 1, cells := 0, slots := 0, locals := 22 }
def rm_J1_charAt_3b067 : Room := { frames := 2, cells := 0, slots := 0, locals := 43 }
def rm_J0_charAt_5068e : Room := { frames := 3, cells := 0, slots := 0, locals := 64 }
set_option maxRecDepth 100000 in
set_option maxHeartbeats 4000000 in
theorem mt_J0_coder_7d493 {G : GL} {l : Launch} {j : Nat} {μ : Mem} (hj : j < 9) : MtI G l yJ0_coder_7d493 cJ0_coder_7d493 1 (some .byte) rm_J0_coder_7d493 false [.ref (gK G j)] μ 0 μ := met_I (by decide) rfl rfl (Nat.le_of_ble_eq_true rfl) (fun X _ C _ _ hret => by
  show AW G 1 X 0 0 0 [(0, .ref (gK G j))] [] μ
  refine aw_gets C C.2.2.2.2.2.2.2.2.2.1 fk_J0_38 dJ0_coder_7d493_0 ?_
  refine aw_if_eq C 13 dJ0_coder_7d493_3 (by decide) (fun c1 => absurd c1 (by decide)) (fun c1 => ?_)
  refine aw_aload_n C 0 dJ0_coder_7d493_6 rfl rfl ?_
  refine aw_sget C (C.2.2.2.2.2.2.2.2.1.1 j hj).2.1 fk_J0_15 dJ0_coder_7d493_7 ?_
  refine aw_goto C 14 dJ0_coder_7d493_10 (by decide) ?_
  exact hret _ _ dJ0_coder_7d493_14)
set_option maxRecDepth 100000 in
set_option maxHeartbeats 4000000 in
theorem mt_J0_isLatin1_aae02 {G : GL} {l : Launch} {j : Nat} {μ : Mem} (hj : j < 9) : MtI G l yJ0_isLatin1_aae02 cJ0_isLatin1_aae02 1 (some .boolean) rm_J0_isLatin1_aae02 false [.ref (gK G j)] μ 1 μ := met_Z (by decide) rfl (Nat.le_of_ble_eq_true rfl) (fun X _ C _ _ hret => by
  show AW G 1 X 0 0 0 [(0, .ref (gK G j))] [] μ
  refine aw_gets C C.2.2.2.2.2.2.2.2.2.1 fk_J0_38 dJ0_isLatin1_aae02_0 ?_
  refine aw_if_eq C 17 dJ0_isLatin1_aae02_3 (by decide) (fun c1 => absurd c1 (by decide)) (fun c1 => ?_)
  refine aw_aload_n C 0 dJ0_isLatin1_aae02_6 rfl rfl ?_
  refine aw_sget C (C.2.2.2.2.2.2.2.2.1.1 j hj).2.1 fk_J0_15 dJ0_isLatin1_aae02_7 ?_
  refine aw_if_ne C 17 dJ0_isLatin1_aae02_10 (by decide) (fun c2 => absurd rfl c2) (fun c2 => ?_)
  refine aw_iconst C 1 dJ0_isLatin1_aae02_13 (by decide) ?_
  refine aw_goto C 18 dJ0_isLatin1_aae02_14 (by decide) ?_
  exact hret _ _ dJ0_isLatin1_aae02_18 (Or.inr rfl))
set_option maxRecDepth 100000 in
set_option maxHeartbeats 4000000 in
theorem mt_J0_length_8abf5 {G : GL} {l : Launch} {j : Nat} {μ : Mem} (hj : j < 9) : MtI G l yJ0_length_8abf5 cJ0_length_8abf5 1 (some .int) rm_J0_length_8abf5 false [.ref (gK G j)] μ (sLen j) μ := met_I (by decide) rfl rfl (Nat.le_of_ble_eq_true rfl) (fun X _ C _ _ hret => by
  show AW G 1 X 0 0 0 [(0, .ref (gK G j))] [] μ
  refine aw_aload_n C 0 dJ0_length_8abf5_0 rfl rfl ?_
  refine aw_sget C (C.2.2.2.2.2.2.2.2.1.1 j hj).2.2.1 fk_J0_9 dJ0_length_8abf5_1 ?_
  refine aw_tlen C (C.2.2.2.2.2.2.2.2.1.1 j hj).2.2.2 dJ0_length_8abf5_4 ?_
  refine aw_aload_n C 0 dJ0_length_8abf5_5 rfl rfl ?_
  refine aw_cT_I C hj [] _ (mt_J0_coder_7d493 hj) cs_J0_coder_7d493 ml_J0_335 im_J0_coder_7d493 se_J0_coder_7d493 ⟨by decide, by decide⟩ ⟨rfl, rfl⟩ ⟨Nat.zero_le _, Nat.zero_le _⟩ rfl rfl (Nat.le_of_ble_eq_true rfl) dJ0_length_8abf5_6 ?_
  refine aw_ishr C dJ0_length_8abf5_9 ?_
  refine aw_topi (sb_shr0 _) ?_
  exact hret _ _ dJ0_length_8abf5_10)
set_option maxRecDepth 100000 in
set_option maxHeartbeats 4000000 in
theorem mt_J3_checkIndex_8e157 {G : GL} {l : Launch} {i k : Int32} {v : Value} {μ : Mem} (hv : v.category = 1) (h0 : ¬ i < 0) (h1 : i < k) : MtI G l yJ3_checkIndex_8e157 cJ3_checkIndex_8e157 3 (some .int) rm_J3_checkIndex_8e157 false [.int i, .int k, v] μ i μ := met_I (by decide) rfl rfl (by rw [show lg_sl [.int i, .int k, v] = [.val (.int i), .val (.int k), .val v] by unfold lg_sl; simp only [List.flatMap_cons, List.flatMap_nil, hv]; rfl]; exact Nat.le_refl _) (fun X _ C _ _ hret => by
  show AW G 3 X 0 0 0 [(0, .int i), (1, .int k), (2, v)] [] μ
  refine aw_iload_n C 0 dJ3_checkIndex_8e157_0 rfl rfl ?_
  refine aw_if_lt C 9 dJ3_checkIndex_8e157_1 (by decide) (fun c1 => absurd c1 h0) (fun c1 => ?_)
  refine aw_iload_n C 0 dJ3_checkIndex_8e157_4 rfl rfl ?_
  refine aw_iload_n C 1 dJ3_checkIndex_8e157_5 rfl rfl ?_
  refine aw_icmp_lt C 16 dJ3_checkIndex_8e157_6 (by decide) (fun c2 => ?_) (fun c2 => absurd h1 c2)
  refine aw_iload_n C 0 dJ3_checkIndex_8e157_16 rfl rfl ?_
  exact hret _ _ dJ3_checkIndex_8e157_17)
set_option maxRecDepth 100000 in
set_option maxHeartbeats 4000000 in
theorem mt_J0_checkIndex_df160 {G : GL} {l : Launch} {i k : Int32} {μ : Mem} (h0 : ¬ i < 0) (h1 : i < k) : MtV G l yJ0_checkIndex_df160 cJ0_checkIndex_df160 2 none rm_J0_checkIndex_df160 false [.int i, .int k] μ μ := met_V (by decide) rfl (Nat.le_of_ble_eq_true rfl) (fun X _ C _ _ hret => by
  show AW G 2 X 0 0 0 [(0, .int i), (1, .int k)] [] μ
  obtain ⟨v, hv, hZ⟩ := C.2.2.2.2.2.2.2.2.2.2
  refine aw_iload_n C 0 dJ0_checkIndex_df160_0 rfl rfl ?_
  refine aw_iload_n C 1 dJ0_checkIndex_df160_1 rfl rfl ?_
  refine aw_gets C hZ fk_J0_1053 dJ0_checkIndex_df160_2 ?_
  refine aw_cS_I C [.int i, .int k, v] _ (mt_J3_checkIndex_8e157 hv h0 h1) cs_J3_checkIndex_8e157 ml_J0_1059 st_J3_checkIndex_8e157 ⟨by decide, by decide⟩ ⟨rfl, rfl⟩ ⟨Nat.zero_le _, Nat.zero_le _⟩ rfl rfl (Nat.le_of_ble_eq_true rfl) dJ0_checkIndex_df160_5 ?_
  refine aw_pop C dJ0_checkIndex_df160_8 rfl ?_
  exact hret _ _ dJ0_checkIndex_df160_9)
theorem ix_lt {i : Int32} {j : Nat} (hj : j < 9) (h : ¬ (i < 0 ∨ sLens.getD j 0 ≤ i.toNatClampNeg)) : ¬ i < 0 ∧ i < Int32.ofNat (sLens.getD j 0) := by
  have h0 : ¬ i < 0 := fun q => h (Or.inl q)
  obtain ⟨k, hk, rfl⟩ := nI_of h0
  refine ⟨h0, ?_⟩
  have h1 : k < sLens.getD j 0 := by
    rw [nI_clamp hk] at h
    omega
  exact nI_lt h1 (by have := b_len j hj; omega)
set_option maxRecDepth 100000 in
set_option maxHeartbeats 4000000 in
theorem mt_J1_charAt_3b067 {G : GL} {l : Launch} {i : Int32} {j : Nat} {μ : Mem} (hj : j < 9) (h : ¬ (i < 0 ∨ sLens.getD j 0 ≤ i.toNatClampNeg)) : MtI G l yJ1_charAt_3b067 cJ1_charAt_3b067 2 (some .char) rm_J1_charAt_3b067 false [.ref (gV G j), .int i] μ ((sByts.getD j []).getD i.toNatClampNeg 0) μ := met_I (by decide) rfl (b_ok j hj _ (by omega)).2 (Nat.le_of_ble_eq_true rfl) (fun X _ C _ _ hret => by
  show AW G 2 X 0 0 0 [(0, .ref (gV G j)), (1, .int i)] [] μ
  have hx := ix_lt hj h
  refine aw_iload_n C 1 dJ1_charAt_3b067_0 rfl rfl ?_
  refine aw_aload_n C 0 dJ1_charAt_3b067_1 rfl rfl ?_
  refine aw_tlen C (C.2.2.2.2.2.2.2.2.1.1 j hj).2.2.2 dJ1_charAt_3b067_2 ?_
  refine aw_cS_V C [.int i, .int (Int32.ofNat (sLens.getD j 0))] _ (mt_J0_checkIndex_df160 hx.1 hx.2) cs_J0_checkIndex_df160 ml_J1_9 st_J0_checkIndex_df160 ⟨by decide, by decide⟩ ⟨rfl, rfl⟩ ⟨Nat.zero_le _, Nat.zero_le _⟩ rfl rfl (Nat.le_of_ble_eq_true rfl) dJ1_charAt_3b067_3 ?_
  refine aw_aload_n C 0 dJ1_charAt_3b067_6 rfl rfl ?_
  refine aw_iload_n C 1 dJ1_charAt_3b067_7 rfl rfl ?_
  refine aw_tb C (C.2.2.2.2.2.2.2.2.1.1 j hj).2.2.2 h dJ1_charAt_3b067_8 ?_
  refine aw_sipush C 255 dJ1_charAt_3b067_9 (by decide) ?_
  refine aw_iand C dJ1_charAt_3b067_12 ?_
  refine aw_i2c C dJ1_charAt_3b067_13 ?_
  refine aw_topi (b_ok j hj _ (by omega)).1 ?_
  exact hret _ _ dJ1_charAt_3b067_14)
set_option maxRecDepth 100000 in
set_option maxHeartbeats 4000000 in
theorem mt_J0_charAt_5068e {G : GL} {l : Launch} {i : Int32} {j : Nat} {μ : Mem} (hj : j < 9) (h : ¬ (i < 0 ∨ sLens.getD j 0 ≤ i.toNatClampNeg)) : MtI G l yJ0_charAt_5068e cJ0_charAt_5068e 2 (some .char) rm_J0_charAt_5068e false [.ref (gK G j), .int i] μ ((sByts.getD j []).getD i.toNatClampNeg 0) μ := met_I (by decide) rfl (b_ok j hj _ (by omega)).2 (Nat.le_of_ble_eq_true rfl) (fun X _ C _ _ hret => by
  show AW G 2 X 0 0 0 [(0, .ref (gK G j)), (1, .int i)] [] μ
  refine aw_aload_n C 0 dJ0_charAt_5068e_0 rfl rfl ?_
  refine aw_cT_I C hj [] _ (mt_J0_isLatin1_aae02 hj) cs_J0_isLatin1_aae02 ml_J0_492 im_J0_isLatin1_aae02 se_J0_isLatin1_aae02 ⟨by decide, by decide⟩ ⟨rfl, rfl⟩ ⟨Nat.zero_le _, Nat.zero_le _⟩ rfl rfl (Nat.le_of_ble_eq_true rfl) dJ0_charAt_5068e_1 ?_
  refine aw_if_eq C 16 dJ0_charAt_5068e_4 (by decide) (fun c1 => absurd c1 (by decide)) (fun c1 => ?_)
  refine aw_aload_n C 0 dJ0_charAt_5068e_7 rfl rfl ?_
  refine aw_sget C (C.2.2.2.2.2.2.2.2.1.1 j hj).2.2.1 fk_J0_9 dJ0_charAt_5068e_8 ?_
  refine aw_iload_n C 1 dJ0_charAt_5068e_11 rfl rfl ?_
  refine aw_cS_I C [.ref (gV G j), .int i] _ (mt_J1_charAt_3b067 hj h) cs_J1_charAt_3b067 ml_J0_495 st_J1_charAt_3b067 ⟨by decide, by decide⟩ ⟨rfl, rfl⟩ ⟨Nat.zero_le _, Nat.zero_le _⟩ rfl rfl (Nat.le_of_ble_eq_true rfl) dJ0_charAt_5068e_12 ?_
  exact hret _ _ dJ0_charAt_5068e_15)
section AWU
variable {G : GL} {X : CX} {cc : ByteArray} {nL : Nat} {own : String} {rm : Room} {cells slots pc idx : Nat} {L L' : List (Nat × Value)} {st : List Value} {μ μ' : Mem}
theorem aw_slen (C : Ctx G X cc nL own rm) {j : Nat} {v : Int32} (hl : Cond.methodLink own idx yJ0_length_8abf5 ∈ gw) (hf : rm_J0_length_8abf5.frames + 1 ≤ rm.frames) (ho : 8 + (1 + 11) + rm_J0_length_8abf5.locals ≤ rm.locals) (hc : cells ≤ rm.cells ∧ slots ≤ rm.slots) (hW : (st.map fun v => v.category).sum ≤ 8) (h : sLe j = some v) (d : decode cc pc = .ok (.invokevirtual idx, 3)) (k : AW G nL X cells slots (pc + 3) L (.int v :: st) μ) : AW G nL X cells slots pc L (.ref (gK G j) :: st) μ := by
  unfold sLe at h
  split at h
  · rename_i hj
    cases h
    exact aw_cT_I C hj [] _ (mt_J0_length_8abf5 hj) cs_J0_length_8abf5 hl im_J0_length_8abf5 se_J0_length_8abf5 ⟨hf, ho⟩ ⟨rfl, rfl⟩ hc rfl rfl hW d k
  · cases h
theorem aw_schr (C : Ctx G X cc nL own rm) {j : Nat} {i v : Int32} (hl : Cond.methodLink own idx yJ0_charAt_5068e ∈ gw) (hf : rm_J0_charAt_5068e.frames + 1 ≤ rm.frames) (ho : 8 + (2 + 11) + rm_J0_charAt_5068e.locals ≤ rm.locals) (hc : cells ≤ rm.cells ∧ slots ≤ rm.slots) (hW : (st.map fun v => v.category).sum ≤ 8) (h : sChr j i = some v) (d : decode cc pc = .ok (.invokevirtual idx, 3)) (k : AW G nL X cells slots (pc + 3) L (.int v :: st) μ) : AW G nL X cells slots pc L (.int i :: .ref (gK G j) :: st) μ := by
  unfold sChr at h
  split at h
  · rename_i hj
    cases h
    exact aw_cT_I C hj.1 [.int i] _ (mt_J0_charAt_5068e hj.1 hj.2) cs_J0_charAt_5068e hl im_J0_charAt_5068e se_J0_charAt_5068e ⟨hf, ho⟩ ⟨rfl, rfl⟩ hc rfl rfl hW d k
  · cases h
end AWU
end
section
/-! ===== the script ===== -/
def SX (G : GL) (X : CX) (b nx : Nat) (xs : Nat → Int32) : Prop := va_X b nx xs (xS X) (xS X).heap ∧ b < (xS X).heap.size ∧ ¬ gA G b
theorem aw_xs {G : GL} {X : CX} {cc : ByteArray} {nL : Nat} {own : String} {rm : Room} {cells slots pc b nx : Nat} {L : List (Nat × Value)} {st : List Value} {μ : Mem} {xs : Nat → Int32} (C : Ctx G X cc nL own rm) (hX : SX G X b nx xs) {i v : Int32} (h : xsA xs nx i = some v) (d : decode cc pc = .ok (.iaload, 1)) (k : AW G nL X cells slots (pc + 1) L (.int v :: st) μ) : AW G nL X cells slots pc L (.int i :: .ref b :: st) μ := by
  unfold xsA at h
  split at h
  · rename_i hi
    cases h
    exact fun H locs ls a1 b1 e => va_sld C.1 C.2.1 hX.1 hX.2.1 hX.2.2 e hi d (k H locs ls a1 b1 e)
  · cases h
theorem aw_xl {G : GL} {X : CX} {cc : ByteArray} {nL : Nat} {own : String} {rm : Room} {cells slots pc b nx : Nat} {L : List (Nat × Value)} {st : List Value} {μ : Mem} {xs : Nat → Int32} (C : Ctx G X cc nL own rm) (hX : SX G X b nx xs) (d : decode cc pc = .ok (.arraylength, 1)) (k : AW G nL X cells slots (pc + 1) L (.int (Int32.ofNat nx) :: st) μ) : AW G nL X cells slots pc L (.ref b :: st) μ := fun H locs ls a1 b1 e => va_slen C.1 C.2.1 hX.1 hX.2.1 hX.2.2 e d (k H locs ls a1 b1 e)
theorem aw_newaI {G : GL} {X : CX} {cc : ByteArray} {nL : Nat} {own : String} {rm : Room} {cells slots pc : Nat} {L : List (Nat × Value)} {st : List Value} {μ μ' : Mem} (C : Ctx G X cc nL own rm) {N' : Nat} {nn : Int32} (c1 s1 : Nat) (hcl : Cond.arrayClass .int ∈ gw) {n0 : Nat} (hb : (xS X).heap.size = gZ G + n0) (h : nA 1 (n0 + cells) nn μ = some μ') (hNN : nn.toNatClampNeg = N') (hby : N' * componentBytes .int ≤ 536870912) (hcells : c1 ≤ rm.cells) (hslots : s1 ≤ rm.slots) (e1 : cells + 1 = c1) (e2 : slots + N' = s1) (d : decode cc pc = .ok (.newarray .int, 2)) (k : AW G nL X c1 s1 (pc + 2) L (.ref (gZ G + (n0 + cells)) :: st) μ') : AW G nL X cells slots pc L (.int nn :: st) μ := aw_newa C (kd := 1) (ty := .int) (at0 := .int) (y0 := .inl (fun _ => 0)) c1 s1 rfl rfl (fun _ _ q => q) cv_1 rfl hcl hb h hNN hby hcells hslots e1 e2 d k
theorem aw_newaJ {G : GL} {X : CX} {cc : ByteArray} {nL : Nat} {own : String} {rm : Room} {cells slots pc : Nat} {L : List (Nat × Value)} {st : List Value} {μ μ' : Mem} (C : Ctx G X cc nL own rm) {N' : Nat} {nn : Int32} (c1 s1 : Nat) (hcl : Cond.arrayClass .long ∈ gw) {n0 : Nat} (hb : (xS X).heap.size = gZ G + n0) (h : nA 2 (n0 + cells) nn μ = some μ') (hNN : nn.toNatClampNeg = N') (hby : N' * componentBytes .long ≤ 536870912) (hcells : c1 ≤ rm.cells) (hslots : s1 ≤ rm.slots) (e1 : cells + 1 = c1) (e2 : slots + N' = s1) (d : decode cc pc = .ok (.newarray .long, 2)) (k : AW G nL X c1 s1 (pc + 2) L (.ref (gZ G + (n0 + cells)) :: st) μ') : AW G nL X cells slots pc L (.int nn :: st) μ := aw_newa C (kd := 2) (ty := .long) (at0 := .long) (y0 := .inr (.inl (fun _ => 0))) c1 s1 rfl rfl (fun _ _ q => q) cv_2 rfl hcl hb h hNN hby hcells hslots e1 e2 d k
theorem aw_newaZ {G : GL} {X : CX} {cc : ByteArray} {nL : Nat} {own : String} {rm : Room} {cells slots pc : Nat} {L : List (Nat × Value)} {st : List Value} {μ μ' : Mem} (C : Ctx G X cc nL own rm) {N' : Nat} {nn : Int32} (c1 s1 : Nat) (hcl : Cond.arrayClass .boolean ∈ gw) {n0 : Nat} (hb : (xS X).heap.size = gZ G + n0) (h : nA 3 (n0 + cells) nn μ = some μ') (hNN : nn.toNatClampNeg = N') (hby : N' * componentBytes .boolean ≤ 536870912) (hcells : c1 ≤ rm.cells) (hslots : s1 ≤ rm.slots) (e1 : cells + 1 = c1) (e2 : slots + N' = s1) (d : decode cc pc = .ok (.newarray .boolean, 2)) (k : AW G nL X c1 s1 (pc + 2) L (.ref (gZ G + (n0 + cells)) :: st) μ') : AW G nL X cells slots pc L (.int nn :: st) μ := aw_newa C (kd := 3) (ty := .boolean) (at0 := .boolean) (y0 := .inl (fun _ => 0)) c1 s1 rfl rfl (fun _ _ q => q) cv_3 rfl hcl hb h hNN hby hcells hslots e1 e2 d k
end
