section
/-! ===== the memory of a run: how many cells there are; their shapes; ints, longs, references by address and place ===== -/
abbrev Mem : Type := Nat × (Nat → Nat × Nat) × (Nat → Nat → Int32) × (Nat → Nat → Int64) × (Nat → Nat → Option Nat)
def mN (μ : Mem) : Nat := μ.1
def mS (μ : Mem) : Nat → Nat × Nat := μ.2.1
def mI (μ : Mem) : Nat → Nat → Int32 := μ.2.2.1
def mJ (μ : Mem) : Nat → Nat → Int64 := μ.2.2.2.1
def mR (μ : Mem) : Nat → Nat → Option Nat := μ.2.2.2.2
def up2 {α : Type} (f : Nat → Nat → α) (a k : Nat) (v : α) : Nat → Nat → α := fun b j => if b = a ∧ j = k then v else f b j
def wI (μ : Mem) (a k : Nat) (v : Int32) : Mem := (μ.1, μ.2.1, up2 μ.2.2.1 a k v, μ.2.2.2.1, μ.2.2.2.2)
def wJ (μ : Mem) (a k : Nat) (v : Int64) : Mem := (μ.1, μ.2.1, μ.2.2.1, up2 μ.2.2.2.1 a k v, μ.2.2.2.2)
def wR (μ : Mem) (a k : Nat) (v : Nat) : Mem := (μ.1, μ.2.1, μ.2.2.1, μ.2.2.2.1, up2 μ.2.2.2.2 a k (some v))
/-- a new cell of a shape, all its places at their defaults -/
def mNew (μ : Mem) (sh : Nat × Nat) : Mem := (μ.1 + 1, va_up μ.2.1 μ.1 sh, va_up μ.2.2.1 μ.1 (fun _ => 0), va_up μ.2.2.2.1 μ.1 (fun _ => 0), va_up μ.2.2.2.2 μ.1 (fun _ => none))
/-! ===== operations on the memory, as partial functions ===== -/
def gI (c k a : Nat) (μ : Mem) : Option Int32 := if a < mN μ ∧ mS μ a = (0, c) then some (mI μ a k) else none
def gJ (c k a : Nat) (μ : Mem) : Option Int64 := if a < mN μ ∧ mS μ a = (0, c) then some (mJ μ a k) else none
def gR (c k a : Nat) (μ : Mem) : Option Nat := if a < mN μ ∧ mS μ a = (0, c) then mR μ a k else none
def pI (c k a : Nat) (x : Int32) (μ : Mem) : Option Mem := if a < mN μ ∧ mS μ a = (0, c) then some (wI μ a k x) else none
def pZ (c k a : Nat) (x : Int32) (μ : Mem) : Option Mem := if (a < mN μ ∧ mS μ a = (0, c)) ∧ (x = 0 ∨ x = 1) then some (wI μ a k x) else none
def pJ (c k a : Nat) (x : Int64) (μ : Mem) : Option Mem := if a < mN μ ∧ mS μ a = (0, c) then some (wJ μ a k x) else none
def pR (c k a : Nat) (x : Nat) (μ : Mem) : Option Mem := if a < mN μ ∧ mS μ a = (0, c) then some (wR μ a k x) else none
def aOk (kd a : Nat) (i : Int32) (μ : Mem) : Prop := a < mN μ ∧ (mS μ a).1 = kd ∧ ¬ (i < 0 ∨ (mS μ a).2 ≤ i.toNatClampNeg)
def aI (a : Nat) (i : Int32) (μ : Mem) : Option Int32 := if a < mN μ ∧ (mS μ a).1 = 1 ∧ ¬ (i < 0 ∨ (mS μ a).2 ≤ i.toNatClampNeg) then some (mI μ a i.toNatClampNeg) else none
def aJ (a : Nat) (i : Int32) (μ : Mem) : Option Int64 := if a < mN μ ∧ (mS μ a).1 = 2 ∧ ¬ (i < 0 ∨ (mS μ a).2 ≤ i.toNatClampNeg) then some (mJ μ a i.toNatClampNeg) else none
def aZ (a : Nat) (i : Int32) (μ : Mem) : Option Int32 := if a < mN μ ∧ (mS μ a).1 = 3 ∧ ¬ (i < 0 ∨ (mS μ a).2 ≤ i.toNatClampNeg) then some (mI μ a i.toNatClampNeg) else none
def aR (kd a : Nat) (i : Int32) (μ : Mem) : Option Nat := if a < mN μ ∧ (mS μ a).1 = kd ∧ ¬ (i < 0 ∨ (mS μ a).2 ≤ i.toNatClampNeg) then mR μ a i.toNatClampNeg else none
def sI (a : Nat) (i : Int32) (x : Int32) (μ : Mem) : Option Mem := if a < mN μ ∧ (mS μ a).1 = 1 ∧ ¬ (i < 0 ∨ (mS μ a).2 ≤ i.toNatClampNeg) then some (wI μ a i.toNatClampNeg x) else none
def sJ (a : Nat) (i : Int32) (x : Int64) (μ : Mem) : Option Mem := if a < mN μ ∧ (mS μ a).1 = 2 ∧ ¬ (i < 0 ∨ (mS μ a).2 ≤ i.toNatClampNeg) then some (wJ μ a i.toNatClampNeg x) else none
def sZ (a : Nat) (i : Int32) (x : Int32) (μ : Mem) : Option Mem := if (a < mN μ ∧ (mS μ a).1 = 3 ∧ ¬ (i < 0 ∨ (mS μ a).2 ≤ i.toNatClampNeg)) ∧ (x = 0 ∨ x = 1) then some (wI μ a i.toNatClampNeg x) else none
def sR (kd c a : Nat) (i : Int32) (b : Nat) (μ : Mem) : Option Mem := if (a < mN μ ∧ (mS μ a).1 = kd ∧ ¬ (i < 0 ∨ (mS μ a).2 ≤ i.toNatClampNeg)) ∧ (b < mN μ ∧ mS μ b = (0, c)) then some (wR μ a i.toNatClampNeg b) else none
def aL (a : Nat) (μ : Mem) : Option Int32 := if a < mN μ ∧ (mS μ a).1 ≠ 0 ∧ (mS μ a).1 ≤ 7 then some (Int32.ofNat (mS μ a).2) else none
def dvI (x y : Int32) : Option Int32 := if y = 0 then none else some (x / y)
def dvJ (x y : Int64) : Option Int64 := if y = 0 then none else some (x / y)
def rmJ (x y : Int64) : Option Int64 := if y = 0 then none else some (x - x / y * y)
/-- an object of a class stands there -/
def vO (c a : Nat) (μ : Mem) : Option Unit := if a < mN μ ∧ mS μ a = (0, c) then some () else none
/-! ===== new cells: the address that is due is named, so that it can be held against the heap ===== -/
def nO (c b : Nat) (μ : Mem) : Option Mem := if mN μ = b then some (mNew μ (0, c)) else none
def nA (kd b : Nat) (n : Int32) (μ : Mem) : Option Mem := if mN μ = b ∧ ¬ n < 0 then some (mNew μ (kd, n.toNatClampNeg)) else none
def mGrid (μ : Mem) (N K : Nat) : Mem := (μ.1 + 1 + N, (fun a => if a = μ.1 then (7, N) else if μ.1 < a ∧ a ≤ μ.1 + N then (1, K) else μ.2.1 a), (fun a => if μ.1 ≤ a ∧ a ≤ μ.1 + N then fun _ => 0 else μ.2.2.1 a), (fun a => if μ.1 ≤ a ∧ a ≤ μ.1 + N then fun _ => 0 else μ.2.2.2.1 a), (fun a => if a = μ.1 then (fun j => if j < N then some (μ.1 + 1 + j) else none) else if μ.1 < a ∧ a ≤ μ.1 + N then fun _ => none else μ.2.2.2.2 a))
def nM (b : Nat) (n k : Int32) (μ : Mem) : Option Mem := if mN μ = b ∧ ¬ n < 0 ∧ ¬ k < 0 then some (mGrid μ n.toNatClampNeg k.toNatClampNeg) else none
def gN (b : Nat) (μ : Mem) : Option Unit := if mN μ = b then some () else none
/-! ===== the nine text constants ===== -/
def sLens : List Nat := [5, 3, 5, 4, 5, 4, 2, 6, 4]
def sByts : List (List Int32) := [[110, 101, 118, 101, 114], [119, 97, 121], [115, 116, 97, 116, 101], [107, 105, 110, 100], [97, 102, 116, 101, 114], [109, 111, 115, 116], [105, 110], [97, 108, 119, 97, 121, 115], [102, 114, 111, 109]]
def sLen (j : Nat) : Int32 := Int32.ofNat (sLens.getD j 0)
def sLe (j : Nat) : Option Int32 := if j < 9 then some (sLen j) else none
def sChr (j : Nat) (i : Int32) : Option Int32 := if j < 9 ∧ ¬ (i < 0 ∨ sLens.getD j 0 ≤ i.toNatClampNeg) then some ((sByts.getD j []).getD i.toNatClampNeg 0) else none
/-- the script: an int at a place that there is -/
def xsA (xs : Nat → Int32) (n : Nat) (i : Int32) : Option Int32 := if ¬ (i < 0 ∨ n ≤ i.toNatClampNeg) then some (xs i.toNatClampNeg) else none
/-! ===== small helps ===== -/
def FU : Nat := 100000
theorem bindE {α β : Type} {o : Option α} {f : α → Option β} {b : β} (h : o.bind f = some b) : ∃ a, o = some a ∧ f a = some b := Option.bind_eq_some_iff.mp h
theorem bindS {α β : Type} {a : α} {f : α → Option β} {b : β} (h : (some a).bind f = some b) : ∃ x, a = x ∧ f x = some b := ⟨a, rfl, h⟩
theorem inj1 {α : Type} {a b : α} (h : some a = some b) : a = b := Option.some.inj h
theorem inj2 {α β : Type} {a c : α} {b d : β} (h : some (a, b) = some (c, d)) : a = c ∧ b = d := ⟨congrArg Prod.fst (Option.some.inj h), congrArg Prod.snd (Option.some.inj h)⟩
/-- a boolean is 0 or 1 -/
def zz (v : Int32) : Option Int32 := if v = 0 ∨ v = 1 then some v else none
theorem zzE {v w : Int32} (h : zz v = some w) : v = w ∧ (w = 0 ∨ w = 1) := by
  unfold zz at h
  split at h
  · cases h
    exact ⟨rfl, by assumption⟩
  · cases h
end
section
set_option maxRecDepth 100000 in
def X6_init (a0 : Nat) (μ : Mem) : Option Mem :=
  some μ
set_option maxRecDepth 100000 in
def X5_init (a0 : Nat) (μ : Mem) : Option Mem :=
  some μ
set_option maxRecDepth 100000 in
def X0_init (a0 : Nat) (μ : Mem) : Option Mem :=
  (nA 6 (mN μ + 0) 10 μ).bind fun μ1 =>
  (pR 0 0 a0 (mN μ + 0) μ1).bind fun μ2 =>
  (nA 5 (mN μ + 1) 40 μ2).bind fun μ3 =>
  (pR 0 1 a0 (mN μ + 1) μ3).bind fun μ4 =>
  (gR 0 0 a0 μ4).bind fun v5 =>
  (nO 6 (mN μ + 2) μ4).bind fun μ6 =>
  (gN (mN μ + 3) μ6).bind fun g7 =>
  (X6_init (mN μ + 2) μ6).bind fun μ8 =>
  (sR 6 6 v5 0 (mN μ + 2) μ8).bind fun μ9 =>
  (gR 0 0 a0 μ9).bind fun v10 =>
  (nO 6 (mN μ + 3) μ9).bind fun μ11 =>
  (gN (mN μ + 4) μ11).bind fun g12 =>
  (X6_init (mN μ + 3) μ11).bind fun μ13 =>
  (sR 6 6 v10 1 (mN μ + 3) μ13).bind fun μ14 =>
  (gR 0 0 a0 μ14).bind fun v15 =>
  (nO 6 (mN μ + 4) μ14).bind fun μ16 =>
  (gN (mN μ + 5) μ16).bind fun g17 =>
  (X6_init (mN μ + 4) μ16).bind fun μ18 =>
  (sR 6 6 v15 2 (mN μ + 4) μ18).bind fun μ19 =>
  (gR 0 0 a0 μ19).bind fun v20 =>
  (nO 6 (mN μ + 5) μ19).bind fun μ21 =>
  (gN (mN μ + 6) μ21).bind fun g22 =>
  (X6_init (mN μ + 5) μ21).bind fun μ23 =>
  (sR 6 6 v20 3 (mN μ + 5) μ23).bind fun μ24 =>
  (gR 0 0 a0 μ24).bind fun v25 =>
  (nO 6 (mN μ + 6) μ24).bind fun μ26 =>
  (gN (mN μ + 7) μ26).bind fun g27 =>
  (X6_init (mN μ + 6) μ26).bind fun μ28 =>
  (sR 6 6 v25 4 (mN μ + 6) μ28).bind fun μ29 =>
  (gR 0 0 a0 μ29).bind fun v30 =>
  (nO 6 (mN μ + 7) μ29).bind fun μ31 =>
  (gN (mN μ + 8) μ31).bind fun g32 =>
  (X6_init (mN μ + 7) μ31).bind fun μ33 =>
  (sR 6 6 v30 5 (mN μ + 7) μ33).bind fun μ34 =>
  (gR 0 0 a0 μ34).bind fun v35 =>
  (nO 6 (mN μ + 8) μ34).bind fun μ36 =>
  (gN (mN μ + 9) μ36).bind fun g37 =>
  (X6_init (mN μ + 8) μ36).bind fun μ38 =>
  (sR 6 6 v35 6 (mN μ + 8) μ38).bind fun μ39 =>
  (gR 0 0 a0 μ39).bind fun v40 =>
  (nO 6 (mN μ + 9) μ39).bind fun μ41 =>
  (gN (mN μ + 10) μ41).bind fun g42 =>
  (X6_init (mN μ + 9) μ41).bind fun μ43 =>
  (sR 6 6 v40 7 (mN μ + 9) μ43).bind fun μ44 =>
  (gR 0 0 a0 μ44).bind fun v45 =>
  (nO 6 (mN μ + 10) μ44).bind fun μ46 =>
  (gN (mN μ + 11) μ46).bind fun g47 =>
  (X6_init (mN μ + 10) μ46).bind fun μ48 =>
  (sR 6 6 v45 8 (mN μ + 10) μ48).bind fun μ49 =>
  (gR 0 0 a0 μ49).bind fun v50 =>
  (nO 6 (mN μ + 11) μ49).bind fun μ51 =>
  (gN (mN μ + 12) μ51).bind fun g52 =>
  (X6_init (mN μ + 11) μ51).bind fun μ53 =>
  (sR 6 6 v50 9 (mN μ + 11) μ53).bind fun μ54 =>
  (gR 0 1 a0 μ54).bind fun v55 =>
  (nO 5 (mN μ + 12) μ54).bind fun μ56 =>
  (gN (mN μ + 13) μ56).bind fun g57 =>
  (X5_init (mN μ + 12) μ56).bind fun μ58 =>
  (sR 5 5 v55 0 (mN μ + 12) μ58).bind fun μ59 =>
  (gR 0 1 a0 μ59).bind fun v60 =>
  (nO 5 (mN μ + 13) μ59).bind fun μ61 =>
  (gN (mN μ + 14) μ61).bind fun g62 =>
  (X5_init (mN μ + 13) μ61).bind fun μ63 =>
  (sR 5 5 v60 1 (mN μ + 13) μ63).bind fun μ64 =>
  (gR 0 1 a0 μ64).bind fun v65 =>
  (nO 5 (mN μ + 14) μ64).bind fun μ66 =>
  (gN (mN μ + 15) μ66).bind fun g67 =>
  (X5_init (mN μ + 14) μ66).bind fun μ68 =>
  (sR 5 5 v65 2 (mN μ + 14) μ68).bind fun μ69 =>
  (gR 0 1 a0 μ69).bind fun v70 =>
  (nO 5 (mN μ + 15) μ69).bind fun μ71 =>
  (gN (mN μ + 16) μ71).bind fun g72 =>
  (X5_init (mN μ + 15) μ71).bind fun μ73 =>
  (sR 5 5 v70 3 (mN μ + 15) μ73).bind fun μ74 =>
  (gR 0 1 a0 μ74).bind fun v75 =>
  (nO 5 (mN μ + 16) μ74).bind fun μ76 =>
  (gN (mN μ + 17) μ76).bind fun g77 =>
  (X5_init (mN μ + 16) μ76).bind fun μ78 =>
  (sR 5 5 v75 4 (mN μ + 16) μ78).bind fun μ79 =>
  (gR 0 1 a0 μ79).bind fun v80 =>
  (nO 5 (mN μ + 17) μ79).bind fun μ81 =>
  (gN (mN μ + 18) μ81).bind fun g82 =>
  (X5_init (mN μ + 17) μ81).bind fun μ83 =>
  (sR 5 5 v80 5 (mN μ + 17) μ83).bind fun μ84 =>
  (gR 0 1 a0 μ84).bind fun v85 =>
  (nO 5 (mN μ + 18) μ84).bind fun μ86 =>
  (gN (mN μ + 19) μ86).bind fun g87 =>
  (X5_init (mN μ + 18) μ86).bind fun μ88 =>
  (sR 5 5 v85 6 (mN μ + 18) μ88).bind fun μ89 =>
  (gR 0 1 a0 μ89).bind fun v90 =>
  (nO 5 (mN μ + 19) μ89).bind fun μ91 =>
  (gN (mN μ + 20) μ91).bind fun g92 =>
  (X5_init (mN μ + 19) μ91).bind fun μ93 =>
  (sR 5 5 v90 7 (mN μ + 19) μ93).bind fun μ94 =>
  (gR 0 1 a0 μ94).bind fun v95 =>
  (nO 5 (mN μ + 20) μ94).bind fun μ96 =>
  (gN (mN μ + 21) μ96).bind fun g97 =>
  (X5_init (mN μ + 20) μ96).bind fun μ98 =>
  (sR 5 5 v95 8 (mN μ + 20) μ98).bind fun μ99 =>
  (gR 0 1 a0 μ99).bind fun v100 =>
  (nO 5 (mN μ + 21) μ99).bind fun μ101 =>
  (gN (mN μ + 22) μ101).bind fun g102 =>
  (X5_init (mN μ + 21) μ101).bind fun μ103 =>
  (sR 5 5 v100 9 (mN μ + 21) μ103).bind fun μ104 =>
  (gR 0 1 a0 μ104).bind fun v105 =>
  (nO 5 (mN μ + 22) μ104).bind fun μ106 =>
  (gN (mN μ + 23) μ106).bind fun g107 =>
  (X5_init (mN μ + 22) μ106).bind fun μ108 =>
  (sR 5 5 v105 10 (mN μ + 22) μ108).bind fun μ109 =>
  (gR 0 1 a0 μ109).bind fun v110 =>
  (nO 5 (mN μ + 23) μ109).bind fun μ111 =>
  (gN (mN μ + 24) μ111).bind fun g112 =>
  (X5_init (mN μ + 23) μ111).bind fun μ113 =>
  (sR 5 5 v110 11 (mN μ + 23) μ113).bind fun μ114 =>
  (gR 0 1 a0 μ114).bind fun v115 =>
  (nO 5 (mN μ + 24) μ114).bind fun μ116 =>
  (gN (mN μ + 25) μ116).bind fun g117 =>
  (X5_init (mN μ + 24) μ116).bind fun μ118 =>
  (sR 5 5 v115 12 (mN μ + 24) μ118).bind fun μ119 =>
  (gR 0 1 a0 μ119).bind fun v120 =>
  (nO 5 (mN μ + 25) μ119).bind fun μ121 =>
  (gN (mN μ + 26) μ121).bind fun g122 =>
  (X5_init (mN μ + 25) μ121).bind fun μ123 =>
  (sR 5 5 v120 13 (mN μ + 25) μ123).bind fun μ124 =>
  (gR 0 1 a0 μ124).bind fun v125 =>
  (nO 5 (mN μ + 26) μ124).bind fun μ126 =>
  (gN (mN μ + 27) μ126).bind fun g127 =>
  (X5_init (mN μ + 26) μ126).bind fun μ128 =>
  (sR 5 5 v125 14 (mN μ + 26) μ128).bind fun μ129 =>
  (gR 0 1 a0 μ129).bind fun v130 =>
  (nO 5 (mN μ + 27) μ129).bind fun μ131 =>
  (gN (mN μ + 28) μ131).bind fun g132 =>
  (X5_init (mN μ + 27) μ131).bind fun μ133 =>
  (sR 5 5 v130 15 (mN μ + 27) μ133).bind fun μ134 =>
  (gR 0 1 a0 μ134).bind fun v135 =>
  (nO 5 (mN μ + 28) μ134).bind fun μ136 =>
  (gN (mN μ + 29) μ136).bind fun g137 =>
  (X5_init (mN μ + 28) μ136).bind fun μ138 =>
  (sR 5 5 v135 16 (mN μ + 28) μ138).bind fun μ139 =>
  (gR 0 1 a0 μ139).bind fun v140 =>
  (nO 5 (mN μ + 29) μ139).bind fun μ141 =>
  (gN (mN μ + 30) μ141).bind fun g142 =>
  (X5_init (mN μ + 29) μ141).bind fun μ143 =>
  (sR 5 5 v140 17 (mN μ + 29) μ143).bind fun μ144 =>
  (gR 0 1 a0 μ144).bind fun v145 =>
  (nO 5 (mN μ + 30) μ144).bind fun μ146 =>
  (gN (mN μ + 31) μ146).bind fun g147 =>
  (X5_init (mN μ + 30) μ146).bind fun μ148 =>
  (sR 5 5 v145 18 (mN μ + 30) μ148).bind fun μ149 =>
  (gR 0 1 a0 μ149).bind fun v150 =>
  (nO 5 (mN μ + 31) μ149).bind fun μ151 =>
  (gN (mN μ + 32) μ151).bind fun g152 =>
  (X5_init (mN μ + 31) μ151).bind fun μ153 =>
  (sR 5 5 v150 19 (mN μ + 31) μ153).bind fun μ154 =>
  (gR 0 1 a0 μ154).bind fun v155 =>
  (nO 5 (mN μ + 32) μ154).bind fun μ156 =>
  (gN (mN μ + 33) μ156).bind fun g157 =>
  (X5_init (mN μ + 32) μ156).bind fun μ158 =>
  (sR 5 5 v155 20 (mN μ + 32) μ158).bind fun μ159 =>
  (gR 0 1 a0 μ159).bind fun v160 =>
  (nO 5 (mN μ + 33) μ159).bind fun μ161 =>
  (gN (mN μ + 34) μ161).bind fun g162 =>
  (X5_init (mN μ + 33) μ161).bind fun μ163 =>
  (sR 5 5 v160 21 (mN μ + 33) μ163).bind fun μ164 =>
  (gR 0 1 a0 μ164).bind fun v165 =>
  (nO 5 (mN μ + 34) μ164).bind fun μ166 =>
  (gN (mN μ + 35) μ166).bind fun g167 =>
  (X5_init (mN μ + 34) μ166).bind fun μ168 =>
  (sR 5 5 v165 22 (mN μ + 34) μ168).bind fun μ169 =>
  (gR 0 1 a0 μ169).bind fun v170 =>
  (nO 5 (mN μ + 35) μ169).bind fun μ171 =>
  (gN (mN μ + 36) μ171).bind fun g172 =>
  (X5_init (mN μ + 35) μ171).bind fun μ173 =>
  (sR 5 5 v170 23 (mN μ + 35) μ173).bind fun μ174 =>
  (gR 0 1 a0 μ174).bind fun v175 =>
  (nO 5 (mN μ + 36) μ174).bind fun μ176 =>
  (gN (mN μ + 37) μ176).bind fun g177 =>
  (X5_init (mN μ + 36) μ176).bind fun μ178 =>
  (sR 5 5 v175 24 (mN μ + 36) μ178).bind fun μ179 =>
  (gR 0 1 a0 μ179).bind fun v180 =>
  (nO 5 (mN μ + 37) μ179).bind fun μ181 =>
  (gN (mN μ + 38) μ181).bind fun g182 =>
  (X5_init (mN μ + 37) μ181).bind fun μ183 =>
  (sR 5 5 v180 25 (mN μ + 37) μ183).bind fun μ184 =>
  (gR 0 1 a0 μ184).bind fun v185 =>
  (nO 5 (mN μ + 38) μ184).bind fun μ186 =>
  (gN (mN μ + 39) μ186).bind fun g187 =>
  (X5_init (mN μ + 38) μ186).bind fun μ188 =>
  (sR 5 5 v185 26 (mN μ + 38) μ188).bind fun μ189 =>
  (gR 0 1 a0 μ189).bind fun v190 =>
  (nO 5 (mN μ + 39) μ189).bind fun μ191 =>
  (gN (mN μ + 40) μ191).bind fun g192 =>
  (X5_init (mN μ + 39) μ191).bind fun μ193 =>
  (sR 5 5 v190 27 (mN μ + 39) μ193).bind fun μ194 =>
  (gR 0 1 a0 μ194).bind fun v195 =>
  (nO 5 (mN μ + 40) μ194).bind fun μ196 =>
  (gN (mN μ + 41) μ196).bind fun g197 =>
  (X5_init (mN μ + 40) μ196).bind fun μ198 =>
  (sR 5 5 v195 28 (mN μ + 40) μ198).bind fun μ199 =>
  (gR 0 1 a0 μ199).bind fun v200 =>
  (nO 5 (mN μ + 41) μ199).bind fun μ201 =>
  (gN (mN μ + 42) μ201).bind fun g202 =>
  (X5_init (mN μ + 41) μ201).bind fun μ203 =>
  (sR 5 5 v200 29 (mN μ + 41) μ203).bind fun μ204 =>
  (gR 0 1 a0 μ204).bind fun v205 =>
  (nO 5 (mN μ + 42) μ204).bind fun μ206 =>
  (gN (mN μ + 43) μ206).bind fun g207 =>
  (X5_init (mN μ + 42) μ206).bind fun μ208 =>
  (sR 5 5 v205 30 (mN μ + 42) μ208).bind fun μ209 =>
  (gR 0 1 a0 μ209).bind fun v210 =>
  (nO 5 (mN μ + 43) μ209).bind fun μ211 =>
  (gN (mN μ + 44) μ211).bind fun g212 =>
  (X5_init (mN μ + 43) μ211).bind fun μ213 =>
  (sR 5 5 v210 31 (mN μ + 43) μ213).bind fun μ214 =>
  (gR 0 1 a0 μ214).bind fun v215 =>
  (nO 5 (mN μ + 44) μ214).bind fun μ216 =>
  (gN (mN μ + 45) μ216).bind fun g217 =>
  (X5_init (mN μ + 44) μ216).bind fun μ218 =>
  (sR 5 5 v215 32 (mN μ + 44) μ218).bind fun μ219 =>
  (gR 0 1 a0 μ219).bind fun v220 =>
  (nO 5 (mN μ + 45) μ219).bind fun μ221 =>
  (gN (mN μ + 46) μ221).bind fun g222 =>
  (X5_init (mN μ + 45) μ221).bind fun μ223 =>
  (sR 5 5 v220 33 (mN μ + 45) μ223).bind fun μ224 =>
  (gR 0 1 a0 μ224).bind fun v225 =>
  (nO 5 (mN μ + 46) μ224).bind fun μ226 =>
  (gN (mN μ + 47) μ226).bind fun g227 =>
  (X5_init (mN μ + 46) μ226).bind fun μ228 =>
  (sR 5 5 v225 34 (mN μ + 46) μ228).bind fun μ229 =>
  (gR 0 1 a0 μ229).bind fun v230 =>
  (nO 5 (mN μ + 47) μ229).bind fun μ231 =>
  (gN (mN μ + 48) μ231).bind fun g232 =>
  (X5_init (mN μ + 47) μ231).bind fun μ233 =>
  (sR 5 5 v230 35 (mN μ + 47) μ233).bind fun μ234 =>
  (gR 0 1 a0 μ234).bind fun v235 =>
  (nO 5 (mN μ + 48) μ234).bind fun μ236 =>
  (gN (mN μ + 49) μ236).bind fun g237 =>
  (X5_init (mN μ + 48) μ236).bind fun μ238 =>
  (sR 5 5 v235 36 (mN μ + 48) μ238).bind fun μ239 =>
  (gR 0 1 a0 μ239).bind fun v240 =>
  (nO 5 (mN μ + 49) μ239).bind fun μ241 =>
  (gN (mN μ + 50) μ241).bind fun g242 =>
  (X5_init (mN μ + 49) μ241).bind fun μ243 =>
  (sR 5 5 v240 37 (mN μ + 49) μ243).bind fun μ244 =>
  (gR 0 1 a0 μ244).bind fun v245 =>
  (nO 5 (mN μ + 50) μ244).bind fun μ246 =>
  (gN (mN μ + 51) μ246).bind fun g247 =>
  (X5_init (mN μ + 50) μ246).bind fun μ248 =>
  (sR 5 5 v245 38 (mN μ + 50) μ248).bind fun μ249 =>
  (gR 0 1 a0 μ249).bind fun v250 =>
  (nO 5 (mN μ + 51) μ249).bind fun μ251 =>
  (gN (mN μ + 52) μ251).bind fun g252 =>
  (X5_init (mN μ + 51) μ251).bind fun μ253 =>
  (sR 5 5 v250 39 (mN μ + 51) μ253).bind fun μ254 =>
  some μ254
def X0_hasThing (a0 : Nat) (x1 : Int32) (μ : Mem) : Option Int32 :=
  ((if x1 < 0 then
  some 0
  else
  (gI 0 2 a0 μ).bind fun v2 =>
  if v2 ≤ x1 then
  some 0
  else
  some 1) : Option (Int32)).bind fun z4 =>
  (zz z4).bind fun v5 =>
  some v5
def X0_hasThings (a0 : Nat) (x1 : Int32) (μ : Mem) : Option Int32 :=
  ((if x1 ≤ 0 then
  some 0
  else
  (gI 0 2 a0 μ).bind fun v2 =>
  if ((1 : Int32) <<< (v2 &&& 31)) ≤ x1 then
  some 0
  else
  some 1) : Option (Int32)).bind fun z4 =>
  (zz z4).bind fun v5 =>
  some v5
def X0_hasSaying (a0 : Nat) (x1 : Int32) (μ : Mem) : Option Int32 :=
  ((if x1 < 0 then
  some 0
  else
  (gI 0 3 a0 μ).bind fun v2 =>
  if v2 ≤ x1 then
  some 0
  else
  some 1) : Option (Int32)).bind fun z4 =>
  (zz z4).bind fun v5 =>
  some v5
def X10_contains (x0 : Int32) (x1 : Int32) : Int32 :=
  (if ((x0 >>> (x1 &&& 31)) &&& 1) = 0 then 0 else 1)
def J6_bitCount_0f7a4 (x0 : Int32) : Int32 :=
  (((((((x0 - (((x0.toUInt32 >>> ((1 : Int32).toUInt32 &&& Int32.toUInt32 31)).toInt32) &&& 1431655765)) &&& 858993459) + ((((x0 - (((x0.toUInt32 >>> ((1 : Int32).toUInt32 &&& Int32.toUInt32 31)).toInt32) &&& 1431655765)).toUInt32 >>> ((2 : Int32).toUInt32 &&& Int32.toUInt32 31)).toInt32) &&& 858993459)) + (((((x0 - (((x0.toUInt32 >>> ((1 : Int32).toUInt32 &&& Int32.toUInt32 31)).toInt32) &&& 1431655765)) &&& 858993459) + ((((x0 - (((x0.toUInt32 >>> ((1 : Int32).toUInt32 &&& Int32.toUInt32 31)).toInt32) &&& 1431655765)).toUInt32 >>> ((2 : Int32).toUInt32 &&& Int32.toUInt32 31)).toInt32) &&& 858993459)).toUInt32 >>> ((4 : Int32).toUInt32 &&& Int32.toUInt32 31)).toInt32)) &&& 252645135) + (((((((x0 - (((x0.toUInt32 >>> ((1 : Int32).toUInt32 &&& Int32.toUInt32 31)).toInt32) &&& 1431655765)) &&& 858993459) + ((((x0 - (((x0.toUInt32 >>> ((1 : Int32).toUInt32 &&& Int32.toUInt32 31)).toInt32) &&& 1431655765)).toUInt32 >>> ((2 : Int32).toUInt32 &&& Int32.toUInt32 31)).toInt32) &&& 858993459)) + (((((x0 - (((x0.toUInt32 >>> ((1 : Int32).toUInt32 &&& Int32.toUInt32 31)).toInt32) &&& 1431655765)) &&& 858993459) + ((((x0 - (((x0.toUInt32 >>> ((1 : Int32).toUInt32 &&& Int32.toUInt32 31)).toInt32) &&& 1431655765)).toUInt32 >>> ((2 : Int32).toUInt32 &&& Int32.toUInt32 31)).toInt32) &&& 858993459)).toUInt32 >>> ((4 : Int32).toUInt32 &&& Int32.toUInt32 31)).toInt32)) &&& 252645135).toUInt32 >>> ((8 : Int32).toUInt32 &&& Int32.toUInt32 31)).toInt32)) + ((((((((x0 - (((x0.toUInt32 >>> ((1 : Int32).toUInt32 &&& Int32.toUInt32 31)).toInt32) &&& 1431655765)) &&& 858993459) + ((((x0 - (((x0.toUInt32 >>> ((1 : Int32).toUInt32 &&& Int32.toUInt32 31)).toInt32) &&& 1431655765)).toUInt32 >>> ((2 : Int32).toUInt32 &&& Int32.toUInt32 31)).toInt32) &&& 858993459)) + (((((x0 - (((x0.toUInt32 >>> ((1 : Int32).toUInt32 &&& Int32.toUInt32 31)).toInt32) &&& 1431655765)) &&& 858993459) + ((((x0 - (((x0.toUInt32 >>> ((1 : Int32).toUInt32 &&& Int32.toUInt32 31)).toInt32) &&& 1431655765)).toUInt32 >>> ((2 : Int32).toUInt32 &&& Int32.toUInt32 31)).toInt32) &&& 858993459)).toUInt32 >>> ((4 : Int32).toUInt32 &&& Int32.toUInt32 31)).toInt32)) &&& 252645135) + (((((((x0 - (((x0.toUInt32 >>> ((1 : Int32).toUInt32 &&& Int32.toUInt32 31)).toInt32) &&& 1431655765)) &&& 858993459) + ((((x0 - (((x0.toUInt32 >>> ((1 : Int32).toUInt32 &&& Int32.toUInt32 31)).toInt32) &&& 1431655765)).toUInt32 >>> ((2 : Int32).toUInt32 &&& Int32.toUInt32 31)).toInt32) &&& 858993459)) + (((((x0 - (((x0.toUInt32 >>> ((1 : Int32).toUInt32 &&& Int32.toUInt32 31)).toInt32) &&& 1431655765)) &&& 858993459) + ((((x0 - (((x0.toUInt32 >>> ((1 : Int32).toUInt32 &&& Int32.toUInt32 31)).toInt32) &&& 1431655765)).toUInt32 >>> ((2 : Int32).toUInt32 &&& Int32.toUInt32 31)).toInt32) &&& 858993459)).toUInt32 >>> ((4 : Int32).toUInt32 &&& Int32.toUInt32 31)).toInt32)) &&& 252645135).toUInt32 >>> ((8 : Int32).toUInt32 &&& Int32.toUInt32 31)).toInt32)).toUInt32 >>> ((16 : Int32).toUInt32 &&& Int32.toUInt32 31)).toInt32)) &&& 63
def X0_isTold_L7 (a0 : Nat) (x1 : Int32) (μ : Mem) : Nat → Int32 → Int32 → Int32 → Option (Int32 × Int32 × Int32)
  | 0, _, _, _ => none
  | n + 1, x2, x3, x4 =>
      (gI 0 3 a0 μ).bind fun v1 =>
      if v1 ≤ x4 then
      some ((x2, x3, x4))
      else
      (gR 0 1 a0 μ).bind fun v3 =>
      (aR 5 v3 x4 μ).bind fun v4 =>
      (gI 5 1 v4 μ).bind fun v5 =>
      ((if (X10_contains v5 x1) = 0 then
      some ((x2, x3))
      else
      (gR 0 1 a0 μ).bind fun v7 =>
      (aR 5 v7 x4 μ).bind fun v8 =>
      (gI 5 4 v8 μ).bind fun v9 =>
      (some (if v9 = 3 then x2 else x2 + 1 : Int32)).bind fun v11 =>
      (gR 0 1 a0 μ).bind fun v12 =>
      (aR 5 v12 x4 μ).bind fun v13 =>
      (gI 5 4 v13 μ).bind fun v14 =>
      if v14 = 1 then
      (gR 0 1 a0 μ).bind fun v16 =>
      (aR 5 v16 x4 μ).bind fun v17 =>
      (gI 5 0 v17 μ).bind fun v18 =>
      some ((v11, x3 ||| (1 <<< (v18 &&& 31))))
      else
      some ((v11, x3))) : Option (Int32 × Int32)).bind fun z19 =>
      X0_isTold_L7 a0 x1 μ n z19.1 z19.2 (x4 + 1)
def X0_isTold (a0 : Nat) (x1 : Int32) (μ : Mem) : Option Int32 :=
  (X0_isTold_L7 a0 x1 μ FU 0 0 0).bind fun z1 =>
  ((if z1.1 ≤ 0 then
  some 0
  else
  (gR 0 0 a0 μ).bind fun v3 =>
  (aR 6 v3 x1 μ).bind fun v4 =>
  (gI 6 1 v4 μ).bind fun v5 =>
  if v5 = 3 then
  if (J6_bitCount_0f7a4 z1.2.1) < 2 then
  some 0
  else
  some 1
  else
  some 1) : Option (Int32)).bind fun z8 =>
  (zz z8).bind fun v9 =>
  some v9
def X0_standing (a0 : Nat) (x1 : Int32) (x2 : Int32) (μ : Mem) : Option Int32 :=
  (gR 0 0 a0 μ).bind fun v1 =>
  (aR 6 v1 x1 μ).bind fun v2 =>
  (gI 6 8 v2 μ).bind fun v3 =>
  if v3 = 0 then
  (vO 0 a0 μ).bind fun g5 =>
  (X0_isTold a0 x1 μ).bind fun v6 =>
  if v6 = 0 then
  (gR 0 0 a0 μ).bind fun v8 =>
  (aR 6 v8 x1 μ).bind fun v9 =>
  (gI 6 6 v9 μ).bind fun v10 =>
  (some (if x2 ≤ v10 then 0 else 3 : Int32)).bind fun v12 =>
  some (v12)
  else
  some (1)
  else
  some (2)
def X0_thingsThatAre_L5 (a0 : Nat) (x1 : Int32) (x2 : Int32) (μ : Mem) : Nat → Int32 → Int32 → Option (Int32 × Int32)
  | 0, _, _ => none
  | n + 1, x3, x4 =>
      (gI 0 2 a0 μ).bind fun v1 =>
      if v1 ≤ x4 then
      some ((x3, x4))
      else
      (vO 0 a0 μ).bind fun g3 =>
      (X0_standing a0 x4 x2 μ).bind fun v4 =>
      (some (if v4 = x1 then x3 + 1 else x3 : Int32)).bind fun v6 =>
      X0_thingsThatAre_L5 a0 x1 x2 μ n v6 (x4 + 1)
def X0_thingsThatAre (a0 : Nat) (x1 : Int32) (x2 : Int32) (μ : Mem) : Option Int32 :=
  (X0_thingsThatAre_L5 a0 x1 x2 μ FU 0 0).bind fun z1 =>
  some (z1.1)
def X0_sayingsWith_L4 (a0 : Nat) (x1 : Int32) (μ : Mem) : Nat → Int32 → Int32 → Option (Int32 × Int32)
  | 0, _, _ => none
  | n + 1, x2, x3 =>
      (gI 0 3 a0 μ).bind fun v1 =>
      if v1 ≤ x3 then
      some ((x2, x3))
      else
      (gR 0 1 a0 μ).bind fun v3 =>
      (aR 5 v3 x3 μ).bind fun v4 =>
      (gI 5 1 v4 μ).bind fun v5 =>
      (some (if (X10_contains v5 x1) = 0 then x2 else x2 + 1 : Int32)).bind fun v7 =>
      X0_sayingsWith_L4 a0 x1 μ n v7 (x3 + 1)
def X0_sayingsWith (a0 : Nat) (x1 : Int32) (μ : Mem) : Option Int32 :=
  (X0_sayingsWith_L4 a0 x1 μ FU 0 0).bind fun z1 =>
  some (z1.1)
def X0_personsWith_L4 (a0 : Nat) (x1 : Int32) (μ : Mem) : Nat → Int32 → Int32 → Option (Int32 × Int32)
  | 0, _, _ => none
  | n + 1, x2, x3 =>
      (gI 0 3 a0 μ).bind fun v1 =>
      if v1 ≤ x3 then
      some ((x2, x3))
      else
      (gR 0 1 a0 μ).bind fun v3 =>
      (aR 5 v3 x3 μ).bind fun v4 =>
      (gI 5 1 v4 μ).bind fun v5 =>
      ((if (X10_contains v5 x1) = 0 then
      some x2
      else
      (gR 0 1 a0 μ).bind fun v7 =>
      (aR 5 v7 x3 μ).bind fun v8 =>
      (gI 5 0 v8 μ).bind fun v9 =>
      some (x2 ||| (1 <<< (v9 &&& 31)))) : Option (Int32)).bind fun z10 =>
      X0_personsWith_L4 a0 x1 μ n z10 (x3 + 1)
def X0_personsWith (a0 : Nat) (x1 : Int32) (μ : Mem) : Option Int32 :=
  (X0_personsWith_L4 a0 x1 μ FU 0 0).bind fun z1 =>
  some (z1.1)
def X0_deadThings_L4 (a0 : Nat) (μ : Mem) : Nat → Int32 → Int32 → Option (Int32 × Int32)
  | 0, _, _ => none
  | n + 1, x1, x2 =>
      (gI 0 2 a0 μ).bind fun v1 =>
      if v1 ≤ x2 then
      some ((x1, x2))
      else
      (gR 0 0 a0 μ).bind fun v3 =>
      (aR 6 v3 x2 μ).bind fun v4 =>
      (gI 6 8 v4 μ).bind fun v5 =>
      (some (if v5 = 0 then x1 else x1 ||| (1 <<< (x2 &&& 31)) : Int32)).bind fun v7 =>
      X0_deadThings_L4 a0 μ n v7 (x2 + 1)
def X0_deadThings (a0 : Nat) (μ : Mem) : Option Int32 :=
  (X0_deadThings_L4 a0 μ FU 0 0).bind fun z1 =>
  some (z1.1)
def X0_canBeSaid_L5 (a0 : Nat) (x1 : Int32) (x2 : Int32) (μ : Mem) : Nat → Int32 → Int32 → Option (Int32)
  | 0, _, _ => none
  | n + 1, x3, x4 =>
      (gI 0 2 a0 μ).bind fun v1 =>
      if v1 ≤ x4 then
      some 1
      else
      if (X10_contains x1 x4) = 0 then
      X0_canBeSaid_L5 a0 x1 x2 μ n x3 (x4 + 1)
      else
      (gR 0 0 a0 μ).bind fun v4 =>
      (aR 6 v4 x4 μ).bind fun v5 =>
      (gI 6 8 v5 μ).bind fun v6 =>
      if v6 = 0 then
      (gI 6 0 v5 μ).bind fun v8 =>
      if (X10_contains v8 x2) = 0 then
      some 0
      else
      if x3 = ((-1)) then
      (gI 6 2 v5 μ).bind fun v11 =>
      X0_canBeSaid_L5 a0 x1 x2 μ n v11 (x4 + 1)
      else
      (gI 6 2 v5 μ).bind fun v12 =>
      if x3 = v12 then
      (gI 6 2 v5 μ).bind fun v14 =>
      X0_canBeSaid_L5 a0 x1 x2 μ n v14 (x4 + 1)
      else
      some 0
      else
      some 0
def X0_canBeSaid (a0 : Nat) (x1 : Int32) (x2 : Int32) (μ : Mem) : Option Int32 :=
  X0_canBeSaid_L5 a0 x1 x2 μ FU ((-1)) 0
def X0_countSaid_L2 (a0 : Nat) (x1 : Int32) (a2 : Nat) : Nat → Int32 → Mem → Option (Int32 × Mem)
  | 0, _, _ => none
  | n + 1, x3, μ =>
      (aL a2 μ).bind fun v1 =>
      if v1 ≤ x3 then
      some ((x3, μ))
      else
      (sI a2 x3 0 μ).bind fun μ3 =>
      X0_countSaid_L2 a0 x1 a2 n (x3 + 1) μ3
def X0_countSaid_L20 (a0 : Nat) (x1 : Int32) (a2 : Nat) : Nat → Int32 → Mem → Option (Int32 × Mem)
  | 0, _, _ => none
  | n + 1, x3, μ =>
      (gI 0 3 a0 μ).bind fun v1 =>
      if v1 ≤ x3 then
      some ((x3, μ))
      else
      (gR 0 1 a0 μ).bind fun v3 =>
      (aR 5 v3 x3 μ).bind fun v4 =>
      (gI 5 3 v4 μ).bind fun v5 =>
      (gR 0 1 a0 μ).bind fun v6 =>
      (aR 5 v6 x3 μ).bind fun v7 =>
      (gI 5 0 v7 μ).bind fun v8 =>
      ((if v8 = x1 then
      if v5 < 0 then
      some μ
      else
      (aL a2 μ).bind fun v11 =>
      if v11 ≤ v5 then
      some μ
      else
      (aI a2 v5 μ).bind fun v13 =>
      (sI a2 v5 (v13 + 1) μ).bind fun μ14 =>
      some μ14
      else
      some μ) : Option (Mem)).bind fun z15 =>
      X0_countSaid_L20 a0 x1 a2 n (x3 + 1) z15
def X0_countSaid (a0 : Nat) (x1 : Int32) (a2 : Nat) (μ : Mem) : Option Mem :=
  (X0_countSaid_L2 a0 x1 a2 FU 0 μ).bind fun z1 =>
  (X0_countSaid_L20 a0 x1 a2 FU 0 z1.2).bind fun z2 =>
  some z2.2
def X0_outcomesBy_L4 (a0 : Nat) (x1 : Int32) (μ : Mem) : Nat → Int32 → Int32 → Option (Int32 × Int32)
  | 0, _, _ => none
  | n + 1, x2, x3 =>
      (gI 0 3 a0 μ).bind fun v1 =>
      if v1 ≤ x3 then
      some ((x2, x3))
      else
      (gR 0 1 a0 μ).bind fun v3 =>
      (aR 5 v3 x3 μ).bind fun v4 =>
      (gI 5 2 v4 μ).bind fun v5 =>
      ((if v5 = x1 then
      (gR 0 1 a0 μ).bind fun v7 =>
      (aR 5 v7 x3 μ).bind fun v8 =>
      (gI 5 4 v8 μ).bind fun v9 =>
      if v9 = 0 then
      some x2
      else
      some (x2 + 1)
      else
      some x2) : Option (Int32)).bind fun z11 =>
      X0_outcomesBy_L4 a0 x1 μ n z11 (x3 + 1)
def X0_outcomesBy (a0 : Nat) (x1 : Int32) (μ : Mem) : Option Int32 :=
  (X0_outcomesBy_L4 a0 x1 μ FU 0 0).bind fun z1 =>
  some (z1.1)
def X0_lookedAtBy_L4 (a0 : Nat) (x1 : Int32) (μ : Mem) : Nat → Int32 → Int32 → Option (Int32 × Int32)
  | 0, _, _ => none
  | n + 1, x2, x3 =>
      (gI 0 3 a0 μ).bind fun v1 =>
      if v1 ≤ x3 then
      some ((x2, x3))
      else
      (gR 0 1 a0 μ).bind fun v3 =>
      (aR 5 v3 x3 μ).bind fun v4 =>
      (gI 5 2 v4 μ).bind fun v5 =>
      ((if v5 = x1 then
      (gR 0 1 a0 μ).bind fun v7 =>
      (aR 5 v7 x3 μ).bind fun v8 =>
      (gI 5 4 v8 μ).bind fun v9 =>
      if v9 = 1 then
      some (x2 + 1)
      else
      some x2
      else
      some x2) : Option (Int32)).bind fun z11 =>
      X0_lookedAtBy_L4 a0 x1 μ n z11 (x3 + 1)
def X0_lookedAtBy (a0 : Nat) (x1 : Int32) (μ : Mem) : Option Int32 :=
  (X0_lookedAtBy_L4 a0 x1 μ FU 0 0).bind fun z1 =>
  some (z1.1)
set_option maxRecDepth 100000 in
def X1_init (a0 : Nat) (μ : Mem) : Option Mem :=
  some μ
def X3_alwaysFrom_L4 (a0 : Nat) (μ : Mem) : Nat → Int32 → Int32 → Option (Int32 × Int32)
  | 0, _, _ => none
  | n + 1, x1, x2 =>
      (gI 3 0 a0 μ).bind fun v1 =>
      if v1 ≤ x2 then
      some ((x1, x2))
      else
      (gR 3 1 a0 μ).bind fun v3 =>
      (aI v3 x2 μ).bind fun v4 =>
      ((if v4 = 4 then
      (gR 3 2 a0 μ).bind fun v6 =>
      (aI v6 x2 μ).bind fun v7 =>
      some (x1 ||| (1 <<< (v7 &&& 31)))
      else
      some x1) : Option (Int32)).bind fun z8 =>
      X3_alwaysFrom_L4 a0 μ n z8 (x2 + 1)
def X3_alwaysFrom (a0 : Nat) (μ : Mem) : Option Int32 :=
  (X3_alwaysFrom_L4 a0 μ FU 0 0).bind fun z1 =>
  some (z1.1)
def X3_barredKinds_L4 (a0 : Nat) (x1 : Int32) (μ : Mem) : Nat → Int32 → Int32 → Option (Int32 × Int32)
  | 0, _, _ => none
  | n + 1, x2, x3 =>
      (gI 3 0 a0 μ).bind fun v1 =>
      if v1 ≤ x3 then
      some ((x2, x3))
      else
      (gR 3 1 a0 μ).bind fun v3 =>
      (aI v3 x3 μ).bind fun v4 =>
      ((if v4 = 2 then
      (gR 3 3 a0 μ).bind fun v6 =>
      (aI v6 x3 μ).bind fun v7 =>
      if x1 ≤ v7 then
      some x2
      else
      (gR 3 2 a0 μ).bind fun v9 =>
      (aI v9 x3 μ).bind fun v10 =>
      some (x2 ||| (1 <<< (v10 &&& 31)))
      else
      some x2) : Option (Int32)).bind fun z11 =>
      X3_barredKinds_L4 a0 x1 μ n z11 (x3 + 1)
def X3_barredKinds (a0 : Nat) (x1 : Int32) (μ : Mem) : Option Int32 :=
  (X3_barredKinds_L4 a0 x1 μ FU 0 0).bind fun z1 =>
  some (z1.1)
def X3_isLikely (a0 : Nat) (x1 : Int32) (a2 : Nat) (μ : Mem) : Option Int32 :=
  (gR 3 3 a0 μ).bind fun v1 =>
  (aI v1 x1 μ).bind fun v2 =>
  ((if v2 < 0 then
  some 0
  else
  (aL a2 μ).bind fun v4 =>
  if v4 ≤ v2 then
  some 0
  else
  (aI a2 v2 μ).bind fun v6 =>
  (gR 3 4 a0 μ).bind fun v7 =>
  (aI v7 x1 μ).bind fun v8 =>
  if (lg_cmp (v6.toInt64 * 100) (v8.toInt64 * 1000000)) < 0 then
  some 0
  else
  some 1) : Option (Int32)).bind fun z10 =>
  (zz z10).bind fun v11 =>
  some v11
def X3_barredWays_L4 (a0 : Nat) (a1 : Nat) (μ : Mem) : Nat → Int32 → Int32 → Option (Int32 × Int32)
  | 0, _, _ => none
  | n + 1, x2, x3 =>
      (gI 3 0 a0 μ).bind fun v1 =>
      if v1 ≤ x3 then
      some ((x2, x3))
      else
      (gR 3 1 a0 μ).bind fun v3 =>
      (aI v3 x3 μ).bind fun v4 =>
      ((if v4 = 0 then
      (gR 3 2 a0 μ).bind fun v6 =>
      (aI v6 x3 μ).bind fun v7 =>
      some (x2 ||| (1 <<< (v7 &&& 31)))
      else
      (gR 3 1 a0 μ).bind fun v8 =>
      (aI v8 x3 μ).bind fun v9 =>
      if v9 = 1 then
      (vO 3 a0 μ).bind fun g11 =>
      (X3_isLikely a0 x3 a1 μ).bind fun v12 =>
      if v12 = 0 then
      some x2
      else
      (gR 3 2 a0 μ).bind fun v14 =>
      (aI v14 x3 μ).bind fun v15 =>
      some (x2 ||| (1 <<< (v15 &&& 31)))
      else
      some x2) : Option (Int32)).bind fun z16 =>
      X3_barredWays_L4 a0 a1 μ n z16 (x3 + 1)
def X3_barredWays (a0 : Nat) (a1 : Nat) (μ : Mem) : Option Int32 :=
  (X3_barredWays_L4 a0 a1 μ FU 0 0).bind fun z1 =>
  some (z1.1)
def X1_open_L36 (a0 : Nat) (a2 : Nat) (x5 : Int32) (x6 : Int32) : Nat → Int32 → Mem → Option (Int32 × Mem)
  | 0, _, _ => none
  | n + 1, x7, μ =>
      (gI 0 2 a2 μ).bind fun v1 =>
      if v1 ≤ x7 then
      some ((x7, μ))
      else
      (gR 0 0 a2 μ).bind fun v3 =>
      (aR 6 v3 x7 μ).bind fun v4 =>
      (gI 6 3 v4 μ).bind fun v5 =>
      ((if (X10_contains x5 v5) = 0 then
      (gR 0 0 a2 μ).bind fun v7 =>
      (aR 6 v7 x7 μ).bind fun v8 =>
      (gI 6 1 v8 μ).bind fun v9 =>
      if (X10_contains x6 v9) = 0 then
      some μ
      else
      (gI 1 1 a0 μ).bind fun v11 =>
      (pI 1 1 a0 (v11 ||| (1 <<< (x7 &&& 31))) μ).bind fun μ12 =>
      some μ12
      else
      (gI 1 0 a0 μ).bind fun v13 =>
      (pI 1 0 a0 (v13 ||| (1 <<< (x7 &&& 31))) μ).bind fun μ14 =>
      some μ14) : Option (Mem)).bind fun z15 =>
      X1_open_L36 a0 a2 x5 x6 n (x7 + 1) z15
def X1_open (a0 : Nat) (a1 : Nat) (a2 : Nat) (x3 : Int32) (a4 : Nat) (μ : Mem) : Option Mem :=
  (vO 3 a1 μ).bind fun g1 =>
  (X3_alwaysFrom a1 μ).bind fun v2 =>
  (vO 3 a1 μ).bind fun g3 =>
  (X3_barredKinds a1 x3 μ).bind fun v4 =>
  (vO 3 a1 μ).bind fun g5 =>
  (X3_barredWays a1 a4 μ).bind fun v6 =>
  (pI 1 2 a0 v6 μ).bind fun μ7 =>
  (pI 1 0 a0 0 μ7).bind fun μ8 =>
  (pI 1 1 a0 0 μ8).bind fun μ9 =>
  (X1_open_L36 a0 a2 v2 v4 FU 0 μ9).bind fun z10 =>
  some z10.2
def X1_isAlways (a0 : Nat) (x1 : Int32) (μ : Mem) : Option Int32 :=
  (gI 1 0 a0 μ).bind fun v1 =>
  (some (if (x1 &&& (v1 ^^^ ((-1)))) = 0 then 1 else 0 : Int32)).bind fun v3 =>
  (zz v3).bind fun v4 =>
  some v4
def X1_bar (a0 : Nat) (x1 : Int32) (x2 : Int32) (x3 : Int32) (μ : Mem) : Option Int32 :=
  (vO 1 a0 μ).bind fun g1 =>
  (X1_isAlways a0 x1 μ).bind fun v2 =>
  if v2 = 0 then
  (gI 1 2 a0 μ).bind fun v9 =>
  if (X10_contains v9 x2) = 0 then
  (gI 1 1 a0 μ).bind fun v11 =>
  if (x1 &&& v11) = 0 then
  (some (if v2 = 0 then if x3 = 0 then 0 else 3 else 0 : Int32)).bind fun v14 =>
  some (v14)
  else
  some (2)
  else
  some (1)
  else
  (gI 1 1 a0 μ).bind fun v4 =>
  if (x1 &&& v4) = 0 then
  (some (if v2 = 0 then if x3 = 0 then 0 else 3 else 0 : Int32)).bind fun v7 =>
  some (v7)
  else
  some (2)
set_option maxRecDepth 100000 in
def X2_init (a0 : Nat) (μ : Mem) : Option Mem :=
  (pI 2 2 a0 ((-1)) μ).bind fun μ1 =>
  (nA 1 (mN μ + 0) 160 μ1).bind fun μ2 =>
  (pR 2 3 a0 (mN μ + 0) μ2).bind fun μ3 =>
  some μ3
def X2_append (a0 : Nat) (x1 : Int32) (μ : Mem) : Option Mem :=
  (gI 2 0 a0 μ).bind fun v1 =>
  ((if (160 : Int32) ≤ v1 then
  some μ
  else
  (gR 2 3 a0 μ).bind fun v3 =>
  (gI 2 0 a0 μ).bind fun v4 =>
  (sI v3 v4 x1 μ).bind fun μ5 =>
  (gI 2 0 a0 μ5).bind fun v6 =>
  (pI 2 0 a0 (v6 + 1) μ5).bind fun μ7 =>
  some μ7) : Option (Mem)).bind fun z8 =>
  some z8
def X2_skipBlanks_L0 (a0 : Nat) : Nat → Mem → Option (Mem)
  | 0, _ => none
  | n + 1, μ =>
      (gI 2 4 a0 μ).bind fun v1 =>
      (gI 2 0 a0 μ).bind fun v2 =>
      if v2 ≤ v1 then
      some μ
      else
      (gR 2 3 a0 μ).bind fun v4 =>
      (gI 2 4 a0 μ).bind fun v5 =>
      (aI v4 v5 μ).bind fun v6 =>
      if v6 = 32 then
      (gI 2 4 a0 μ).bind fun v8 =>
      (pI 2 4 a0 (v8 + 1) μ).bind fun μ9 =>
      X2_skipBlanks_L0 a0 n μ9
      else
      some μ
def X2_skipBlanks (a0 : Nat) (μ : Mem) : Option Mem :=
  (X2_skipBlanks_L0 a0 FU μ).bind fun z1 =>
  some z1
def X2_takeWord_L18 (a0 : Nat) (w1 : Nat) (μ : Mem) : Nat → Int32 → Option (Int32)
  | 0, _ => none
  | n + 1, x2 =>
      (gI 2 0 a0 μ).bind fun v1 =>
      if v1 ≤ x2 then
      some x2
      else
      (gR 2 3 a0 μ).bind fun v3 =>
      (aI v3 x2 μ).bind fun v4 =>
      if v4 < 97 then
      some x2
      else
      (gR 2 3 a0 μ).bind fun v6 =>
      (aI v6 x2 μ).bind fun v7 =>
      if (122 : Int32) < v7 then
      some x2
      else
      X2_takeWord_L18 a0 w1 μ n (x2 + 1)
def X2_takeWord_L71 (a0 : Nat) (w1 : Nat) (x2 : Int32) (μ : Mem) : Nat → Int32 → Option (Int32 × Mem)
  | 0, _ => none
  | n + 1, x3 =>
      (sLe w1).bind fun v1 =>
      if v1 ≤ x3 then
      (pI 2 4 a0 x2 μ).bind fun μ3 =>
      some (1, μ3)
      else
      (gR 2 3 a0 μ).bind fun v4 =>
      (gI 2 4 a0 μ).bind fun v5 =>
      (aI v4 (v5 + x3) μ).bind fun v6 =>
      (sChr w1 x3).bind fun v7 =>
      if v6 = v7 then
      X2_takeWord_L71 a0 w1 x2 μ n (x3 + 1)
      else
      some (0, μ)
def X2_takeWord (a0 : Nat) (w1 : Nat) (μ : Mem) : Option (Int32 × Mem) :=
  (gI 2 1 a0 μ).bind fun v1 =>
  if v1 = 0 then
  (vO 2 a0 μ).bind fun g3 =>
  (X2_skipBlanks a0 μ).bind fun μ4 =>
  (gI 2 4 a0 μ4).bind fun v5 =>
  (X2_takeWord_L18 a0 w1 μ4 FU v5).bind fun z6 =>
  (gI 2 4 a0 μ4).bind fun v7 =>
  (sLe w1).bind fun v8 =>
  if (z6 - v7) = v8 then
  X2_takeWord_L71 a0 w1 z6 μ4 FU 0
  else
  some (0, μ4)
  else
  some (0, μ)
def X2_note (a0 : Nat) (x1 : Int32) (x2 : Int32) (μ : Mem) : Option Mem :=
  (gI 2 1 a0 μ).bind fun v1 =>
  ((if v1 = 0 then
  (pI 2 1 a0 x1 μ).bind fun μ3 =>
  (pI 2 2 a0 x2 μ3).bind fun μ4 =>
  some μ4
  else
  some μ) : Option (Mem)).bind fun z5 =>
  some z5
def X2_refuseNinth (a0 : Nat) (a1 : Nat) (x2 : Int32) (μ : Mem) : Option Mem :=
  (gI 3 0 a1 μ).bind fun v1 =>
  ((if v1 < 8 then
  some μ
  else
  (vO 2 a0 μ).bind fun g3 =>
  (X2_note a0 3 x2 μ).bind fun μ4 =>
  some μ4) : Option (Mem)).bind fun z5 =>
  some z5
def X10_within (x0 : Int32) (x1 : Int32) (x2 : Int32) : Int32 :=
  (if x0 < x1 then 0 else if x2 < x0 then 0 else 1)
def X2_takeNumber_L21 (a0 : Nat) (x1 : Int32) (x2 : Int32) (x3 : Int32) : Nat → Int32 → Mem → Option (Int32 × Mem)
  | 0, _, _ => none
  | n + 1, x4, μ =>
      (gI 2 4 a0 μ).bind fun v1 =>
      (gI 2 0 a0 μ).bind fun v2 =>
      if v2 ≤ v1 then
      some ((x4, μ))
      else
      (gR 2 3 a0 μ).bind fun v4 =>
      (gI 2 4 a0 μ).bind fun v5 =>
      (aI v4 v5 μ).bind fun v6 =>
      if v6 < 48 then
      some ((x4, μ))
      else
      (gR 2 3 a0 μ).bind fun v8 =>
      (gI 2 4 a0 μ).bind fun v9 =>
      (aI v8 v9 μ).bind fun v10 =>
      if (57 : Int32) < v10 then
      some ((x4, μ))
      else
      (gI 2 4 a0 μ).bind fun v12 =>
      ((if (3 : Int32) ≤ (v12 - x3) then
      some x4
      else
      (gR 2 3 a0 μ).bind fun v14 =>
      (gI 2 4 a0 μ).bind fun v15 =>
      (aI v14 v15 μ).bind fun v16 =>
      some (((x4 * 10) + v16) - 48)) : Option (Int32)).bind fun z17 =>
      (gI 2 4 a0 μ).bind fun v18 =>
      (pI 2 4 a0 (v18 + 1) μ).bind fun μ19 =>
      X2_takeNumber_L21 a0 x1 x2 x3 n z17 μ19
def X2_takeNumber (a0 : Nat) (x1 : Int32) (x2 : Int32) (μ : Mem) : Option (Int32 × Mem) :=
  (gI 2 1 a0 μ).bind fun v1 =>
  if v1 = 0 then
  (vO 2 a0 μ).bind fun g3 =>
  (X2_skipBlanks a0 μ).bind fun μ4 =>
  (gI 2 4 a0 μ4).bind fun v5 =>
  (X2_takeNumber_L21 a0 x1 x2 v5 FU 0 μ4).bind fun z6 =>
  (gI 2 4 a0 z6.2).bind fun v7 =>
  ((if v7 = v5 then
  (vO 2 a0 z6.2).bind fun g16 =>
  (X2_note a0 1 v5 z6.2).bind fun μ17 =>
  some μ17
  else
  (gI 2 4 a0 z6.2).bind fun v9 =>
  if (3 : Int32) < (v9 - v5) then
  (vO 2 a0 z6.2).bind fun g11 =>
  (X2_note a0 2 v5 z6.2).bind fun μ12 =>
  some μ12
  else
  if (X10_within z6.1 x1 x2) = 0 then
  (vO 2 a0 z6.2).bind fun g14 =>
  (X2_note a0 2 v5 z6.2).bind fun μ15 =>
  some μ15
  else
  some z6.2) : Option (Mem)).bind fun z18 =>
  some (z6.1, z18)
  else
  some (0, μ)
def X3_add (a0 : Nat) (x1 : Int32) (x2 : Int32) (x3 : Int32) (x4 : Int32) (μ : Mem) : Option Mem :=
  (gI 3 0 a0 μ).bind fun v1 =>
  ((if (8 : Int32) ≤ v1 then
  some μ
  else
  (gR 3 1 a0 μ).bind fun v3 =>
  (gI 3 0 a0 μ).bind fun v4 =>
  (sI v3 v4 x1 μ).bind fun μ5 =>
  (gR 3 2 a0 μ5).bind fun v6 =>
  (gI 3 0 a0 μ5).bind fun v7 =>
  (sI v6 v7 x2 μ5).bind fun μ8 =>
  (gR 3 3 a0 μ8).bind fun v9 =>
  (gI 3 0 a0 μ8).bind fun v10 =>
  (sI v9 v10 x3 μ8).bind fun μ11 =>
  (gR 3 4 a0 μ11).bind fun v12 =>
  (gI 3 0 a0 μ11).bind fun v13 =>
  (sI v12 v13 x4 μ11).bind fun μ14 =>
  (gI 3 0 a0 μ14).bind fun v15 =>
  (pI 3 0 a0 (v15 + 1) μ14).bind fun μ16 =>
  some μ16) : Option (Mem)).bind fun z17 =>
  some z17
def X2_finish (a0 : Nat) (a1 : Nat) (x2 : Int32) (x3 : Int32) (x4 : Int32) (x5 : Int32) (μ : Mem) : Option Mem :=
  (vO 2 a0 μ).bind fun g1 =>
  (X2_skipBlanks a0 μ).bind fun μ2 =>
  (gI 2 4 a0 μ2).bind fun v3 =>
  (gI 2 0 a0 μ2).bind fun v4 =>
  ((if v4 ≤ v3 then
  (gI 2 4 a0 μ2).bind fun v6 =>
  (vO 2 a0 μ2).bind fun g7 =>
  (X2_note a0 1 v6 μ2).bind fun μ8 =>
  some μ8
  else
  (gR 2 3 a0 μ2).bind fun v9 =>
  (gI 2 4 a0 μ2).bind fun v10 =>
  (aI v9 v10 μ2).bind fun v11 =>
  if v11 = 59 then
  some μ2
  else
  (gI 2 4 a0 μ2).bind fun v13 =>
  (vO 2 a0 μ2).bind fun g14 =>
  (X2_note a0 1 v13 μ2).bind fun μ15 =>
  some μ15) : Option (Mem)).bind fun z16 =>
  (gI 2 1 a0 z16).bind fun v17 =>
  ((if v17 = 0 then
  (gI 2 4 a0 z16).bind fun v19 =>
  (pI 2 4 a0 (v19 + 1) z16).bind fun μ20 =>
  (vO 3 a1 μ20).bind fun g21 =>
  (X3_add a1 x2 x3 x4 x5 μ20).bind fun μ22 =>
  some μ22
  else
  some z16) : Option (Mem)).bind fun z23 =>
  some z23
def X2_needWord (a0 : Nat) (w1 : Nat) (μ : Mem) : Option Mem :=
  (vO 2 a0 μ).bind fun g1 =>
  (X2_takeWord a0 w1 μ).bind fun z2 =>
  ((if z2.1 = 0 then
  (gI 2 4 a0 z2.2).bind fun v4 =>
  (vO 2 a0 z2.2).bind fun g5 =>
  (X2_note a0 1 v4 z2.2).bind fun μ6 =>
  some μ6
  else
  some z2.2) : Option (Mem)).bind fun z7 =>
  some z7
def X2_readNever (a0 : Nat) (a1 : Nat) (μ : Mem) : Option Mem :=
  (vO 2 a0 μ).bind fun g1 =>
  (X2_takeWord a0 1 μ).bind fun z2 =>
  ((if z2.1 = 0 then
  (vO 2 a0 z2.2).bind fun g4 =>
  (X2_needWord a0 3 z2.2).bind fun μ5 =>
  (vO 2 a0 μ5).bind fun g6 =>
  (X2_takeNumber a0 0 3 μ5).bind fun z7 =>
  (vO 2 a0 z7.2).bind fun g8 =>
  (X2_needWord a0 4 z7.2).bind fun μ9 =>
  (vO 2 a0 μ9).bind fun g10 =>
  (X2_takeNumber a0 0 60 μ9).bind fun z11 =>
  (vO 2 a0 z11.2).bind fun g12 =>
  (X2_finish a0 a1 2 z7.1 z11.1 0 z11.2).bind fun μ13 =>
  some μ13
  else
  (vO 2 a0 z2.2).bind fun g14 =>
  (X2_takeNumber a0 0 3 z2.2).bind fun z15 =>
  (vO 2 a0 z15.2).bind fun g16 =>
  (X2_takeWord a0 2 z15.2).bind fun z17 =>
  ((if z17.1 = 0 then
  (vO 2 a0 z17.2).bind fun g19 =>
  (X2_finish a0 a1 0 z15.1 0 0 z17.2).bind fun μ20 =>
  some μ20
  else
  (vO 2 a0 z17.2).bind fun g21 =>
  (X2_takeNumber a0 0 3 z17.2).bind fun z22 =>
  (vO 2 a0 z22.2).bind fun g23 =>
  (X2_takeNumber a0 0 100 z22.2).bind fun z24 =>
  (vO 2 a0 z24.2).bind fun g25 =>
  (X2_finish a0 a1 1 z15.1 z22.1 z24.1 z24.2).bind fun μ26 =>
  some μ26) : Option (Mem)).bind fun z27 =>
  some z27) : Option (Mem)).bind fun z28 =>
  some z28
def X2_readClause (a0 : Nat) (a1 : Nat) (μ : Mem) : Option Mem :=
  (gI 2 4 a0 μ).bind fun v1 =>
  (vO 2 a0 μ).bind fun g2 =>
  (X2_takeWord a0 0 μ).bind fun z3 =>
  ((if z3.1 = 0 then
  (vO 2 a0 z3.2).bind fun g5 =>
  (X2_takeWord a0 5 z3.2).bind fun z6 =>
  if z6.1 = 0 then
  (vO 2 a0 z6.2).bind fun g8 =>
  (X2_takeWord a0 7 z6.2).bind fun z9 =>
  if z9.1 = 0 then
  (gI 2 4 a0 z9.2).bind fun v11 =>
  (vO 2 a0 z9.2).bind fun g12 =>
  (X2_note a0 1 v11 z9.2).bind fun μ13 =>
  some μ13
  else
  (vO 2 a0 z9.2).bind fun g14 =>
  (X2_refuseNinth a0 a1 v1 z9.2).bind fun μ15 =>
  (vO 2 a0 μ15).bind fun g16 =>
  (X2_needWord a0 8 μ15).bind fun μ17 =>
  (vO 2 a0 μ17).bind fun g18 =>
  (X2_takeNumber a0 0 9 μ17).bind fun z19 =>
  (vO 2 a0 z19.2).bind fun g20 =>
  (X2_finish a0 a1 4 z19.1 0 0 z19.2).bind fun μ21 =>
  some μ21
  else
  (vO 2 a0 z6.2).bind fun g22 =>
  (X2_refuseNinth a0 a1 v1 z6.2).bind fun μ23 =>
  (vO 2 a0 μ23).bind fun g24 =>
  (X2_takeNumber a0 0 9 μ23).bind fun z25 =>
  (vO 2 a0 z25.2).bind fun g26 =>
  (X2_needWord a0 6 z25.2).bind fun μ27 =>
  (vO 2 a0 μ27).bind fun g28 =>
  (X2_takeNumber a0 1 60 μ27).bind fun z29 =>
  (vO 2 a0 z29.2).bind fun g30 =>
  (X2_finish a0 a1 3 z25.1 z29.1 0 z29.2).bind fun μ31 =>
  some μ31
  else
  (vO 2 a0 z3.2).bind fun g32 =>
  (X2_refuseNinth a0 a1 v1 z3.2).bind fun μ33 =>
  (vO 2 a0 μ33).bind fun g34 =>
  (X2_readNever a0 a1 μ33).bind fun μ35 =>
  some μ35) : Option (Mem)).bind fun z36 =>
  some z36
def X2_parse_L26 (a0 : Nat) (a1 : Nat) : Nat → Int32 → Mem → Option (Int32 × Mem)
  | 0, _, _ => none
  | n + 1, x2, μ =>
      if (160 : Int32) ≤ x2 then
      some ((x2, μ))
      else
      (gI 2 4 a0 μ).bind fun v2 =>
      (gI 2 0 a0 μ).bind fun v3 =>
      if v3 ≤ v2 then
      some ((x2, μ))
      else
      (gI 2 1 a0 μ).bind fun v5 =>
      if v5 = 0 then
      (vO 2 a0 μ).bind fun g7 =>
      (X2_readClause a0 a1 μ).bind fun μ8 =>
      (vO 2 a0 μ8).bind fun g9 =>
      (X2_skipBlanks a0 μ8).bind fun μ10 =>
      X2_parse_L26 a0 a1 n (x2 + 1) μ10
      else
      some ((x2, μ))
def X2_parse (a0 : Nat) (a1 : Nat) (μ : Mem) : Option Mem :=
  (pI 2 4 a0 0 μ).bind fun μ1 =>
  (pI 2 1 a0 0 μ1).bind fun μ2 =>
  (pI 2 2 a0 ((-1)) μ2).bind fun μ3 =>
  (pI 3 0 a1 0 μ3).bind fun μ4 =>
  (vO 2 a0 μ4).bind fun g5 =>
  (X2_skipBlanks a0 μ4).bind fun μ6 =>
  (X2_parse_L26 a0 a1 FU 0 μ6).bind fun z7 =>
  some z7.2
set_option maxRecDepth 100000 in
def X3_init (a0 : Nat) (μ : Mem) : Option Mem :=
  (nA 1 (mN μ + 0) 8 μ).bind fun μ1 =>
  (pR 3 1 a0 (mN μ + 0) μ1).bind fun μ2 =>
  (nA 1 (mN μ + 1) 8 μ2).bind fun μ3 =>
  (pR 3 2 a0 (mN μ + 1) μ3).bind fun μ4 =>
  (nA 1 (mN μ + 2) 8 μ4).bind fun μ5 =>
  (pR 3 3 a0 (mN μ + 2) μ5).bind fun μ6 =>
  (nA 1 (mN μ + 3) 8 μ6).bind fun μ7 =>
  (pR 3 4 a0 (mN μ + 3) μ7).bind fun μ8 =>
  some μ8
def X3_countsSayings_L2 (a0 : Nat) (μ : Mem) : Nat → Int32 → Option (Int32)
  | 0, _ => none
  | n + 1, x1 =>
      (gI 3 0 a0 μ).bind fun v1 =>
      if v1 ≤ x1 then
      some 0
      else
      (gR 3 1 a0 μ).bind fun v3 =>
      (aI v3 x1 μ).bind fun v4 =>
      if v4 = 3 then
      some 1
      else
      X3_countsSayings_L2 a0 μ n (x1 + 1)
def X3_countsSayings (a0 : Nat) (μ : Mem) : Option Int32 :=
  X3_countsSayings_L2 a0 μ FU 0
def X3_saidWithin_L9 (a0 : Nat) (x2 : Int32) (μ : Mem) : Nat → Int32 → Int32 → Option (Int32 × Int32)
  | 0, _, _ => none
  | n + 1, x3, x4 =>
      if x2 < x4 then
      some ((x3, x4))
      else
      (aL a0 μ).bind fun v2 =>
      if v2 ≤ x4 then
      some ((x3, x4))
      else
      (aI a0 x4 μ).bind fun v4 =>
      (some (x3 + v4 : Int32)).bind fun v5 =>
      X3_saidWithin_L9 a0 x2 μ n v5 (x4 + 1)
def X3_saidWithin (a0 : Nat) (x1 : Int32) (x2 : Int32) (μ : Mem) : Option Int32 :=
  (some (if (0 : Int32) < x1 then x1 else 0 : Int32)).bind fun v1 =>
  (X3_saidWithin_L9 a0 x2 μ FU 0 v1).bind fun z2 =>
  some (z2.1)
def X3_mostBars_L2 (a0 : Nat) (a1 : Nat) (x2 : Int32) (μ : Mem) : Nat → Int32 → Option (Int32)
  | 0, _ => none
  | n + 1, x3 =>
      (gI 3 0 a0 μ).bind fun v1 =>
      if v1 ≤ x3 then
      some 0
      else
      (gR 3 1 a0 μ).bind fun v3 =>
      (aI v3 x3 μ).bind fun v4 =>
      if v4 = 3 then
      (gR 3 3 a0 μ).bind fun v6 =>
      (aI v6 x3 μ).bind fun v7 =>
      (X3_saidWithin a1 ((x2 - v7) + 1) x2 μ).bind fun v8 =>
      (gR 3 2 a0 μ).bind fun v9 =>
      (aI v9 x3 μ).bind fun v10 =>
      if v8 < v10 then
      X3_mostBars_L2 a0 a1 x2 μ n (x3 + 1)
      else
      some 1
      else
      X3_mostBars_L2 a0 a1 x2 μ n (x3 + 1)
def X3_mostBars (a0 : Nat) (a1 : Nat) (x2 : Int32) (μ : Mem) : Option Int32 :=
  X3_mostBars_L2 a0 a1 x2 μ FU 0
set_option maxRecDepth 100000 in
def X4_init (a0 : Nat) (a1 : Nat) (a2 : Nat) (a3 : Nat) (μ : Mem) : Option Mem :=
  (nA 1 (mN μ + 0) 6 μ).bind fun μ1 =>
  (pR 4 1 a0 (mN μ + 0) μ1).bind fun μ2 =>
  (nA 1 (mN μ + 1) 6 μ2).bind fun μ3 =>
  (pR 4 2 a0 (mN μ + 1) μ3).bind fun μ4 =>
  (nO 1 (mN μ + 2) μ4).bind fun μ5 =>
  (gN (mN μ + 3) μ5).bind fun g6 =>
  (X1_init (mN μ + 2) μ5).bind fun μ7 =>
  (pR 4 6 a0 (mN μ + 2) μ7).bind fun μ8 =>
  (nA 1 (mN μ + 3) 6 μ8).bind fun μ9 =>
  (pR 4 7 a0 (mN μ + 3) μ9).bind fun μ10 =>
  (nA 1 (mN μ + 4) 64 μ10).bind fun μ11 =>
  (pR 4 8 a0 (mN μ + 4) μ11).bind fun μ12 =>
  (nA 1 (mN μ + 5) 64 μ12).bind fun μ13 =>
  (pR 4 9 a0 (mN μ + 5) μ13).bind fun μ14 =>
  (nA 1 (mN μ + 6) 64 μ14).bind fun μ15 =>
  (pR 4 10 a0 (mN μ + 6) μ15).bind fun μ16 =>
  (nA 1 (mN μ + 7) 4 μ16).bind fun μ17 =>
  (pR 4 11 a0 (mN μ + 7) μ17).bind fun μ18 =>
  (nA 1 (mN μ + 8) 384 μ18).bind fun μ19 =>
  (pR 4 12 a0 (mN μ + 8) μ19).bind fun μ20 =>
  (nA 1 (mN μ + 9) 384 μ20).bind fun μ21 =>
  (pR 4 13 a0 (mN μ + 9) μ21).bind fun μ22 =>
  (nA 1 (mN μ + 10) 4096 μ22).bind fun μ23 =>
  (pR 4 14 a0 (mN μ + 10) μ23).bind fun μ24 =>
  (nA 1 (mN μ + 11) 66 μ24).bind fun μ25 =>
  (pR 4 15 a0 (mN μ + 11) μ25).bind fun μ26 =>
  (pR 4 3 a0 a1 μ26).bind fun μ27 =>
  (pR 4 4 a0 a2 μ27).bind fun μ28 =>
  (pR 4 5 a0 a3 μ28).bind fun μ29 =>
  some μ29
def X4_pick_L7 (a0 : Nat) (x1 : Int32) (x2 : Int32) : Nat → Int32 → Mem → Option (Int32 × Mem)
  | 0, _, _ => none
  | n + 1, x3, μ =>
      (gR 4 5 a0 μ).bind fun v1 =>
      (gI 0 2 v1 μ).bind fun v2 =>
      if v2 ≤ x3 then
      some ((x3, μ))
      else
      (gI 4 16 a0 μ).bind fun v4 =>
      if (6 : Int32) ≤ v4 then
      some ((x3, μ))
      else
      (gR 4 5 a0 μ).bind fun v6 =>
      (gR 0 0 v6 μ).bind fun v7 =>
      (aR 6 v7 x3 μ).bind fun v8 =>
      (gI 6 0 v8 μ).bind fun v9 =>
      ((if (X10_contains v9 x1) = 0 then
      some μ
      else
      (gR 4 5 a0 μ).bind fun v11 =>
      (vO 0 v11 μ).bind fun g12 =>
      (X0_standing v11 x3 x2 μ).bind fun v13 =>
      if v13 = 0 then
      (gR 4 7 a0 μ).bind fun v15 =>
      (gI 4 16 a0 μ).bind fun v16 =>
      (sI v15 v16 x3 μ).bind fun μ17 =>
      (gI 4 16 a0 μ17).bind fun v18 =>
      (pI 4 16 a0 (v18 + 1) μ17).bind fun μ19 =>
      some μ19
      else
      some μ) : Option (Mem)).bind fun z20 =>
      X4_pick_L7 a0 x1 x2 n (x3 + 1) z20
def X4_pick_L123 (a0 : Nat) (x3 : Int32) (x4 : Int32) : Nat → Int32 → Mem → Option (Int32 × Mem)
  | 0, _, _ => none
  | n + 1, x5, μ =>
      if ((1 : Int32) <<< (x3 &&& 31)) ≤ x5 then
      some ((x5, μ))
      else
      (some (x5 ||| (1 <<< (x3 &&& 31)) : Int32)).bind fun v2 =>
      (gR 4 8 a0 μ).bind fun v3 =>
      (gR 4 8 a0 μ).bind fun v4 =>
      (aI v4 x5 μ).bind fun v5 =>
      (gR 4 7 a0 μ).bind fun v6 =>
      (aI v6 x3 μ).bind fun v7 =>
      (sI v3 v2 (v5 ||| (1 <<< (v7 &&& 31))) μ).bind fun μ8 =>
      (gR 4 9 a0 μ8).bind fun v9 =>
      ((if x5 = 0 then
      some x4
      else
      (gR 4 9 a0 μ8).bind fun v11 =>
      (aI v11 x5 μ8).bind fun v12 =>
      if v12 = x4 then
      some x4
      else
      some ((-1))) : Option (Int32)).bind fun z14 =>
      (sI v9 v2 z14 μ8).bind fun μ15 =>
      X4_pick_L123 a0 x3 x4 n (x5 + 1) μ15
def X4_pick_L93 (a0 : Nat) : Nat → Int32 → Mem → Option (Int32 × Mem)
  | 0, _, _ => none
  | n + 1, x3, μ =>
      (gI 4 16 a0 μ).bind fun v1 =>
      if v1 ≤ x3 then
      some ((x3, μ))
      else
      (gR 4 5 a0 μ).bind fun v3 =>
      (gR 0 0 v3 μ).bind fun v4 =>
      (gR 4 7 a0 μ).bind fun v5 =>
      (aI v5 x3 μ).bind fun v6 =>
      (aR 6 v4 v6 μ).bind fun v7 =>
      (gI 6 2 v7 μ).bind fun v8 =>
      (X4_pick_L123 a0 x3 v8 FU 0 μ).bind fun z9 =>
      X4_pick_L93 a0 n (x3 + 1) z9.2
def X4_pick (a0 : Nat) (x1 : Int32) (x2 : Int32) (μ : Mem) : Option Mem :=
  (pI 4 16 a0 0 μ).bind fun μ1 =>
  (X4_pick_L7 a0 x1 x2 FU 0 μ1).bind fun z2 =>
  (gR 4 8 a0 z2.2).bind fun v3 =>
  (sI v3 0 0 z2.2).bind fun μ4 =>
  (X4_pick_L93 a0 FU 0 μ4).bind fun z5 =>
  some z5.2
def X9_factor (x0 : Int32) (x1 : Int32) : Int64 :=
  (if x1 = 0 then x0.toInt64 else if x0 ≤ 0 then x0.toInt64 else 1)
def X9_signFactor (a0 : Nat) (x1 : Int32) (x2 : Int32) (x3 : Int32) (μ : Mem) : Option Int64 :=
  ((if x2 < 0 then
  some 1
  else
  if x2 < 4 then
  (gR 9 1 a0 μ).bind fun v3 =>
  (aR 7 v3 x1 μ).bind fun v4 =>
  (aI v4 x2 μ).bind fun v5 =>
  some (X9_factor v5 x3)
  else
  some 1) : Option (Int64)).bind fun z6 =>
  some (z6)
def X9_weigh_L19 (a0 : Nat) (x1 : Int32) (x2 : Int32) (x3 : Int32) (x4 : Int32) : Nat → Int32 → Mem → Option (Int32 × Mem)
  | 0, _, _ => none
  | n + 1, x5, μ =>
      if (4 : Int32) ≤ x5 then
      some ((x5, μ))
      else
      (gR 9 6 a0 μ).bind fun v2 =>
      (gR 9 2 a0 μ).bind fun v3 =>
      (aI v3 x5 μ).bind fun v4 =>
      (gR 9 3 a0 μ).bind fun v5 =>
      (aR 7 v5 x1 μ).bind fun v6 =>
      (aI v6 x4 μ).bind fun v7 =>
      (vO 9 a0 μ).bind fun g8 =>
      (X9_signFactor a0 x5 v7 x3 μ).bind fun v9 =>
      (sJ v2 x5 ((X9_factor v4 x3) * v9) μ).bind fun μ10 =>
      X9_weigh_L19 a0 x1 x2 x3 x4 n (x5 + 1) μ10
def X9_weigh_L93 (a0 : Nat) (x1 : Int32) (x2 : Int32) (x3 : Int32) (x5 : Int32) (x6 : Int32) (μ : Mem) : Nat → Int64 → Int32 → Option (Int64 × Int32)
  | 0, _, _ => none
  | n + 1, j7, x9 =>
      if (4 : Int32) ≤ x9 then
      some ((j7, x9))
      else
      (gR 9 6 a0 μ).bind fun v2 =>
      (aJ v2 x9 μ).bind fun v3 =>
      (gR 9 0 a0 μ).bind fun v4 =>
      (aR 7 v4 x9 μ).bind fun v5 =>
      (aI v5 x6 μ).bind fun v6 =>
      (some (j7 + (v3 * (X9_factor v6 x3)) : Int64)).bind fun v7 =>
      X9_weigh_L93 a0 x1 x2 x3 x5 x6 μ n v7 (x9 + 1)
def X9_weigh_L81 (a0 : Nat) (x1 : Int32) (x2 : Int32) (x3 : Int32) (x5 : Int32) : Nat → Int32 → Mem → Option (Int32 × Mem)
  | 0, _, _ => none
  | n + 1, x6, μ =>
      if (4 : Int32) ≤ x6 then
      some ((x6, μ))
      else
      (X9_weigh_L93 a0 x1 x2 x3 x5 x6 μ FU 0 0).bind fun z2 =>
      (gR 9 7 a0 μ).bind fun v3 =>
      (gR 9 3 a0 μ).bind fun v4 =>
      (aR 7 v4 x1 μ).bind fun v5 =>
      (aI v5 x5 μ).bind fun v6 =>
      (vO 9 a0 μ).bind fun g7 =>
      (X9_signFactor a0 x6 v6 x3 μ).bind fun v8 =>
      (sJ v3 x6 (z2.1 * v8) μ).bind fun μ9 =>
      X9_weigh_L81 a0 x1 x2 x3 x5 n (x6 + 1) μ9
def X9_weigh_L72 (a0 : Nat) (x1 : Int32) (x2 : Int32) (x3 : Int32) : Nat → Int32 → Mem → Option (Int32 × Mem)
  | 0, _, _ => none
  | n + 1, x5, μ =>
      if x2 < x5 then
      some ((x5, μ))
      else
      (X9_weigh_L81 a0 x1 x2 x3 x5 FU 0 μ).bind fun z2 =>
      (gR 9 6 a0 z2.2).bind fun v3 =>
      (gR 9 7 a0 z2.2).bind fun v4 =>
      (pR 9 6 a0 v4 z2.2).bind fun μ5 =>
      (pR 9 7 a0 v3 μ5).bind fun μ6 =>
      X9_weigh_L72 a0 x1 x2 x3 n (x5 + 1) μ6
def X9_weigh (a0 : Nat) (x1 : Int32) (x2 : Int32) (x3 : Int32) (μ : Mem) : Option Mem :=
  (some (if x2 ≤ 6 then 0 else x2 - 6 : Int32)).bind fun v2 =>
  (X9_weigh_L19 a0 x1 x2 x3 v2 FU 0 μ).bind fun z3 =>
  (some (v2 + 1 : Int32)).bind fun v4 =>
  (X9_weigh_L72 a0 x1 x2 x3 FU v4 z3.2).bind fun z5 =>
  some z5.2
def X9_allWeights (a0 : Nat) (μ : Mem) : Option Int64 :=
  (gR 9 6 a0 μ).bind fun v1 =>
  (aJ v1 0 μ).bind fun v2 =>
  (gR 9 6 a0 μ).bind fun v3 =>
  (aJ v3 1 μ).bind fun v4 =>
  (gR 9 6 a0 μ).bind fun v5 =>
  (aJ v5 2 μ).bind fun v6 =>
  (gR 9 6 a0 μ).bind fun v7 =>
  (aJ v7 3 μ).bind fun v8 =>
  some (((v2 + v4) + v6) + v8)
def X9_moveOn_L2 (a0 : Nat) (a1 : Nat) (a2 : Nat) : Nat → Int32 → Mem → Option (Int32 × Mem)
  | 0, _, _ => none
  | n + 1, x3, μ =>
      if (4 : Int32) ≤ x3 then
      some ((x3, μ))
      else
      (sI a2 x3 0 μ).bind fun μ2 =>
      X9_moveOn_L2 a0 a1 a2 n (x3 + 1) μ2
def X9_moveOn_L69 (a0 : Nat) (a1 : Nat) (a2 : Nat) (x3 : Int32) (x4 : Int32) : Nat → Int32 → Mem → Option (Int32 × Mem)
  | 0, _, _ => none
  | n + 1, x5, μ =>
      if (4 : Int32) ≤ x5 then
      some ((x5, μ))
      else
      (aI a2 x5 μ).bind fun v2 =>
      (aI a1 x3 μ).bind fun v3 =>
      (gR 9 0 a0 μ).bind fun v4 =>
      (aR 7 v4 x3 μ).bind fun v5 =>
      (aI v5 x5 μ).bind fun v6 =>
      (dvI (v3 * v6) x4).bind fun v7 =>
      (sI a2 x5 (v2 + v7) μ).bind fun μ8 =>
      X9_moveOn_L69 a0 a1 a2 x3 x4 n (x5 + 1) μ8
def X9_moveOn_L19 (a0 : Nat) (a1 : Nat) (a2 : Nat) : Nat → Int32 → Mem → Option (Int32 × Mem)
  | 0, _, _ => none
  | n + 1, x3, μ =>
      if (4 : Int32) ≤ x3 then
      some ((x3, μ))
      else
      (gR 9 0 a0 μ).bind fun v2 =>
      (aR 7 v2 x3 μ).bind fun v3 =>
      (aI v3 0 μ).bind fun v4 =>
      (gR 9 0 a0 μ).bind fun v5 =>
      (aR 7 v5 x3 μ).bind fun v6 =>
      (aI v6 1 μ).bind fun v7 =>
      (gR 9 0 a0 μ).bind fun v8 =>
      (aR 7 v8 x3 μ).bind fun v9 =>
      (aI v9 2 μ).bind fun v10 =>
      (gR 9 0 a0 μ).bind fun v11 =>
      (aR 7 v11 x3 μ).bind fun v12 =>
      (aI v12 3 μ).bind fun v13 =>
      (some (((v4 + v7) + v10) + v13 : Int32)).bind fun v14 =>
      ((if v14 ≤ 0 then
      some μ
      else
      (X9_moveOn_L69 a0 a1 a2 x3 v14 FU 0 μ).bind fun z16 =>
      some z16.2) : Option (Mem)).bind fun z17 =>
      X9_moveOn_L19 a0 a1 a2 n (x3 + 1) z17
def X9_moveOn (a0 : Nat) (a1 : Nat) (a2 : Nat) (μ : Mem) : Option Mem :=
  (X9_moveOn_L2 a0 a1 a2 FU 0 μ).bind fun z1 =>
  (X9_moveOn_L19 a0 a1 a2 FU 0 z1.2).bind fun z2 =>
  some z2.2
def X9_lookAhead_L16 (a0 : Nat) (x3 : Int32) (j4 : Int64) : Nat → Int32 → Mem → Option (Int32 × Mem)
  | 0, _, _ => none
  | n + 1, x6, μ =>
      if (4 : Int32) ≤ x6 then
      some ((x6, μ))
      else
      (gR 9 4 a0 μ).bind fun v2 =>
      (aR 7 v2 0 μ).bind fun v3 =>
      ((if (0 : Int32) < (lg_cmp j4 0) then
      (gR 9 6 a0 μ).bind fun v5 =>
      (aJ v5 x6 μ).bind fun v6 =>
      (dvJ (v6 * 1000000) j4).bind fun v7 =>
      some v7.toInt32
      else
      some 0) : Option (Int32)).bind fun z8 =>
      (sI v3 x6 z8 μ).bind fun μ9 =>
      X9_lookAhead_L16 a0 x3 j4 n (x6 + 1) μ9
def X9_lookAhead_L66 (a0 : Nat) (x3 : Int32) : Nat → Int32 → Mem → Option (Int32 × Mem)
  | 0, _, _ => none
  | n + 1, x6, μ =>
      if x3 < x6 then
      some ((x6, μ))
      else
      if (8 : Int32) < x6 then
      some ((x6, μ))
      else
      (gR 9 4 a0 μ).bind fun v3 =>
      (aR 7 v3 (x6 - 1) μ).bind fun v4 =>
      (gR 9 4 a0 μ).bind fun v5 =>
      (aR 7 v5 x6 μ).bind fun v6 =>
      (vO 9 a0 μ).bind fun g7 =>
      (X9_moveOn a0 v4 v6 μ).bind fun μ8 =>
      X9_lookAhead_L66 a0 x3 n (x6 + 1) μ8
def X9_lookAhead (a0 : Nat) (x1 : Int32) (x2 : Int32) (x3 : Int32) (μ : Mem) : Option Mem :=
  (vO 9 a0 μ).bind fun g1 =>
  (X9_weigh a0 x1 x2 0 μ).bind fun μ2 =>
  (vO 9 a0 μ2).bind fun g3 =>
  (X9_allWeights a0 μ2).bind fun v4 =>
  (X9_lookAhead_L16 a0 x3 v4 FU 0 μ2).bind fun z5 =>
  (X9_lookAhead_L66 a0 x3 FU 1 z5.2).bind fun z6 =>
  some z6.2
def X8_lossBy_L5 (a0 : Nat) (x1 : Int32) (a2 : Nat) (μ : Mem) : Nat → Int32 → Int32 → Option (Int32 × Int32)
  | 0, _, _ => none
  | n + 1, x3, x4 =>
      if (4 : Int32) ≤ x4 then
      some ((x3, x4))
      else
      (aI a2 x4 μ).bind fun v2 =>
      (gR 8 0 a0 μ).bind fun v3 =>
      (aR 7 v3 x1 μ).bind fun v4 =>
      (aI v4 x4 μ).bind fun v5 =>
      (dvJ (v2.toInt64 * v5.toInt64) 1000000).bind fun v6 =>
      (some (x3 + v6.toInt32 : Int32)).bind fun v7 =>
      X8_lossBy_L5 a0 x1 a2 μ n v7 (x4 + 1)
def X8_lossBy (a0 : Nat) (x1 : Int32) (a2 : Nat) (μ : Mem) : Option Int32 :=
  (X8_lossBy_L5 a0 x1 a2 μ FU 0 0).bind fun z1 =>
  some (z1.1)
def X9_seamOdds_L4 (a0 : Nat) (x1 : Int32) (μ : Mem) : Nat → Int32 → Int32 → Option (Int32 × Int32)
  | 0, _, _ => none
  | n + 1, x2, x3 =>
      if (4 : Int32) ≤ x3 then
      some ((x2, x3))
      else
      (gI 9 5 a0 μ).bind fun v2 =>
      ((if (X10_contains v2 x3) = 0 then
      some x2
      else
      (gR 9 4 a0 μ).bind fun v4 =>
      (aR 7 v4 x1 μ).bind fun v5 =>
      (aI v5 x3 μ).bind fun v6 =>
      some (x2 + v6)) : Option (Int32)).bind fun z7 =>
      X9_seamOdds_L4 a0 x1 μ n z7 (x3 + 1)
def X9_seamOdds (a0 : Nat) (x1 : Int32) (μ : Mem) : Option Int32 :=
  (X9_seamOdds_L4 a0 x1 μ FU 0 0).bind fun z1 =>
  some (z1.1)
def X6_isMust (a0 : Nat) (μ : Mem) : Option Int32 :=
  (gI 6 1 a0 μ).bind fun v1 =>
  ((if v1 = 0 then
  some 1
  else
  (gI 6 1 a0 μ).bind fun v3 =>
  if v3 = 3 then
  some 1
  else
  some 0) : Option (Int32)).bind fun z5 =>
  (zz z5).bind fun v6 =>
  some v6
def X6_valueIn (a0 : Nat) (x1 : Int32) (x2 : Int32) (μ : Mem) : Option Int32 :=
  (gI 6 8 a0 μ).bind fun v1 =>
  if v1 = 0 then
  (gI 6 6 a0 μ).bind fun v3 =>
  if x1 ≤ v3 then
  (gI 6 4 a0 μ).bind fun v5 =>
  (gI 6 5 a0 μ).bind fun v6 =>
  (gI 6 7 a0 μ).bind fun v7 =>
  (some (if (0 : Int32) < (v5 - (v6 * (x1 - v7))) then v5 - (v6 * (x1 - v7)) else 0 : Int32)).bind fun v8 =>
  (gI 6 1 a0 μ).bind fun v9 =>
  ((if v9 = 2 then
  (dvJ (v8.toInt64 * x2.toInt64) 1000000).bind fun v11 =>
  some v11.toInt32
  else
  some v8) : Option (Int32)).bind fun z12 =>
  some (z12)
  else
  some (0)
  else
  some (0)
def X6_planValueIn (a0 : Nat) (x1 : Int32) (x2 : Int32) (μ : Mem) : Option Int32 :=
  (vO 6 a0 μ).bind fun g1 =>
  (X6_isMust a0 μ).bind fun v2 =>
  ((if v2 = 0 then
  some 0
  else
  (gI 6 6 a0 μ).bind fun v4 =>
  if v4 < x1 then
  some 0
  else
  some 2000) : Option (Int32)).bind fun z6 =>
  (vO 6 a0 μ).bind fun g7 =>
  (X6_valueIn a0 x1 x2 μ).bind fun v8 =>
  some (v8 + z6)
def X4_priceSet_L27 (a0 : Nat) (x1 : Int32) (x2 : Int32) : Nat → Int32 → Mem → Option (Int32 × Mem)
  | 0, _, _ => none
  | n + 1, x3, μ =>
      if (4 : Int32) ≤ x3 then
      some ((x3, μ))
      else
      (gR 4 10 a0 μ).bind fun v2 =>
      (aI v2 x2 μ).bind fun v3 =>
      (gR 4 4 a0 μ).bind fun v4 =>
      (gR 8 1 v4 μ).bind fun v5 =>
      (aI v5 x3 μ).bind fun v6 =>
      (dvI (v3 * v6) 100).bind fun v7 =>
      (gR 4 11 a0 μ).bind fun v8 =>
      (aI v8 x3 μ).bind fun v9 =>
      (some (v7 - v9 : Int32)).bind fun v10 =>
      (gR 4 12 a0 μ).bind fun v11 =>
      (aI v11 x1 μ).bind fun v12 =>
      ((if v10 ≤ v12 then
      some μ
      else
      (gR 4 6 a0 μ).bind fun v14 =>
      (gR 4 8 a0 μ).bind fun v15 =>
      (aI v15 x2 μ).bind fun v16 =>
      (vO 1 v14 μ).bind fun g17 =>
      (X1_bar v14 v16 x3 0 μ).bind fun v18 =>
      if v18 = 0 then
      (gR 4 12 a0 μ).bind fun v20 =>
      (sI v20 x1 v10 μ).bind fun μ21 =>
      (gR 4 13 a0 μ21).bind fun v22 =>
      (sI v22 x1 x3 μ21).bind fun μ23 =>
      some μ23
      else
      some μ) : Option (Mem)).bind fun z24 =>
      X4_priceSet_L27 a0 x1 x2 n (x3 + 1) z24
def X4_priceSet (a0 : Nat) (x1 : Int32) (x2 : Int32) (μ : Mem) : Option Mem :=
  (gR 4 12 a0 μ).bind fun v1 =>
  (sI v1 x1 0 μ).bind fun μ2 =>
  (gR 4 13 a0 μ2).bind fun v3 =>
  (sI v3 x1 ((-1)) μ2).bind fun μ4 =>
  (gR 4 9 a0 μ4).bind fun v5 =>
  (aI v5 x2 μ4).bind fun v6 =>
  if v6 = ((-1)) then
  some μ4
  else
  (X4_priceSet_L27 a0 x1 x2 FU 0 μ4).bind fun z8 =>
  some z8.2
def X4_price_L25 (a0 : Nat) (x1 : Int32) (x2 : Int32) : Nat → Int32 → Mem → Option (Int32 × Mem)
  | 0, _, _ => none
  | n + 1, x4, μ =>
      if (4 : Int32) ≤ x4 then
      some ((x4, μ))
      else
      (gR 4 11 a0 μ).bind fun v2 =>
      (gR 4 4 a0 μ).bind fun v3 =>
      (gR 4 3 a0 μ).bind fun v4 =>
      (gR 9 4 v4 μ).bind fun v5 =>
      (aR 7 v5 x1 μ).bind fun v6 =>
      (vO 8 v3 μ).bind fun g7 =>
      (X8_lossBy v3 x4 v6 μ).bind fun v8 =>
      (sI v2 x4 v8 μ).bind fun μ9 =>
      X4_price_L25 a0 x1 x2 n (x4 + 1) μ9
def X4_price_L113 (a0 : Nat) (x1 : Int32) (x2 : Int32) (x4 : Int32) (x5 : Int32) : Nat → Int32 → Mem → Option (Int32 × Mem)
  | 0, _, _ => none
  | n + 1, x6, μ =>
      if ((1 : Int32) <<< (x4 &&& 31)) ≤ x6 then
      some ((x6, μ))
      else
      (gR 4 10 a0 μ).bind fun v2 =>
      (gR 4 10 a0 μ).bind fun v3 =>
      (aI v3 x6 μ).bind fun v4 =>
      (sI v2 (x6 ||| (1 <<< (x4 &&& 31))) (v4 + x5) μ).bind fun μ5 =>
      X4_price_L113 a0 x1 x2 x4 x5 n (x6 + 1) μ5
def X4_price_L72 (a0 : Nat) (x1 : Int32) (x2 : Int32) : Nat → Int32 → Mem → Option (Int32 × Mem)
  | 0, _, _ => none
  | n + 1, x4, μ =>
      (gI 4 16 a0 μ).bind fun v1 =>
      if v1 ≤ x4 then
      some ((x4, μ))
      else
      (gR 4 5 a0 μ).bind fun v3 =>
      (gR 0 0 v3 μ).bind fun v4 =>
      (gR 4 7 a0 μ).bind fun v5 =>
      (aI v5 x4 μ).bind fun v6 =>
      (aR 6 v4 v6 μ).bind fun v7 =>
      (gR 4 3 a0 μ).bind fun v8 =>
      (vO 9 v8 μ).bind fun g9 =>
      (X9_seamOdds v8 x1 μ).bind fun v10 =>
      (vO 6 v7 μ).bind fun g11 =>
      (X6_planValueIn v7 x2 v10 μ).bind fun v12 =>
      (X4_price_L113 a0 x1 x2 x4 v12 FU 0 μ).bind fun z13 =>
      X4_price_L72 a0 x1 x2 n (x4 + 1) z13.2
def X4_price_L159 (a0 : Nat) (x1 : Int32) : Nat → Int32 → Mem → Option (Int32 × Mem)
  | 0, _, _ => none
  | n + 1, x4, μ =>
      (gI 4 16 a0 μ).bind fun v1 =>
      if ((1 : Int32) <<< (v1 &&& 31)) ≤ x4 then
      some ((x4, μ))
      else
      (vO 4 a0 μ).bind fun g3 =>
      (X4_priceSet a0 ((x1 * 64) + x4) x4 μ).bind fun μ4 =>
      X4_price_L159 a0 x1 n (x4 + 1) μ4
def X4_price (a0 : Nat) (x1 : Int32) (x2 : Int32) (a3 : Nat) (μ : Mem) : Option Mem :=
  (gR 4 6 a0 μ).bind fun v1 =>
  (gR 4 5 a0 μ).bind fun v2 =>
  (gR 4 3 a0 μ).bind fun v3 =>
  (gR 9 4 v3 μ).bind fun v4 =>
  (aR 7 v4 x1 μ).bind fun v5 =>
  (vO 1 v1 μ).bind fun g6 =>
  (X1_open v1 a3 v2 x2 v5 μ).bind fun μ7 =>
  (X4_price_L25 a0 x1 x2 FU 0 μ7).bind fun z8 =>
  (gR 4 10 a0 z8.2).bind fun v9 =>
  (sI v9 0 0 z8.2).bind fun μ10 =>
  (X4_price_L72 a0 x1 x2 FU 0 μ10).bind fun z11 =>
  (X4_price_L159 a0 x1 FU 1 z11.2).bind fun z12 =>
  some z12.2
def X4_mostBarsAt_L23 (a0 : Nat) (x1 : Int32) (x2 : Int32) (x3 : Int32) (x4 : Int32) (a5 : Nat) : Nat → Int32 → Mem → Option (Int32 × Mem)
  | 0, _, _ => none
  | n + 1, x6, μ =>
      if x2 ≤ x6 then
      some ((x6, μ))
      else
      (gR 4 15 a0 μ).bind fun v2 =>
      (sI v2 (x3 + x6) ((x1 >>> (((x2 - 1) - x6) &&& 31)) &&& 1) μ).bind fun μ3 =>
      X4_mostBarsAt_L23 a0 x1 x2 x3 x4 a5 n (x6 + 1) μ3
def X4_mostBarsAt (a0 : Nat) (x1 : Int32) (x2 : Int32) (x3 : Int32) (x4 : Int32) (a5 : Nat) (μ : Mem) : Option (Int32 × Mem) :=
  (gI 4 18 a0 μ).bind fun v1 =>
  if v1 = 0 then
  some (0, μ)
  else
  (gR 4 15 a0 μ).bind fun v3 =>
  (aL v3 μ).bind fun v4 =>
  if (x3 + x2) < v4 then
  (X4_mostBarsAt_L23 a0 x1 x2 x3 x4 a5 FU 0 μ).bind fun z6 =>
  (gR 4 15 a0 z6.2).bind fun v7 =>
  (sI v7 (x3 + x2) 0 z6.2).bind fun μ8 =>
  (gR 4 15 a0 μ8).bind fun v9 =>
  (aI v9 x3 μ8).bind fun v10 =>
  (sI v9 x3 (v10 + x4) μ8).bind fun μ11 =>
  (gR 4 15 a0 μ11).bind fun v12 =>
  (vO 3 a5 μ11).bind fun g13 =>
  (X3_mostBars a5 v12 (x3 + x2) μ11).bind fun v14 =>
  (zz v14).bind fun v15 =>
  some (v15, μ11)
  else
  some (0, μ)
def X4_nodeBehind (a0 : Nat) (x1 : Int32) (x2 : Int32) (μ : Mem) : Option Int32 :=
  ((if x2 = 0 then
  some 0
  else
  (gI 4 18 a0 μ).bind fun v2 =>
  if v2 = 0 then
  some 0
  else
  some 1) : Option (Int32)).bind fun z4 =>
  some ((x1 * 2) + z4)
def X4_total (a0 : Nat) (x1 : Int32) (x2 : Int32) (μ : Mem) : Option Int32 :=
  (gI 4 17 a0 μ).bind fun v1 =>
  ((if x1 < (1 <<< (v1 &&& 31)) then
  (gR 4 14 a0 μ).bind fun v3 =>
  (aI v3 ((x1 * 64) + x2) μ).bind fun v4 =>
  some v4
  else
  some 0) : Option (Int32)).bind fun z5 =>
  some (z5)
def X4_decide_L45 (a0 : Nat) (x1 : Int32) (x2 : Int32) (x3 : Int32) (x4 : Int32) (x5 : Int32) (x9 : Int32) (μ : Mem) : Nat → Int32 → Int32 → Int32 → Int32 → Option (Int32 × Int32 × Int32 × Int32)
  | 0, _, _, _, _ => none
  | n + 1, x6, x7, x8, x10 =>
      if x9 ≤ x10 then
      some ((x6, x7, x8, x10))
      else
      (some ((x8 - x5) &&& x5 : Int32)).bind fun v2 =>
      (gR 4 12 a0 μ).bind fun v3 =>
      (aI v3 ((x2 * 64) + v2) μ).bind fun v4 =>
      ((if v4 ≤ 0 then
      some ((x6, x7))
      else
      if x4 = 0 then
      (vO 4 a0 μ).bind fun g7 =>
      (X4_nodeBehind a0 x1 1 μ).bind fun v8 =>
      (vO 4 a0 μ).bind fun g9 =>
      (X4_total a0 v8 (x3 ||| v2) μ).bind fun v10 =>
      if (v4 + v10) ≤ x7 then
      some ((x6, x7))
      else
      some ((v2, v4 + v10))
      else
      (gR 4 6 a0 μ).bind fun v12 =>
      (gR 4 8 a0 μ).bind fun v13 =>
      (aI v13 v2 μ).bind fun v14 =>
      (vO 1 v12 μ).bind fun g15 =>
      (X1_isAlways v12 v14 μ).bind fun v16 =>
      if v16 = 0 then
      some ((x6, x7))
      else
      (vO 4 a0 μ).bind fun g18 =>
      (X4_nodeBehind a0 x1 1 μ).bind fun v19 =>
      (vO 4 a0 μ).bind fun g20 =>
      (X4_total a0 v19 (x3 ||| v2) μ).bind fun v21 =>
      if (v4 + v21) ≤ x7 then
      some ((x6, x7))
      else
      some ((v2, v4 + v21))) : Option (Int32 × Int32)).bind fun z23 =>
      X4_decide_L45 a0 x1 x2 x3 x4 x5 x9 μ n z23.1 z23.2 v2 (x10 + 1)
def X4_decide (a0 : Nat) (x1 : Int32) (x2 : Int32) (x3 : Int32) (x4 : Int32) (μ : Mem) : Option (Int32 × Mem) :=
  (gI 4 16 a0 μ).bind fun v1 =>
  (some (((1 <<< (v1 &&& 31)) - 1) &&& (x3 ^^^ ((-1))) : Int32)).bind fun v2 =>
  (vO 4 a0 μ).bind fun g3 =>
  (X4_nodeBehind a0 x1 0 μ).bind fun v4 =>
  (vO 4 a0 μ).bind fun g5 =>
  (X4_total a0 v4 x3 μ).bind fun v6 =>
  (some (1 <<< ((J6_bitCount_0f7a4 v2) &&& 31) : Int32)).bind fun v7 =>
  (X4_decide_L45 a0 x1 x2 x3 x4 v2 v7 μ FU 0 v6 0 1).bind fun z8 =>
  (gR 4 14 a0 μ).bind fun v9 =>
  (sI v9 ((x1 * 64) + x3) z8.2.1 μ).bind fun μ10 =>
  some (z8.1, μ10)
def X4_tell_L9 (a0 : Nat) (x1 : Int32) (x2 : Int32) (a3 : Nat) : Nat → Int32 → Int32 → Int32 → Mem → Option (Int32 × Int32 × Int32 × Mem)
  | 0, _, _, _, _ => none
  | n + 1, x4, x5, x6, μ =>
      (gI 4 17 a0 μ).bind fun v1 =>
      if v1 ≤ x6 then
      some ((x4, x5, x6, μ))
      else
      (vO 4 a0 μ).bind fun g3 =>
      (X4_mostBarsAt a0 x4 x6 x1 x2 a3 μ).bind fun z4 =>
      (vO 4 a0 z4.2).bind fun g5 =>
      (X4_decide a0 x4 x6 x5 z4.1 z4.2).bind fun z6 =>
      (gR 4 1 a0 z6.2).bind fun v7 =>
      (gR 4 8 a0 z6.2).bind fun v8 =>
      (aI v8 z6.1 z6.2).bind fun v9 =>
      (sI v7 x6 v9 z6.2).bind fun μ10 =>
      (gR 4 2 a0 μ10).bind fun v11 =>
      ((if z6.1 = 0 then
      some ((-1))
      else
      (gR 4 13 a0 μ10).bind fun v13 =>
      (aI v13 ((x6 * 64) + z6.1) μ10).bind fun v14 =>
      some v14) : Option (Int32)).bind fun z15 =>
      (sI v11 x6 z15 μ10).bind fun μ16 =>
      (some (x5 ||| z6.1 : Int32)).bind fun v17 =>
      (some (if z6.1 = 0 then 0 else 1 : Int32)).bind fun v19 =>
      (vO 4 a0 μ16).bind fun g20 =>
      (X4_nodeBehind a0 x4 v19 μ16).bind fun v21 =>
      X4_tell_L9 a0 x1 x2 a3 n v21 v17 (x6 + 1) μ16
def X4_tell (a0 : Nat) (x1 : Int32) (x2 : Int32) (a3 : Nat) (μ : Mem) : Option Mem :=
  (X4_tell_L9 a0 x1 x2 a3 FU 1 0 0 μ).bind fun z1 =>
  some z1.2.2.2
def X4_make_L43 (a0 : Nat) (x1 : Int32) (x3 : Int32) (a4 : Nat) : Nat → Int32 → Mem → Option (Int32 × Mem)
  | 0, _, _ => none
  | n + 1, x5, μ =>
      (gI 4 17 a0 μ).bind fun v1 =>
      if v1 ≤ x5 then
      some ((x5, μ))
      else
      (vO 4 a0 μ).bind fun g3 =>
      (X4_price a0 x5 (x3 + x5) a4 μ).bind fun μ4 =>
      X4_make_L43 a0 x1 x3 a4 n (x5 + 1) μ4
def X4_make_L156 (a0 : Nat) (x3 : Int32) (a4 : Nat) (x5 : Int32) (x6 : Int32) (x7 : Int32) (x8 : Int32) (x9 : Int32) : Nat → Int32 → Mem → Option (Int32 × Mem)
  | 0, _, _ => none
  | n + 1, x10, μ =>
      (gI 4 16 a0 μ).bind fun v1 =>
      if ((1 : Int32) <<< (v1 &&& 31)) ≤ x10 then
      some ((x10, μ))
      else
      (vO 4 a0 μ).bind fun g3 =>
      (X4_decide a0 x8 x6 x10 x9 μ).bind fun z4 =>
      X4_make_L156 a0 x3 a4 x5 x6 x7 x8 x9 n (x10 + 1) z4.2
def X4_make_L126 (a0 : Nat) (x3 : Int32) (a4 : Nat) (x5 : Int32) (x6 : Int32) (x7 : Int32) : Nat → Int32 → Mem → Option (Int32 × Mem)
  | 0, _, _ => none
  | n + 1, x8, μ =>
      if ((1 <<< (x6 &&& 31)) + x7) ≤ x8 then
      some ((x8, μ))
      else
      (vO 4 a0 μ).bind fun g2 =>
      (X4_mostBarsAt a0 x8 x6 x3 x5 a4 μ).bind fun z3 =>
      (X4_make_L156 a0 x3 a4 x5 x6 x7 x8 z3.1 FU 0 z3.2).bind fun z4 =>
      X4_make_L126 a0 x3 a4 x5 x6 x7 n (x8 + 1) z4.2
def X4_make_L98 (a0 : Nat) (x3 : Int32) (a4 : Nat) (x5 : Int32) : Nat → Int32 → Mem → Option (Int32 × Mem)
  | 0, _, _ => none
  | n + 1, x6, μ =>
      if x6 < 0 then
      some ((x6, μ))
      else
      (gI 4 18 a0 μ).bind fun v2 =>
      (some (if v2 = 0 then 1 else 1 <<< (x6 &&& 31) : Int32)).bind fun v4 =>
      (some (1 <<< (x6 &&& 31) : Int32)).bind fun v5 =>
      (X4_make_L126 a0 x3 a4 x5 x6 v4 FU v5 μ).bind fun z6 =>
      X4_make_L98 a0 x3 a4 x5 n (x6 + (-1)) z6.2
def X4_make (a0 : Nat) (x1 : Int32) (x2 : Int32) (x3 : Int32) (a4 : Nat) (μ : Mem) : Option Mem :=
  (pI 4 17 a0 (if 6 < x2 then 6 else x2) μ).bind fun μ1 =>
  (vO 3 a4 μ1).bind fun g2 =>
  (X3_countsSayings a4 μ1).bind fun v3 =>
  (pZ 4 18 a0 v3 μ1).bind fun μ4 =>
  (vO 4 a0 μ4).bind fun g5 =>
  (X4_pick a0 x1 x3 μ4).bind fun μ6 =>
  (gR 4 3 a0 μ6).bind fun v7 =>
  (gI 4 17 a0 μ6).bind fun v8 =>
  (vO 9 v7 μ6).bind fun g9 =>
  (X9_lookAhead v7 x1 x3 (v8 - 1) μ6).bind fun μ10 =>
  (X4_make_L43 a0 x1 x3 a4 FU 0 μ10).bind fun z11 =>
  (gR 4 5 a0 z11.2).bind fun v12 =>
  (gR 4 15 a0 z11.2).bind fun v13 =>
  (vO 0 v12 z11.2).bind fun g14 =>
  (X0_countSaid v12 x1 v13 z11.2).bind fun μ15 =>
  (gR 4 15 a0 μ15).bind fun v16 =>
  (aI v16 x3 μ15).bind fun v17 =>
  (gI 4 17 a0 μ15).bind fun v18 =>
  (some (v18 - 1 : Int32)).bind fun v19 =>
  (X4_make_L98 a0 x3 a4 v17 FU v19 μ15).bind fun z20 =>
  (gR 4 14 a0 z20.2).bind fun v21 =>
  (aI v21 64 z20.2).bind fun v22 =>
  (pI 4 0 a0 v22 z20.2).bind fun μ23 =>
  (vO 4 a0 μ23).bind fun g24 =>
  (X4_tell a0 x3 v17 a4 μ23).bind fun μ25 =>
  some μ25
set_option maxRecDepth 100000 in
def X7_init (a0 : Nat) (a1 : Nat) (a2 : Nat) (a3 : Nat) (μ : Mem) : Option Mem :=
  (pR 7 4 a0 a1 μ).bind fun μ1 =>
  (pR 7 5 a0 a2 μ1).bind fun μ2 =>
  (pR 7 6 a0 a3 μ2).bind fun μ3 =>
  some μ3
def X7_isLeft (a0 : Nat) (x1 : Int32) (x2 : Int32) (μ : Mem) : Option Int32 :=
  (gR 7 6 a0 μ).bind fun v1 =>
  (gR 0 0 v1 μ).bind fun v2 =>
  (aR 6 v2 x1 μ).bind fun v3 =>
  (gI 6 0 v3 μ).bind fun v4 =>
  ((if (X10_contains v4 x2) = 0 then
  some 0
  else
  (gI 7 7 a0 μ).bind fun v6 =>
  if (X10_contains v6 x1) = 0 then
  some 1
  else
  some 0) : Option (Int32)).bind fun z8 =>
  (zz z8).bind fun v9 =>
  some v9
def X7_sayIn_L3 (a0 : Nat) (x1 : Int32) (x2 : Int32) (x3 : Int32) : Nat → Int32 → Mem → Option (Int32 × Mem)
  | 0, _, _ => none
  | n + 1, x4, μ =>
      (gR 7 6 a0 μ).bind fun v1 =>
      (gI 0 2 v1 μ).bind fun v2 =>
      if v2 ≤ x4 then
      some ((x4, μ))
      else
      (gR 7 6 a0 μ).bind fun v4 =>
      (gR 0 0 v4 μ).bind fun v5 =>
      (aR 6 v5 x4 μ).bind fun v6 =>
      (vO 6 v6 μ).bind fun g7 =>
      (X6_isMust v6 μ).bind fun v8 =>
      ((if v8 = 0 then
      some 0
      else
      (gI 6 6 v6 μ).bind fun v10 =>
      if x1 = v10 then
      some 1
      else
      some 0) : Option (Int32)).bind fun z12 =>
      (vO 7 a0 μ).bind fun g13 =>
      (X7_isLeft a0 x4 x2 μ).bind fun v14 =>
      ((if v14 = 0 then
      some μ
      else
      (gI 6 7 v6 μ).bind fun v16 =>
      if x1 < v16 then
      some μ
      else
      if x3 = 0 then
      if z12 = 0 then
      some μ
      else
      (gI 7 7 a0 μ).bind fun v31 =>
      (pI 7 7 a0 (v31 ||| (1 <<< (x4 &&& 31))) μ).bind fun μ32 =>
      (gI 7 3 a0 μ32).bind fun v33 =>
      (pI 7 3 a0 (v33 + 1) μ32).bind fun μ34 =>
      (gI 7 1 a0 μ34).bind fun v35 =>
      (gI 6 7 v6 μ34).bind fun v36 =>
      (pI 7 1 a0 (v35 + (x1 - v36)) μ34).bind fun μ37 =>
      (gI 6 6 v6 μ37).bind fun v38 =>
      if x1 ≤ v38 then
      some μ37
      else
      (gI 7 0 a0 μ37).bind fun v40 =>
      (pI 7 0 a0 (v40 + 1) μ37).bind fun μ41 =>
      some μ41
      else
      (gI 7 7 a0 μ).bind fun v19 =>
      (pI 7 7 a0 (v19 ||| (1 <<< (x4 &&& 31))) μ).bind fun μ20 =>
      (gI 7 3 a0 μ20).bind fun v21 =>
      (pI 7 3 a0 (v21 + 1) μ20).bind fun μ22 =>
      (gI 7 1 a0 μ22).bind fun v23 =>
      (gI 6 7 v6 μ22).bind fun v24 =>
      (pI 7 1 a0 (v23 + (x1 - v24)) μ22).bind fun μ25 =>
      (gI 6 6 v6 μ25).bind fun v26 =>
      if x1 ≤ v26 then
      some μ25
      else
      (gI 7 0 a0 μ25).bind fun v28 =>
      (pI 7 0 a0 (v28 + 1) μ25).bind fun μ29 =>
      some μ29) : Option (Mem)).bind fun z42 =>
      X7_sayIn_L3 a0 x1 x2 x3 n (x4 + 1) z42
def X7_sayIn (a0 : Nat) (x1 : Int32) (x2 : Int32) (x3 : Int32) (μ : Mem) : Option Mem :=
  (X7_sayIn_L3 a0 x1 x2 x3 FU 0 μ).bind fun z1 =>
  some z1.2
def X7_run_L28 (a0 : Nat) (x1 : Int32) (x2 : Int32) (x3 : Int32) (x4 : Int32) : Nat → Int32 → Mem → Option (Int32 × Mem)
  | 0, _, _ => none
  | n + 1, x5, μ =>
      if x4 ≤ x5 then
      some ((x5, μ))
      else
      (gR 7 4 a0 μ).bind fun v2 =>
      (vO 9 v2 μ).bind fun g3 =>
      (X9_lookAhead v2 x1 x5 0 μ).bind fun μ4 =>
      (gI 7 3 a0 μ4).bind fun v5 =>
      (gR 7 4 a0 μ4).bind fun v6 =>
      (vO 9 v6 μ4).bind fun g7 =>
      (X9_seamOdds v6 0 μ4).bind fun v8 =>
      (some (if v8 < x2 then 0 else 1 : Int32)).bind fun v10 =>
      (vO 7 a0 μ4).bind fun g11 =>
      (X7_sayIn a0 x5 x1 v10 μ4).bind fun μ12 =>
      (gI 7 3 a0 μ12).bind fun v13 =>
      ((if v13 ≤ v5 then
      some μ12
      else
      (gI 7 2 a0 μ12).bind fun v15 =>
      (gR 7 5 a0 μ12).bind fun v16 =>
      (gR 7 4 a0 μ12).bind fun v17 =>
      (gR 9 4 v17 μ12).bind fun v18 =>
      (aR 7 v18 0 μ12).bind fun v19 =>
      (vO 8 v16 μ12).bind fun g20 =>
      (X8_lossBy v16 x3 v19 μ12).bind fun v21 =>
      (pI 7 2 a0 (v15 + v21) μ12).bind fun μ22 =>
      some μ22) : Option (Mem)).bind fun z23 =>
      X7_run_L28 a0 x1 x2 x3 x4 n (x5 + 1) z23
def X7_run_L120 (a0 : Nat) (x1 : Int32) (x4 : Int32) : Nat → Int32 → Mem → Option (Int32 × Mem)
  | 0, _, _ => none
  | n + 1, x5, μ =>
      (gR 7 6 a0 μ).bind fun v1 =>
      (gI 0 2 v1 μ).bind fun v2 =>
      if v2 ≤ x5 then
      some ((x5, μ))
      else
      (vO 7 a0 μ).bind fun g4 =>
      (X7_isLeft a0 x5 x1 μ).bind fun v5 =>
      ((if v5 = 0 then
      some μ
      else
      (gR 7 6 a0 μ).bind fun v7 =>
      (gR 0 0 v7 μ).bind fun v8 =>
      (aR 6 v8 x5 μ).bind fun v9 =>
      (gI 6 6 v9 μ).bind fun v10 =>
      if x4 ≤ v10 then
      some μ
      else
      (gI 7 0 a0 μ).bind fun v12 =>
      (pI 7 0 a0 (v12 + 1) μ).bind fun μ13 =>
      some μ13) : Option (Mem)).bind fun z14 =>
      X7_run_L120 a0 x1 x4 n (x5 + 1) z14
def X7_run (a0 : Nat) (x1 : Int32) (x2 : Int32) (x3 : Int32) (x4 : Int32) (μ : Mem) : Option Mem :=
  (pI 7 0 a0 0 μ).bind fun μ1 =>
  (pI 7 1 a0 0 μ1).bind fun μ2 =>
  (pI 7 2 a0 0 μ2).bind fun μ3 =>
  (pI 7 3 a0 0 μ3).bind fun μ4 =>
  (pI 7 7 a0 0 μ4).bind fun μ5 =>
  (X7_run_L28 a0 x1 x2 x3 x4 FU 0 μ5).bind fun z6 =>
  (X7_run_L120 a0 x1 x4 FU 0 z6.2).bind fun z7 =>
  some z7.2
def X8_init_L38 (a0 : Nat) (x1 : Int32) : Nat → Int32 → Mem → Option (Int32 × Mem)
  | 0, _, _ => none
  | n + 1, x2, μ =>
      if (4 : Int32) ≤ x2 then
      some ((x2, μ))
      else
      (gR 8 0 a0 μ).bind fun v2 =>
      (aR 7 v2 x1 μ).bind fun v3 =>
      (sI v3 x2 10 μ).bind fun μ4 =>
      X8_init_L38 a0 x1 n (x2 + 1) μ4
def X8_init_L23 (a0 : Nat) : Nat → Int32 → Mem → Option (Int32 × Mem)
  | 0, _, _ => none
  | n + 1, x1, μ =>
      if (4 : Int32) ≤ x1 then
      some ((x1, μ))
      else
      (gR 8 1 a0 μ).bind fun v2 =>
      (sI v2 x1 50 μ).bind fun μ3 =>
      (X8_init_L38 a0 x1 FU 0 μ3).bind fun z4 =>
      X8_init_L23 a0 n (x1 + 1) z4.2
set_option maxRecDepth 100000 in
def X8_init (a0 : Nat) (μ : Mem) : Option Mem :=
  (nM (mN μ + 0) 4 4 μ).bind fun μ1 =>
  (pR 8 0 a0 (mN μ + 0) μ1).bind fun μ2 =>
  (nA 1 (mN μ + 5) 4 μ2).bind fun μ3 =>
  (pR 8 1 a0 (mN μ + 5) μ3).bind fun μ4 =>
  (X8_init_L23 a0 FU 0 μ4).bind fun z5 =>
  some z5.2
def X9_init_L83 (a0 : Nat) (x1 : Int32) : Nat → Int32 → Mem → Option (Int32 × Mem)
  | 0, _, _ => none
  | n + 1, x2, μ =>
      if (4 : Int32) ≤ x2 then
      some ((x2, μ))
      else
      (gR 9 0 a0 μ).bind fun v2 =>
      (aR 7 v2 x1 μ).bind fun v3 =>
      (sI v3 x2 1 μ).bind fun μ4 =>
      X9_init_L83 a0 x1 n (x2 + 1) μ4
def X9_init_L105 (a0 : Nat) (x1 : Int32) : Nat → Int32 → Mem → Option (Int32 × Mem)
  | 0, _, _ => none
  | n + 1, x2, μ =>
      if (4 : Int32) ≤ x2 then
      some ((x2, μ))
      else
      (gR 9 1 a0 μ).bind fun v2 =>
      (aR 7 v2 x1 μ).bind fun v3 =>
      (sI v3 x2 1 μ).bind fun μ4 =>
      X9_init_L105 a0 x1 n (x2 + 1) μ4
def X9_init_L69 (a0 : Nat) : Nat → Int32 → Mem → Option (Int32 × Mem)
  | 0, _, _ => none
  | n + 1, x1, μ =>
      if (4 : Int32) ≤ x1 then
      some ((x1, μ))
      else
      (gR 9 2 a0 μ).bind fun v2 =>
      (sI v2 x1 1 μ).bind fun μ3 =>
      (X9_init_L83 a0 x1 FU 0 μ3).bind fun z4 =>
      (X9_init_L105 a0 x1 FU 0 z4.2).bind fun z5 =>
      X9_init_L69 a0 n (x1 + 1) z5.2
def X9_init_L140 (a0 : Nat) (x1 : Int32) : Nat → Int32 → Mem → Option (Int32 × Mem)
  | 0, _, _ => none
  | n + 1, x2, μ =>
      if (60 : Int32) < x2 then
      some ((x2, μ))
      else
      (gR 9 3 a0 μ).bind fun v2 =>
      (aR 7 v2 x1 μ).bind fun v3 =>
      (sI v3 x2 ((-1)) μ).bind fun μ4 =>
      X9_init_L140 a0 x1 n (x2 + 1) μ4
def X9_init_L133 (a0 : Nat) : Nat → Int32 → Mem → Option (Int32 × Mem)
  | 0, _, _ => none
  | n + 1, x1, μ =>
      if (4 : Int32) ≤ x1 then
      some ((x1, μ))
      else
      (X9_init_L140 a0 x1 FU 0 μ).bind fun z2 =>
      X9_init_L133 a0 n (x1 + 1) z2.2
set_option maxRecDepth 100000 in
def X9_init (a0 : Nat) (μ : Mem) : Option Mem :=
  (nM (mN μ + 0) 4 4 μ).bind fun μ1 =>
  (pR 9 0 a0 (mN μ + 0) μ1).bind fun μ2 =>
  (nM (mN μ + 5) 4 4 μ2).bind fun μ3 =>
  (pR 9 1 a0 (mN μ + 5) μ3).bind fun μ4 =>
  (nA 1 (mN μ + 10) 4 μ4).bind fun μ5 =>
  (pR 9 2 a0 (mN μ + 10) μ5).bind fun μ6 =>
  (nM (mN μ + 11) 4 61 μ6).bind fun μ7 =>
  (pR 9 3 a0 (mN μ + 11) μ7).bind fun μ8 =>
  (nM (mN μ + 16) 9 4 μ8).bind fun μ9 =>
  (pR 9 4 a0 (mN μ + 16) μ9).bind fun μ10 =>
  (nA 2 (mN μ + 26) 4 μ10).bind fun μ11 =>
  (pR 9 6 a0 (mN μ + 26) μ11).bind fun μ12 =>
  (nA 2 (mN μ + 27) 4 μ12).bind fun μ13 =>
  (pR 9 7 a0 (mN μ + 27) μ13).bind fun μ14 =>
  (X9_init_L69 a0 FU 0 μ14).bind fun z15 =>
  (X9_init_L133 a0 FU 0 z15.2).bind fun z16 =>
  some z16.2
def X9_fittingRows (a0 : Nat) (x1 : Int32) (x2 : Int32) (μ : Mem) : Option (Int32 × Mem) :=
  (vO 9 a0 μ).bind fun g1 =>
  (X9_weigh a0 x1 x2 1 μ).bind fun μ2 =>
  (vO 9 a0 μ2).bind fun g3 =>
  (X9_allWeights a0 μ2).bind fun v4 =>
  some (v4.toInt32, μ2)
set_option maxRecDepth 100000 in
def X10_init (a0 : Nat) (μ : Mem) : Option Mem :=
  (nO 9 (mN μ + 0) μ).bind fun μ1 =>
  (gN (mN μ + 1) μ1).bind fun g2 =>
  (X9_init (mN μ + 0) μ1).bind fun μ3 =>
  (pR 10 0 a0 (mN μ + 0) μ3).bind fun μ4 =>
  (nO 8 (mN μ + 29) μ4).bind fun μ5 =>
  (gN (mN μ + 30) μ5).bind fun g6 =>
  (X8_init (mN μ + 29) μ5).bind fun μ7 =>
  (pR 10 1 a0 (mN μ + 29) μ7).bind fun μ8 =>
  (nO 0 (mN μ + 36) μ8).bind fun μ9 =>
  (gN (mN μ + 37) μ9).bind fun g10 =>
  (X0_init (mN μ + 36) μ9).bind fun μ11 =>
  (pR 10 2 a0 (mN μ + 36) μ11).bind fun μ12 =>
  (nO 2 (mN μ + 89) μ12).bind fun μ13 =>
  (gN (mN μ + 90) μ13).bind fun g14 =>
  (X2_init (mN μ + 89) μ13).bind fun μ15 =>
  (pR 10 3 a0 (mN μ + 89) μ15).bind fun μ16 =>
  (nA 4 (mN μ + 91) 4 μ16).bind fun μ17 =>
  (pR 10 4 a0 (mN μ + 91) μ17).bind fun μ18 =>
  (nO 1 (mN μ + 92) μ18).bind fun μ19 =>
  (gN (mN μ + 93) μ19).bind fun g20 =>
  (X1_init (mN μ + 92) μ19).bind fun μ21 =>
  (pR 10 5 a0 (mN μ + 92) μ21).bind fun μ22 =>
  (nO 4 (mN μ + 93) μ22).bind fun μ23 =>
  (gR 10 0 a0 μ23).bind fun v24 =>
  (gR 10 1 a0 μ23).bind fun v25 =>
  (gR 10 2 a0 μ23).bind fun v26 =>
  (gN (mN μ + 94) μ23).bind fun g27 =>
  (X4_init (mN μ + 93) v24 v25 v26 μ23).bind fun μ28 =>
  (pR 10 6 a0 (mN μ + 93) μ28).bind fun μ29 =>
  (nO 7 (mN μ + 106) μ29).bind fun μ30 =>
  (gR 10 0 a0 μ30).bind fun v31 =>
  (gR 10 1 a0 μ30).bind fun v32 =>
  (gR 10 2 a0 μ30).bind fun v33 =>
  (gN (mN μ + 107) μ30).bind fun g34 =>
  (X7_init (mN μ + 106) v31 v32 v33 μ30).bind fun μ35 =>
  (pR 10 7 a0 (mN μ + 106) μ35).bind fun μ36 =>
  (nA 1 (mN μ + 107) 66 μ36).bind fun μ37 =>
  (pR 10 8 a0 (mN μ + 107) μ37).bind fun μ38 =>
  (nO 3 (mN μ + 108) μ38).bind fun μ39 =>
  (gN (mN μ + 109) μ39).bind fun g40 =>
  (X3_init (mN μ + 108) μ39).bind fun μ41 =>
  (pR 10 9 a0 (mN μ + 108) μ41).bind fun μ42 =>
  (gR 10 4 a0 μ42).bind fun v43 =>
  (nO 3 (mN μ + 113) μ42).bind fun μ44 =>
  (gN (mN μ + 114) μ44).bind fun g45 =>
  (X3_init (mN μ + 113) μ44).bind fun μ46 =>
  (sR 4 3 v43 0 (mN μ + 113) μ46).bind fun μ47 =>
  (gR 10 4 a0 μ47).bind fun v48 =>
  (nO 3 (mN μ + 118) μ47).bind fun μ49 =>
  (gN (mN μ + 119) μ49).bind fun g50 =>
  (X3_init (mN μ + 118) μ49).bind fun μ51 =>
  (sR 4 3 v48 1 (mN μ + 118) μ51).bind fun μ52 =>
  (gR 10 4 a0 μ52).bind fun v53 =>
  (nO 3 (mN μ + 123) μ52).bind fun μ54 =>
  (gN (mN μ + 124) μ54).bind fun g55 =>
  (X3_init (mN μ + 123) μ54).bind fun μ56 =>
  (sR 4 3 v53 2 (mN μ + 123) μ56).bind fun μ57 =>
  (gR 10 4 a0 μ57).bind fun v58 =>
  (nO 3 (mN μ + 128) μ57).bind fun μ59 =>
  (gN (mN μ + 129) μ59).bind fun g60 =>
  (X3_init (mN μ + 128) μ59).bind fun μ61 =>
  (sR 4 3 v58 3 (mN μ + 128) μ61).bind fun μ62 =>
  some μ62
def X10_isState (x0 : Int32) : Int32 :=
  X10_within x0 0 3
def X10_isOften (x0 : Int32) : Int32 :=
  X10_within x0 0 4
def X10_exchange (a0 : Nat) (x1 : Int32) (x2 : Int32) (μ : Mem) : Option (Int32 × Mem) :=
  if x1 < 0 then
  some ((-1002), μ)
  else
  (aL a0 μ).bind fun v2 =>
  if x1 < v2 then
  (aI a0 x1 μ).bind fun v4 =>
  (sI a0 x1 x2 μ).bind fun μ5 =>
  some (v4, μ5)
  else
  some ((-1002), μ)
def X10_move (a0 : Nat) (x1 : Int32) (x2 : Int32) (x3 : Int32) (μ : Mem) : Option (Int32 × Mem) :=
  if (X10_isState x1) = 0 then
  some ((-1002), μ)
  else
  if (X10_isState x2) = 0 then
  some ((-1002), μ)
  else
  if (X10_isOften x3) = 0 then
  some ((-1002), μ)
  else
  (gR 10 0 a0 μ).bind fun v4 =>
  (gR 9 0 v4 μ).bind fun v5 =>
  (aR 7 v5 x1 μ).bind fun v6 =>
  (X10_exchange v6 x2 x3 μ).bind fun z7 =>
  some (z7.1, z7.2)
def X10_shows (a0 : Nat) (x1 : Int32) (x2 : Int32) (x3 : Int32) (μ : Mem) : Option (Int32 × Mem) :=
  if (X10_isState x1) = 0 then
  some ((-1002), μ)
  else
  if (X10_within x2 0 3) = 0 then
  some ((-1002), μ)
  else
  if (X10_isOften x3) = 0 then
  some ((-1002), μ)
  else
  (gR 10 0 a0 μ).bind fun v4 =>
  (gR 9 1 v4 μ).bind fun v5 =>
  (aR 7 v5 x1 μ).bind fun v6 =>
  (X10_exchange v6 x2 x3 μ).bind fun z7 =>
  some (z7.1, z7.2)
def X10_begins (a0 : Nat) (x1 : Int32) (x2 : Int32) (μ : Mem) : Option (Int32 × Mem) :=
  if (X10_isState x1) = 0 then
  some ((-1002), μ)
  else
  if (X10_isOften x2) = 0 then
  some ((-1002), μ)
  else
  (gR 10 0 a0 μ).bind fun v3 =>
  (gR 9 2 v3 μ).bind fun v4 =>
  (X10_exchange v4 x1 x2 μ).bind fun z5 =>
  some (z5.1, z5.2)
def X10_seams (a0 : Nat) (x1 : Int32) (μ : Mem) : Option (Int32 × Mem) :=
  if (X10_within x1 0 15) = 0 then
  some ((-1002), μ)
  else
  (gR 10 0 a0 μ).bind fun v2 =>
  (gI 9 5 v2 μ).bind fun v3 =>
  (gR 10 0 a0 μ).bind fun v4 =>
  (pI 9 5 v4 x1 μ).bind fun μ5 =>
  some (v3, μ5)
def X10_isPerson (x0 : Int32) : Int32 :=
  X10_within x0 0 3
def X10_sign (a0 : Nat) (x1 : Int32) (x2 : Int32) (μ : Mem) : Option (Int32 × Mem) :=
  if (X10_isPerson x1) = 0 then
  some ((-1001), μ)
  else
  if (X10_within x2 ((-1)) 3) = 0 then
  some ((-1002), μ)
  else
  (gR 10 0 a0 μ).bind fun v3 =>
  (gR 9 3 v3 μ).bind fun v4 =>
  (aR 7 v4 x1 μ).bind fun v5 =>
  (gI 10 10 a0 μ).bind fun v6 =>
  (X10_exchange v5 v6 x2 μ).bind fun z7 =>
  some (1, z7.2)
def X10_go (a0 : Nat) (x1 : Int32) (μ : Mem) : Option (Int32 × Mem) :=
  if (X10_within x1 0 20) = 0 then
  some ((-1002), μ)
  else
  (gI 10 10 a0 μ).bind fun v2 =>
  if (v2 + x1) ≤ 60 then
  (gI 10 10 a0 μ).bind fun v4 =>
  (pI 10 10 a0 (v4 + x1) μ).bind fun μ5 =>
  (gI 10 10 a0 μ5).bind fun v6 =>
  some (v6, μ5)
  else
  some ((-1003), μ)
def X10_fits (a0 : Nat) (x1 : Int32) (x2 : Int32) (μ : Mem) : Option (Int32 × Mem) :=
  if (X10_isPerson x1) = 0 then
  some ((-1001), μ)
  else
  (gI 10 10 a0 μ).bind fun v2 =>
  if (X10_within x2 0 v2) = 0 then
  some ((-1002), μ)
  else
  (gR 10 0 a0 μ).bind fun v4 =>
  (vO 9 v4 μ).bind fun g5 =>
  (X9_fittingRows v4 x1 x2 μ).bind fun z6 =>
  some (z6.1, z6.2)
def X10_isAhead (x0 : Int32) : Int32 :=
  X10_within x0 0 8
def X10_odds (a0 : Nat) (x1 : Int32) (x2 : Int32) (x3 : Int32) (μ : Mem) : Option (Int32 × Mem) :=
  if (X10_isPerson x1) = 0 then
  some ((-1001), μ)
  else
  if (X10_isState x2) = 0 then
  some ((-1002), μ)
  else
  if (X10_isAhead x3) = 0 then
  some ((-1002), μ)
  else
  (gR 10 0 a0 μ).bind fun v4 =>
  (gI 10 10 a0 μ).bind fun v5 =>
  (vO 9 v4 μ).bind fun g6 =>
  (X9_lookAhead v4 x1 v5 x3 μ).bind fun μ7 =>
  (gR 10 0 a0 μ7).bind fun v8 =>
  (gR 9 4 v8 μ7).bind fun v9 =>
  (aR 7 v9 x3 μ7).bind fun v10 =>
  (aI v10 x2 μ7).bind fun v11 =>
  some (v11, μ7)
def X10_seam (a0 : Nat) (x1 : Int32) (x2 : Int32) (μ : Mem) : Option (Int32 × Mem) :=
  if (X10_isPerson x1) = 0 then
  some ((-1001), μ)
  else
  if (X10_isAhead x2) = 0 then
  some ((-1002), μ)
  else
  (gR 10 0 a0 μ).bind fun v3 =>
  (gI 10 10 a0 μ).bind fun v4 =>
  (vO 9 v3 μ).bind fun g5 =>
  (X9_lookAhead v3 x1 v4 x2 μ).bind fun μ6 =>
  (gR 10 0 a0 μ6).bind fun v7 =>
  (vO 9 v7 μ6).bind fun g8 =>
  (X9_seamOdds v7 x2 μ6).bind fun v9 =>
  some (v9, μ6)
def X10_until_L41 (a0 : Nat) (x2 : Int32) (μ : Mem) : Nat → Int32 → Option (Int32 × Mem)
  | 0, _ => none
  | n + 1, x3 =>
      if (8 : Int32) < x3 then
      some ((-1), μ)
      else
      (gR 10 0 a0 μ).bind fun v2 =>
      (vO 9 v2 μ).bind fun g3 =>
      (X9_seamOdds v2 x3 μ).bind fun v4 =>
      if v4 < x2 then
      X10_until_L41 a0 x2 μ n (x3 + 1)
      else
      some (x3, μ)
def X10_until (a0 : Nat) (x1 : Int32) (x2 : Int32) (μ : Mem) : Option (Int32 × Mem) :=
  if (X10_isPerson x1) = 0 then
  some ((-1001), μ)
  else
  if (X10_within x2 0 1000000) = 0 then
  some ((-1002), μ)
  else
  (gR 10 0 a0 μ).bind fun v3 =>
  (gI 10 10 a0 μ).bind fun v4 =>
  (vO 9 v3 μ).bind fun g5 =>
  (X9_lookAhead v3 x1 v4 8 μ).bind fun μ6 =>
  X10_until_L41 a0 x2 μ6 FU 0
def X10_thing (a0 : Nat) (x1 : Int32) (x2 : Int32) (x3 : Int32) (x4 : Int32) (x5 : Int32) (x6 : Int32) (x7 : Int32) (μ : Mem) : Option (Int32 × Mem) :=
  if (X10_within x1 1 15) = 0 then
  some ((-1001), μ)
  else
  if (X10_within x2 0 3) = 0 then
  some ((-1002), μ)
  else
  if (X10_within x3 0 5) = 0 then
  some ((-1002), μ)
  else
  if (X10_within x4 0 9) = 0 then
  some ((-1002), μ)
  else
  if (X10_within x5 0 999) = 0 then
  some ((-1002), μ)
  else
  if (X10_within x6 0 99) = 0 then
  some ((-1002), μ)
  else
  (gI 10 10 a0 μ).bind fun v7 =>
  if (X10_within x7 v7 60) = 0 then
  some ((-1002), μ)
  else
  (gR 10 2 a0 μ).bind fun v9 =>
  (gI 0 2 v9 μ).bind fun v10 =>
  if v10 < 10 then
  (gR 10 2 a0 μ).bind fun v12 =>
  (gR 0 0 v12 μ).bind fun v13 =>
  (gR 10 2 a0 μ).bind fun v14 =>
  (gI 0 2 v14 μ).bind fun v15 =>
  (aR 6 v13 v15 μ).bind fun v16 =>
  (pI 6 0 v16 x1 μ).bind fun μ17 =>
  (pI 6 1 v16 x2 μ17).bind fun μ18 =>
  (pI 6 2 v16 x3 μ18).bind fun μ19 =>
  (pI 6 3 v16 x4 μ19).bind fun μ20 =>
  (pI 6 4 v16 x5 μ20).bind fun μ21 =>
  (pI 6 5 v16 x6 μ21).bind fun μ22 =>
  (pI 6 6 v16 x7 μ22).bind fun μ23 =>
  (gI 10 10 a0 μ23).bind fun v24 =>
  (pI 6 7 v16 v24 μ23).bind fun μ25 =>
  (gR 10 2 a0 μ25).bind fun v26 =>
  (gI 0 2 v26 μ25).bind fun v27 =>
  (pI 0 2 v26 (v27 + 1) μ25).bind fun μ28 =>
  (gR 10 2 a0 μ28).bind fun v29 =>
  (gI 0 2 v29 μ28).bind fun v30 =>
  some (v30 - 1, μ28)
  else
  some ((-1004), μ)
def X10_dead (a0 : Nat) (x1 : Int32) (μ : Mem) : Option (Int32 × Mem) :=
  (gR 10 2 a0 μ).bind fun v1 =>
  (vO 0 v1 μ).bind fun g2 =>
  (X0_hasThing v1 x1 μ).bind fun v3 =>
  if v3 = 0 then
  some ((-1001), μ)
  else
  (gR 10 2 a0 μ).bind fun v5 =>
  (gR 0 0 v5 μ).bind fun v6 =>
  (aR 6 v6 x1 μ).bind fun v7 =>
  (gI 6 8 v7 μ).bind fun v8 =>
  if v8 = 0 then
  (gR 10 2 a0 μ).bind fun v10 =>
  (gR 0 0 v10 μ).bind fun v11 =>
  (aR 6 v11 x1 μ).bind fun v12 =>
  (pZ 6 8 v12 1 μ).bind fun μ13 =>
  (gR 10 2 a0 μ13).bind fun v14 =>
  (vO 0 v14 μ13).bind fun g15 =>
  (X0_sayingsWith v14 x1 μ13).bind fun v16 =>
  some (v16, μ13)
  else
  some ((-1003), μ)
def X10_told (a0 : Nat) (x1 : Int32) (x2 : Int32) (μ : Mem) : Option Int32 :=
  (gR 10 2 a0 μ).bind fun v1 =>
  (vO 0 v1 μ).bind fun g2 =>
  (X0_hasThing v1 x1 μ).bind fun v3 =>
  if v3 = 0 then
  some ((-1001))
  else
  (gR 10 2 a0 μ).bind fun v5 =>
  (gR 0 0 v5 μ).bind fun v6 =>
  (aR 6 v6 x1 μ).bind fun v7 =>
  if x2 = Int32.ofNat 0 then
  (gI 6 0 v7 μ).bind fun v9 =>
  some (v9)
  else
  if x2 = Int32.ofNat 1 then
  (gI 6 1 v7 μ).bind fun v11 =>
  some (v11)
  else
  if x2 = Int32.ofNat 2 then
  (gI 6 2 v7 μ).bind fun v13 =>
  some (v13)
  else
  if x2 = Int32.ofNat 3 then
  (gI 6 3 v7 μ).bind fun v15 =>
  some (v15)
  else
  if x2 = Int32.ofNat 4 then
  (gI 6 6 v7 μ).bind fun v17 =>
  some (v17)
  else
  if x2 = Int32.ofNat 5 then
  (gR 10 2 a0 μ).bind fun v19 =>
  (gI 10 10 a0 μ).bind fun v20 =>
  (vO 0 v19 μ).bind fun g21 =>
  (X0_standing v19 x1 v20 μ).bind fun v22 =>
  some (v22)
  else
  if x2 = Int32.ofNat 6 then
  (gR 10 2 a0 μ).bind fun v24 =>
  (vO 0 v24 μ).bind fun g25 =>
  (X0_sayingsWith v24 x1 μ).bind fun v26 =>
  some (v26)
  else
  if x2 = Int32.ofNat 7 then
  (gI 6 7 v7 μ).bind fun v28 =>
  some (v28)
  else
  some ((-1002))
def X10_value (a0 : Nat) (x1 : Int32) (x2 : Int32) (x3 : Int32) (μ : Mem) : Option (Int32 × Mem) :=
  (gR 10 2 a0 μ).bind fun v1 =>
  (vO 0 v1 μ).bind fun g2 =>
  (X0_hasThing v1 x1 μ).bind fun v3 =>
  if v3 = 0 then
  some ((-1001), μ)
  else
  if (X10_isPerson x2) = 0 then
  some ((-1001), μ)
  else
  if (X10_isAhead x3) = 0 then
  some ((-1002), μ)
  else
  (gR 10 0 a0 μ).bind fun v7 =>
  (gI 10 10 a0 μ).bind fun v8 =>
  (vO 9 v7 μ).bind fun g9 =>
  (X9_lookAhead v7 x2 v8 x3 μ).bind fun μ10 =>
  (gR 10 2 a0 μ10).bind fun v11 =>
  (gR 0 0 v11 μ10).bind fun v12 =>
  (aR 6 v12 x1 μ10).bind fun v13 =>
  (gI 10 10 a0 μ10).bind fun v14 =>
  (gR 10 0 a0 μ10).bind fun v15 =>
  (vO 9 v15 μ10).bind fun g16 =>
  (X9_seamOdds v15 x3 μ10).bind fun v17 =>
  (vO 6 v13 μ10).bind fun g18 =>
  (X6_valueIn v13 (v14 + x3) v17 μ10).bind fun v19 =>
  some (v19, μ10)
def X10_isWay (x0 : Int32) : Int32 :=
  X10_within x0 0 3
def X10_cost (a0 : Nat) (x1 : Int32) (x2 : Int32) (x3 : Int32) (μ : Mem) : Option (Int32 × Mem) :=
  if (X10_isWay x1) = 0 then
  some ((-1002), μ)
  else
  if (X10_isState x2) = 0 then
  some ((-1002), μ)
  else
  if (X10_within x3 0 999) = 0 then
  some ((-1002), μ)
  else
  (gR 10 1 a0 μ).bind fun v4 =>
  (gR 8 0 v4 μ).bind fun v5 =>
  (aR 7 v5 x1 μ).bind fun v6 =>
  (X10_exchange v6 x2 x3 μ).bind fun z7 =>
  some (z7.1, z7.2)
def X10_seen (a0 : Nat) (x1 : Int32) (x2 : Int32) (μ : Mem) : Option (Int32 × Mem) :=
  if (X10_isWay x1) = 0 then
  some ((-1002), μ)
  else
  if (X10_within x2 0 100) = 0 then
  some ((-1002), μ)
  else
  (gR 10 1 a0 μ).bind fun v3 =>
  (gR 8 1 v3 μ).bind fun v4 =>
  (X10_exchange v4 x1 x2 μ).bind fun z5 =>
  some (z5.1, z5.2)
def X10_loss (a0 : Nat) (x1 : Int32) (x2 : Int32) (x3 : Int32) (μ : Mem) : Option (Int32 × Mem) :=
  if (X10_isPerson x1) = 0 then
  some ((-1001), μ)
  else
  if (X10_isWay x2) = 0 then
  some ((-1002), μ)
  else
  if (X10_isAhead x3) = 0 then
  some ((-1002), μ)
  else
  (gR 10 0 a0 μ).bind fun v4 =>
  (gI 10 10 a0 μ).bind fun v5 =>
  (vO 9 v4 μ).bind fun g6 =>
  (X9_lookAhead v4 x1 v5 x3 μ).bind fun μ7 =>
  (gR 10 1 a0 μ7).bind fun v8 =>
  (gR 10 0 a0 μ7).bind fun v9 =>
  (gR 9 4 v9 μ7).bind fun v10 =>
  (aR 7 v10 x3 μ7).bind fun v11 =>
  (vO 8 v8 μ7).bind fun g12 =>
  (X8_lossBy v8 x2 v11 μ7).bind fun v13 =>
  some (v13, μ7)
def X10_count (a0 : Nat) (x1 : Int32) (μ : Mem) : Option Int32 :=
  if x1 = Int32.ofNat 0 then
  (gI 10 10 a0 μ).bind fun v2 =>
  some (v2)
  else
  if x1 = Int32.ofNat 1 then
  (gR 10 2 a0 μ).bind fun v4 =>
  (gI 0 2 v4 μ).bind fun v5 =>
  some (v5)
  else
  if x1 = Int32.ofNat 2 then
  (gR 10 2 a0 μ).bind fun v7 =>
  (gI 10 10 a0 μ).bind fun v8 =>
  (vO 0 v7 μ).bind fun g9 =>
  (X0_thingsThatAre v7 0 v8 μ).bind fun v10 =>
  some (v10)
  else
  if x1 = Int32.ofNat 3 then
  (gR 10 2 a0 μ).bind fun v12 =>
  (gI 10 10 a0 μ).bind fun v13 =>
  (vO 0 v12 μ).bind fun g14 =>
  (X0_thingsThatAre v12 1 v13 μ).bind fun v15 =>
  some (v15)
  else
  if x1 = Int32.ofNat 4 then
  (gR 10 2 a0 μ).bind fun v17 =>
  (gI 10 10 a0 μ).bind fun v18 =>
  (vO 0 v17 μ).bind fun g19 =>
  (X0_thingsThatAre v17 2 v18 μ).bind fun v20 =>
  some (v20)
  else
  if x1 = Int32.ofNat 5 then
  (gR 10 2 a0 μ).bind fun v22 =>
  (gI 10 10 a0 μ).bind fun v23 =>
  (vO 0 v22 μ).bind fun g24 =>
  (X0_thingsThatAre v22 3 v23 μ).bind fun v25 =>
  some (v25)
  else
  if x1 = Int32.ofNat 6 then
  (gR 10 2 a0 μ).bind fun v27 =>
  (gI 0 3 v27 μ).bind fun v28 =>
  some (v28)
  else
  if x1 = Int32.ofNat 7 then
  (gR 10 3 a0 μ).bind fun v30 =>
  (gI 2 0 v30 μ).bind fun v31 =>
  some (v31)
  else
  some ((-1002))
def X10_feed_L38 (a0 : Nat) (j2 : Int64) : Nat → Int32 → Mem → Option (Int32 × Mem)
  | 0, _, _ => none
  | n + 1, x4, μ =>
      if x4 < 0 then
      some ((x4, μ))
      else
      (gR 10 3 a0 μ).bind fun v2 =>
      (vO 2 v2 μ).bind fun g3 =>
      (X2_append v2 ((((j2.toUInt64 >>> ((8 * x4).toInt64.toUInt64 &&& Int64.toUInt64 63)).toInt64).toInt32) &&& 255) μ).bind fun μ4 =>
      X10_feed_L38 a0 j2 n (x4 + (-1)) μ4
def X10_feed (a0 : Nat) (x1 : Int32) (j2 : Int64) (μ : Mem) : Option (Int32 × Mem) :=
  if (X10_within x1 1 8) = 0 then
  some ((-1002), μ)
  else
  (gR 10 3 a0 μ).bind fun v2 =>
  (gI 2 0 v2 μ).bind fun v3 =>
  if (v3 + x1) ≤ 160 then
  (some (x1 - 1 : Int32)).bind fun v5 =>
  (X10_feed_L38 a0 j2 FU v5 μ).bind fun z6 =>
  (gR 10 3 a0 z6.2).bind fun v7 =>
  (gI 2 0 v7 z6.2).bind fun v8 =>
  some (v8, z6.2)
  else
  some ((-1004), μ)
end
section
def X10_read (a0 : Nat) (x1 : Int32) (μ : Mem) : Option (Int32 × Mem) :=
  if (X10_isPerson x1) = 0 then
  some ((-1001), μ)
  else
  (gR 10 3 a0 μ).bind fun v2 =>
  (gR 10 9 a0 μ).bind fun v3 =>
  (vO 2 v2 μ).bind fun g4 =>
  (X2_parse v2 v3 μ).bind fun μ5 =>
  (gR 10 3 a0 μ5).bind fun v6 =>
  (pI 2 0 v6 0 μ5).bind fun μ7 =>
  (gR 10 3 a0 μ7).bind fun v8 =>
  (gI 2 1 v8 μ7).bind fun v9 =>
  if v9 = 0 then
  (gR 10 4 a0 μ7).bind fun v11 =>
  (aR 4 v11 x1 μ7).bind fun v12 =>
  (gR 10 4 a0 μ7).bind fun v13 =>
  (gR 10 9 a0 μ7).bind fun v14 =>
  (sR 4 3 v13 x1 v14 μ7).bind fun μ15 =>
  (pR 10 9 a0 v12 μ15).bind fun μ16 =>
  (gR 10 4 a0 μ16).bind fun v17 =>
  (aR 4 v17 x1 μ16).bind fun v18 =>
  (gI 3 0 v18 μ16).bind fun v19 =>
  some (v19, μ16)
  else
  (gR 10 3 a0 μ7).bind fun v20 =>
  (gI 2 1 v20 μ7).bind fun v21 =>
  some (((-10)) - v21, μ7)
def X10_fault (a0 : Nat) (μ : Mem) : Option Int32 :=
  (gR 10 3 a0 μ).bind fun v1 =>
  (gI 2 2 v1 μ).bind fun v2 =>
  some (v2)
def X10_barNow (a0 : Nat) (x1 : Int32) (x2 : Int32) (x3 : Int32) (μ : Mem) : Option (Int32 × Mem) :=
  (gR 10 0 a0 μ).bind fun v1 =>
  (gI 10 10 a0 μ).bind fun v2 =>
  (vO 9 v1 μ).bind fun g3 =>
  (X9_lookAhead v1 x1 v2 0 μ).bind fun μ4 =>
  (gR 10 5 a0 μ4).bind fun v5 =>
  (gR 10 4 a0 μ4).bind fun v6 =>
  (aR 4 v6 x1 μ4).bind fun v7 =>
  (gR 10 2 a0 μ4).bind fun v8 =>
  (gI 10 10 a0 μ4).bind fun v9 =>
  (gR 10 0 a0 μ4).bind fun v10 =>
  (gR 9 4 v10 μ4).bind fun v11 =>
  (aR 7 v11 0 μ4).bind fun v12 =>
  (vO 1 v5 μ4).bind fun g13 =>
  (X1_open v5 v7 v8 v9 v12 μ4).bind fun μ14 =>
  (gR 10 2 a0 μ14).bind fun v15 =>
  (gR 10 8 a0 μ14).bind fun v16 =>
  (vO 0 v15 μ14).bind fun g17 =>
  (X0_countSaid v15 x1 v16 μ14).bind fun μ18 =>
  (gR 10 5 a0 μ18).bind fun v19 =>
  (gR 10 4 a0 μ18).bind fun v20 =>
  (aR 4 v20 x1 μ18).bind fun v21 =>
  (gR 10 8 a0 μ18).bind fun v22 =>
  (gI 10 10 a0 μ18).bind fun v23 =>
  (vO 3 v21 μ18).bind fun g24 =>
  (X3_mostBars v21 v22 v23 μ18).bind fun v25 =>
  (vO 1 v19 μ18).bind fun g26 =>
  (X1_bar v19 x2 x3 v25 μ18).bind fun v27 =>
  some (v27, μ18)
def X10_barred (a0 : Nat) (x1 : Int32) (x2 : Int32) (x3 : Int32) (μ : Mem) : Option (Int32 × Mem) :=
  if (X10_isPerson x1) = 0 then
  some ((-1001), μ)
  else
  (gR 10 2 a0 μ).bind fun v2 =>
  (vO 0 v2 μ).bind fun g3 =>
  (X0_hasThings v2 x2 μ).bind fun v4 =>
  if v4 = 0 then
  some ((-1001), μ)
  else
  if (X10_isWay x3) = 0 then
  some ((-1002), μ)
  else
  (vO 10 a0 μ).bind fun g7 =>
  (X10_barNow a0 x1 x2 x3 μ).bind fun z8 =>
  some (z8.1, z8.2)
def X10_plan (a0 : Nat) (x1 : Int32) (x2 : Int32) (x3 : Int32) (x4 : Int32) (μ : Mem) : Option (Int32 × Mem) :=
  if (X10_isPerson x1) = 0 then
  some ((-1001), μ)
  else
  if (X10_within x2 1 6) = 0 then
  some ((-1002), μ)
  else
  if (X10_within x3 ((-1)) (x2 - 1)) = 0 then
  some ((-1002), μ)
  else
  if (X10_within x4 0 1) = 0 then
  some ((-1002), μ)
  else
  (gR 10 6 a0 μ).bind fun v5 =>
  (gI 10 10 a0 μ).bind fun v6 =>
  (gR 10 4 a0 μ).bind fun v7 =>
  (aR 4 v7 x1 μ).bind fun v8 =>
  (vO 4 v5 μ).bind fun g9 =>
  (X4_make v5 x1 x2 v6 v8 μ).bind fun μ10 =>
  if x3 = ((-1)) then
  (gR 10 6 a0 μ10).bind fun v20 =>
  (gI 4 0 v20 μ10).bind fun v21 =>
  some (v21, μ10)
  else
  ((if x4 = 0 then
  (gR 10 6 a0 μ10).bind fun v16 =>
  (gR 4 1 v16 μ10).bind fun v17 =>
  (aI v17 x3 μ10).bind fun v18 =>
  some v18
  else
  (gR 10 6 a0 μ10).bind fun v13 =>
  (gR 4 2 v13 μ10).bind fun v14 =>
  (aI v14 x3 μ10).bind fun v15 =>
  some v15) : Option (Int32)).bind fun z19 =>
  some (z19, μ10)
def X10_say (a0 : Nat) (x1 : Int32) (x2 : Int32) (x3 : Int32) (μ : Mem) : Option (Int32 × Mem) :=
  if (X10_isPerson x1) = 0 then
  some ((-1001), μ)
  else
  (gR 10 2 a0 μ).bind fun v2 =>
  (vO 0 v2 μ).bind fun g3 =>
  (X0_hasThings v2 x2 μ).bind fun v4 =>
  if v4 = 0 then
  some ((-1001), μ)
  else
  if (X10_isWay x3) = 0 then
  some ((-1002), μ)
  else
  (vO 10 a0 μ).bind fun g7 =>
  (X10_barNow a0 x1 x2 x3 μ).bind fun z8 =>
  if z8.1 = 0 then
  (gR 10 2 a0 z8.2).bind fun v10 =>
  (vO 0 v10 z8.2).bind fun g11 =>
  (X0_canBeSaid v10 x2 x1 z8.2).bind fun v12 =>
  if v12 = 0 then
  some ((-1003), z8.2)
  else
  (gR 10 2 a0 z8.2).bind fun v14 =>
  (gI 0 3 v14 z8.2).bind fun v15 =>
  if v15 < 40 then
  (gR 10 2 a0 z8.2).bind fun v17 =>
  (gR 0 1 v17 z8.2).bind fun v18 =>
  (gR 10 2 a0 z8.2).bind fun v19 =>
  (gI 0 3 v19 z8.2).bind fun v20 =>
  (aR 5 v18 v20 z8.2).bind fun v21 =>
  (pI 5 0 v21 x1 z8.2).bind fun μ22 =>
  (pI 5 1 v21 x2 μ22).bind fun μ23 =>
  (pI 5 2 v21 x3 μ23).bind fun μ24 =>
  (gI 10 10 a0 μ24).bind fun v25 =>
  (pI 5 3 v21 v25 μ24).bind fun μ26 =>
  (gR 10 2 a0 μ26).bind fun v27 =>
  (gI 0 3 v27 μ26).bind fun v28 =>
  (pI 0 3 v27 (v28 + 1) μ26).bind fun μ29 =>
  (gR 10 2 a0 μ29).bind fun v30 =>
  (gI 0 3 v30 μ29).bind fun v31 =>
  some (v31 - 1, μ29)
  else
  some ((-1004), z8.2)
  else
  some ((-1003), z8.2)
def X10_came (a0 : Nat) (x1 : Int32) (x2 : Int32) (μ : Mem) : Option (Int32 × Mem) :=
  (gR 10 2 a0 μ).bind fun v1 =>
  (vO 0 v1 μ).bind fun g2 =>
  (X0_hasSaying v1 x1 μ).bind fun v3 =>
  if v3 = 0 then
  some ((-1001), μ)
  else
  if (X10_within x2 1 3) = 0 then
  some ((-1002), μ)
  else
  (gR 10 2 a0 μ).bind fun v6 =>
  (gR 0 1 v6 μ).bind fun v7 =>
  (aR 5 v7 x1 μ).bind fun v8 =>
  (gI 5 4 v8 μ).bind fun v9 =>
  if v9 = 0 then
  (gR 10 2 a0 μ).bind fun v11 =>
  (gR 0 1 v11 μ).bind fun v12 =>
  (aR 5 v12 x1 μ).bind fun v13 =>
  (pI 5 4 v13 x2 μ).bind fun μ14 =>
  some (v9, μ14)
  else
  some ((-1003), μ)
def X10_saying (a0 : Nat) (x1 : Int32) (x2 : Int32) (μ : Mem) : Option Int32 :=
  (gR 10 2 a0 μ).bind fun v1 =>
  (vO 0 v1 μ).bind fun g2 =>
  (X0_hasSaying v1 x1 μ).bind fun v3 =>
  if v3 = 0 then
  some ((-1001))
  else
  (gR 10 2 a0 μ).bind fun v5 =>
  (gR 0 1 v5 μ).bind fun v6 =>
  (aR 5 v6 x1 μ).bind fun v7 =>
  if x2 = Int32.ofNat 0 then
  (gI 5 0 v7 μ).bind fun v9 =>
  some (v9)
  else
  if x2 = Int32.ofNat 1 then
  (gI 5 1 v7 μ).bind fun v11 =>
  some (v11)
  else
  if x2 = Int32.ofNat 2 then
  (gI 5 2 v7 μ).bind fun v13 =>
  some (v13)
  else
  if x2 = Int32.ofNat 3 then
  (gI 5 3 v7 μ).bind fun v15 =>
  some (v15)
  else
  if x2 = Int32.ofNat 4 then
  (gI 5 4 v7 μ).bind fun v17 =>
  some (v17)
  else
  if x2 = Int32.ofNat 5 then
  (gI 5 1 v7 μ).bind fun v19 =>
  (gR 10 2 a0 μ).bind fun v20 =>
  (vO 0 v20 μ).bind fun g21 =>
  (X0_deadThings v20 μ).bind fun v22 =>
  some (v19 &&& v22)
  else
  some ((-1002))
def X10_choose_L16 (x0 : Int32) (x1 : Int32) (μ : Mem) : Nat → Int64 → Int32 → Option (Int64 × Int32)
  | 0, _, _ => none
  | n + 1, j2, x4 =>
      if x1 < x4 then
      some ((j2, x4))
      else
      (dvJ (j2 * (((x0 - x1) + x4).toInt64)) x4.toInt64).bind fun v2 =>
      X10_choose_L16 x0 x1 μ n v2 (x4 + 1)
def X10_choose (x0 : Int32) (x1 : Int32) (μ : Mem) : Option Int64 :=
  if x1 < 0 then
  some (0)
  else
  if x1 ≤ x0 then
  (X10_choose_L16 x0 x1 μ FU 1 1).bind fun z3 =>
  some (z3.1)
  else
  some (0)
def X10_commonPart_L9 (μ : Mem) : Nat → Int64 → Int64 → Int32 → Option (Int64 × Int64 × Int32)
  | 0, _, _, _ => none
  | n + 1, j4, j6, x8 =>
      if (200 : Int32) ≤ x8 then
      some ((j4, j6, x8))
      else
      if (lg_cmp j6 0) = 0 then
      some ((j4, j6, x8))
      else
      (rmJ j4 j6).bind fun v3 =>
      X10_commonPart_L9 μ n j6 v3 (x8 + 1)
def X10_commonPart (j0 : Int64) (j2 : Int64) (μ : Mem) : Option Int64 :=
  (X10_commonPart_L9 μ FU j0 j2 0).bind fun z1 =>
  some (z1.1)
def X10_chance_L17 (x0 : Int32) (x1 : Int32) (x2 : Int32) (x3 : Int32) (x4 : Int32) (j5 : Int64) (μ : Mem) : Nat → Int64 → Int32 → Option (Int64 × Int32)
  | 0, _, _ => none
  | n + 1, j7, x9 =>
      if x1 < x9 then
      some ((j7, x9))
      else
      (X10_choose x1 x9 μ).bind fun v2 =>
      (X10_choose x3 ((x0 + x2) - x9) μ).bind fun v3 =>
      (some (j7 + (v2 * v3) : Int64)).bind fun v4 =>
      X10_chance_L17 x0 x1 x2 x3 x4 j5 μ n v4 (x9 + 1)
def X10_chance (x0 : Int32) (x1 : Int32) (x2 : Int32) (x3 : Int32) (x4 : Int32) (μ : Mem) : Option Int32 :=
  (X10_choose (x1 + x3) (x0 + x2) μ).bind fun v1 =>
  (X10_chance_L17 x0 x1 x2 x3 x4 v1 μ FU 0 x0).bind fun z2 =>
  (X10_commonPart z2.1 v1 μ).bind fun v3 =>
  if (0 : Int32) < (lg_cmp v3 0) then
  (some (if x4 = 0 then v1 else z2.1 : Int64)).bind fun v6 =>
  (dvJ v6 v3).bind fun v7 =>
  some (v7.toInt32)
  else
  some ((-1003))
def X10_learnt (a0 : Nat) (x1 : Int32) (x2 : Int32) (x3 : Int32) (μ : Mem) : Option Int32 :=
  if (X10_isWay x1) = 0 then
  some ((-1002))
  else
  if (X10_isWay x2) = 0 then
  some ((-1002))
  else
  if x1 = x2 then
  some ((-1002))
  else
  if (X10_within x3 0 5) = 0 then
  some ((-1002))
  else
  (gR 10 2 a0 μ).bind fun v5 =>
  (vO 0 v5 μ).bind fun g6 =>
  (X0_lookedAtBy v5 x1 μ).bind fun v7 =>
  (gR 10 2 a0 μ).bind fun v8 =>
  (vO 0 v8 μ).bind fun g9 =>
  (X0_outcomesBy v8 x1 μ).bind fun v10 =>
  (gR 10 2 a0 μ).bind fun v11 =>
  (vO 0 v11 μ).bind fun g12 =>
  (X0_lookedAtBy v11 x2 μ).bind fun v13 =>
  (gR 10 2 a0 μ).bind fun v14 =>
  (vO 0 v14 μ).bind fun g15 =>
  (X0_outcomesBy v14 x2 μ).bind fun v16 =>
  if x3 = Int32.ofNat 0 then
  some (v7)
  else
  if x3 = Int32.ofNat 1 then
  some (v10)
  else
  if x3 = Int32.ofNat 2 then
  some (v13)
  else
  if x3 = Int32.ofNat 3 then
  some (v16)
  else
  ((if (v10 + v16) ≤ 30 then
  (some (if x3 = 4 then 1 else 0 : Int32)).bind fun v23 =>
  (X10_chance v7 v10 v13 v16 v23 μ).bind fun v24 =>
  some v24
  else
  some ((-1003))) : Option (Int32)).bind fun z25 =>
  some (z25)
def X10_who_L68 (a0 : Nat) (x3 : Int32) : Nat → Int32 → Int32 → Int32 → Mem → Option (Int32 × Int32 × Int32 × Mem)
  | 0, _, _, _, _ => none
  | n + 1, x4, x5, x6, μ =>
      if (4 : Int32) ≤ x6 then
      some ((x4, x5, x6, μ))
      else
      ((if (X10_contains x3 x6) = 0 then
      some ((x4, x5, μ))
      else
      (gR 10 0 a0 μ).bind fun v3 =>
      (gI 10 10 a0 μ).bind fun v4 =>
      (vO 9 v3 μ).bind fun g5 =>
      (X9_lookAhead v3 x6 v4 0 μ).bind fun μ6 =>
      (gR 10 0 a0 μ6).bind fun v7 =>
      (vO 9 v7 μ6).bind fun g8 =>
      (X9_seamOdds v7 0 μ6).bind fun v9 =>
      if v9 ≤ x5 then
      some ((x4, x5, μ6))
      else
      (gR 10 0 a0 μ6).bind fun v11 =>
      (vO 9 v11 μ6).bind fun g12 =>
      (X9_seamOdds v11 0 μ6).bind fun v13 =>
      some ((x6, v13, μ6))) : Option (Int32 × Int32 × Mem)).bind fun z14 =>
      X10_who_L68 a0 x3 n z14.1 z14.2.1 (x6 + 1) z14.2.2
def X10_who (a0 : Nat) (x1 : Int32) (x2 : Int32) (μ : Mem) : Option (Int32 × Mem) :=
  (gR 10 2 a0 μ).bind fun v1 =>
  (vO 0 v1 μ).bind fun g2 =>
  (X0_hasThing v1 x1 μ).bind fun v3 =>
  if v3 = 0 then
  some ((-1001), μ)
  else
  if (X10_within x2 0 1) = 0 then
  some ((-1002), μ)
  else
  (gR 10 2 a0 μ).bind fun v6 =>
  (gR 0 0 v6 μ).bind fun v7 =>
  (aR 6 v7 x1 μ).bind fun v8 =>
  (gI 6 0 v8 μ).bind fun v9 =>
  ((if x2 = 1 then
  (gR 10 2 a0 μ).bind fun v11 =>
  (vO 0 v11 μ).bind fun g12 =>
  (X0_personsWith v11 x1 μ).bind fun v13 =>
  some (v9 &&& (v13 ^^^ ((-1))))
  else
  some v9) : Option (Int32)).bind fun z14 =>
  (X10_who_L68 a0 z14 FU ((-1)) ((-1)) 0 μ).bind fun z15 =>
  some (z15.1, z15.2.2.2)
def X10_tried (a0 : Nat) (x1 : Int32) (x2 : Int32) (x3 : Int32) (x4 : Int32) (μ : Mem) : Option (Int32 × Mem) :=
  if (X10_isPerson x1) = 0 then
  some ((-1001), μ)
  else
  if (X10_within x2 0 1000000) = 0 then
  some ((-1002), μ)
  else
  if (X10_isWay x3) = 0 then
  some ((-1002), μ)
  else
  if (X10_within x4 0 3) = 0 then
  some ((-1002), μ)
  else
  (gR 10 7 a0 μ).bind fun v5 =>
  (gI 10 10 a0 μ).bind fun v6 =>
  (vO 7 v5 μ).bind fun g7 =>
  (X7_run v5 x1 x2 x3 v6 μ).bind fun μ8 =>
  if x4 = Int32.ofNat 0 then
  (gR 10 7 a0 μ8).bind fun v10 =>
  (gI 7 0 v10 μ8).bind fun v11 =>
  some (v11, μ8)
  else
  if x4 = Int32.ofNat 1 then
  (gR 10 7 a0 μ8).bind fun v13 =>
  (gI 7 1 v13 μ8).bind fun v14 =>
  some (v14, μ8)
  else
  if x4 = Int32.ofNat 2 then
  (gR 10 7 a0 μ8).bind fun v16 =>
  (gI 7 2 v16 μ8).bind fun v17 =>
  some (v17, μ8)
  else
  (gR 10 7 a0 μ8).bind fun v18 =>
  (gI 7 3 v18 μ8).bind fun v19 =>
  some (v19, μ8)
def X11_init_L327 (a0 : Nat) : Nat → Int32 → Mem → Option (Int32 × Mem)
  | 0, _, _ => none
  | n + 1, x1, μ =>
      if (16 : Int32) ≤ x1 then
      some ((x1, μ))
      else
      (gR 11 0 a0 μ).bind fun v2 =>
      (sI v2 x1 1 μ).bind fun μ3 =>
      (gR 11 1 a0 μ3).bind fun v4 =>
      (sI v4 x1 1 μ3).bind fun μ5 =>
      (gR 11 22 a0 μ5).bind fun v6 =>
      (sI v6 x1 10 μ5).bind fun μ7 =>
      X11_init_L327 a0 n (x1 + 1) μ7
def X11_init_L363 (a0 : Nat) : Nat → Int32 → Mem → Option (Int32 × Mem)
  | 0, _, _ => none
  | n + 1, x1, μ =>
      if (4 : Int32) ≤ x1 then
      some ((x1, μ))
      else
      (gR 11 2 a0 μ).bind fun v2 =>
      (sI v2 x1 1 μ).bind fun μ3 =>
      (gR 11 23 a0 μ3).bind fun v4 =>
      (sI v4 x1 50 μ3).bind fun μ5 =>
      X11_init_L363 a0 n (x1 + 1) μ5
def X11_init_L391 (a0 : Nat) : Nat → Int32 → Mem → Option (Int32 × Mem)
  | 0, _, _ => none
  | n + 1, x1, μ =>
      if (244 : Int32) ≤ x1 then
      some ((x1, μ))
      else
      (gR 11 4 a0 μ).bind fun v2 =>
      (sI v2 x1 ((-1)) μ).bind fun μ3 =>
      X11_init_L391 a0 n (x1 + 1) μ3
set_option maxRecDepth 100000 in
def X11_init (a0 : Nat) (μ : Mem) : Option Mem :=
  (nA 1 (mN μ + 0) 16 μ).bind fun μ1 =>
  (pR 11 0 a0 (mN μ + 0) μ1).bind fun μ2 =>
  (nA 1 (mN μ + 1) 16 μ2).bind fun μ3 =>
  (pR 11 1 a0 (mN μ + 1) μ3).bind fun μ4 =>
  (nA 1 (mN μ + 2) 4 μ4).bind fun μ5 =>
  (pR 11 2 a0 (mN μ + 2) μ5).bind fun μ6 =>
  (nA 1 (mN μ + 3) 244 μ6).bind fun μ7 =>
  (pR 11 4 a0 (mN μ + 3) μ7).bind fun μ8 =>
  (nA 2 (mN μ + 4) 4 μ8).bind fun μ9 =>
  (pR 11 6 a0 (mN μ + 4) μ9).bind fun μ10 =>
  (nA 2 (mN μ + 5) 4 μ10).bind fun μ11 =>
  (pR 11 7 a0 (mN μ + 5) μ11).bind fun μ12 =>
  (nA 1 (mN μ + 6) 4 μ12).bind fun μ13 =>
  (pR 11 8 a0 (mN μ + 6) μ13).bind fun μ14 =>
  (nA 1 (mN μ + 7) 4 μ14).bind fun μ15 =>
  (pR 11 9 a0 (mN μ + 7) μ15).bind fun μ16 =>
  (nA 1 (mN μ + 8) 4 μ16).bind fun μ17 =>
  (pR 11 10 a0 (mN μ + 8) μ17).bind fun μ18 =>
  (nA 1 (mN μ + 9) 4 μ18).bind fun μ19 =>
  (pR 11 11 a0 (mN μ + 9) μ19).bind fun μ20 =>
  (nA 1 (mN μ + 10) 10 μ20).bind fun μ21 =>
  (pR 11 13 a0 (mN μ + 10) μ21).bind fun μ22 =>
  (nA 1 (mN μ + 11) 10 μ22).bind fun μ23 =>
  (pR 11 14 a0 (mN μ + 11) μ23).bind fun μ24 =>
  (nA 1 (mN μ + 12) 10 μ24).bind fun μ25 =>
  (pR 11 15 a0 (mN μ + 12) μ25).bind fun μ26 =>
  (nA 1 (mN μ + 13) 10 μ26).bind fun μ27 =>
  (pR 11 16 a0 (mN μ + 13) μ27).bind fun μ28 =>
  (nA 1 (mN μ + 14) 10 μ28).bind fun μ29 =>
  (pR 11 17 a0 (mN μ + 14) μ29).bind fun μ30 =>
  (nA 1 (mN μ + 15) 10 μ30).bind fun μ31 =>
  (pR 11 18 a0 (mN μ + 15) μ31).bind fun μ32 =>
  (nA 1 (mN μ + 16) 10 μ32).bind fun μ33 =>
  (pR 11 19 a0 (mN μ + 16) μ33).bind fun μ34 =>
  (nA 1 (mN μ + 17) 10 μ34).bind fun μ35 =>
  (pR 11 20 a0 (mN μ + 17) μ35).bind fun μ36 =>
  (nA 3 (mN μ + 18) 10 μ36).bind fun μ37 =>
  (pR 11 21 a0 (mN μ + 18) μ37).bind fun μ38 =>
  (nA 1 (mN μ + 19) 16 μ38).bind fun μ39 =>
  (pR 11 22 a0 (mN μ + 19) μ39).bind fun μ40 =>
  (nA 1 (mN μ + 20) 4 μ40).bind fun μ41 =>
  (pR 11 23 a0 (mN μ + 20) μ41).bind fun μ42 =>
  (nA 1 (mN μ + 21) 4 μ42).bind fun μ43 =>
  (pR 11 24 a0 (mN μ + 21) μ43).bind fun μ44 =>
  (nA 1 (mN μ + 22) 32 μ44).bind fun μ45 =>
  (pR 11 25 a0 (mN μ + 22) μ45).bind fun μ46 =>
  (nA 1 (mN μ + 23) 32 μ46).bind fun μ47 =>
  (pR 11 26 a0 (mN μ + 23) μ47).bind fun μ48 =>
  (nA 1 (mN μ + 24) 32 μ48).bind fun μ49 =>
  (pR 11 27 a0 (mN μ + 24) μ49).bind fun μ50 =>
  (nA 1 (mN μ + 25) 32 μ50).bind fun μ51 =>
  (pR 11 28 a0 (mN μ + 25) μ51).bind fun μ52 =>
  (nA 1 (mN μ + 26) 9 μ52).bind fun μ53 =>
  (pR 11 29 a0 (mN μ + 26) μ53).bind fun μ54 =>
  (nA 1 (mN μ + 27) 9 μ54).bind fun μ55 =>
  (pR 11 30 a0 (mN μ + 27) μ55).bind fun μ56 =>
  (nA 1 (mN μ + 28) 9 μ56).bind fun μ57 =>
  (pR 11 31 a0 (mN μ + 28) μ57).bind fun μ58 =>
  (nA 1 (mN μ + 29) 9 μ58).bind fun μ59 =>
  (pR 11 32 a0 (mN μ + 29) μ59).bind fun μ60 =>
  (nA 1 (mN μ + 30) 160 μ60).bind fun μ61 =>
  (pR 11 33 a0 (mN μ + 30) μ61).bind fun μ62 =>
  (pI 11 35 a0 ((-1)) μ62).bind fun μ63 =>
  (nA 1 (mN μ + 31) 6 μ63).bind fun μ64 =>
  (pR 11 40 a0 (mN μ + 31) μ64).bind fun μ65 =>
  (nA 1 (mN μ + 32) 28672 μ65).bind fun μ66 =>
  (pR 11 42 a0 (mN μ + 32) μ66).bind fun μ67 =>
  (nA 1 (mN μ + 33) 384 μ67).bind fun μ68 =>
  (pR 11 43 a0 (mN μ + 33) μ68).bind fun μ69 =>
  (nA 1 (mN μ + 34) 384 μ69).bind fun μ70 =>
  (pR 11 44 a0 (mN μ + 34) μ70).bind fun μ71 =>
  (nA 1 (mN μ + 35) 40 μ71).bind fun μ72 =>
  (pR 11 46 a0 (mN μ + 35) μ72).bind fun μ73 =>
  (nA 1 (mN μ + 36) 40 μ73).bind fun μ74 =>
  (pR 11 47 a0 (mN μ + 36) μ74).bind fun μ75 =>
  (nA 1 (mN μ + 37) 40 μ75).bind fun μ76 =>
  (pR 11 48 a0 (mN μ + 37) μ76).bind fun μ77 =>
  (nA 1 (mN μ + 38) 40 μ77).bind fun μ78 =>
  (pR 11 49 a0 (mN μ + 38) μ78).bind fun μ79 =>
  (nA 1 (mN μ + 39) 40 μ79).bind fun μ80 =>
  (pR 11 50 a0 (mN μ + 39) μ80).bind fun μ81 =>
  (X11_init_L327 a0 FU 0 μ81).bind fun z82 =>
  (X11_init_L363 a0 FU 0 z82.2).bind fun z83 =>
  (X11_init_L391 a0 FU 0 z83.2).bind fun z84 =>
  some z84.2
def X11_in (j0 : Int64) (j2 : Int64) (j4 : Int64) : Int32 :=
  (if (lg_cmp j0 j2) < 0 then 0 else if (0 : Int32) < (lg_cmp j0 j4) then 0 else 1)
def X11_isState (x0 : Int32) : Int32 :=
  X11_in x0.toInt64 0 3
def X11_isPerson (x0 : Int32) : Int32 :=
  X11_in x0.toInt64 0 3
def X11_move (a0 : Nat) (x1 : Int32) (x2 : Int32) (x3 : Int32) (μ : Mem) : Option (Int32 × Mem) :=
  if (X11_isState x1) = 0 then
  some ((-1002), μ)
  else
  if (X11_isState x2) = 0 then
  some ((-1002), μ)
  else
  if (X11_in x3.toInt64 0 4) = 0 then
  some ((-1002), μ)
  else
  (gR 11 0 a0 μ).bind fun v4 =>
  (aI v4 ((4 * x1) + x2) μ).bind fun v5 =>
  (gR 11 0 a0 μ).bind fun v6 =>
  (sI v6 ((4 * x1) + x2) x3 μ).bind fun μ7 =>
  some (v5, μ7)
def X11_shows (a0 : Nat) (x1 : Int32) (x2 : Int32) (x3 : Int32) (μ : Mem) : Option (Int32 × Mem) :=
  if (X11_isState x1) = 0 then
  some ((-1002), μ)
  else
  if (X11_isState x2) = 0 then
  some ((-1002), μ)
  else
  if (X11_in x3.toInt64 0 4) = 0 then
  some ((-1002), μ)
  else
  (gR 11 1 a0 μ).bind fun v4 =>
  (aI v4 ((4 * x1) + x2) μ).bind fun v5 =>
  (gR 11 1 a0 μ).bind fun v6 =>
  (sI v6 ((4 * x1) + x2) x3 μ).bind fun μ7 =>
  some (v5, μ7)
def X11_begins (a0 : Nat) (x1 : Int32) (x2 : Int32) (μ : Mem) : Option (Int32 × Mem) :=
  if (X11_isState x1) = 0 then
  some ((-1002), μ)
  else
  if (X11_in x2.toInt64 0 4) = 0 then
  some ((-1002), μ)
  else
  (gR 11 2 a0 μ).bind fun v3 =>
  (aI v3 x1 μ).bind fun v4 =>
  (gR 11 2 a0 μ).bind fun v5 =>
  (sI v5 x1 x2 μ).bind fun μ6 =>
  some (v4, μ6)
def X11_seams (a0 : Nat) (x1 : Int32) (μ : Mem) : Option (Int32 × Mem) :=
  if (X11_in x1.toInt64 0 15) = 0 then
  some ((-1002), μ)
  else
  (gI 11 3 a0 μ).bind fun v2 =>
  (pI 11 3 a0 x1 μ).bind fun μ3 =>
  some (v2, μ3)
def X11_sign (a0 : Nat) (x1 : Int32) (x2 : Int32) (μ : Mem) : Option (Int32 × Mem) :=
  if (X11_isPerson x1) = 0 then
  some ((-1001), μ)
  else
  if (X11_in x2.toInt64 ((-1)) 3) = 0 then
  some ((-1002), μ)
  else
  (gR 11 4 a0 μ).bind fun v3 =>
  (gI 11 5 a0 μ).bind fun v4 =>
  (sI v3 ((61 * x1) + v4) x2 μ).bind fun μ5 =>
  some (1, μ5)
def X11_go (a0 : Nat) (x1 : Int32) (μ : Mem) : Option (Int32 × Mem) :=
  if (X11_in x1.toInt64 0 20) = 0 then
  some ((-1002), μ)
  else
  (gI 11 5 a0 μ).bind fun v2 =>
  if (v2 + x1) ≤ 60 then
  (gI 11 5 a0 μ).bind fun v4 =>
  (pI 11 5 a0 (v4 + x1) μ).bind fun μ5 =>
  (gI 11 5 a0 μ5).bind fun v6 =>
  some (v6, μ5)
  else
  some ((-1003), μ)
def X11_showsAt (a0 : Nat) (x1 : Int32) (x2 : Int32) (x3 : Int32) (μ : Mem) : Option Int32 :=
  (gR 11 4 a0 μ).bind fun v1 =>
  (aI v1 ((61 * x1) + x2) μ).bind fun v2 =>
  ((if (0 : Int32) ≤ v2 then
  (gR 11 1 a0 μ).bind fun v4 =>
  (aI v4 ((4 * x3) + v2) μ).bind fun v5 =>
  some v5
  else
  some 1) : Option (Int32)).bind fun z6 =>
  some (z6)
def X11_findRows_L18 (a0 : Nat) (x1 : Int32) (x2 : Int32) (x3 : Int32) : Nat → Int32 → Mem → Option (Int32 × Mem)
  | 0, _, _ => none
  | n + 1, x4, μ =>
      if (4 : Int32) ≤ x4 then
      some ((x4, μ))
      else
      (gR 11 6 a0 μ).bind fun v2 =>
      (gR 11 2 a0 μ).bind fun v3 =>
      (aI v3 x4 μ).bind fun v4 =>
      (vO 11 a0 μ).bind fun g5 =>
      (X11_showsAt a0 x1 x3 x4 μ).bind fun v6 =>
      (sJ v2 x4 (v4.toInt64 * v6.toInt64) μ).bind fun μ7 =>
      (gR 11 8 a0 μ7).bind fun v8 =>
      (gR 11 6 a0 μ7).bind fun v9 =>
      (aJ v9 x4 μ7).bind fun v10 =>
      (some (if (lg_cmp v10 0) ≤ 0 then 0 else 1 : Int32)).bind fun v12 =>
      (sI v8 x4 v12 μ7).bind fun μ13 =>
      X11_findRows_L18 a0 x1 x2 x3 n (x4 + 1) μ13
def X11_findRows_L118 (a0 : Nat) (x1 : Int32) (x2 : Int32) (x4 : Int32) (x5 : Int32) : Nat → Int32 → Mem → Option (Int32 × Mem)
  | 0, _, _ => none
  | n + 1, x6, μ =>
      if (4 : Int32) ≤ x6 then
      some ((x6, μ))
      else
      (gR 11 0 a0 μ).bind fun v2 =>
      (aI v2 ((4 * x6) + x5) μ).bind fun v3 =>
      (vO 11 a0 μ).bind fun g4 =>
      (X11_showsAt a0 x1 x4 x5 μ).bind fun v5 =>
      (some (v3 * v5 : Int32)).bind fun v6 =>
      (gR 11 7 a0 μ).bind fun v7 =>
      (aJ v7 x5 μ).bind fun v8 =>
      (gR 11 6 a0 μ).bind fun v9 =>
      (aJ v9 x6 μ).bind fun v10 =>
      (sJ v7 x5 (v8 + (v10 * v6.toInt64)) μ).bind fun μ11 =>
      (gR 11 9 a0 μ11).bind fun v12 =>
      (aI v12 x5 μ11).bind fun v13 =>
      ((if v6 ≤ 0 then
      some 0
      else
      (gR 11 8 a0 μ11).bind fun v15 =>
      (aI v15 x6 μ11).bind fun v16 =>
      some v16) : Option (Int32)).bind fun z17 =>
      (sI v12 x5 (v13 + z17) μ11).bind fun μ18 =>
      X11_findRows_L118 a0 x1 x2 x4 x5 n (x6 + 1) μ18
def X11_findRows_L93 (a0 : Nat) (x1 : Int32) (x2 : Int32) (x4 : Int32) : Nat → Int32 → Mem → Option (Int32 × Mem)
  | 0, _, _ => none
  | n + 1, x5, μ =>
      if (4 : Int32) ≤ x5 then
      some ((x5, μ))
      else
      (gR 11 7 a0 μ).bind fun v2 =>
      (sJ v2 x5 0 μ).bind fun μ3 =>
      (gR 11 9 a0 μ3).bind fun v4 =>
      (sI v4 x5 0 μ3).bind fun μ5 =>
      (X11_findRows_L118 a0 x1 x2 x4 x5 FU 0 μ5).bind fun z6 =>
      X11_findRows_L93 a0 x1 x2 x4 n (x5 + 1) z6.2
def X11_findRows_L210 (a0 : Nat) (x1 : Int32) (x2 : Int32) (x4 : Int32) : Nat → Int32 → Mem → Option (Int32 × Mem)
  | 0, _, _ => none
  | n + 1, x5, μ =>
      if (4 : Int32) ≤ x5 then
      some ((x5, μ))
      else
      (gR 11 6 a0 μ).bind fun v2 =>
      (gR 11 7 a0 μ).bind fun v3 =>
      (aJ v3 x5 μ).bind fun v4 =>
      (sJ v2 x5 v4 μ).bind fun μ5 =>
      (gR 11 8 a0 μ5).bind fun v6 =>
      (gR 11 9 a0 μ5).bind fun v7 =>
      (aI v7 x5 μ5).bind fun v8 =>
      (sI v6 x5 v8 μ5).bind fun μ9 =>
      X11_findRows_L210 a0 x1 x2 x4 n (x5 + 1) μ9
def X11_findRows_L84 (a0 : Nat) (x1 : Int32) (x2 : Int32) : Nat → Int32 → Mem → Option (Int32 × Mem)
  | 0, _, _ => none
  | n + 1, x4, μ =>
      if x2 < x4 then
      some ((x4, μ))
      else
      (X11_findRows_L93 a0 x1 x2 x4 FU 0 μ).bind fun z2 =>
      (X11_findRows_L210 a0 x1 x2 x4 FU 0 z2.2).bind fun z3 =>
      X11_findRows_L84 a0 x1 x2 n (x4 + 1) z3.2
def X11_findRows (a0 : Nat) (x1 : Int32) (x2 : Int32) (μ : Mem) : Option Mem :=
  (some (if (6 : Int32) ≤ x2 then x2 - 6 else 0 : Int32)).bind fun v2 =>
  (X11_findRows_L18 a0 x1 x2 v2 FU 0 μ).bind fun z3 =>
  (some (v2 + 1 : Int32)).bind fun v4 =>
  (X11_findRows_L84 a0 x1 x2 FU v4 z3.2).bind fun z5 =>
  some z5.2
def X11_findOdds_L38 (a0 : Nat) (x3 : Int32) (j4 : Int64) : Nat → Int32 → Mem → Option (Int32 × Mem)
  | 0, _, _ => none
  | n + 1, x6, μ =>
      if (4 : Int32) ≤ x6 then
      some ((x6, μ))
      else
      (gR 11 10 a0 μ).bind fun v2 =>
      ((if (lg_cmp j4 0) = 0 then
      some 0
      else
      (gR 11 6 a0 μ).bind fun v4 =>
      (aJ v4 x6 μ).bind fun v5 =>
      (dvJ (v5 * 1000000) j4).bind fun v6 =>
      some v6.toInt32) : Option (Int32)).bind fun z7 =>
      (sI v2 x6 z7 μ).bind fun μ8 =>
      X11_findOdds_L38 a0 x3 j4 n (x6 + 1) μ8
def X11_findOdds_L112 (a0 : Nat) (x3 : Int32) (x6 : Int32) (x7 : Int32) : Nat → Int32 → Mem → Option (Int32 × Mem)
  | 0, _, _ => none
  | n + 1, x8, μ =>
      if (4 : Int32) ≤ x8 then
      some ((x8, μ))
      else
      (gR 11 0 a0 μ).bind fun v2 =>
      (aI v2 (4 * x8) μ).bind fun v3 =>
      (gR 11 0 a0 μ).bind fun v4 =>
      (aI v4 ((4 * x8) + 1) μ).bind fun v5 =>
      (gR 11 0 a0 μ).bind fun v6 =>
      (aI v6 ((4 * x8) + 2) μ).bind fun v7 =>
      (gR 11 0 a0 μ).bind fun v8 =>
      (aI v8 ((4 * x8) + 3) μ).bind fun v9 =>
      (some (((v3 + v5) + v7) + v9 : Int32)).bind fun v10 =>
      (gR 11 11 a0 μ).bind fun v11 =>
      (aI v11 x7 μ).bind fun v12 =>
      ((if v10 = 0 then
      some 0
      else
      (gR 11 10 a0 μ).bind fun v14 =>
      (aI v14 x8 μ).bind fun v15 =>
      (gR 11 0 a0 μ).bind fun v16 =>
      (aI v16 ((4 * x8) + x7) μ).bind fun v17 =>
      (dvI (v15 * v17) v10).bind fun v18 =>
      some v18) : Option (Int32)).bind fun z19 =>
      (sI v11 x7 (v12 + z19) μ).bind fun μ20 =>
      X11_findOdds_L112 a0 x3 x6 x7 n (x8 + 1) μ20
def X11_findOdds_L95 (a0 : Nat) (x3 : Int32) (x6 : Int32) : Nat → Int32 → Mem → Option (Int32 × Mem)
  | 0, _, _ => none
  | n + 1, x7, μ =>
      if (4 : Int32) ≤ x7 then
      some ((x7, μ))
      else
      (gR 11 11 a0 μ).bind fun v2 =>
      (sI v2 x7 0 μ).bind fun μ3 =>
      (X11_findOdds_L112 a0 x3 x6 x7 FU 0 μ3).bind fun z4 =>
      X11_findOdds_L95 a0 x3 x6 n (x7 + 1) z4.2
def X11_findOdds_L222 (a0 : Nat) (x3 : Int32) (x6 : Int32) : Nat → Int32 → Mem → Option (Int32 × Mem)
  | 0, _, _ => none
  | n + 1, x7, μ =>
      if (4 : Int32) ≤ x7 then
      some ((x7, μ))
      else
      (gR 11 10 a0 μ).bind fun v2 =>
      (gR 11 11 a0 μ).bind fun v3 =>
      (aI v3 x7 μ).bind fun v4 =>
      (sI v2 x7 v4 μ).bind fun μ5 =>
      X11_findOdds_L222 a0 x3 x6 n (x7 + 1) μ5
def X11_findOdds_L86 (a0 : Nat) (x3 : Int32) : Nat → Int32 → Mem → Option (Int32 × Mem)
  | 0, _, _ => none
  | n + 1, x6, μ =>
      if x3 ≤ x6 then
      some ((x6, μ))
      else
      (X11_findOdds_L95 a0 x3 x6 FU 0 μ).bind fun z2 =>
      (X11_findOdds_L222 a0 x3 x6 FU 0 z2.2).bind fun z3 =>
      X11_findOdds_L86 a0 x3 n (x6 + 1) z3.2
def X11_findOdds (a0 : Nat) (x1 : Int32) (x2 : Int32) (x3 : Int32) (μ : Mem) : Option Mem :=
  (vO 11 a0 μ).bind fun g1 =>
  (X11_findRows a0 x1 x2 μ).bind fun μ2 =>
  (gR 11 6 a0 μ2).bind fun v3 =>
  (aJ v3 0 μ2).bind fun v4 =>
  (gR 11 6 a0 μ2).bind fun v5 =>
  (aJ v5 1 μ2).bind fun v6 =>
  (gR 11 6 a0 μ2).bind fun v7 =>
  (aJ v7 2 μ2).bind fun v8 =>
  (gR 11 6 a0 μ2).bind fun v9 =>
  (aJ v9 3 μ2).bind fun v10 =>
  (some (((v4 + v6) + v8) + v10 : Int64)).bind fun v11 =>
  (X11_findOdds_L38 a0 x3 v11 FU 0 μ2).bind fun z12 =>
  (X11_findOdds_L86 a0 x3 FU 0 z12.2).bind fun z13 =>
  some z13.2
def X11_seamOdds_L13 (a0 : Nat) (μ : Mem) : Nat → Int32 → Int32 → Option (Int32 × Int32)
  | 0, _, _ => none
  | n + 1, x4, x5 =>
      if (4 : Int32) ≤ x5 then
      some ((x4, x5))
      else
      (gI 11 3 a0 μ).bind fun v2 =>
      (gR 11 10 a0 μ).bind fun v3 =>
      (aI v3 x5 μ).bind fun v4 =>
      (some (x4 + (((v2 >>> (x5 &&& 31)) &&& 1) * v4) : Int32)).bind fun v5 =>
      X11_seamOdds_L13 a0 μ n v5 (x5 + 1)
def X11_seamOdds (a0 : Nat) (x1 : Int32) (x2 : Int32) (x3 : Int32) (μ : Mem) : Option (Int32 × Mem) :=
  (vO 11 a0 μ).bind fun g1 =>
  (X11_findOdds a0 x1 x2 x3 μ).bind fun μ2 =>
  (X11_seamOdds_L13 a0 μ2 FU 0 0).bind fun z3 =>
  some (z3.1, μ2)
def X11_fits (a0 : Nat) (x1 : Int32) (x2 : Int32) (μ : Mem) : Option (Int32 × Mem) :=
  if (X11_isPerson x1) = 0 then
  some ((-1001), μ)
  else
  (gI 11 5 a0 μ).bind fun v2 =>
  if (X11_in x2.toInt64 0 v2.toInt64) = 0 then
  some ((-1002), μ)
  else
  (vO 11 a0 μ).bind fun g4 =>
  (X11_findRows a0 x1 x2 μ).bind fun μ5 =>
  (gR 11 8 a0 μ5).bind fun v6 =>
  (aI v6 0 μ5).bind fun v7 =>
  (gR 11 8 a0 μ5).bind fun v8 =>
  (aI v8 1 μ5).bind fun v9 =>
  (gR 11 8 a0 μ5).bind fun v10 =>
  (aI v10 2 μ5).bind fun v11 =>
  (gR 11 8 a0 μ5).bind fun v12 =>
  (aI v12 3 μ5).bind fun v13 =>
  some (((v7 + v9) + v11) + v13, μ5)
def X11_odds (a0 : Nat) (x1 : Int32) (x2 : Int32) (x3 : Int32) (μ : Mem) : Option (Int32 × Mem) :=
  if (X11_isPerson x1) = 0 then
  some ((-1001), μ)
  else
  if (X11_isState x2) = 0 then
  some ((-1002), μ)
  else
  if (X11_in x3.toInt64 0 8) = 0 then
  some ((-1002), μ)
  else
  (gI 11 5 a0 μ).bind fun v4 =>
  (vO 11 a0 μ).bind fun g5 =>
  (X11_findOdds a0 x1 v4 x3 μ).bind fun μ6 =>
  (gR 11 10 a0 μ6).bind fun v7 =>
  (aI v7 x2 μ6).bind fun v8 =>
  some (v8, μ6)
def X11_seam (a0 : Nat) (x1 : Int32) (x2 : Int32) (μ : Mem) : Option (Int32 × Mem) :=
  if (X11_isPerson x1) = 0 then
  some ((-1001), μ)
  else
  ((if (X11_in x2.toInt64 0 8) = 0 then
  some (((-1002), μ))
  else
  (gI 11 5 a0 μ).bind fun v3 =>
  (vO 11 a0 μ).bind fun g4 =>
  (X11_seamOdds a0 x1 v3 x2 μ).bind fun z5 =>
  some ((z5.1, z5.2))) : Option (Int32 × Mem)).bind fun z6 =>
  some (z6.1, z6.2)
def X11_until_L29 (a0 : Nat) (x1 : Int32) (x2 : Int32) : Nat → Int32 → Mem → Option (Int32 × Mem)
  | 0, _, _ => none
  | n + 1, x3, μ =>
      if (8 : Int32) < x3 then
      some ((-1), μ)
      else
      (gI 11 5 a0 μ).bind fun v2 =>
      (vO 11 a0 μ).bind fun g3 =>
      (X11_seamOdds a0 x1 v2 x3 μ).bind fun z4 =>
      if z4.1 < x2 then
      X11_until_L29 a0 x1 x2 n (x3 + 1) z4.2
      else
      some (x3, z4.2)
def X11_until (a0 : Nat) (x1 : Int32) (x2 : Int32) (μ : Mem) : Option (Int32 × Mem) :=
  if (X11_isPerson x1) = 0 then
  some ((-1001), μ)
  else
  if (X11_in x2.toInt64 0 1000000) = 0 then
  some ((-1002), μ)
  else
  X11_until_L29 a0 x1 x2 FU 0 μ
def X11_isThing (a0 : Nat) (x1 : Int32) (μ : Mem) : Option Int32 :=
  (gI 11 12 a0 μ).bind fun v1 =>
  (zz (X11_in x1.toInt64 0 ((v1 - 1).toInt64))).bind fun v2 =>
  some v2
def X11_isMust (a0 : Nat) (x1 : Int32) (μ : Mem) : Option Int32 :=
  (gR 11 14 a0 μ).bind fun v1 =>
  (aI v1 x1 μ).bind fun v2 =>
  ((if v2 = 0 then
  some 1
  else
  (gR 11 14 a0 μ).bind fun v4 =>
  (aI v4 x1 μ).bind fun v5 =>
  if v5 = 3 then
  some 1
  else
  some 0) : Option (Int32)).bind fun z7 =>
  (zz z7).bind fun v8 =>
  some v8
def X11_thing (a0 : Nat) (x1 : Int32) (x2 : Int32) (x3 : Int32) (x4 : Int32) (x5 : Int32) (x6 : Int32) (x7 : Int32) (μ : Mem) : Option (Int32 × Mem) :=
  if (X11_in x1.toInt64 1 15) = 0 then
  some ((-1001), μ)
  else
  if (X11_in x2.toInt64 0 3) = 0 then
  some ((-1002), μ)
  else
  if (X11_in x3.toInt64 0 5) = 0 then
  some ((-1002), μ)
  else
  if (X11_in x4.toInt64 0 9) = 0 then
  some ((-1002), μ)
  else
  if (X11_in x5.toInt64 0 999) = 0 then
  some ((-1002), μ)
  else
  if (X11_in x6.toInt64 0 99) = 0 then
  some ((-1002), μ)
  else
  (gI 11 5 a0 μ).bind fun v7 =>
  if (X11_in x7.toInt64 v7.toInt64 60) = 0 then
  some ((-1002), μ)
  else
  (gI 11 12 a0 μ).bind fun v9 =>
  if v9 = 10 then
  some ((-1004), μ)
  else
  (gR 11 13 a0 μ).bind fun v11 =>
  (gI 11 12 a0 μ).bind fun v12 =>
  (sI v11 v12 x1 μ).bind fun μ13 =>
  (gR 11 14 a0 μ13).bind fun v14 =>
  (gI 11 12 a0 μ13).bind fun v15 =>
  (sI v14 v15 x2 μ13).bind fun μ16 =>
  (gR 11 15 a0 μ16).bind fun v17 =>
  (gI 11 12 a0 μ16).bind fun v18 =>
  (sI v17 v18 x3 μ16).bind fun μ19 =>
  (gR 11 16 a0 μ19).bind fun v20 =>
  (gI 11 12 a0 μ19).bind fun v21 =>
  (sI v20 v21 x4 μ19).bind fun μ22 =>
  (gR 11 17 a0 μ22).bind fun v23 =>
  (gI 11 12 a0 μ22).bind fun v24 =>
  (sI v23 v24 x5 μ22).bind fun μ25 =>
  (gR 11 18 a0 μ25).bind fun v26 =>
  (gI 11 12 a0 μ25).bind fun v27 =>
  (sI v26 v27 x6 μ25).bind fun μ28 =>
  (gR 11 19 a0 μ28).bind fun v29 =>
  (gI 11 12 a0 μ28).bind fun v30 =>
  (sI v29 v30 x7 μ28).bind fun μ31 =>
  (gR 11 20 a0 μ31).bind fun v32 =>
  (gI 11 12 a0 μ31).bind fun v33 =>
  (gI 11 5 a0 μ31).bind fun v34 =>
  (sI v32 v33 v34 μ31).bind fun μ35 =>
  (gR 11 21 a0 μ35).bind fun v36 =>
  (gI 11 12 a0 μ35).bind fun v37 =>
  (sZ v36 v37 0 μ35).bind fun μ38 =>
  (gI 11 12 a0 μ38).bind fun v39 =>
  (pI 11 12 a0 (v39 + 1) μ38).bind fun μ40 =>
  (gI 11 12 a0 μ40).bind fun v41 =>
  some (v41 - 1, μ40)
def X11_sayingsOf_L4 (a0 : Nat) (x1 : Int32) (μ : Mem) : Nat → Int32 → Int32 → Option (Int32 × Int32)
  | 0, _, _ => none
  | n + 1, x2, x3 =>
      (gI 11 45 a0 μ).bind fun v1 =>
      if v1 ≤ x3 then
      some ((x2, x3))
      else
      (gR 11 47 a0 μ).bind fun v3 =>
      (aI v3 x3 μ).bind fun v4 =>
      (some (x2 + ((v4 >>> (x1 &&& 31)) &&& 1) : Int32)).bind fun v5 =>
      X11_sayingsOf_L4 a0 x1 μ n v5 (x3 + 1)
def X11_sayingsOf (a0 : Nat) (x1 : Int32) (μ : Mem) : Option Int32 :=
  (X11_sayingsOf_L4 a0 x1 μ FU 0 0).bind fun z1 =>
  some (z1.1)
def X11_dead (a0 : Nat) (x1 : Int32) (μ : Mem) : Option (Int32 × Mem) :=
  (vO 11 a0 μ).bind fun g1 =>
  (X11_isThing a0 x1 μ).bind fun v2 =>
  if v2 = 0 then
  some ((-1001), μ)
  else
  (gR 11 21 a0 μ).bind fun v4 =>
  (aZ v4 x1 μ).bind fun v5 =>
  if v5 = 0 then
  (gR 11 21 a0 μ).bind fun v7 =>
  (sZ v7 x1 1 μ).bind fun μ8 =>
  (vO 11 a0 μ8).bind fun g9 =>
  (X11_sayingsOf a0 x1 μ8).bind fun v10 =>
  some (v10, μ8)
  else
  some ((-1003), μ)
def X11_isTold_L7 (a0 : Nat) (x1 : Int32) (μ : Mem) : Nat → Int32 → Int32 → Int32 → Option (Int32 × Int32 × Int32)
  | 0, _, _, _ => none
  | n + 1, x2, x3, x4 =>
      (gI 11 45 a0 μ).bind fun v1 =>
      if v1 ≤ x4 then
      some ((x2, x3, x4))
      else
      (gR 11 47 a0 μ).bind fun v3 =>
      (aI v3 x4 μ).bind fun v4 =>
      (some (if ((v4 >>> (x1 &&& 31)) &&& 1) = 1 then 1 else 0 : Int32)).bind fun v6 =>
      ((if x2 = 0 then
      if v6 = 0 then
      some 0
      else
      (gR 11 50 a0 μ).bind fun v9 =>
      (aI v9 x4 μ).bind fun v10 =>
      if v10 = 3 then
      some 0
      else
      some 1
      else
      some 1) : Option (Int32)).bind fun z12 =>
      ((if v6 = 0 then
      some 0
      else
      (gR 11 50 a0 μ).bind fun v14 =>
      (aI v14 x4 μ).bind fun v15 =>
      if v15 = 1 then
      (gR 11 46 a0 μ).bind fun v17 =>
      (aI v17 x4 μ).bind fun v18 =>
      some (1 <<< (v18 &&& 31))
      else
      some 0) : Option (Int32)).bind fun z19 =>
      (some (x3 ||| z19 : Int32)).bind fun v20 =>
      X11_isTold_L7 a0 x1 μ n z12 v20 (x4 + 1)
def X11_isTold (a0 : Nat) (x1 : Int32) (μ : Mem) : Option Int32 :=
  (X11_isTold_L7 a0 x1 μ FU 0 0 0).bind fun z1 =>
  (gR 11 14 a0 μ).bind fun v2 =>
  (aI v2 x1 μ).bind fun v3 =>
  (some (if v3 = 3 then if (z1.2.1 &&& (z1.2.1 - 1)) = 0 then 0 else 1 else z1.1 : Int32)).bind fun v5 =>
  (zz v5).bind fun v6 =>
  some v6
def X11_stateOf (a0 : Nat) (x1 : Int32) (μ : Mem) : Option Int32 :=
  (gR 11 21 a0 μ).bind fun v1 =>
  (aZ v1 x1 μ).bind fun v2 =>
  ((if v2 = 0 then
  (vO 11 a0 μ).bind fun g4 =>
  (X11_isTold a0 x1 μ).bind fun v5 =>
  if v5 = 0 then
  (gR 11 19 a0 μ).bind fun v7 =>
  (aI v7 x1 μ).bind fun v8 =>
  (gI 11 5 a0 μ).bind fun v9 =>
  if v9 ≤ v8 then
  some 0
  else
  some 3
  else
  some 1
  else
  some 2) : Option (Int32)).bind fun z11 =>
  some (z11)
def X11_told (a0 : Nat) (x1 : Int32) (x2 : Int32) (μ : Mem) : Option Int32 :=
  (vO 11 a0 μ).bind fun g1 =>
  (X11_isThing a0 x1 μ).bind fun v2 =>
  if v2 = 0 then
  some ((-1001))
  else
  if x2 = Int32.ofNat 0 then
  (gR 11 13 a0 μ).bind fun v5 =>
  (aI v5 x1 μ).bind fun v6 =>
  some (v6)
  else
  if x2 = Int32.ofNat 1 then
  (gR 11 14 a0 μ).bind fun v8 =>
  (aI v8 x1 μ).bind fun v9 =>
  some (v9)
  else
  if x2 = Int32.ofNat 2 then
  (gR 11 15 a0 μ).bind fun v11 =>
  (aI v11 x1 μ).bind fun v12 =>
  some (v12)
  else
  if x2 = Int32.ofNat 3 then
  (gR 11 16 a0 μ).bind fun v14 =>
  (aI v14 x1 μ).bind fun v15 =>
  some (v15)
  else
  if x2 = Int32.ofNat 4 then
  (gR 11 19 a0 μ).bind fun v17 =>
  (aI v17 x1 μ).bind fun v18 =>
  some (v18)
  else
  if x2 = Int32.ofNat 5 then
  (vO 11 a0 μ).bind fun g20 =>
  (X11_stateOf a0 x1 μ).bind fun v21 =>
  some (v21)
  else
  if x2 = Int32.ofNat 6 then
  (vO 11 a0 μ).bind fun g23 =>
  (X11_sayingsOf a0 x1 μ).bind fun v24 =>
  some (v24)
  else
  if x2 = Int32.ofNat 7 then
  (gR 11 20 a0 μ).bind fun v26 =>
  (aI v26 x1 μ).bind fun v27 =>
  some (v27)
  else
  some ((-1002))
def X11_valueOf (a0 : Nat) (x1 : Int32) (x2 : Int32) (x3 : Int32) (μ : Mem) : Option (Int32 × Mem) :=
  (gI 11 5 a0 μ).bind fun v1 =>
  (some (v1 + x3 : Int32)).bind fun v2 =>
  (gR 11 17 a0 μ).bind fun v3 =>
  (aI v3 x1 μ).bind fun v4 =>
  (gR 11 18 a0 μ).bind fun v5 =>
  (aI v5 x1 μ).bind fun v6 =>
  (gR 11 20 a0 μ).bind fun v7 =>
  (aI v7 x1 μ).bind fun v8 =>
  (some (v4 - (v6 * (v2 - v8)) : Int32)).bind fun v9 =>
  (gR 11 21 a0 μ).bind fun v10 =>
  (aZ v10 x1 μ).bind fun v11 =>
  if v11 = 0 then
  (gR 11 19 a0 μ).bind fun v13 =>
  (aI v13 x1 μ).bind fun v14 =>
  if v14 < v2 then
  some (0, μ)
  else
  if (0 : Int32) < v9 then
  (gR 11 14 a0 μ).bind fun v17 =>
  (aI v17 x1 μ).bind fun v18 =>
  ((if v18 = 2 then
  (gI 11 5 a0 μ).bind fun v20 =>
  (vO 11 a0 μ).bind fun g21 =>
  (X11_seamOdds a0 x2 v20 x3 μ).bind fun z22 =>
  (dvJ (v9.toInt64 * z22.1.toInt64) 1000000).bind fun v23 =>
  some ((v23.toInt32, z22.2))
  else
  some ((v9, μ))) : Option (Int32 × Mem)).bind fun z24 =>
  some (z24.1, z24.2)
  else
  some (0, μ)
  else
  some (0, μ)
def X11_value (a0 : Nat) (x1 : Int32) (x2 : Int32) (x3 : Int32) (μ : Mem) : Option (Int32 × Mem) :=
  (vO 11 a0 μ).bind fun g1 =>
  (X11_isThing a0 x1 μ).bind fun v2 =>
  if v2 = 0 then
  some ((-1001), μ)
  else
  if (X11_isPerson x2) = 0 then
  some ((-1001), μ)
  else
  ((if (X11_in x3.toInt64 0 8) = 0 then
  some (((-1002), μ))
  else
  (vO 11 a0 μ).bind fun g6 =>
  (X11_valueOf a0 x1 x2 x3 μ).bind fun z7 =>
  some ((z7.1, z7.2))) : Option (Int32 × Mem)).bind fun z8 =>
  some (z8.1, z8.2)
def X11_isWay (x0 : Int32) : Int32 :=
  X11_in x0.toInt64 0 3
def X11_cost (a0 : Nat) (x1 : Int32) (x2 : Int32) (x3 : Int32) (μ : Mem) : Option (Int32 × Mem) :=
  if (X11_isWay x1) = 0 then
  some ((-1002), μ)
  else
  if (X11_isState x2) = 0 then
  some ((-1002), μ)
  else
  if (X11_in x3.toInt64 0 999) = 0 then
  some ((-1002), μ)
  else
  (gR 11 22 a0 μ).bind fun v4 =>
  (aI v4 ((4 * x1) + x2) μ).bind fun v5 =>
  (gR 11 22 a0 μ).bind fun v6 =>
  (sI v6 ((4 * x1) + x2) x3 μ).bind fun μ7 =>
  some (v5, μ7)
def X11_seen (a0 : Nat) (x1 : Int32) (x2 : Int32) (μ : Mem) : Option (Int32 × Mem) :=
  if (X11_isWay x1) = 0 then
  some ((-1002), μ)
  else
  if (X11_in x2.toInt64 0 100) = 0 then
  some ((-1002), μ)
  else
  (gR 11 23 a0 μ).bind fun v3 =>
  (aI v3 x1 μ).bind fun v4 =>
  (gR 11 23 a0 μ).bind fun v5 =>
  (sI v5 x1 x2 μ).bind fun μ6 =>
  some (v4, μ6)
def X11_lossOf_L14 (a0 : Nat) (x2 : Int32) (μ : Mem) : Nat → Int32 → Int32 → Option (Int32 × Int32)
  | 0, _, _ => none
  | n + 1, x5, x6 =>
      if (4 : Int32) ≤ x6 then
      some ((x5, x6))
      else
      (gR 11 10 a0 μ).bind fun v2 =>
      (aI v2 x6 μ).bind fun v3 =>
      (gR 11 22 a0 μ).bind fun v4 =>
      (aI v4 ((4 * x2) + x6) μ).bind fun v5 =>
      (dvI (v3 * v5) 1000000).bind fun v6 =>
      (some (x5 + v6 : Int32)).bind fun v7 =>
      X11_lossOf_L14 a0 x2 μ n v7 (x6 + 1)
def X11_lossOf (a0 : Nat) (x1 : Int32) (x2 : Int32) (x3 : Int32) (x4 : Int32) (μ : Mem) : Option (Int32 × Mem) :=
  (vO 11 a0 μ).bind fun g1 =>
  (X11_findOdds a0 x1 x3 x4 μ).bind fun μ2 =>
  (X11_lossOf_L14 a0 x2 μ2 FU 0 0).bind fun z3 =>
  some (z3.1, μ2)
def X11_loss (a0 : Nat) (x1 : Int32) (x2 : Int32) (x3 : Int32) (μ : Mem) : Option (Int32 × Mem) :=
  if (X11_isPerson x1) = 0 then
  some ((-1001), μ)
  else
  ((if (X11_isWay x2) = 0 then
  some (((-1002), μ))
  else
  if (X11_in x3.toInt64 0 8) = 0 then
  some (((-1002), μ))
  else
  (gI 11 5 a0 μ).bind fun v4 =>
  (vO 11 a0 μ).bind fun g5 =>
  (X11_lossOf a0 x1 x2 v4 x3 μ).bind fun z6 =>
  some ((z6.1, z6.2))) : Option (Int32 × Mem)).bind fun z7 =>
  some (z7.1, z7.2)
def X11_thingsThat_L4 (a0 : Nat) (x1 : Int32) (μ : Mem) : Nat → Int32 → Int32 → Option (Int32 × Int32)
  | 0, _, _ => none
  | n + 1, x2, x3 =>
      (gI 11 12 a0 μ).bind fun v1 =>
      if v1 ≤ x3 then
      some ((x2, x3))
      else
      (vO 11 a0 μ).bind fun g3 =>
      (X11_stateOf a0 x3 μ).bind fun v4 =>
      (some (if v4 = x1 then 1 else 0 : Int32)).bind fun v6 =>
      (some (x2 + v6 : Int32)).bind fun v7 =>
      X11_thingsThat_L4 a0 x1 μ n v7 (x3 + 1)
def X11_thingsThat (a0 : Nat) (x1 : Int32) (μ : Mem) : Option Int32 :=
  (X11_thingsThat_L4 a0 x1 μ FU 0 0).bind fun z1 =>
  some (z1.1)
def X11_count (a0 : Nat) (x1 : Int32) (μ : Mem) : Option Int32 :=
  if x1 = Int32.ofNat 0 then
  (gI 11 5 a0 μ).bind fun v2 =>
  some (v2)
  else
  if x1 = Int32.ofNat 1 then
  (gI 11 12 a0 μ).bind fun v4 =>
  some (v4)
  else
  if x1 = Int32.ofNat 2 then
  (vO 11 a0 μ).bind fun g6 =>
  (X11_thingsThat a0 0 μ).bind fun v7 =>
  some (v7)
  else
  if x1 = Int32.ofNat 3 then
  (vO 11 a0 μ).bind fun g9 =>
  (X11_thingsThat a0 1 μ).bind fun v10 =>
  some (v10)
  else
  if x1 = Int32.ofNat 4 then
  (vO 11 a0 μ).bind fun g12 =>
  (X11_thingsThat a0 2 μ).bind fun v13 =>
  some (v13)
  else
  if x1 = Int32.ofNat 5 then
  (vO 11 a0 μ).bind fun g15 =>
  (X11_thingsThat a0 3 μ).bind fun v16 =>
  some (v16)
  else
  if x1 = Int32.ofNat 6 then
  (gI 11 45 a0 μ).bind fun v18 =>
  some (v18)
  else
  if x1 = Int32.ofNat 7 then
  (gI 11 34 a0 μ).bind fun v20 =>
  some (v20)
  else
  some ((-1002))
def X11_feed_L37 (a0 : Nat) (j2 : Int64) : Nat → Int32 → Mem → Option (Int32 × Mem)
  | 0, _, _ => none
  | n + 1, x4, μ =>
      if x4 < 0 then
      some ((x4, μ))
      else
      (gR 11 33 a0 μ).bind fun v2 =>
      (gI 11 34 a0 μ).bind fun v3 =>
      (sI v2 v3 (((j2 >>> ((8 * x4).toInt64 &&& 63)) &&& 255).toInt32) μ).bind fun μ4 =>
      (gI 11 34 a0 μ4).bind fun v5 =>
      (pI 11 34 a0 (v5 + 1) μ4).bind fun μ6 =>
      X11_feed_L37 a0 j2 n (x4 + (-1)) μ6
def X11_feed (a0 : Nat) (x1 : Int32) (j2 : Int64) (μ : Mem) : Option (Int32 × Mem) :=
  if (X11_in x1.toInt64 1 8) = 0 then
  some ((-1002), μ)
  else
  (gI 11 34 a0 μ).bind fun v2 =>
  if (v2 + x1) ≤ 160 then
  (some (x1 - 1 : Int32)).bind fun v4 =>
  (X11_feed_L37 a0 j2 FU v4 μ).bind fun z5 =>
  (gI 11 34 a0 z5.2).bind fun v6 =>
  some (v6, z5.2)
  else
  some ((-1004), μ)
def X11_here_L0 (a0 : Nat) : Nat → Mem → Option (Mem)
  | 0, _ => none
  | n + 1, μ =>
      (gI 11 36 a0 μ).bind fun v1 =>
      (gI 11 34 a0 μ).bind fun v2 =>
      if v2 ≤ v1 then
      some μ
      else
      (gR 11 33 a0 μ).bind fun v4 =>
      (gI 11 36 a0 μ).bind fun v5 =>
      (aI v4 v5 μ).bind fun v6 =>
      if v6 = 32 then
      (gI 11 36 a0 μ).bind fun v8 =>
      (pI 11 36 a0 (v8 + 1) μ).bind fun μ9 =>
      X11_here_L0 a0 n μ9
      else
      some μ
def X11_here (a0 : Nat) (μ : Mem) : Option (Int32 × Mem) :=
  (X11_here_L0 a0 FU μ).bind fun z1 =>
  (gI 11 36 a0 z1).bind fun v2 =>
  (gI 11 34 a0 z1).bind fun v3 =>
  ((if v3 ≤ v2 then
  some ((-1))
  else
  (gR 11 33 a0 z1).bind fun v5 =>
  (gI 11 36 a0 z1).bind fun v6 =>
  (aI v5 v6 z1).bind fun v7 =>
  some v7) : Option (Int32)).bind fun z8 =>
  some (z8, z1)
def X11_fails (a0 : Nat) (x1 : Int32) (x2 : Int32) (μ : Mem) : Option (Int32 × Mem) :=
  (pI 11 35 a0 x2 μ).bind fun μ1 =>
  some (x1, μ1)
def X11_readWord_L18 (a0 : Nat) : Nat → Mem → Option (Mem)
  | 0, _ => none
  | n + 1, μ =>
      (gI 11 38 a0 μ).bind fun v1 =>
      (gI 11 34 a0 μ).bind fun v2 =>
      if v2 ≤ v1 then
      some μ
      else
      (gR 11 33 a0 μ).bind fun v4 =>
      (gI 11 38 a0 μ).bind fun v5 =>
      (aI v4 v5 μ).bind fun v6 =>
      if (X11_in v6.toInt64 97 122) = 0 then
      some μ
      else
      (gJ 11 37 a0 μ).bind fun v8 =>
      ((if (lg_cmp v8 10000000000) ≤ 0 then
      (gJ 11 37 a0 μ).bind fun v10 =>
      (gR 11 33 a0 μ).bind fun v11 =>
      (gI 11 38 a0 μ).bind fun v12 =>
      (aI v11 v12 μ).bind fun v13 =>
      some (((27 * v10) + v13.toInt64) - 96)
      else
      some 20000000000) : Option (Int64)).bind fun z14 =>
      (pJ 11 37 a0 z14 μ).bind fun μ15 =>
      (gI 11 38 a0 μ15).bind fun v16 =>
      (pI 11 38 a0 (v16 + 1) μ15).bind fun μ17 =>
      X11_readWord_L18 a0 n μ17
def X11_readWord (a0 : Nat) (μ : Mem) : Option Mem :=
  (vO 11 a0 μ).bind fun g1 =>
  (X11_here a0 μ).bind fun z2 =>
  (pJ 11 37 a0 0 z2.2).bind fun μ3 =>
  (gI 11 36 a0 μ3).bind fun v4 =>
  (pI 11 38 a0 v4 μ3).bind fun μ5 =>
  (X11_readWord_L18 a0 FU μ5).bind fun z6 =>
  some z6
def X11_code (x0 : Int32) (x1 : Int32) (x2 : Int32) (x3 : Int32) (x4 : Int32) (x5 : Int32) : Int64 :=
  (if x5 = 0 then (if x4 = 0 then (if x3 = 0 then (if x2 = 0 then ((27 * (x0.toInt64 - 96)) + x1.toInt64) - 96 else ((27 * (((27 * (x0.toInt64 - 96)) + x1.toInt64) - 96)) + x2.toInt64) - 96) else ((27 * ((if x2 = 0 then ((27 * (x0.toInt64 - 96)) + x1.toInt64) - 96 else ((27 * (((27 * (x0.toInt64 - 96)) + x1.toInt64) - 96)) + x2.toInt64) - 96))) + x3.toInt64) - 96) else ((27 * ((if x3 = 0 then (if x2 = 0 then ((27 * (x0.toInt64 - 96)) + x1.toInt64) - 96 else ((27 * (((27 * (x0.toInt64 - 96)) + x1.toInt64) - 96)) + x2.toInt64) - 96) else ((27 * ((if x2 = 0 then ((27 * (x0.toInt64 - 96)) + x1.toInt64) - 96 else ((27 * (((27 * (x0.toInt64 - 96)) + x1.toInt64) - 96)) + x2.toInt64) - 96))) + x3.toInt64) - 96))) + x4.toInt64) - 96) else ((27 * ((if x4 = 0 then (if x3 = 0 then (if x2 = 0 then ((27 * (x0.toInt64 - 96)) + x1.toInt64) - 96 else ((27 * (((27 * (x0.toInt64 - 96)) + x1.toInt64) - 96)) + x2.toInt64) - 96) else ((27 * ((if x2 = 0 then ((27 * (x0.toInt64 - 96)) + x1.toInt64) - 96 else ((27 * (((27 * (x0.toInt64 - 96)) + x1.toInt64) - 96)) + x2.toInt64) - 96))) + x3.toInt64) - 96) else ((27 * ((if x3 = 0 then (if x2 = 0 then ((27 * (x0.toInt64 - 96)) + x1.toInt64) - 96 else ((27 * (((27 * (x0.toInt64 - 96)) + x1.toInt64) - 96)) + x2.toInt64) - 96) else ((27 * ((if x2 = 0 then ((27 * (x0.toInt64 - 96)) + x1.toInt64) - 96 else ((27 * (((27 * (x0.toInt64 - 96)) + x1.toInt64) - 96)) + x2.toInt64) - 96))) + x3.toInt64) - 96))) + x4.toInt64) - 96))) + x5.toInt64) - 96)
def X11_needs (a0 : Nat) (j1 : Int64) (μ : Mem) : Option (Int32 × Mem) :=
  (vO 11 a0 μ).bind fun g1 =>
  (X11_readWord a0 μ).bind fun μ2 =>
  (gJ 11 37 a0 μ2).bind fun v3 =>
  if (lg_cmp v3 j1) = 0 then
  (gI 11 38 a0 μ2).bind fun v5 =>
  (pI 11 36 a0 v5 μ2).bind fun μ6 =>
  some (0, μ6)
  else
  (gI 11 36 a0 μ2).bind fun v7 =>
  (vO 11 a0 μ2).bind fun g8 =>
  (X11_fails a0 1 v7 μ2).bind fun z9 =>
  some (z9.1, z9.2)
def X11_readNumber_L40 (a0 : Nat) (x1 : Int32) (x2 : Int32) (x4 : Int32) : Nat → Mem → Option (Mem)
  | 0, _ => none
  | n + 1, μ =>
      (gI 11 36 a0 μ).bind fun v1 =>
      (gI 11 34 a0 μ).bind fun v2 =>
      if v2 ≤ v1 then
      some μ
      else
      (gR 11 33 a0 μ).bind fun v4 =>
      (gI 11 36 a0 μ).bind fun v5 =>
      (aI v4 v5 μ).bind fun v6 =>
      if (X11_in v6.toInt64 48 57) = 0 then
      some μ
      else
      (gI 11 39 a0 μ).bind fun v8 =>
      ((if v8 ≤ 10000 then
      (gI 11 39 a0 μ).bind fun v10 =>
      (gR 11 33 a0 μ).bind fun v11 =>
      (gI 11 36 a0 μ).bind fun v12 =>
      (aI v11 v12 μ).bind fun v13 =>
      some (((10 * v10) + v13) - 48)
      else
      (gI 11 39 a0 μ).bind fun v14 =>
      some v14) : Option (Int32)).bind fun z15 =>
      (pI 11 39 a0 z15 μ).bind fun μ16 =>
      (gI 11 36 a0 μ16).bind fun v17 =>
      (pI 11 36 a0 (v17 + 1) μ16).bind fun μ18 =>
      X11_readNumber_L40 a0 x1 x2 x4 n μ18
def X11_readNumber (a0 : Nat) (x1 : Int32) (x2 : Int32) (μ : Mem) : Option (Int32 × Mem) :=
  (vO 11 a0 μ).bind fun g1 =>
  (X11_here a0 μ).bind fun z2 =>
  if (X11_in z2.1.toInt64 48 57) = 0 then
  (gI 11 36 a0 z2.2).bind fun v16 =>
  (vO 11 a0 z2.2).bind fun g17 =>
  (X11_fails a0 1 v16 z2.2).bind fun z18 =>
  some (z18.1, z18.2)
  else
  (gI 11 36 a0 z2.2).bind fun v4 =>
  (pI 11 39 a0 0 z2.2).bind fun μ5 =>
  (X11_readNumber_L40 a0 x1 x2 v4 FU μ5).bind fun z6 =>
  (gI 11 36 a0 z6).bind fun v7 =>
  ((if (3 : Int32) < (v7 - v4) then
  (vO 11 a0 z6).bind fun g9 =>
  (X11_fails a0 2 v4 z6).bind fun z10 =>
  some ((z10.1, z10.2))
  else
  (gI 11 39 a0 z6).bind fun v11 =>
  if (X11_in v11.toInt64 x1.toInt64 x2.toInt64) = 0 then
  (vO 11 a0 z6).bind fun g13 =>
  (X11_fails a0 2 v4 z6).bind fun z14 =>
  some ((z14.1, z14.2))
  else
  some ((0, z6))) : Option (Int32 × Mem)).bind fun z15 =>
  some (z15.1, z15.2)
def X11_readWay (a0 : Nat) (x1 : Int32) (μ : Mem) : Option (Int32 × Mem) :=
  (vO 11 a0 μ).bind fun g1 =>
  (X11_readNumber a0 0 3 μ).bind fun z2 =>
  (gR 11 29 a0 z2.2).bind fun v3 =>
  (sI v3 x1 0 z2.2).bind fun μ4 =>
  (gR 11 30 a0 μ4).bind fun v5 =>
  (gI 11 39 a0 μ4).bind fun v6 =>
  (sI v5 x1 v6 μ4).bind fun μ7 =>
  if (0 : Int32) < z2.1 then
  some (z2.1, μ7)
  else
  (vO 11 a0 μ7).bind fun g9 =>
  (X11_here a0 μ7).bind fun z10 =>
  if (X11_in z10.1.toInt64 97 122) = 0 then
  some (z2.1, z10.2)
  else
  (vO 11 a0 z10.2).bind fun g12 =>
  (X11_needs a0 (X11_code 115 116 97 116 101 0) z10.2).bind fun z13 =>
  ((if z13.1 ≤ 0 then
  (vO 11 a0 z13.2).bind fun g15 =>
  (X11_readNumber a0 0 3 z13.2).bind fun z16 =>
  some ((z16.1, z16.2))
  else
  some ((z13.1, z13.2))) : Option (Int32 × Mem)).bind fun z17 =>
  (gR 11 29 a0 z17.2).bind fun v18 =>
  (sI v18 x1 1 z17.2).bind fun μ19 =>
  (gR 11 31 a0 μ19).bind fun v20 =>
  (gI 11 39 a0 μ19).bind fun v21 =>
  (sI v20 x1 v21 μ19).bind fun μ22 =>
  ((if z17.1 ≤ 0 then
  (vO 11 a0 μ22).bind fun g24 =>
  (X11_readNumber a0 0 100 μ22).bind fun z25 =>
  some ((z25.1, z25.2))
  else
  some ((z17.1, μ22))) : Option (Int32 × Mem)).bind fun z26 =>
  (gR 11 32 a0 z26.2).bind fun v27 =>
  (gI 11 39 a0 z26.2).bind fun v28 =>
  (sI v27 x1 v28 z26.2).bind fun μ29 =>
  some (z26.1, μ29)
def X11_readNever (a0 : Nat) (x1 : Int32) (μ : Mem) : Option (Int32 × Mem) :=
  (vO 11 a0 μ).bind fun g1 =>
  (X11_readWord a0 μ).bind fun μ2 =>
  (gJ 11 37 a0 μ2).bind fun v3 =>
  (some (if (lg_cmp v3 (X11_code 119 97 121 0 0 0)) = 0 then 1 else 0 : Int32)).bind fun v5 =>
  if v5 = 0 then
  (gJ 11 37 a0 μ2).bind fun v30 =>
  if (lg_cmp v30 (X11_code 107 105 110 100 0 0)) = 0 then
  (gI 11 38 a0 μ2).bind fun v32 =>
  (pI 11 36 a0 v32 μ2).bind fun μ33 =>
  if v5 = 0 then
  (vO 11 a0 μ33).bind fun g35 =>
  (X11_readNumber a0 0 3 μ33).bind fun z36 =>
  (gR 11 29 a0 z36.2).bind fun v37 =>
  (sI v37 x1 2 z36.2).bind fun μ38 =>
  (gR 11 30 a0 μ38).bind fun v39 =>
  (gI 11 39 a0 μ38).bind fun v40 =>
  (sI v39 x1 v40 μ38).bind fun μ41 =>
  ((if z36.1 ≤ 0 then
  (vO 11 a0 μ41).bind fun g43 =>
  (X11_needs a0 (X11_code 97 102 116 101 114 0) μ41).bind fun z44 =>
  some ((z44.1, z44.2))
  else
  some ((z36.1, μ41))) : Option (Int32 × Mem)).bind fun z45 =>
  ((if z45.1 ≤ 0 then
  (vO 11 a0 z45.2).bind fun g47 =>
  (X11_readNumber a0 0 60 z45.2).bind fun z48 =>
  some ((z48.1, z48.2))
  else
  some ((z45.1, z45.2))) : Option (Int32 × Mem)).bind fun z49 =>
  (gR 11 31 a0 z49.2).bind fun v50 =>
  (gI 11 39 a0 z49.2).bind fun v51 =>
  (sI v50 x1 v51 z49.2).bind fun μ52 =>
  some (z49.1, μ52)
  else
  (vO 11 a0 μ33).bind fun g53 =>
  (X11_readWay a0 x1 μ33).bind fun z54 =>
  some (z54.1, z54.2)
  else
  (gI 11 36 a0 μ2).bind fun v55 =>
  (vO 11 a0 μ2).bind fun g56 =>
  (X11_fails a0 1 v55 μ2).bind fun z57 =>
  some (z57.1, z57.2)
  else
  (gI 11 38 a0 μ2).bind fun v7 =>
  (pI 11 36 a0 v7 μ2).bind fun μ8 =>
  if v5 = 0 then
  (vO 11 a0 μ8).bind fun g10 =>
  (X11_readNumber a0 0 3 μ8).bind fun z11 =>
  (gR 11 29 a0 z11.2).bind fun v12 =>
  (sI v12 x1 2 z11.2).bind fun μ13 =>
  (gR 11 30 a0 μ13).bind fun v14 =>
  (gI 11 39 a0 μ13).bind fun v15 =>
  (sI v14 x1 v15 μ13).bind fun μ16 =>
  ((if z11.1 ≤ 0 then
  (vO 11 a0 μ16).bind fun g18 =>
  (X11_needs a0 (X11_code 97 102 116 101 114 0) μ16).bind fun z19 =>
  some ((z19.1, z19.2))
  else
  some ((z11.1, μ16))) : Option (Int32 × Mem)).bind fun z20 =>
  ((if z20.1 ≤ 0 then
  (vO 11 a0 z20.2).bind fun g22 =>
  (X11_readNumber a0 0 60 z20.2).bind fun z23 =>
  some ((z23.1, z23.2))
  else
  some ((z20.1, z20.2))) : Option (Int32 × Mem)).bind fun z24 =>
  (gR 11 31 a0 z24.2).bind fun v25 =>
  (gI 11 39 a0 z24.2).bind fun v26 =>
  (sI v25 x1 v26 z24.2).bind fun μ27 =>
  some (z24.1, μ27)
  else
  (vO 11 a0 μ8).bind fun g28 =>
  (X11_readWay a0 x1 μ8).bind fun z29 =>
  some (z29.1, z29.2)
def X11_readMost (a0 : Nat) (x1 : Int32) (μ : Mem) : Option (Int32 × Mem) :=
  (vO 11 a0 μ).bind fun g1 =>
  (X11_readNumber a0 0 9 μ).bind fun z2 =>
  (gR 11 29 a0 z2.2).bind fun v3 =>
  (sI v3 x1 3 z2.2).bind fun μ4 =>
  (gR 11 30 a0 μ4).bind fun v5 =>
  (gI 11 39 a0 μ4).bind fun v6 =>
  (sI v5 x1 v6 μ4).bind fun μ7 =>
  ((if z2.1 ≤ 0 then
  (vO 11 a0 μ7).bind fun g9 =>
  (X11_needs a0 (X11_code 105 110 0 0 0 0) μ7).bind fun z10 =>
  some ((z10.1, z10.2))
  else
  some ((z2.1, μ7))) : Option (Int32 × Mem)).bind fun z11 =>
  ((if z11.1 ≤ 0 then
  (vO 11 a0 z11.2).bind fun g13 =>
  (X11_readNumber a0 1 60 z11.2).bind fun z14 =>
  some ((z14.1, z14.2))
  else
  some ((z11.1, z11.2))) : Option (Int32 × Mem)).bind fun z15 =>
  (gR 11 31 a0 z15.2).bind fun v16 =>
  (gI 11 39 a0 z15.2).bind fun v17 =>
  (sI v16 x1 v17 z15.2).bind fun μ18 =>
  some (z15.1, μ18)
def X11_readAlways (a0 : Nat) (x1 : Int32) (μ : Mem) : Option (Int32 × Mem) :=
  (vO 11 a0 μ).bind fun g1 =>
  (X11_needs a0 (X11_code 102 114 111 109 0 0) μ).bind fun z2 =>
  ((if z2.1 ≤ 0 then
  (vO 11 a0 z2.2).bind fun g4 =>
  (X11_readNumber a0 0 9 z2.2).bind fun z5 =>
  some ((z5.1, z5.2))
  else
  some ((z2.1, z2.2))) : Option (Int32 × Mem)).bind fun z6 =>
  (gR 11 29 a0 z6.2).bind fun v7 =>
  (sI v7 x1 4 z6.2).bind fun μ8 =>
  (gR 11 30 a0 μ8).bind fun v9 =>
  (gI 11 39 a0 μ8).bind fun v10 =>
  (sI v9 x1 v10 μ8).bind fun μ11 =>
  some (z6.1, μ11)
def X11_readClause (a0 : Nat) (x1 : Int32) (μ : Mem) : Option (Int32 × Mem) :=
  (vO 11 a0 μ).bind fun g1 =>
  (X11_readWord a0 μ).bind fun μ2 =>
  (gJ 11 37 a0 μ2).bind fun v3 =>
  ((if (lg_cmp v3 (X11_code 110 101 118 101 114 0)) = 0 then
  some 0
  else
  (gJ 11 37 a0 μ2).bind fun v5 =>
  if (lg_cmp v5 (X11_code 109 111 115 116 0 0)) = 0 then
  some 1
  else
  (gJ 11 37 a0 μ2).bind fun v7 =>
  if (lg_cmp v7 (X11_code 97 108 119 97 121 115)) = 0 then
  some 2
  else
  some ((-1))) : Option (Int32)).bind fun z9 =>
  if z9 < 0 then
  (some (if (0 : Int32) ≤ z9 then 3 else 1 : Int32)).bind fun v12 =>
  (gI 11 36 a0 μ2).bind fun v13 =>
  (vO 11 a0 μ2).bind fun g14 =>
  (X11_fails a0 v12 v13 μ2).bind fun z15 =>
  some (z15.1, z15.2)
  else
  if x1 = 8 then
  (some (if (0 : Int32) ≤ z9 then 3 else 1 : Int32)).bind fun v38 =>
  (gI 11 36 a0 μ2).bind fun v39 =>
  (vO 11 a0 μ2).bind fun g40 =>
  (X11_fails a0 v38 v39 μ2).bind fun z41 =>
  some (z41.1, z41.2)
  else
  (gI 11 38 a0 μ2).bind fun v17 =>
  (pI 11 36 a0 v17 μ2).bind fun μ18 =>
  ((if z9 = 0 then
  (vO 11 a0 μ18).bind fun g25 =>
  (X11_readNever a0 x1 μ18).bind fun z26 =>
  some ((z26.1, z26.2))
  else
  if z9 = 1 then
  (vO 11 a0 μ18).bind fun g23 =>
  (X11_readMost a0 x1 μ18).bind fun z24 =>
  some ((z24.1, z24.2))
  else
  (vO 11 a0 μ18).bind fun g21 =>
  (X11_readAlways a0 x1 μ18).bind fun z22 =>
  some ((z22.1, z22.2))) : Option (Int32 × Mem)).bind fun z27 =>
  if z27.1 ≤ 0 then
  (vO 11 a0 z27.2).bind fun g29 =>
  (X11_here a0 z27.2).bind fun z30 =>
  if z30.1 = 59 then
  (gI 11 36 a0 z30.2).bind fun v32 =>
  (pI 11 36 a0 (v32 + 1) z30.2).bind fun μ33 =>
  some (0, μ33)
  else
  (gI 11 36 a0 z30.2).bind fun v34 =>
  (vO 11 a0 z30.2).bind fun g35 =>
  (X11_fails a0 1 v34 z30.2).bind fun z36 =>
  some (z36.1, z36.2)
  else
  some (z27.1, z27.2)
def X11_read_L25 (a0 : Nat) (x1 : Int32) : Nat → Int32 → Int32 → Mem → Option (Int32 × Int32 × Mem)
  | 0, _, _, _ => none
  | n + 1, x2, x3, μ =>
      if x3 = 0 then
      (vO 11 a0 μ).bind fun g2 =>
      (X11_here a0 μ).bind fun z3 =>
      if z3.1 < 0 then
      some ((x2, x3, z3.2))
      else
      (vO 11 a0 z3.2).bind fun g5 =>
      (X11_readClause a0 x2 z3.2).bind fun z6 =>
      X11_read_L25 a0 x1 n (x2 + 1) z6.1 z6.2
      else
      some ((x2, x3, μ))
def X11_read_L72 (a0 : Nat) (x1 : Int32) (x2 : Int32) : Nat → Int32 → Mem → Option (Int32 × Mem)
  | 0, _, _ => none
  | n + 1, x4, μ =>
      if x2 ≤ x4 then
      some ((x4, μ))
      else
      (gR 11 25 a0 μ).bind fun v2 =>
      (gR 11 29 a0 μ).bind fun v3 =>
      (aI v3 x4 μ).bind fun v4 =>
      (sI v2 ((8 * x1) + x4) v4 μ).bind fun μ5 =>
      (gR 11 26 a0 μ5).bind fun v6 =>
      (gR 11 30 a0 μ5).bind fun v7 =>
      (aI v7 x4 μ5).bind fun v8 =>
      (sI v6 ((8 * x1) + x4) v8 μ5).bind fun μ9 =>
      (gR 11 27 a0 μ9).bind fun v10 =>
      (gR 11 31 a0 μ9).bind fun v11 =>
      (aI v11 x4 μ9).bind fun v12 =>
      (sI v10 ((8 * x1) + x4) v12 μ9).bind fun μ13 =>
      (gR 11 28 a0 μ13).bind fun v14 =>
      (gR 11 32 a0 μ13).bind fun v15 =>
      (aI v15 x4 μ13).bind fun v16 =>
      (sI v14 ((8 * x1) + x4) v16 μ13).bind fun μ17 =>
      X11_read_L72 a0 x1 x2 n (x4 + 1) μ17
def X11_read (a0 : Nat) (x1 : Int32) (μ : Mem) : Option (Int32 × Mem) :=
  if (X11_isPerson x1) = 0 then
  some ((-1001), μ)
  else
  (pI 11 35 a0 ((-1)) μ).bind fun μ2 =>
  (pI 11 36 a0 0 μ2).bind fun μ3 =>
  (X11_read_L25 a0 x1 FU 0 0 μ3).bind fun z4 =>
  (pI 11 34 a0 0 z4.2.2).bind fun μ5 =>
  if z4.2.1 ≤ 0 then
  (gR 11 24 a0 μ5).bind fun v7 =>
  (sI v7 x1 z4.1 μ5).bind fun μ8 =>
  (X11_read_L72 a0 x1 z4.1 FU 0 μ8).bind fun z9 =>
  some (z4.1, z9.2)
  else
  some (((-10)) - z4.2.1, μ5)
def X11_fault (a0 : Nat) (μ : Mem) : Option Int32 :=
  (gI 11 35 a0 μ).bind fun v1 =>
  some (v1)
def X11_isAlways_L5 (a0 : Nat) (x1 : Int32) (x2 : Int32) (μ : Mem) : Nat → Int32 → Int32 → Option (Int32 × Int32)
  | 0, _, _ => none
  | n + 1, x3, x4 =>
      (gR 11 24 a0 μ).bind fun v1 =>
      (aI v1 x1 μ).bind fun v2 =>
      if v2 ≤ x4 then
      some ((x3, x4))
      else
      ((if x3 = 0 then
      (gR 11 25 a0 μ).bind fun v5 =>
      (aI v5 ((8 * x1) + x4) μ).bind fun v6 =>
      if v6 = 4 then
      (gR 11 26 a0 μ).bind fun v8 =>
      (aI v8 ((8 * x1) + x4) μ).bind fun v9 =>
      (gR 11 16 a0 μ).bind fun v10 =>
      (aI v10 x2 μ).bind fun v11 =>
      if v9 = v11 then
      some 1
      else
      some 0
      else
      some 0
      else
      some 1) : Option (Int32)).bind fun z13 =>
      X11_isAlways_L5 a0 x1 x2 μ n z13 (x4 + 1)
def X11_isAlways (a0 : Nat) (x1 : Int32) (x2 : Int32) (μ : Mem) : Option Int32 :=
  (X11_isAlways_L5 a0 x1 x2 μ FU 0 0).bind fun z1 =>
  (zz z1.1).bind fun v2 =>
  some v2
def X11_areAlways_L5 (a0 : Nat) (x1 : Int32) (x2 : Int32) (μ : Mem) : Nat → Int32 → Int32 → Option (Int32 × Int32)
  | 0, _, _ => none
  | n + 1, x3, x4 =>
      (gI 11 12 a0 μ).bind fun v1 =>
      if v1 ≤ x4 then
      some ((x3, x4))
      else
      ((if x3 = 0 then
      some 0
      else
      if ((x2 >>> (x4 &&& 31)) &&& 1) = 0 then
      some 1
      else
      (vO 11 a0 μ).bind fun g5 =>
      (X11_isAlways a0 x1 x4 μ).bind fun v6 =>
      if v6 = 0 then
      some 0
      else
      some 1) : Option (Int32)).bind fun z8 =>
      X11_areAlways_L5 a0 x1 x2 μ n z8 (x4 + 1)
def X11_areAlways (a0 : Nat) (x1 : Int32) (x2 : Int32) (μ : Mem) : Option Int32 :=
  (X11_areAlways_L5 a0 x1 x2 μ FU 1 0).bind fun z1 =>
  (zz z1.1).bind fun v2 =>
  some v2
def X11_isWayBarred_L19 (a0 : Nat) (x1 : Int32) (x2 : Int32) (μ : Mem) : Nat → Int32 → Int32 → Option (Int32 × Int32)
  | 0, _, _ => none
  | n + 1, x4, x5 =>
      (gR 11 24 a0 μ).bind fun v1 =>
      (aI v1 x1 μ).bind fun v2 =>
      if ((8 * x1) + v2) ≤ x5 then
      some ((x4, x5))
      else
      (gR 11 25 a0 μ).bind fun v4 =>
      (aI v4 x5 μ).bind fun v5 =>
      ((if (2 : Int32) ≤ v5 then
      some 0
      else
      (gR 11 26 a0 μ).bind fun v7 =>
      (aI v7 x5 μ).bind fun v8 =>
      if v8 = x2 then
      some 1
      else
      some 0) : Option (Int32)).bind fun z10 =>
      ((if x4 = 0 then
      if z10 = 0 then
      some 0
      else
      (gR 11 25 a0 μ).bind fun v13 =>
      (aI v13 x5 μ).bind fun v14 =>
      if v14 = 0 then
      some 1
      else
      (gR 11 10 a0 μ).bind fun v16 =>
      (gR 11 27 a0 μ).bind fun v17 =>
      (aI v17 x5 μ).bind fun v18 =>
      (aI v16 v18 μ).bind fun v19 =>
      (gR 11 28 a0 μ).bind fun v20 =>
      (aI v20 x5 μ).bind fun v21 =>
      if (lg_cmp (100 * v19.toInt64) (1000000 * v21.toInt64)) < 0 then
      some 0
      else
      some 1
      else
      some 1) : Option (Int32)).bind fun z23 =>
      X11_isWayBarred_L19 a0 x1 x2 μ n z23 (x5 + 1)
def X11_isWayBarred (a0 : Nat) (x1 : Int32) (x2 : Int32) (x3 : Int32) (μ : Mem) : Option (Int32 × Mem) :=
  (gI 11 5 a0 μ).bind fun v1 =>
  (vO 11 a0 μ).bind fun g2 =>
  (X11_findOdds a0 x1 v1 x3 μ).bind fun μ3 =>
  (some (8 * x1 : Int32)).bind fun v4 =>
  (X11_isWayBarred_L19 a0 x1 x2 μ3 FU 0 v4).bind fun z5 =>
  (zz z5.1).bind fun v6 =>
  some (v6, μ3)
def X11_isKindBarred_L48 (a0 : Nat) (x1 : Int32) (x2 : Int32) (x3 : Int32) (x5 : Int32) (x6 : Int32) (μ : Mem) : Nat → Int32 → Int32 → Option (Int32 × Int32)
  | 0, _, _ => none
  | n + 1, x4, x7 =>
      (gR 11 24 a0 μ).bind fun v1 =>
      (aI v1 x1 μ).bind fun v2 =>
      if ((8 * x1) + v2) ≤ x7 then
      some ((x4, x7))
      else
      if x6 = 0 then
      some ((x4, x7))
      else
      ((if x4 = 0 then
      (gR 11 25 a0 μ).bind fun v6 =>
      (aI v6 x7 μ).bind fun v7 =>
      if v7 = 2 then
      (gR 11 26 a0 μ).bind fun v9 =>
      (aI v9 x7 μ).bind fun v10 =>
      (gR 11 14 a0 μ).bind fun v11 =>
      (aI v11 x5 μ).bind fun v12 =>
      if v10 = v12 then
      (gI 11 5 a0 μ).bind fun v14 =>
      (gR 11 27 a0 μ).bind fun v15 =>
      (aI v15 x7 μ).bind fun v16 =>
      if (v14 + x3) ≤ v16 then
      some 0
      else
      some 1
      else
      some 0
      else
      some 0
      else
      some 1) : Option (Int32)).bind fun z18 =>
      X11_isKindBarred_L48 a0 x1 x2 x3 x5 x6 μ n z18 (x7 + 1)
def X11_isKindBarred_L6 (a0 : Nat) (x1 : Int32) (x2 : Int32) (x3 : Int32) (μ : Mem) : Nat → Int32 → Int32 → Option (Int32 × Int32)
  | 0, _, _ => none
  | n + 1, x4, x5 =>
      (gI 11 12 a0 μ).bind fun v1 =>
      if v1 ≤ x5 then
      some ((x4, x5))
      else
      ((if ((x2 >>> (x5 &&& 31)) &&& 1) = 1 then
      (vO 11 a0 μ).bind fun g4 =>
      (X11_isAlways a0 x1 x5 μ).bind fun v5 =>
      if v5 = 0 then
      some 1
      else
      some 0
      else
      some 0) : Option (Int32)).bind fun z7 =>
      (some (8 * x1 : Int32)).bind fun v8 =>
      (X11_isKindBarred_L48 a0 x1 x2 x3 x5 z7 μ FU x4 v8).bind fun z9 =>
      X11_isKindBarred_L6 a0 x1 x2 x3 μ n z9.1 (x5 + 1)
def X11_isKindBarred (a0 : Nat) (x1 : Int32) (x2 : Int32) (x3 : Int32) (μ : Mem) : Option Int32 :=
  (X11_isKindBarred_L6 a0 x1 x2 x3 μ FU 0 0).bind fun z1 =>
  (zz z1.1).bind fun v2 =>
  some v2
def X11_areMost_L50 (a0 : Nat) (x1 : Int32) (x2 : Int32) (x3 : Int32) (x4 : Int32) (x5 : Int32) (x6 : Int32) (μ : Mem) : Nat → Int32 → Int32 → Option (Int32 × Int32)
  | 0, _, _ => none
  | n + 1, x7, x8 =>
      (gI 11 45 a0 μ).bind fun v1 =>
      if v1 ≤ x8 then
      some ((x7, x8))
      else
      (gR 11 46 a0 μ).bind fun v3 =>
      (aI v3 x8 μ).bind fun v4 =>
      ((if v4 = x1 then
      (gR 11 49 a0 μ).bind fun v6 =>
      (aI v6 x8 μ).bind fun v7 =>
      (gR 11 27 a0 μ).bind fun v8 =>
      (aI v8 x6 μ).bind fun v9 =>
      if (X11_in v7.toInt64 (((x5 - v9) + 1).toInt64) x5.toInt64) = 0 then
      some 0
      else
      some 1
      else
      some 0) : Option (Int32)).bind fun z11 =>
      (some (x7 + z11 : Int32)).bind fun v12 =>
      X11_areMost_L50 a0 x1 x2 x3 x4 x5 x6 μ n v12 (x8 + 1)
def X11_areMost_L119 (a0 : Nat) (x1 : Int32) (x2 : Int32) (x3 : Int32) (x4 : Int32) (x5 : Int32) (x6 : Int32) (μ : Mem) : Nat → Int32 → Int32 → Option (Int32 × Int32)
  | 0, _, _ => none
  | n + 1, x7, x8 =>
      if x2 ≤ x8 then
      some ((x7, x8))
      else
      ((if ((x3 >>> (x8 &&& 31)) &&& 1) = 1 then
      (gI 11 5 a0 μ).bind fun v3 =>
      (gR 11 27 a0 μ).bind fun v4 =>
      (aI v4 x6 μ).bind fun v5 =>
      if (v3 + x8) ≤ (x5 - v5) then
      some 0
      else
      some 1
      else
      some 0) : Option (Int32)).bind fun z7 =>
      (some (x7 + z7 : Int32)).bind fun v8 =>
      X11_areMost_L119 a0 x1 x2 x3 x4 x5 x6 μ n v8 (x8 + 1)
def X11_areMost_L17 (a0 : Nat) (x1 : Int32) (x2 : Int32) (x3 : Int32) (x5 : Int32) (μ : Mem) : Nat → Int32 → Int32 → Option (Int32 × Int32)
  | 0, _, _ => none
  | n + 1, x4, x6 =>
      (gR 11 24 a0 μ).bind fun v1 =>
      (aI v1 x1 μ).bind fun v2 =>
      if ((8 * x1) + v2) ≤ x6 then
      some ((x4, x6))
      else
      (gR 11 25 a0 μ).bind fun v4 =>
      (aI v4 x6 μ).bind fun v5 =>
      ((if v5 = 3 then
      (X11_areMost_L50 a0 x1 x2 x3 x4 x5 x6 μ FU 0 0).bind fun z7 =>
      (X11_areMost_L119 a0 x1 x2 x3 x4 x5 x6 μ FU z7.1 0).bind fun z8 =>
      ((if x4 = 0 then
      (gR 11 26 a0 μ).bind fun v10 =>
      (aI v10 x6 μ).bind fun v11 =>
      if z8.1 < v11 then
      some 0
      else
      some 1
      else
      some 1) : Option (Int32)).bind fun z13 =>
      some z13
      else
      some x4) : Option (Int32)).bind fun z14 =>
      X11_areMost_L17 a0 x1 x2 x3 x5 μ n z14 (x6 + 1)
def X11_areMost (a0 : Nat) (x1 : Int32) (x2 : Int32) (x3 : Int32) (μ : Mem) : Option Int32 :=
  (gI 11 5 a0 μ).bind fun v1 =>
  (some (v1 + x2 : Int32)).bind fun v2 =>
  (some (8 * x1 : Int32)).bind fun v3 =>
  (X11_areMost_L17 a0 x1 x2 x3 v2 μ FU 0 v3).bind fun z4 =>
  (zz z4.1).bind fun v5 =>
  some v5
def X11_barring (a0 : Nat) (x1 : Int32) (x2 : Int32) (x3 : Int32) (x4 : Int32) (x5 : Int32) (μ : Mem) : Option (Int32 × Mem) :=
  (vO 11 a0 μ).bind fun g1 =>
  (X11_areAlways a0 x1 x2 μ).bind fun v2 =>
  if v2 = 0 then
  (vO 11 a0 μ).bind fun g12 =>
  (X11_isWayBarred a0 x1 x3 x4 μ).bind fun z13 =>
  if z13.1 = 0 then
  (vO 11 a0 z13.2).bind fun g15 =>
  (X11_isKindBarred a0 x1 x2 x4 z13.2).bind fun v16 =>
  if v16 = 0 then
  ((if v2 = 0 then
  (vO 11 a0 z13.2).bind fun g19 =>
  (X11_areMost a0 x1 x4 x5 z13.2).bind fun v20 =>
  if v20 = 0 then
  some 0
  else
  some 3
  else
  some 0) : Option (Int32)).bind fun z22 =>
  some (z22, z13.2)
  else
  some (2, z13.2)
  else
  some (1, z13.2)
  else
  (vO 11 a0 μ).bind fun g4 =>
  (X11_isKindBarred a0 x1 x2 x4 μ).bind fun v5 =>
  if v5 = 0 then
  ((if v2 = 0 then
  (vO 11 a0 μ).bind fun g8 =>
  (X11_areMost a0 x1 x4 x5 μ).bind fun v9 =>
  if v9 = 0 then
  some 0
  else
  some 3
  else
  some 0) : Option (Int32)).bind fun z11 =>
  some (z11, μ)
  else
  some (2, μ)
def X11_areThings (a0 : Nat) (x1 : Int32) (μ : Mem) : Option Int32 :=
  (gI 11 12 a0 μ).bind fun v1 =>
  (zz (X11_in x1.toInt64 1 (((1 <<< (v1 &&& 31)) - 1).toInt64))).bind fun v2 =>
  some v2
def X11_barred (a0 : Nat) (x1 : Int32) (x2 : Int32) (x3 : Int32) (μ : Mem) : Option (Int32 × Mem) :=
  if (X11_isPerson x1) = 0 then
  some ((-1001), μ)
  else
  (vO 11 a0 μ).bind fun g2 =>
  (X11_areThings a0 x2 μ).bind fun v3 =>
  if v3 = 0 then
  some ((-1001), μ)
  else
  ((if (X11_isWay x3) = 0 then
  some (((-1002), μ))
  else
  (vO 11 a0 μ).bind fun g6 =>
  (X11_barring a0 x1 x2 x3 0 0 μ).bind fun z7 =>
  some ((z7.1, z7.2))) : Option (Int32 × Mem)).bind fun z8 =>
  some (z8.1, z8.2)
def X11_setOf_L4 (a0 : Nat) (x1 : Int32) (μ : Mem) : Nat → Int32 → Int32 → Option (Int32 × Int32)
  | 0, _, _ => none
  | n + 1, x2, x3 =>
      (gI 11 41 a0 μ).bind fun v1 =>
      if v1 ≤ x3 then
      some ((x2, x3))
      else
      (gR 11 40 a0 μ).bind fun v3 =>
      (aI v3 x3 μ).bind fun v4 =>
      (some (x2 ||| (((x1 >>> (x3 &&& 31)) &&& 1) <<< (v4 &&& 31)) : Int32)).bind fun v5 =>
      X11_setOf_L4 a0 x1 μ n v5 (x3 + 1)
def X11_setOf (a0 : Nat) (x1 : Int32) (μ : Mem) : Option Int32 :=
  (X11_setOf_L4 a0 x1 μ FU 0 0).bind fun z1 =>
  some (z1.1)
def X11_isOneMatter_L7 (a0 : Nat) (x1 : Int32) (μ : Mem) : Nat → Int32 → Int32 → Int32 → Option (Int32 × Int32 × Int32)
  | 0, _, _, _ => none
  | n + 1, x2, x3, x4 =>
      (gI 11 12 a0 μ).bind fun v1 =>
      if v1 ≤ x4 then
      some ((x2, x3, x4))
      else
      ((if ((x1 >>> (x4 &&& 31)) &&& 1) = 1 then
      ((if x3 = 0 then
      some 0
      else
      if x2 < 0 then
      some 1
      else
      (gR 11 15 a0 μ).bind fun v6 =>
      (aI v6 x4 μ).bind fun v7 =>
      if v7 = x2 then
      some 1
      else
      some 0) : Option (Int32)).bind fun z9 =>
      (gR 11 15 a0 μ).bind fun v10 =>
      (aI v10 x4 μ).bind fun v11 =>
      some ((v11, z9))
      else
      some ((x2, x3))) : Option (Int32 × Int32)).bind fun z12 =>
      X11_isOneMatter_L7 a0 x1 μ n z12.1 z12.2 (x4 + 1)
def X11_isOneMatter (a0 : Nat) (x1 : Int32) (μ : Mem) : Option Int32 :=
  (X11_isOneMatter_L7 a0 x1 μ FU ((-1)) 1 0).bind fun z1 =>
  (zz z1.2.1).bind fun v2 =>
  some v2
def X11_findGain_L60 (a0 : Nat) (x1 : Int32) (x2 : Int32) (x3 : Int32) (x4 : Int32) (x5 : Int32) : Nat → Int32 → Int32 → Mem → Option (Int32 × Int32 × Mem)
  | 0, _, _, _ => none
  | n + 1, x6, x7, μ =>
      (gI 11 41 a0 μ).bind fun v1 =>
      if v1 ≤ x7 then
      some ((x6, x7, μ))
      else
      (gR 11 40 a0 μ).bind fun v3 =>
      (aI v3 x7 μ).bind fun v4 =>
      (vO 11 a0 μ).bind fun g5 =>
      (X11_valueOf a0 v4 x1 x2 μ).bind fun z6 =>
      (vO 11 a0 z6.2).bind fun g7 =>
      (X11_isMust a0 v4 z6.2).bind fun v8 =>
      ((if v8 = 0 then
      some 0
      else
      (gI 11 5 a0 z6.2).bind fun v10 =>
      (gR 11 19 a0 z6.2).bind fun v11 =>
      (aI v11 v4 z6.2).bind fun v12 =>
      if v12 < (v10 + x2) then
      some 0
      else
      some 2000) : Option (Int32)).bind fun z14 =>
      (some (z6.1 + z14 : Int32)).bind fun v15 =>
      (some (if ((x3 >>> (x7 &&& 31)) &&& 1) = 1 then v15 else 0 : Int32)).bind fun v17 =>
      (some (x6 + v17 : Int32)).bind fun v18 =>
      X11_findGain_L60 a0 x1 x2 x3 x4 x5 n v18 (x7 + 1) z6.2
def X11_findGain_L151 (a0 : Nat) (x1 : Int32) (x2 : Int32) (x4 : Int32) (x5 : Int32) (x6 : Int32) : Nat → Int32 → Mem → Option (Int32 × Mem)
  | 0, _, _ => none
  | n + 1, x7, μ =>
      if (4 : Int32) ≤ x7 then
      some ((x7, μ))
      else
      (gR 11 23 a0 μ).bind fun v2 =>
      (aI v2 x7 μ).bind fun v3 =>
      (dvI (x6 * v3) 100).bind fun v4 =>
      (gI 11 5 a0 μ).bind fun v5 =>
      (vO 11 a0 μ).bind fun g6 =>
      (X11_lossOf a0 x1 x7 v5 x2 μ).bind fun z7 =>
      (some (v4 - z7.1 : Int32)).bind fun v8 =>
      (vO 11 a0 z7.2).bind fun g9 =>
      (X11_areAlways a0 x1 x4 z7.2).bind fun v10 =>
      ((if v10 = 0 then
      (vO 11 a0 z7.2).bind fun g12 =>
      (X11_isWayBarred a0 x1 x7 x2 z7.2).bind fun z13 =>
      if z13.1 = 0 then
      some ((1, z13.2))
      else
      some ((0, z13.2))
      else
      some ((1, z7.2))) : Option (Int32 × Mem)).bind fun z15 =>
      ((if z15.1 = 0 then
      some z15.2
      else
      (gR 11 43 a0 z15.2).bind fun v17 =>
      (aI v17 x5 z15.2).bind fun v18 =>
      if v8 ≤ v18 then
      some z15.2
      else
      (gR 11 43 a0 z15.2).bind fun v20 =>
      (sI v20 x5 v8 z15.2).bind fun μ21 =>
      (gR 11 44 a0 μ21).bind fun v22 =>
      (sI v22 x5 x7 μ21).bind fun μ23 =>
      some μ23) : Option (Mem)).bind fun z24 =>
      X11_findGain_L151 a0 x1 x2 x4 x5 x6 n (x7 + 1) z24
def X11_findGain (a0 : Nat) (x1 : Int32) (x2 : Int32) (x3 : Int32) (μ : Mem) : Option Mem :=
  (vO 11 a0 μ).bind fun g1 =>
  (X11_setOf a0 x3 μ).bind fun v2 =>
  (some ((64 * x2) + x3 : Int32)).bind fun v3 =>
  (gR 11 44 a0 μ).bind fun v4 =>
  (sI v4 v3 ((-1)) μ).bind fun μ5 =>
  (gR 11 43 a0 μ5).bind fun v6 =>
  (sI v6 v3 ((-1000000000)) μ5).bind fun μ7 =>
  (vO 11 a0 μ7).bind fun g8 =>
  (X11_isOneMatter a0 v2 μ7).bind fun v9 =>
  if v9 = 0 then
  some μ7
  else
  (vO 11 a0 μ7).bind fun g11 =>
  (X11_isKindBarred a0 x1 v2 x2 μ7).bind fun v12 =>
  if v12 = 0 then
  (X11_findGain_L60 a0 x1 x2 x3 v2 v3 FU 0 0 μ7).bind fun z14 =>
  (X11_findGain_L151 a0 x1 x2 v2 v3 z14.1 FU 0 z14.2.2).bind fun z15 =>
  some z15.2
  else
  some μ7
def X11_place (x0 : Int32) (x1 : Int32) (x2 : Int32) : Int32 :=
  ((4096 * x0) + (64 * x1)) + x2
def X11_by (a0 : Nat) (x1 : Int32) (x2 : Int32) (x3 : Int32) (x4 : Int32) (x5 : Int32) (μ : Mem) : Option Int32 :=
  (some ((64 * x2) + x5 : Int32)).bind fun v1 =>
  (gR 11 44 a0 μ).bind fun v2 =>
  (aI v2 v1 μ).bind fun v3 =>
  ((if v3 < 0 then
  some 0
  else
  (vO 11 a0 μ).bind fun g5 =>
  (X11_setOf a0 x5 μ).bind fun v6 =>
  (vO 11 a0 μ).bind fun g7 =>
  (X11_areAlways a0 x1 v6 μ).bind fun v8 =>
  if v8 = 0 then
  (vO 11 a0 μ).bind fun g10 =>
  (X11_areMost a0 x1 x2 x4 μ).bind fun v11 =>
  if v11 = 0 then
  some 1
  else
  some 0
  else
  some 1) : Option (Int32)).bind fun z13 =>
  ((if z13 = 0 then
  some ((-1000000000))
  else
  (gR 11 43 a0 μ).bind fun v15 =>
  (aI v15 v1 μ).bind fun v16 =>
  (gR 11 42 a0 μ).bind fun v17 =>
  (aI v17 (X11_place (x2 + 1) (x3 &&& (x5 ^^^ ((-1)))) (x4 ||| (1 <<< (x2 &&& 31)))) μ).bind fun v18 =>
  some (v16 + v18)) : Option (Int32)).bind fun z19 =>
  some (z19)
def X11_findPlans_L7 (a0 : Nat) (x1 : Int32) (x2 : Int32) : Nat → Int32 → Mem → Option (Int32 × Mem)
  | 0, _, _ => none
  | n + 1, x3, μ =>
      (gI 11 12 a0 μ).bind fun v1 =>
      if v1 ≤ x3 then
      some ((x3, μ))
      else
      (gI 11 41 a0 μ).bind fun v3 =>
      if (6 : Int32) ≤ v3 then
      some ((x3, μ))
      else
      (vO 11 a0 μ).bind fun g5 =>
      (X11_stateOf a0 x3 μ).bind fun v6 =>
      ((if v6 = 0 then
      (gR 11 13 a0 μ).bind fun v8 =>
      (aI v8 x3 μ).bind fun v9 =>
      if ((v9 >>> (x1 &&& 31)) &&& 1) = 1 then
      (gR 11 40 a0 μ).bind fun v11 =>
      (gI 11 41 a0 μ).bind fun v12 =>
      (sI v11 v12 x3 μ).bind fun μ13 =>
      (gI 11 41 a0 μ13).bind fun v14 =>
      (pI 11 41 a0 (v14 + 1) μ13).bind fun μ15 =>
      some μ15
      else
      some μ
      else
      some μ) : Option (Mem)).bind fun z16 =>
      X11_findPlans_L7 a0 x1 x2 n (x3 + 1) z16
def X11_findPlans_L86 (a0 : Nat) (x1 : Int32) (x2 : Int32) (x3 : Int32) : Nat → Int32 → Mem → Option (Int32 × Mem)
  | 0, _, _ => none
  | n + 1, x4, μ =>
      if ((4096 * x2) + 4096) ≤ x4 then
      some ((x4, μ))
      else
      (gR 11 42 a0 μ).bind fun v2 =>
      (sI v2 x4 0 μ).bind fun μ3 =>
      X11_findPlans_L86 a0 x1 x2 x3 n (x4 + 1) μ3
def X11_findPlans_L127 (a0 : Nat) (x1 : Int32) (x3 : Int32) (x4 : Int32) : Nat → Int32 → Mem → Option (Int32 × Mem)
  | 0, _, _ => none
  | n + 1, x5, μ =>
      if x3 ≤ x5 then
      some ((x5, μ))
      else
      (vO 11 a0 μ).bind fun g2 =>
      (X11_findGain a0 x1 x4 x5 μ).bind fun μ3 =>
      X11_findPlans_L127 a0 x1 x3 x4 n (x5 + 1) μ3
def X11_findPlans_L191 (a0 : Nat) (x1 : Int32) (x3 : Int32) (x4 : Int32) (x5 : Int32) (x6 : Int32) (μ : Mem) : Nat → Int32 → Int32 → Option (Int32 × Int32)
  | 0, _, _ => none
  | n + 1, x7, x8 =>
      if x8 ≤ 0 then
      some ((x7, x8))
      else
      (vO 11 a0 μ).bind fun g2 =>
      (X11_by a0 x1 x4 x6 x5 x8 μ).bind fun v3 =>
      (some (if v3 ≤ x7 then x7 else v3 : Int32)).bind fun v5 =>
      (some ((x8 - 1) &&& x6 : Int32)).bind fun v6 =>
      X11_findPlans_L191 a0 x1 x3 x4 x5 x6 μ n v5 v6
def X11_findPlans_L163 (a0 : Nat) (x1 : Int32) (x3 : Int32) (x4 : Int32) (x5 : Int32) : Nat → Int32 → Mem → Option (Int32 × Mem)
  | 0, _, _ => none
  | n + 1, x6, μ =>
      if x3 ≤ x6 then
      some ((x6, μ))
      else
      (gR 11 42 a0 μ).bind fun v2 =>
      (aI v2 (X11_place (x4 + 1) x6 x5) μ).bind fun v3 =>
      (X11_findPlans_L191 a0 x1 x3 x4 x5 x6 μ FU v3 x6).bind fun z4 =>
      (gR 11 42 a0 μ).bind fun v5 =>
      (sI v5 (X11_place x4 x6 x5) z4.1 μ).bind fun μ6 =>
      X11_findPlans_L163 a0 x1 x3 x4 x5 n (x6 + 1) μ6
def X11_findPlans_L151 (a0 : Nat) (x1 : Int32) (x3 : Int32) (x4 : Int32) : Nat → Int32 → Mem → Option (Int32 × Mem)
  | 0, _, _ => none
  | n + 1, x5, μ =>
      if ((1 : Int32) <<< (x4 &&& 31)) ≤ x5 then
      some ((x5, μ))
      else
      (X11_findPlans_L163 a0 x1 x3 x4 x5 FU 0 μ).bind fun z2 =>
      X11_findPlans_L151 a0 x1 x3 x4 n (x5 + 1) z2.2
def X11_findPlans_L119 (a0 : Nat) (x1 : Int32) (x3 : Int32) : Nat → Int32 → Mem → Option (Int32 × Mem)
  | 0, _, _ => none
  | n + 1, x4, μ =>
      if x4 < 0 then
      some ((x4, μ))
      else
      (X11_findPlans_L127 a0 x1 x3 x4 FU 1 μ).bind fun z2 =>
      (X11_findPlans_L151 a0 x1 x3 x4 FU 0 z2.2).bind fun z3 =>
      X11_findPlans_L119 a0 x1 x3 n (x4 + (-1)) z3.2
def X11_findPlans (a0 : Nat) (x1 : Int32) (x2 : Int32) (μ : Mem) : Option Mem :=
  (pI 11 41 a0 0 μ).bind fun μ1 =>
  (X11_findPlans_L7 a0 x1 x2 FU 0 μ1).bind fun z2 =>
  (gI 11 41 a0 z2.2).bind fun v3 =>
  (some (1 <<< (v3 &&& 31) : Int32)).bind fun v4 =>
  (some (4096 * x2 : Int32)).bind fun v5 =>
  (X11_findPlans_L86 a0 x1 x2 v4 FU v5 z2.2).bind fun z6 =>
  (some (x2 - 1 : Int32)).bind fun v7 =>
  (X11_findPlans_L119 a0 x1 v4 FU v7 z6.2).bind fun z8 =>
  some z8.2
def X11_plan_L149 (a0 : Nat) (x1 : Int32) (x3 : Int32) (x4 : Int32) (x6 : Int32) (x7 : Int32) (x9 : Int32) (x10 : Int32) (μ : Mem) : Nat → Int32 → Option (Int32)
  | 0, _ => none
  | n + 1, x8 =>
      if (x8 &&& (x6 ^^^ ((-1)))) = 0 then
      (vO 11 a0 μ).bind fun g2 =>
      (X11_by a0 x1 x9 x6 x7 x8 μ).bind fun v3 =>
      if v3 = x10 then
      some x8
      else
      X11_plan_L149 a0 x1 x3 x4 x6 x7 x9 x10 μ n (x8 + 1)
      else
      X11_plan_L149 a0 x1 x3 x4 x6 x7 x9 x10 μ n (x8 + 1)
def X11_plan_L100 (a0 : Nat) (x1 : Int32) (x3 : Int32) (x4 : Int32) (μ : Mem) : Nat → Int32 → Int32 → Int32 → Int32 → Option (Int32 × Int32 × Int32 × Int32)
  | 0, _, _, _, _ => none
  | n + 1, x6, x7, x8, x9 =>
      if x3 < x9 then
      some ((x6, x7, x8, x9))
      else
      (gR 11 42 a0 μ).bind fun v2 =>
      (aI v2 (X11_place x9 x6 x7) μ).bind fun v3 =>
      (gR 11 42 a0 μ).bind fun v4 =>
      (aI v4 (X11_place (x9 + 1) x6 x7) μ).bind fun v5 =>
      ((if v5 = v3 then
      some ((x6, x7, 0))
      else
      (X11_plan_L149 a0 x1 x3 x4 x6 x7 x9 v3 μ FU 1).bind fun z7 =>
      some ((x6 &&& (z7 ^^^ ((-1))), x7 ||| (1 <<< (x9 &&& 31)), z7))) : Option (Int32 × Int32 × Int32)).bind fun z8 =>
      X11_plan_L100 a0 x1 x3 x4 μ n z8.1 z8.2.1 z8.2.2 (x9 + 1)
def X11_plan (a0 : Nat) (x1 : Int32) (x2 : Int32) (x3 : Int32) (x4 : Int32) (μ : Mem) : Option (Int32 × Mem) :=
  if (X11_isPerson x1) = 0 then
  some ((-1001), μ)
  else
  if (X11_in x2.toInt64 1 6) = 0 then
  some ((-1002), μ)
  else
  if (X11_in x3.toInt64 ((-1)) ((x2 - 1).toInt64)) = 0 then
  some ((-1002), μ)
  else
  if (X11_in x4.toInt64 0 1) = 0 then
  some ((-1002), μ)
  else
  (vO 11 a0 μ).bind fun g5 =>
  (X11_findPlans a0 x1 x2 μ).bind fun μ6 =>
  (gI 11 41 a0 μ6).bind fun v7 =>
  (some ((1 <<< (v7 &&& 31)) - 1 : Int32)).bind fun v8 =>
  if x3 = ((-1)) then
  (gR 11 42 a0 μ6).bind fun v18 =>
  (aI v18 (X11_place 0 v8 0) μ6).bind fun v19 =>
  some (v19, μ6)
  else
  (X11_plan_L100 a0 x1 x3 x4 μ6 FU v8 0 0 0).bind fun z10 =>
  ((if x4 = 0 then
  (vO 11 a0 μ6).bind fun g15 =>
  (X11_setOf a0 z10.2.2.1 μ6).bind fun v16 =>
  some v16
  else
  if z10.2.2.1 = 0 then
  some ((-1))
  else
  (gR 11 44 a0 μ6).bind fun v13 =>
  (aI v13 ((64 * x3) + z10.2.2.1) μ6).bind fun v14 =>
  some v14) : Option (Int32)).bind fun z17 =>
  some (z17, μ6)
def X11_deadOf_L4 (a0 : Nat) (x1 : Int32) (μ : Mem) : Nat → Int32 → Int32 → Option (Int32 × Int32)
  | 0, _, _ => none
  | n + 1, x2, x3 =>
      (gI 11 12 a0 μ).bind fun v1 =>
      if v1 ≤ x3 then
      some ((x2, x3))
      else
      (gR 11 21 a0 μ).bind fun v3 =>
      (aZ v3 x3 μ).bind fun v4 =>
      (some (if v4 = 0 then 0 else x1 &&& (1 <<< (x3 &&& 31)) : Int32)).bind fun v6 =>
      (some (x2 ||| v6 : Int32)).bind fun v7 =>
      X11_deadOf_L4 a0 x1 μ n v7 (x3 + 1)
def X11_deadOf (a0 : Nat) (x1 : Int32) (μ : Mem) : Option Int32 :=
  (X11_deadOf_L4 a0 x1 μ FU 0 0).bind fun z1 =>
  some (z1.1)
def X11_areFor_L5 (a0 : Nat) (x1 : Int32) (x2 : Int32) (μ : Mem) : Nat → Int32 → Int32 → Option (Int32 × Int32)
  | 0, _, _ => none
  | n + 1, x3, x4 =>
      (gI 11 12 a0 μ).bind fun v1 =>
      if v1 ≤ x4 then
      some ((x3, x4))
      else
      ((if x3 = 0 then
      some 0
      else
      if ((x2 >>> (x4 &&& 31)) &&& 1) = 0 then
      some 1
      else
      (gR 11 13 a0 μ).bind fun v5 =>
      (aI v5 x4 μ).bind fun v6 =>
      if ((v6 >>> (x1 &&& 31)) &&& 1) = 1 then
      some 1
      else
      some 0) : Option (Int32)).bind fun z8 =>
      X11_areFor_L5 a0 x1 x2 μ n z8 (x4 + 1)
def X11_areFor (a0 : Nat) (x1 : Int32) (x2 : Int32) (μ : Mem) : Option Int32 :=
  (X11_areFor_L5 a0 x1 x2 μ FU 1 0).bind fun z1 =>
  (zz z1.1).bind fun v2 =>
  some v2
def X11_say (a0 : Nat) (x1 : Int32) (x2 : Int32) (x3 : Int32) (μ : Mem) : Option (Int32 × Mem) :=
  if (X11_isPerson x1) = 0 then
  some ((-1001), μ)
  else
  (vO 11 a0 μ).bind fun g2 =>
  (X11_areThings a0 x2 μ).bind fun v3 =>
  if v3 = 0 then
  some ((-1001), μ)
  else
  if (X11_isWay x3) = 0 then
  some ((-1002), μ)
  else
  (vO 11 a0 μ).bind fun g6 =>
  (X11_barring a0 x1 x2 x3 0 0 μ).bind fun z7 =>
  if (0 : Int32) < z7.1 then
  some ((-1003), z7.2)
  else
  (vO 11 a0 z7.2).bind fun g9 =>
  (X11_deadOf a0 x2 z7.2).bind fun v10 =>
  if v10 = 0 then
  (vO 11 a0 z7.2).bind fun g12 =>
  (X11_areFor a0 x1 x2 z7.2).bind fun v13 =>
  if v13 = 0 then
  some ((-1003), z7.2)
  else
  (vO 11 a0 z7.2).bind fun g15 =>
  (X11_isOneMatter a0 x2 z7.2).bind fun v16 =>
  if v16 = 0 then
  some ((-1003), z7.2)
  else
  (gI 11 45 a0 z7.2).bind fun v18 =>
  if v18 = 40 then
  some ((-1004), z7.2)
  else
  (gR 11 46 a0 z7.2).bind fun v20 =>
  (gI 11 45 a0 z7.2).bind fun v21 =>
  (sI v20 v21 x1 z7.2).bind fun μ22 =>
  (gR 11 47 a0 μ22).bind fun v23 =>
  (gI 11 45 a0 μ22).bind fun v24 =>
  (sI v23 v24 x2 μ22).bind fun μ25 =>
  (gR 11 48 a0 μ25).bind fun v26 =>
  (gI 11 45 a0 μ25).bind fun v27 =>
  (sI v26 v27 x3 μ25).bind fun μ28 =>
  (gR 11 49 a0 μ28).bind fun v29 =>
  (gI 11 45 a0 μ28).bind fun v30 =>
  (gI 11 5 a0 μ28).bind fun v31 =>
  (sI v29 v30 v31 μ28).bind fun μ32 =>
  (gR 11 50 a0 μ32).bind fun v33 =>
  (gI 11 45 a0 μ32).bind fun v34 =>
  (sI v33 v34 0 μ32).bind fun μ35 =>
  (gI 11 45 a0 μ35).bind fun v36 =>
  (pI 11 45 a0 (v36 + 1) μ35).bind fun μ37 =>
  (gI 11 45 a0 μ37).bind fun v38 =>
  some (v38 - 1, μ37)
  else
  some ((-1003), z7.2)
def X11_isSaying (a0 : Nat) (x1 : Int32) (μ : Mem) : Option Int32 :=
  (gI 11 45 a0 μ).bind fun v1 =>
  (zz (X11_in x1.toInt64 0 ((v1 - 1).toInt64))).bind fun v2 =>
  some v2
def X11_came (a0 : Nat) (x1 : Int32) (x2 : Int32) (μ : Mem) : Option (Int32 × Mem) :=
  (vO 11 a0 μ).bind fun g1 =>
  (X11_isSaying a0 x1 μ).bind fun v2 =>
  if v2 = 0 then
  some ((-1001), μ)
  else
  if (X11_in x2.toInt64 1 3) = 0 then
  some ((-1002), μ)
  else
  (gR 11 50 a0 μ).bind fun v5 =>
  (aI v5 x1 μ).bind fun v6 =>
  if v6 ≤ 0 then
  (gR 11 50 a0 μ).bind fun v8 =>
  (sI v8 x1 x2 μ).bind fun μ9 =>
  some (0, μ9)
  else
  some ((-1003), μ)
def X11_saying (a0 : Nat) (x1 : Int32) (x2 : Int32) (μ : Mem) : Option Int32 :=
  (vO 11 a0 μ).bind fun g1 =>
  (X11_isSaying a0 x1 μ).bind fun v2 =>
  if v2 = 0 then
  some ((-1001))
  else
  if x2 = Int32.ofNat 0 then
  (gR 11 46 a0 μ).bind fun v5 =>
  (aI v5 x1 μ).bind fun v6 =>
  some (v6)
  else
  if x2 = Int32.ofNat 1 then
  (gR 11 47 a0 μ).bind fun v8 =>
  (aI v8 x1 μ).bind fun v9 =>
  some (v9)
  else
  if x2 = Int32.ofNat 2 then
  (gR 11 48 a0 μ).bind fun v11 =>
  (aI v11 x1 μ).bind fun v12 =>
  some (v12)
  else
  if x2 = Int32.ofNat 3 then
  (gR 11 49 a0 μ).bind fun v14 =>
  (aI v14 x1 μ).bind fun v15 =>
  some (v15)
  else
  if x2 = Int32.ofNat 4 then
  (gR 11 50 a0 μ).bind fun v17 =>
  (aI v17 x1 μ).bind fun v18 =>
  some (v18)
  else
  if x2 = Int32.ofNat 5 then
  (gR 11 47 a0 μ).bind fun v20 =>
  (aI v20 x1 μ).bind fun v21 =>
  (vO 11 a0 μ).bind fun g22 =>
  (X11_deadOf a0 v21 μ).bind fun v23 =>
  some (v23)
  else
  some ((-1002))
def X11_cameOf_L5 (a0 : Nat) (x1 : Int32) (x2 : Int32) (μ : Mem) : Nat → Int32 → Int32 → Option (Int32 × Int32)
  | 0, _, _ => none
  | n + 1, x3, x4 =>
      (gI 11 45 a0 μ).bind fun v1 =>
      if v1 ≤ x4 then
      some ((x3, x4))
      else
      (gR 11 48 a0 μ).bind fun v3 =>
      (aI v3 x4 μ).bind fun v4 =>
      ((if v4 = x1 then
      if x2 = 0 then
      (gR 11 50 a0 μ).bind fun v7 =>
      (aI v7 x4 μ).bind fun v8 =>
      if v8 ≤ 0 then
      some 0
      else
      some 1
      else
      (gR 11 50 a0 μ).bind fun v10 =>
      (aI v10 x4 μ).bind fun v11 =>
      if v11 = 1 then
      some 1
      else
      some 0
      else
      some 0) : Option (Int32)).bind fun z13 =>
      (some (x3 + z13 : Int32)).bind fun v14 =>
      X11_cameOf_L5 a0 x1 x2 μ n v14 (x4 + 1)
def X11_cameOf (a0 : Nat) (x1 : Int32) (x2 : Int32) (μ : Mem) : Option Int32 :=
  (X11_cameOf_L5 a0 x1 x2 μ FU 0 0).bind fun z1 =>
  some (z1.1)
def X11_choose_L5 (x0 : Int32) (x1 : Int32) (μ : Mem) : Nat → Int64 → Int32 → Option (Int64 × Int32)
  | 0, _, _ => none
  | n + 1, j2, x4 =>
      if x1 < x4 then
      some ((j2, x4))
      else
      (dvJ (j2 * (((x0 - x4) + 1).toInt64)) x4.toInt64).bind fun v2 =>
      X11_choose_L5 x0 x1 μ n v2 (x4 + 1)
def X11_choose (x0 : Int32) (x1 : Int32) (μ : Mem) : Option Int64 :=
  (X11_choose_L5 x0 x1 μ FU 1 1).bind fun z1 =>
  (some (if x0 < x1 then 0 else if (0 : Int32) ≤ x1 then z1.1 else 0 : Int64)).bind fun v3 =>
  some (v3)
def X11_gcd_L6 (μ : Mem) : Nat → Int64 → Int64 → Option (Int64 × Int64)
  | 0, _, _ => none
  | n + 1, j4, j6 =>
      if (lg_cmp j6 0) = 0 then
      some ((j4, j6))
      else
      (rmJ j4 j6).bind fun v2 =>
      X11_gcd_L6 μ n j6 v2
def X11_gcd (j0 : Int64) (j2 : Int64) (μ : Mem) : Option Int64 :=
  (X11_gcd_L6 μ FU j0 j2).bind fun z1 =>
  some (z1.1)
def X11_learnt_L125 (x3 : Int32) (x4 : Int32) (x5 : Int32) (x6 : Int32) (x7 : Int32) (μ : Mem) : Nat → Int64 → Int32 → Option (Int64 × Int32)
  | 0, _, _ => none
  | n + 1, j8, x10 =>
      if x5 < x10 then
      some ((j8, x10))
      else
      (X11_choose x5 x10 μ).bind fun v2 =>
      (X11_choose x7 ((x4 + x6) - x10) μ).bind fun v3 =>
      (some (j8 + (v2 * v3) : Int64)).bind fun v4 =>
      X11_learnt_L125 x3 x4 x5 x6 x7 μ n v4 (x10 + 1)
def X11_learnt (a0 : Nat) (x1 : Int32) (x2 : Int32) (x3 : Int32) (μ : Mem) : Option Int32 :=
  if (X11_isWay x1) = 0 then
  some ((-1002))
  else
  if (X11_isWay x2) = 0 then
  some ((-1002))
  else
  if x1 = x2 then
  some ((-1002))
  else
  if (X11_in x3.toInt64 0 5) = 0 then
  some ((-1002))
  else
  (vO 11 a0 μ).bind fun g5 =>
  (X11_cameOf a0 x1 1 μ).bind fun v6 =>
  (vO 11 a0 μ).bind fun g7 =>
  (X11_cameOf a0 x1 0 μ).bind fun v8 =>
  (vO 11 a0 μ).bind fun g9 =>
  (X11_cameOf a0 x2 1 μ).bind fun v10 =>
  (vO 11 a0 μ).bind fun g11 =>
  (X11_cameOf a0 x2 0 μ).bind fun v12 =>
  if (4 : Int32) ≤ x3 then
  if (v8 + v12) ≤ 30 then
  (X11_learnt_L125 x3 v6 v8 v10 v12 μ FU 0 v6).bind fun z15 =>
  (X11_choose (v8 + v12) (v6 + v10) μ).bind fun v16 =>
  (X11_gcd z15.1 v16 μ).bind fun v17 =>
  ((if x3 = 4 then
  (dvJ z15.1 v17).bind fun v20 =>
  some v20
  else
  (dvJ v16 v17).bind fun v19 =>
  some v19) : Option (Int64)).bind fun z21 =>
  some (z21.toInt32)
  else
  some ((-1003))
  else
  (some (if x3 = 0 then v6 else if x3 = 1 then v8 else if x3 = 2 then v10 else v12 : Int32)).bind fun v23 =>
  some (v23)
def X11_who_L31 (a0 : Nat) (x1 : Int32) (x2 : Int32) (μ : Mem) : Nat → Int32 → Int32 → Option (Int32 × Int32)
  | 0, _, _ => none
  | n + 1, x3, x4 =>
      (gI 11 45 a0 μ).bind fun v1 =>
      if v1 ≤ x4 then
      some ((x3, x4))
      else
      (gR 11 47 a0 μ).bind fun v3 =>
      (aI v3 x4 μ).bind fun v4 =>
      ((if ((v4 >>> (x1 &&& 31)) &&& 1) = 1 then
      (gR 11 46 a0 μ).bind fun v6 =>
      (aI v6 x4 μ).bind fun v7 =>
      some (1 <<< (v7 &&& 31))
      else
      some 0) : Option (Int32)).bind fun z8 =>
      (some (x3 ||| z8 : Int32)).bind fun v9 =>
      X11_who_L31 a0 x1 x2 μ n v9 (x4 + 1)
def X11_who_L111 (a0 : Nat) (x4 : Int32) : Nat → Int32 → Int32 → Int32 → Mem → Option (Int32 × Int32 × Int32 × Mem)
  | 0, _, _, _, _ => none
  | n + 1, x5, x6, x7, μ =>
      if (4 : Int32) ≤ x7 then
      some ((x5, x6, x7, μ))
      else
      ((if ((x4 >>> (x7 &&& 31)) &&& 1) = 1 then
      (gI 11 5 a0 μ).bind fun v3 =>
      (vO 11 a0 μ).bind fun g4 =>
      (X11_seamOdds a0 x7 v3 0 μ).bind fun z5 =>
      some ((z5.1, z5.2))
      else
      some (((-1), μ))) : Option (Int32 × Mem)).bind fun z6 =>
      (some (if z6.1 ≤ x6 then x5 else x7 : Int32)).bind fun v8 =>
      (some (if z6.1 ≤ x6 then x6 else z6.1 : Int32)).bind fun v9 =>
      X11_who_L111 a0 x4 n v8 v9 (x7 + 1) z6.2
def X11_who (a0 : Nat) (x1 : Int32) (x2 : Int32) (μ : Mem) : Option (Int32 × Mem) :=
  (vO 11 a0 μ).bind fun g1 =>
  (X11_isThing a0 x1 μ).bind fun v2 =>
  if v2 = 0 then
  some ((-1001), μ)
  else
  if (X11_in x2.toInt64 0 1) = 0 then
  some ((-1002), μ)
  else
  (X11_who_L31 a0 x1 x2 μ FU 0 0).bind fun z5 =>
  ((if x2 = 0 then
  (gR 11 13 a0 μ).bind fun v9 =>
  (aI v9 x1 μ).bind fun v10 =>
  some v10
  else
  (gR 11 13 a0 μ).bind fun v7 =>
  (aI v7 x1 μ).bind fun v8 =>
  some (v8 &&& (z5.1 ^^^ ((-1))))) : Option (Int32)).bind fun z11 =>
  (X11_who_L111 a0 z11 FU ((-1)) ((-1)) 0 μ).bind fun z12 =>
  some (z12.1, z12.2.2.2)
def X11_tried_L99 (a0 : Nat) (x1 : Int32) (x2 : Int32) (x3 : Int32) (x4 : Int32) (x8 : Int32) (x10 : Int32) (x11 : Int32) (μ : Mem) : Nat → Int32 → Int32 → Int32 → Int32 → Int32 → Int32 → Option (Int32 × Int32 × Int32 × Int32 × Int32 × Int32)
  | 0, _, _, _, _, _, _ => none
  | n + 1, x5, x6, x7, x9, x12, x13 =>
      (gI 11 12 a0 μ).bind fun v1 =>
      if v1 ≤ x13 then
      some ((x5, x6, x7, x9, x12, x13))
      else
      (gR 11 13 a0 μ).bind fun v3 =>
      (aI v3 x13 μ).bind fun v4 =>
      ((if ((v4 >>> (x1 &&& 31)) &&& 1) = 1 then
      if ((x5 >>> (x13 &&& 31)) &&& 1) = 0 then
      (gR 11 20 a0 μ).bind fun v7 =>
      (aI v7 x13 μ).bind fun v8 =>
      if x10 < v8 then
      some 0
      else
      some 1
      else
      some 0
      else
      some 0) : Option (Int32)).bind fun z10 =>
      ((if z10 = 0 then
      some ((x5, x6, x7, x9, x12))
      else
      if x11 = 0 then
      (vO 11 a0 μ).bind fun g19 =>
      (X11_isMust a0 x13 μ).bind fun v20 =>
      if v20 = 0 then
      some ((x5, x6, x7, x9, x12))
      else
      (gR 11 19 a0 μ).bind fun v22 =>
      (aI v22 x13 μ).bind fun v23 =>
      if v23 = x10 then
      (gR 11 19 a0 μ).bind fun v25 =>
      (aI v25 x13 μ).bind fun v26 =>
      (some (if x10 ≤ v26 then 0 else 1 : Int32)).bind fun v28 =>
      (gR 11 20 a0 μ).bind fun v29 =>
      (aI v29 x13 μ).bind fun v30 =>
      some ((x5 ||| (1 <<< (x13 &&& 31)), x6 + v28, x7 + (x10 - v30), x9 + 1, 1))
      else
      some ((x5, x6, x7, x9, x12))
      else
      (gR 11 19 a0 μ).bind fun v13 =>
      (aI v13 x13 μ).bind fun v14 =>
      (some (if x10 ≤ v14 then 0 else 1 : Int32)).bind fun v16 =>
      (gR 11 20 a0 μ).bind fun v17 =>
      (aI v17 x13 μ).bind fun v18 =>
      some ((x5 ||| (1 <<< (x13 &&& 31)), x6 + v16, x7 + (x10 - v18), x9 + 1, 1))) : Option (Int32 × Int32 × Int32 × Int32 × Int32)).bind fun z31 =>
      X11_tried_L99 a0 x1 x2 x3 x4 x8 x10 x11 μ n z31.1 z31.2.1 z31.2.2.1 z31.2.2.2.1 z31.2.2.2.2 (x13 + 1)
def X11_tried_L65 (a0 : Nat) (x1 : Int32) (x2 : Int32) (x3 : Int32) (x4 : Int32) : Nat → Int32 → Int32 → Int32 → Int32 → Int32 → Int32 → Mem → Option (Int32 × Int32 × Int32 × Int32 × Int32 × Int32 × Mem)
  | 0, _, _, _, _, _, _, _ => none
  | n + 1, x5, x6, x7, x8, x9, x10, μ =>
      (gI 11 5 a0 μ).bind fun v1 =>
      if v1 ≤ x10 then
      some ((x5, x6, x7, x8, x9, x10, μ))
      else
      (vO 11 a0 μ).bind fun g3 =>
      (X11_seamOdds a0 x1 x10 0 μ).bind fun z4 =>
      (some (if z4.1 < x2 then 0 else 1 : Int32)).bind fun v6 =>
      (X11_tried_L99 a0 x1 x2 x3 x4 x8 x10 v6 z4.2 FU x5 x6 x7 x9 0 0).bind fun z7 =>
      ((if z7.2.2.2.2.1 = 0 then
      some ((0, z4.2))
      else
      (vO 11 a0 z4.2).bind fun g9 =>
      (X11_lossOf a0 x1 x3 x10 0 z4.2).bind fun z10 =>
      some ((z10.1, z10.2))) : Option (Int32 × Mem)).bind fun z11 =>
      (some (x8 + z11.1 : Int32)).bind fun v12 =>
      X11_tried_L65 a0 x1 x2 x3 x4 n z7.1 z7.2.1 z7.2.2.1 v12 z7.2.2.2.1 (x10 + 1) z11.2
def X11_tried_L273 (a0 : Nat) (x1 : Int32) (x4 : Int32) (x5 : Int32) (x7 : Int32) (x8 : Int32) (x9 : Int32) (μ : Mem) : Nat → Int32 → Int32 → Option (Int32 × Int32)
  | 0, _, _ => none
  | n + 1, x6, x10 =>
      (gI 11 12 a0 μ).bind fun v1 =>
      if v1 ≤ x10 then
      some ((x6, x10))
      else
      (gR 11 13 a0 μ).bind fun v3 =>
      (aI v3 x10 μ).bind fun v4 =>
      (some (if ((v4 >>> (x1 &&& 31)) &&& 1) = 1 then if ((x5 >>> (x10 &&& 31)) &&& 1) = 0 then 1 else 0 else 0 : Int32)).bind fun v6 =>
      ((if v6 = 0 then
      some 0
      else
      (gR 11 19 a0 μ).bind fun v8 =>
      (aI v8 x10 μ).bind fun v9 =>
      (gI 11 5 a0 μ).bind fun v10 =>
      if v10 ≤ v9 then
      some 0
      else
      some 1) : Option (Int32)).bind fun z12 =>
      (some (x6 + z12 : Int32)).bind fun v13 =>
      X11_tried_L273 a0 x1 x4 x5 x7 x8 x9 μ n v13 (x10 + 1)
def X11_tried (a0 : Nat) (x1 : Int32) (x2 : Int32) (x3 : Int32) (x4 : Int32) (μ : Mem) : Option (Int32 × Mem) :=
  if (X11_isPerson x1) = 0 then
  some ((-1001), μ)
  else
  if (X11_in x2.toInt64 0 1000000) = 0 then
  some ((-1002), μ)
  else
  if (X11_isWay x3) = 0 then
  some ((-1002), μ)
  else
  if (X11_in x4.toInt64 0 3) = 0 then
  some ((-1002), μ)
  else
  (X11_tried_L65 a0 x1 x2 x3 x4 FU 0 0 0 0 0 0 μ).bind fun z5 =>
  (X11_tried_L273 a0 x1 x4 z5.1 z5.2.2.1 z5.2.2.2.1 z5.2.2.2.2.1 z5.2.2.2.2.2.2 FU z5.2.1 0).bind fun z6 =>
  (some (if x4 = 0 then z6.1 else if x4 = 1 then z5.2.2.1 else if x4 = 2 then z5.2.2.2.1 else z5.2.2.2.2.1 : Int32)).bind fun v8 =>
  some (v8, z5.2.2.2.2.2.2)
end
section
def L_law_L18 (xs : Nat → Int32) (nx : Nat) (a1 : Nat) (a2 : Nat) : Nat → Int32 → Mem → Option (Int32 × Mem)
  | 0, _, _ => none
  | n + 1, x3, μ =>
      if ((Int32.ofNat nx) - 8) < x3 then
      some (1, μ)
      else
      (xsA xs nx x3).bind fun v2 =>
      if (v2 &&& 31) = Int32.ofNat 0 then
      (xsA xs nx (x3 + 1)).bind fun v4 =>
      (xsA xs nx (x3 + 2)).bind fun v5 =>
      (xsA xs nx (x3 + 3)).bind fun v6 =>
      (vO 10 a1 μ).bind fun g7 =>
      (X10_move a1 v4 v5 v6 μ).bind fun z8 =>
      (xsA xs nx (x3 + 1)).bind fun v9 =>
      (xsA xs nx (x3 + 2)).bind fun v10 =>
      (xsA xs nx (x3 + 3)).bind fun v11 =>
      (vO 11 a2 z8.2).bind fun g12 =>
      (X11_move a2 v9 v10 v11 z8.2).bind fun z13 =>
      if z8.1 = z13.1 then
      L_law_L18 xs nx a1 a2 n (x3 + 8) z13.2
      else
      some (0, z13.2)
      else
      if (v2 &&& 31) = Int32.ofNat 1 then
      (xsA xs nx (x3 + 1)).bind fun v16 =>
      (xsA xs nx (x3 + 2)).bind fun v17 =>
      (xsA xs nx (x3 + 3)).bind fun v18 =>
      (vO 10 a1 μ).bind fun g19 =>
      (X10_shows a1 v16 v17 v18 μ).bind fun z20 =>
      (xsA xs nx (x3 + 1)).bind fun v21 =>
      (xsA xs nx (x3 + 2)).bind fun v22 =>
      (xsA xs nx (x3 + 3)).bind fun v23 =>
      (vO 11 a2 z20.2).bind fun g24 =>
      (X11_shows a2 v21 v22 v23 z20.2).bind fun z25 =>
      if z20.1 = z25.1 then
      L_law_L18 xs nx a1 a2 n (x3 + 8) z25.2
      else
      some (0, z25.2)
      else
      if (v2 &&& 31) = Int32.ofNat 2 then
      (xsA xs nx (x3 + 1)).bind fun v28 =>
      (xsA xs nx (x3 + 2)).bind fun v29 =>
      (vO 10 a1 μ).bind fun g30 =>
      (X10_begins a1 v28 v29 μ).bind fun z31 =>
      (xsA xs nx (x3 + 1)).bind fun v32 =>
      (xsA xs nx (x3 + 2)).bind fun v33 =>
      (vO 11 a2 z31.2).bind fun g34 =>
      (X11_begins a2 v32 v33 z31.2).bind fun z35 =>
      if z31.1 = z35.1 then
      L_law_L18 xs nx a1 a2 n (x3 + 8) z35.2
      else
      some (0, z35.2)
      else
      if (v2 &&& 31) = Int32.ofNat 3 then
      (xsA xs nx (x3 + 1)).bind fun v38 =>
      (vO 10 a1 μ).bind fun g39 =>
      (X10_seams a1 v38 μ).bind fun z40 =>
      (xsA xs nx (x3 + 1)).bind fun v41 =>
      (vO 11 a2 z40.2).bind fun g42 =>
      (X11_seams a2 v41 z40.2).bind fun z43 =>
      if z40.1 = z43.1 then
      L_law_L18 xs nx a1 a2 n (x3 + 8) z43.2
      else
      some (0, z43.2)
      else
      if (v2 &&& 31) = Int32.ofNat 4 then
      (xsA xs nx (x3 + 1)).bind fun v46 =>
      (xsA xs nx (x3 + 2)).bind fun v47 =>
      (vO 10 a1 μ).bind fun g48 =>
      (X10_sign a1 v46 v47 μ).bind fun z49 =>
      (xsA xs nx (x3 + 1)).bind fun v50 =>
      (xsA xs nx (x3 + 2)).bind fun v51 =>
      (vO 11 a2 z49.2).bind fun g52 =>
      (X11_sign a2 v50 v51 z49.2).bind fun z53 =>
      if z49.1 = z53.1 then
      L_law_L18 xs nx a1 a2 n (x3 + 8) z53.2
      else
      some (0, z53.2)
      else
      if (v2 &&& 31) = Int32.ofNat 5 then
      (xsA xs nx (x3 + 1)).bind fun v56 =>
      (vO 10 a1 μ).bind fun g57 =>
      (X10_go a1 v56 μ).bind fun z58 =>
      (xsA xs nx (x3 + 1)).bind fun v59 =>
      (vO 11 a2 z58.2).bind fun g60 =>
      (X11_go a2 v59 z58.2).bind fun z61 =>
      if z58.1 = z61.1 then
      L_law_L18 xs nx a1 a2 n (x3 + 8) z61.2
      else
      some (0, z61.2)
      else
      if (v2 &&& 31) = Int32.ofNat 6 then
      (xsA xs nx (x3 + 1)).bind fun v64 =>
      (xsA xs nx (x3 + 2)).bind fun v65 =>
      (vO 10 a1 μ).bind fun g66 =>
      (X10_fits a1 v64 v65 μ).bind fun z67 =>
      (xsA xs nx (x3 + 1)).bind fun v68 =>
      (xsA xs nx (x3 + 2)).bind fun v69 =>
      (vO 11 a2 z67.2).bind fun g70 =>
      (X11_fits a2 v68 v69 z67.2).bind fun z71 =>
      if z67.1 = z71.1 then
      L_law_L18 xs nx a1 a2 n (x3 + 8) z71.2
      else
      some (0, z71.2)
      else
      if (v2 &&& 31) = Int32.ofNat 7 then
      (xsA xs nx (x3 + 1)).bind fun v74 =>
      (xsA xs nx (x3 + 2)).bind fun v75 =>
      (xsA xs nx (x3 + 3)).bind fun v76 =>
      (vO 10 a1 μ).bind fun g77 =>
      (X10_odds a1 v74 v75 v76 μ).bind fun z78 =>
      (xsA xs nx (x3 + 1)).bind fun v79 =>
      (xsA xs nx (x3 + 2)).bind fun v80 =>
      (xsA xs nx (x3 + 3)).bind fun v81 =>
      (vO 11 a2 z78.2).bind fun g82 =>
      (X11_odds a2 v79 v80 v81 z78.2).bind fun z83 =>
      if z78.1 = z83.1 then
      L_law_L18 xs nx a1 a2 n (x3 + 8) z83.2
      else
      some (0, z83.2)
      else
      if (v2 &&& 31) = Int32.ofNat 8 then
      (xsA xs nx (x3 + 1)).bind fun v86 =>
      (xsA xs nx (x3 + 2)).bind fun v87 =>
      (vO 10 a1 μ).bind fun g88 =>
      (X10_seam a1 v86 v87 μ).bind fun z89 =>
      (xsA xs nx (x3 + 1)).bind fun v90 =>
      (xsA xs nx (x3 + 2)).bind fun v91 =>
      (vO 11 a2 z89.2).bind fun g92 =>
      (X11_seam a2 v90 v91 z89.2).bind fun z93 =>
      if z89.1 = z93.1 then
      L_law_L18 xs nx a1 a2 n (x3 + 8) z93.2
      else
      some (0, z93.2)
      else
      if (v2 &&& 31) = Int32.ofNat 9 then
      (xsA xs nx (x3 + 1)).bind fun v96 =>
      (xsA xs nx (x3 + 2)).bind fun v97 =>
      (vO 10 a1 μ).bind fun g98 =>
      (X10_until a1 v96 v97 μ).bind fun z99 =>
      (xsA xs nx (x3 + 1)).bind fun v100 =>
      (xsA xs nx (x3 + 2)).bind fun v101 =>
      (vO 11 a2 z99.2).bind fun g102 =>
      (X11_until a2 v100 v101 z99.2).bind fun z103 =>
      if z99.1 = z103.1 then
      L_law_L18 xs nx a1 a2 n (x3 + 8) z103.2
      else
      some (0, z103.2)
      else
      if (v2 &&& 31) = Int32.ofNat 10 then
      (xsA xs nx (x3 + 1)).bind fun v106 =>
      (xsA xs nx (x3 + 2)).bind fun v107 =>
      (xsA xs nx (x3 + 3)).bind fun v108 =>
      (xsA xs nx (x3 + 4)).bind fun v109 =>
      (xsA xs nx (x3 + 5)).bind fun v110 =>
      (xsA xs nx (x3 + 6)).bind fun v111 =>
      (xsA xs nx (x3 + 7)).bind fun v112 =>
      (vO 10 a1 μ).bind fun g113 =>
      (X10_thing a1 v106 v107 v108 v109 v110 v111 v112 μ).bind fun z114 =>
      (xsA xs nx (x3 + 1)).bind fun v115 =>
      (xsA xs nx (x3 + 2)).bind fun v116 =>
      (xsA xs nx (x3 + 3)).bind fun v117 =>
      (xsA xs nx (x3 + 4)).bind fun v118 =>
      (xsA xs nx (x3 + 5)).bind fun v119 =>
      (xsA xs nx (x3 + 6)).bind fun v120 =>
      (xsA xs nx (x3 + 7)).bind fun v121 =>
      (vO 11 a2 z114.2).bind fun g122 =>
      (X11_thing a2 v115 v116 v117 v118 v119 v120 v121 z114.2).bind fun z123 =>
      if z114.1 = z123.1 then
      L_law_L18 xs nx a1 a2 n (x3 + 8) z123.2
      else
      some (0, z123.2)
      else
      if (v2 &&& 31) = Int32.ofNat 11 then
      (xsA xs nx (x3 + 1)).bind fun v126 =>
      (vO 10 a1 μ).bind fun g127 =>
      (X10_dead a1 v126 μ).bind fun z128 =>
      (xsA xs nx (x3 + 1)).bind fun v129 =>
      (vO 11 a2 z128.2).bind fun g130 =>
      (X11_dead a2 v129 z128.2).bind fun z131 =>
      if z128.1 = z131.1 then
      L_law_L18 xs nx a1 a2 n (x3 + 8) z131.2
      else
      some (0, z131.2)
      else
      if (v2 &&& 31) = Int32.ofNat 12 then
      (xsA xs nx (x3 + 1)).bind fun v134 =>
      (xsA xs nx (x3 + 2)).bind fun v135 =>
      (vO 10 a1 μ).bind fun g136 =>
      (X10_told a1 v134 v135 μ).bind fun v137 =>
      (xsA xs nx (x3 + 1)).bind fun v138 =>
      (xsA xs nx (x3 + 2)).bind fun v139 =>
      (vO 11 a2 μ).bind fun g140 =>
      (X11_told a2 v138 v139 μ).bind fun v141 =>
      if v137 = v141 then
      L_law_L18 xs nx a1 a2 n (x3 + 8) μ
      else
      some (0, μ)
      else
      if (v2 &&& 31) = Int32.ofNat 13 then
      (xsA xs nx (x3 + 1)).bind fun v144 =>
      (xsA xs nx (x3 + 2)).bind fun v145 =>
      (xsA xs nx (x3 + 3)).bind fun v146 =>
      (vO 10 a1 μ).bind fun g147 =>
      (X10_value a1 v144 v145 v146 μ).bind fun z148 =>
      (xsA xs nx (x3 + 1)).bind fun v149 =>
      (xsA xs nx (x3 + 2)).bind fun v150 =>
      (xsA xs nx (x3 + 3)).bind fun v151 =>
      (vO 11 a2 z148.2).bind fun g152 =>
      (X11_value a2 v149 v150 v151 z148.2).bind fun z153 =>
      if z148.1 = z153.1 then
      L_law_L18 xs nx a1 a2 n (x3 + 8) z153.2
      else
      some (0, z153.2)
      else
      if (v2 &&& 31) = Int32.ofNat 14 then
      (xsA xs nx (x3 + 1)).bind fun v156 =>
      (xsA xs nx (x3 + 2)).bind fun v157 =>
      (xsA xs nx (x3 + 3)).bind fun v158 =>
      (vO 10 a1 μ).bind fun g159 =>
      (X10_cost a1 v156 v157 v158 μ).bind fun z160 =>
      (xsA xs nx (x3 + 1)).bind fun v161 =>
      (xsA xs nx (x3 + 2)).bind fun v162 =>
      (xsA xs nx (x3 + 3)).bind fun v163 =>
      (vO 11 a2 z160.2).bind fun g164 =>
      (X11_cost a2 v161 v162 v163 z160.2).bind fun z165 =>
      if z160.1 = z165.1 then
      L_law_L18 xs nx a1 a2 n (x3 + 8) z165.2
      else
      some (0, z165.2)
      else
      if (v2 &&& 31) = Int32.ofNat 15 then
      (xsA xs nx (x3 + 1)).bind fun v168 =>
      (xsA xs nx (x3 + 2)).bind fun v169 =>
      (vO 10 a1 μ).bind fun g170 =>
      (X10_seen a1 v168 v169 μ).bind fun z171 =>
      (xsA xs nx (x3 + 1)).bind fun v172 =>
      (xsA xs nx (x3 + 2)).bind fun v173 =>
      (vO 11 a2 z171.2).bind fun g174 =>
      (X11_seen a2 v172 v173 z171.2).bind fun z175 =>
      if z171.1 = z175.1 then
      L_law_L18 xs nx a1 a2 n (x3 + 8) z175.2
      else
      some (0, z175.2)
      else
      if (v2 &&& 31) = Int32.ofNat 16 then
      (xsA xs nx (x3 + 1)).bind fun v178 =>
      (xsA xs nx (x3 + 2)).bind fun v179 =>
      (xsA xs nx (x3 + 3)).bind fun v180 =>
      (vO 10 a1 μ).bind fun g181 =>
      (X10_loss a1 v178 v179 v180 μ).bind fun z182 =>
      (xsA xs nx (x3 + 1)).bind fun v183 =>
      (xsA xs nx (x3 + 2)).bind fun v184 =>
      (xsA xs nx (x3 + 3)).bind fun v185 =>
      (vO 11 a2 z182.2).bind fun g186 =>
      (X11_loss a2 v183 v184 v185 z182.2).bind fun z187 =>
      if z182.1 = z187.1 then
      L_law_L18 xs nx a1 a2 n (x3 + 8) z187.2
      else
      some (0, z187.2)
      else
      if (v2 &&& 31) = Int32.ofNat 17 then
      (xsA xs nx (x3 + 1)).bind fun v190 =>
      (vO 10 a1 μ).bind fun g191 =>
      (X10_count a1 v190 μ).bind fun v192 =>
      (xsA xs nx (x3 + 1)).bind fun v193 =>
      (vO 11 a2 μ).bind fun g194 =>
      (X11_count a2 v193 μ).bind fun v195 =>
      if v192 = v195 then
      L_law_L18 xs nx a1 a2 n (x3 + 8) μ
      else
      some (0, μ)
      else
      if (v2 &&& 31) = Int32.ofNat 18 then
      (xsA xs nx (x3 + 1)).bind fun v198 =>
      (xsA xs nx (x3 + 2)).bind fun v199 =>
      (xsA xs nx (x3 + 3)).bind fun v200 =>
      (vO 10 a1 μ).bind fun g201 =>
      (X10_feed a1 v198 ((v199.toInt64 <<< ((32 : Int32).toInt64 &&& 63)) ||| (v200.toInt64 &&& 4294967295)) μ).bind fun z202 =>
      (xsA xs nx (x3 + 1)).bind fun v203 =>
      (xsA xs nx (x3 + 2)).bind fun v204 =>
      (xsA xs nx (x3 + 3)).bind fun v205 =>
      (vO 11 a2 z202.2).bind fun g206 =>
      (X11_feed a2 v203 ((v204.toInt64 <<< ((32 : Int32).toInt64 &&& 63)) ||| (v205.toInt64 &&& 4294967295)) z202.2).bind fun z207 =>
      if z202.1 = z207.1 then
      L_law_L18 xs nx a1 a2 n (x3 + 8) z207.2
      else
      some (0, z207.2)
      else
      if (v2 &&& 31) = Int32.ofNat 19 then
      (xsA xs nx (x3 + 1)).bind fun v210 =>
      (vO 10 a1 μ).bind fun g211 =>
      (X10_read a1 v210 μ).bind fun z212 =>
      (xsA xs nx (x3 + 1)).bind fun v213 =>
      (vO 11 a2 z212.2).bind fun g214 =>
      (X11_read a2 v213 z212.2).bind fun z215 =>
      if z212.1 = z215.1 then
      L_law_L18 xs nx a1 a2 n (x3 + 8) z215.2
      else
      some (0, z215.2)
      else
      if (v2 &&& 31) = Int32.ofNat 20 then
      (vO 10 a1 μ).bind fun g218 =>
      (X10_fault a1 μ).bind fun v219 =>
      (vO 11 a2 μ).bind fun g220 =>
      (X11_fault a2 μ).bind fun v221 =>
      if v219 = v221 then
      L_law_L18 xs nx a1 a2 n (x3 + 8) μ
      else
      some (0, μ)
      else
      if (v2 &&& 31) = Int32.ofNat 21 then
      (xsA xs nx (x3 + 1)).bind fun v224 =>
      (xsA xs nx (x3 + 2)).bind fun v225 =>
      (xsA xs nx (x3 + 3)).bind fun v226 =>
      (vO 10 a1 μ).bind fun g227 =>
      (X10_barred a1 v224 v225 v226 μ).bind fun z228 =>
      (xsA xs nx (x3 + 1)).bind fun v229 =>
      (xsA xs nx (x3 + 2)).bind fun v230 =>
      (xsA xs nx (x3 + 3)).bind fun v231 =>
      (vO 11 a2 z228.2).bind fun g232 =>
      (X11_barred a2 v229 v230 v231 z228.2).bind fun z233 =>
      if z228.1 = z233.1 then
      L_law_L18 xs nx a1 a2 n (x3 + 8) z233.2
      else
      some (0, z233.2)
      else
      if (v2 &&& 31) = Int32.ofNat 22 then
      (xsA xs nx (x3 + 1)).bind fun v236 =>
      (xsA xs nx (x3 + 2)).bind fun v237 =>
      (xsA xs nx (x3 + 3)).bind fun v238 =>
      (xsA xs nx (x3 + 4)).bind fun v239 =>
      (vO 10 a1 μ).bind fun g240 =>
      (X10_plan a1 v236 v237 v238 v239 μ).bind fun z241 =>
      (xsA xs nx (x3 + 1)).bind fun v242 =>
      (xsA xs nx (x3 + 2)).bind fun v243 =>
      (xsA xs nx (x3 + 3)).bind fun v244 =>
      (xsA xs nx (x3 + 4)).bind fun v245 =>
      (vO 11 a2 z241.2).bind fun g246 =>
      (X11_plan a2 v242 v243 v244 v245 z241.2).bind fun z247 =>
      if z241.1 = z247.1 then
      L_law_L18 xs nx a1 a2 n (x3 + 8) z247.2
      else
      some (0, z247.2)
      else
      if (v2 &&& 31) = Int32.ofNat 23 then
      (xsA xs nx (x3 + 1)).bind fun v250 =>
      (xsA xs nx (x3 + 2)).bind fun v251 =>
      (xsA xs nx (x3 + 3)).bind fun v252 =>
      (vO 10 a1 μ).bind fun g253 =>
      (X10_say a1 v250 v251 v252 μ).bind fun z254 =>
      (xsA xs nx (x3 + 1)).bind fun v255 =>
      (xsA xs nx (x3 + 2)).bind fun v256 =>
      (xsA xs nx (x3 + 3)).bind fun v257 =>
      (vO 11 a2 z254.2).bind fun g258 =>
      (X11_say a2 v255 v256 v257 z254.2).bind fun z259 =>
      if z254.1 = z259.1 then
      L_law_L18 xs nx a1 a2 n (x3 + 8) z259.2
      else
      some (0, z259.2)
      else
      if (v2 &&& 31) = Int32.ofNat 24 then
      (xsA xs nx (x3 + 1)).bind fun v262 =>
      (xsA xs nx (x3 + 2)).bind fun v263 =>
      (vO 10 a1 μ).bind fun g264 =>
      (X10_came a1 v262 v263 μ).bind fun z265 =>
      (xsA xs nx (x3 + 1)).bind fun v266 =>
      (xsA xs nx (x3 + 2)).bind fun v267 =>
      (vO 11 a2 z265.2).bind fun g268 =>
      (X11_came a2 v266 v267 z265.2).bind fun z269 =>
      if z265.1 = z269.1 then
      L_law_L18 xs nx a1 a2 n (x3 + 8) z269.2
      else
      some (0, z269.2)
      else
      if (v2 &&& 31) = Int32.ofNat 25 then
      (xsA xs nx (x3 + 1)).bind fun v272 =>
      (xsA xs nx (x3 + 2)).bind fun v273 =>
      (vO 10 a1 μ).bind fun g274 =>
      (X10_saying a1 v272 v273 μ).bind fun v275 =>
      (xsA xs nx (x3 + 1)).bind fun v276 =>
      (xsA xs nx (x3 + 2)).bind fun v277 =>
      (vO 11 a2 μ).bind fun g278 =>
      (X11_saying a2 v276 v277 μ).bind fun v279 =>
      if v275 = v279 then
      L_law_L18 xs nx a1 a2 n (x3 + 8) μ
      else
      some (0, μ)
      else
      if (v2 &&& 31) = Int32.ofNat 26 then
      (xsA xs nx (x3 + 1)).bind fun v282 =>
      (xsA xs nx (x3 + 2)).bind fun v283 =>
      (xsA xs nx (x3 + 3)).bind fun v284 =>
      (vO 10 a1 μ).bind fun g285 =>
      (X10_learnt a1 v282 v283 v284 μ).bind fun v286 =>
      (xsA xs nx (x3 + 1)).bind fun v287 =>
      (xsA xs nx (x3 + 2)).bind fun v288 =>
      (xsA xs nx (x3 + 3)).bind fun v289 =>
      (vO 11 a2 μ).bind fun g290 =>
      (X11_learnt a2 v287 v288 v289 μ).bind fun v291 =>
      if v286 = v291 then
      L_law_L18 xs nx a1 a2 n (x3 + 8) μ
      else
      some (0, μ)
      else
      if (v2 &&& 31) = Int32.ofNat 27 then
      (xsA xs nx (x3 + 1)).bind fun v294 =>
      (xsA xs nx (x3 + 2)).bind fun v295 =>
      (vO 10 a1 μ).bind fun g296 =>
      (X10_who a1 v294 v295 μ).bind fun z297 =>
      (xsA xs nx (x3 + 1)).bind fun v298 =>
      (xsA xs nx (x3 + 2)).bind fun v299 =>
      (vO 11 a2 z297.2).bind fun g300 =>
      (X11_who a2 v298 v299 z297.2).bind fun z301 =>
      if z297.1 = z301.1 then
      L_law_L18 xs nx a1 a2 n (x3 + 8) z301.2
      else
      some (0, z301.2)
      else
      if (v2 &&& 31) = Int32.ofNat 28 then
      (xsA xs nx (x3 + 1)).bind fun v304 =>
      (xsA xs nx (x3 + 2)).bind fun v305 =>
      (xsA xs nx (x3 + 3)).bind fun v306 =>
      (xsA xs nx (x3 + 4)).bind fun v307 =>
      (vO 10 a1 μ).bind fun g308 =>
      (X10_tried a1 v304 v305 v306 v307 μ).bind fun z309 =>
      (xsA xs nx (x3 + 1)).bind fun v310 =>
      (xsA xs nx (x3 + 2)).bind fun v311 =>
      (xsA xs nx (x3 + 3)).bind fun v312 =>
      (xsA xs nx (x3 + 4)).bind fun v313 =>
      (vO 11 a2 z309.2).bind fun g314 =>
      (X11_tried a2 v310 v311 v312 v313 z309.2).bind fun z315 =>
      if z309.1 = z315.1 then
      L_law_L18 xs nx a1 a2 n (x3 + 8) z315.2
      else
      some (0, z315.2)
      else
      L_law_L18 xs nx a1 a2 n (x3 + 8) μ
def L_law (xs : Nat → Int32) (nx : Nat) (μ : Mem) : Option (Int32 × Mem) :=
  (nO 10 (mN μ + 0) μ).bind fun μ1 =>
  (gN (mN μ + 1) μ1).bind fun g2 =>
  (X10_init (mN μ + 0) μ1).bind fun μ3 =>
  (nO 11 (mN μ + 134) μ3).bind fun μ4 =>
  (gN (mN μ + 135) μ4).bind fun g5 =>
  (X11_init (mN μ + 134) μ4).bind fun μ6 =>
  L_law_L18 xs nx (mN μ + 0) (mN μ + 134) FU 0 μ6
end
section
/-! ===== the layout: 175 cells, their shapes, the references that stay ===== -/
def shp : List (Nat × Nat) := [(0, 10), (0, 9), (7, 4), (1, 4), (1, 4), (1, 4), (1, 4), (7, 4), (1, 4), (1, 4), (1, 4), (1, 4), (1, 4), (7, 4), (1, 61), (1, 61), (1, 61), (1, 61), (7, 9), (1, 4), (1, 4), (1, 4), (1, 4), (1, 4), (1, 4), (1, 4), (1, 4), (1, 4), (2, 4), (2, 4), (0, 8), (7, 4), (1, 4), (1, 4), (1, 4), (1, 4), (1, 4), (0, 0), (6, 10), (5, 40), (0, 6), (0, 6), (0, 6), (0, 6), (0, 6), (0, 6), (0, 6), (0, 6), (0, 6), (0, 6), (0, 5), (0, 5), (0, 5), (0, 5), (0, 5), (0, 5), (0, 5), (0, 5), (0, 5), (0, 5), (0, 5), (0, 5), (0, 5), (0, 5), (0, 5), (0, 5), (0, 5), (0, 5), (0, 5), (0, 5), (0, 5), (0, 5), (0, 5), (0, 5), (0, 5), (0, 5), (0, 5), (0, 5), (0, 5), (0, 5), (0, 5), (0, 5), (0, 5), (0, 5), (0, 5), (0, 5), (0, 5), (0, 5), (0, 5), (0, 5), (0, 2), (1, 160), (4, 4), (0, 1), (0, 4), (1, 6), (1, 6), (0, 1), (1, 6), (1, 64), (1, 64), (1, 64), (1, 4), (1, 384), (1, 384), (1, 4096), (1, 66), (0, 7), (1, 66), (0, 3), (1, 8), (1, 8), (1, 8), (1, 8), (0, 3), (1, 8), (1, 8), (1, 8), (1, 8), (0, 3), (1, 8), (1, 8), (1, 8), (1, 8), (0, 3), (1, 8), (1, 8), (1, 8), (1, 8), (0, 3), (1, 8), (1, 8), (1, 8), (1, 8), (0, 11), (1, 16), (1, 16), (1, 4), (1, 244), (2, 4), (2, 4), (1, 4), (1, 4), (1, 4), (1, 4), (1, 10), (1, 10), (1, 10), (1, 10), (1, 10), (1, 10), (1, 10), (1, 10), (3, 10), (1, 16), (1, 4), (1, 4), (1, 32), (1, 32), (1, 32), (1, 32), (1, 9), (1, 9), (1, 9), (1, 9), (1, 160), (1, 6), (1, 28672), (1, 384), (1, 384), (1, 40), (1, 40), (1, 40), (1, 40), (1, 40)]
def S0 (a : Nat) : Nat × Nat := shp.getD a (9, 0)
def R0 : Nat → Nat → Option Nat := fun a k => match a with
  | 2 => if k < 4 then some (3 + k) else none
  | 7 => if k < 4 then some (8 + k) else none
  | 13 => if k < 4 then some (14 + k) else none
  | 18 => if k < 9 then some (19 + k) else none
  | 31 => if k < 4 then some (32 + k) else none
  | 38 => if k < 10 then some (40 + k) else none
  | 39 => if k < 40 then some (50 + k) else none
  | 0 => [some 1, some 30, some 37, some 90, some 92, some 93, some 94, some 107, some 108, some 109, none].getD k none
  | 1 => [some 2, some 7, some 12, some 13, some 18, none, some 28, some 29].getD k none
  | 30 => [some 31, some 36].getD k none
  | 37 => [some 38, some 39, none, none].getD k none
  | 90 => [none, none, none, some 91, none].getD k none
  | 94 => [none, some 95, some 96, some 1, some 30, some 37, some 97, some 98, some 99, some 100, some 101, some 102, some 103, some 104, some 105, some 106, none, none, none].getD k none
  | 107 => [none, none, none, none, some 1, some 30, some 37, none].getD k none
  | 109 => [none, some 110, some 111, some 112, some 113].getD k none
  | 114 => [none, some 115, some 116, some 117, some 118].getD k none
  | 119 => [none, some 120, some 121, some 122, some 123].getD k none
  | 124 => [none, some 125, some 126, some 127, some 128].getD k none
  | 129 => [none, some 130, some 131, some 132, some 133].getD k none
  | 134 => [some 135, some 136, some 137, none, some 138, none, some 139, some 140, some 141, some 142, some 143, some 144, none, some 145, some 146, some 147, some 148, some 149, some 150, some 151, some 152, some 153, some 154, some 155, some 156, some 157, some 158, some 159, some 160, some 161, some 162, some 163, some 164, some 165, none, none, none, none, none, none, some 166, none, some 167, some 168, some 169, none, some 170, some 171, some 172, some 173, some 174].getD k none
  | _ => none
def dynR (a k : Nat) : Bool := (a == 1 && (k == 6 || k == 7)) || a == 92 || (a == 0 && k == 9)
def isLw (l : Nat) : Prop := l = 109 ∨ l = 114 ∨ l = 119 ∨ l = 124 ∨ l = 129
/-- the LAWS' cell of a person, the spare one -/
def lwA (μ : Mem) (p : Nat) : Nat := (mR μ 92 p).getD 0
def spA (μ : Mem) : Nat := (mR μ 0 9).getD 0
def wtA (μ : Mem) : Nat := (mR μ 1 6).getD 0
def wtB (μ : Mem) : Nat := (mR μ 1 7).getD 0
/-- the form of the memory behind the two constructors, kept by all calls -/
def Ok (μ : Mem) : Prop := mN μ = 175 ∧ mS μ = S0 ∧ (∀ a k, dynR a k = false → mR μ a k = R0 a k) ∧ (mR μ 1 6 = some (wtA μ) ∧ mR μ 1 7 = some (wtB μ) ∧ ((wtA μ = 28 ∧ wtB μ = 29) ∨ (wtA μ = 29 ∧ wtB μ = 28))) ∧ ((∀ p, p < 4 → mR μ 92 p = some (lwA μ p) ∧ isLw (lwA μ p)) ∧ mR μ 0 9 = some (spA μ) ∧ isLw (spA μ) ∧ (∀ p q, p < 4 → q < 4 → lwA μ p = lwA μ q → p = q) ∧ ∀ p, p < 4 → lwA μ p ≠ spA μ)
theorem mI_wI {μ : Mem} {a k : Nat} {v : Int32} {b j : Nat} : mI (wI μ a k v) b j = if b = a ∧ j = k then v else mI μ b j := rfl
theorem mJ_wJ {μ : Mem} {a k : Nat} {v : Int64} {b j : Nat} : mJ (wJ μ a k v) b j = if b = a ∧ j = k then v else mJ μ b j := rfl
theorem mR_wR {μ : Mem} {a k v : Nat} {b j : Nat} : mR (wR μ a k v) b j = if b = a ∧ j = k then some v else mR μ b j := rfl
theorem mI_wJ {μ : Mem} {a k : Nat} {v : Int64} : mI (wJ μ a k v) = mI μ := rfl
theorem mI_wR {μ : Mem} {a k v : Nat} : mI (wR μ a k v) = mI μ := rfl
theorem mJ_wI {μ : Mem} {a k : Nat} {v : Int32} : mJ (wI μ a k v) = mJ μ := rfl
theorem mJ_wR {μ : Mem} {a k v : Nat} : mJ (wR μ a k v) = mJ μ := rfl
theorem mR_wI {μ : Mem} {a k : Nat} {v : Int32} : mR (wI μ a k v) = mR μ := rfl
theorem mR_wJ {μ : Mem} {a k : Nat} {v : Int64} : mR (wJ μ a k v) = mR μ := rfl
theorem Ok.wI {μ : Mem} {a k : Nat} {v : Int32} (h : Ok μ) : Ok (wI μ a k v) := h
theorem Ok.wJ {μ : Mem} {a k : Nat} {v : Int64} (h : Ok μ) : Ok (wJ μ a k v) := h
theorem gI_eq {μ : Mem} {c k a : Nat} (h : Ok μ) (ha : a < 175) (hs : S0 a = (0, c)) : gI c k a μ = some (mI μ a k) := if_pos ⟨h.1 ▸ ha, by rw [h.2.1]; exact hs⟩
theorem gJ_eq {μ : Mem} {c k a : Nat} (h : Ok μ) (ha : a < 175) (hs : S0 a = (0, c)) : gJ c k a μ = some (mJ μ a k) := if_pos ⟨h.1 ▸ ha, by rw [h.2.1]; exact hs⟩
theorem gR_eq {μ : Mem} {c k a : Nat} (h : Ok μ) (ha : a < 175) (hs : S0 a = (0, c)) : gR c k a μ = mR μ a k := if_pos ⟨h.1 ▸ ha, by rw [h.2.1]; exact hs⟩
theorem gRS {μ : Mem} {c k a : Nat} (h : Ok μ) (ha : a < 175) (hs : S0 a = (0, c)) (hd : dynR a k = false) : gR c k a μ = R0 a k := (gR_eq h ha hs).trans (h.2.2.1 a k hd)
theorem vO_eq {μ : Mem} {c a : Nat} (h : Ok μ) (ha : a < 175) (hs : S0 a = (0, c)) : vO c a μ = some () := if_pos ⟨h.1 ▸ ha, by rw [h.2.1]; exact hs⟩
theorem pI_eq {μ : Mem} {c k a : Nat} {x : Int32} (h : Ok μ) (ha : a < 175) (hs : S0 a = (0, c)) : pI c k a x μ = some (wI μ a k x) := if_pos ⟨h.1 ▸ ha, by rw [h.2.1]; exact hs⟩
theorem pZ_eq {μ : Mem} {c k a : Nat} {x : Int32} (h : Ok μ) (ha : a < 175) (hs : S0 a = (0, c)) (hx : x = 0 ∨ x = 1) : pZ c k a x μ = some (wI μ a k x) := if_pos ⟨⟨h.1 ▸ ha, by rw [h.2.1]; exact hs⟩, hx⟩
theorem pJ_eq {μ : Mem} {c k a : Nat} {x : Int64} (h : Ok μ) (ha : a < 175) (hs : S0 a = (0, c)) : pJ c k a x μ = some (wJ μ a k x) := if_pos ⟨h.1 ▸ ha, by rw [h.2.1]; exact hs⟩
theorem pR_eq {μ : Mem} {c k a x : Nat} (h : Ok μ) (ha : a < 175) (hs : S0 a = (0, c)) : pR c k a x μ = some (wR μ a k x) := if_pos ⟨h.1 ▸ ha, by rw [h.2.1]; exact hs⟩
theorem ix_ok {i n : Nat} (hi : i < n) (hn : n < 2 ^ 31) : ¬ (nI i < 0 ∨ n ≤ (nI i).toNatClampNeg) := vp_in_nI hi hn
theorem aI_eq {μ : Mem} {a n i : Nat} (h : Ok μ) (ha : a < 175) (hs : S0 a = (1, n)) (hi : i < n) (hn : n < 2 ^ 31) : aI a (nI i) μ = some (mI μ a i) := by
  unfold aI
  rw [h.1, h.2.1, hs, if_pos ⟨ha, rfl, ix_ok hi hn⟩, nI_clamp (Nat.lt_trans hi hn)]
theorem aJ_eq {μ : Mem} {a n i : Nat} (h : Ok μ) (ha : a < 175) (hs : S0 a = (2, n)) (hi : i < n) (hn : n < 2 ^ 31) : aJ a (nI i) μ = some (mJ μ a i) := by
  unfold aJ
  rw [h.1, h.2.1, hs, if_pos ⟨ha, rfl, ix_ok hi hn⟩, nI_clamp (Nat.lt_trans hi hn)]
theorem aZ_eq {μ : Mem} {a n i : Nat} (h : Ok μ) (ha : a < 175) (hs : S0 a = (3, n)) (hi : i < n) (hn : n < 2 ^ 31) : aZ a (nI i) μ = some (mI μ a i) := by
  unfold aZ
  rw [h.1, h.2.1, hs, if_pos ⟨ha, rfl, ix_ok hi hn⟩, nI_clamp (Nat.lt_trans hi hn)]
theorem aR_eq {μ : Mem} {kd a n i : Nat} (h : Ok μ) (ha : a < 175) (hs : S0 a = (kd, n)) (hi : i < n) (hn : n < 2 ^ 31) : aR kd a (nI i) μ = mR μ a i := by
  unfold aR
  rw [h.1, h.2.1, hs, if_pos ⟨ha, rfl, ix_ok hi hn⟩, nI_clamp (Nat.lt_trans hi hn)]
theorem sI_eq {μ : Mem} {a n i : Nat} {x : Int32} (h : Ok μ) (ha : a < 175) (hs : S0 a = (1, n)) (hi : i < n) (hn : n < 2 ^ 31) : sI a (nI i) x μ = some (wI μ a i x) := by
  unfold sI
  rw [h.1, h.2.1, hs, if_pos ⟨ha, rfl, ix_ok hi hn⟩, nI_clamp (Nat.lt_trans hi hn)]
theorem sJ_eq {μ : Mem} {a n i : Nat} {x : Int64} (h : Ok μ) (ha : a < 175) (hs : S0 a = (2, n)) (hi : i < n) (hn : n < 2 ^ 31) : sJ a (nI i) x μ = some (wJ μ a i x) := by
  unfold sJ
  rw [h.1, h.2.1, hs, if_pos ⟨ha, rfl, ix_ok hi hn⟩, nI_clamp (Nat.lt_trans hi hn)]
theorem sZ_eq {μ : Mem} {a n i : Nat} {x : Int32} (h : Ok μ) (ha : a < 175) (hs : S0 a = (3, n)) (hi : i < n) (hn : n < 2 ^ 31) (hx : x = 0 ∨ x = 1) : sZ a (nI i) x μ = some (wI μ a i x) := by
  unfold sZ
  rw [h.1, h.2.1, hs, if_pos ⟨⟨ha, rfl, ix_ok hi hn⟩, hx⟩, nI_clamp (Nat.lt_trans hi hn)]
theorem aL_eq {μ : Mem} {kd a n : Nat} (h : Ok μ) (ha : a < 175) (hs : S0 a = (kd, n)) (hk : kd ≠ 0) (h7 : kd ≤ 7) : aL a μ = some (nI n) := by
  unfold aL
  rw [h.1, h.2.1, hs, if_pos ⟨ha, hk, h7⟩]
  rfl
theorem r_0_0 {μ : Mem} (h : Ok μ) : gR 10 0 0 μ = some 1 := gRS h (by decide) rfl rfl
theorem r_0_1 {μ : Mem} (h : Ok μ) : gR 10 1 0 μ = some 30 := gRS h (by decide) rfl rfl
theorem r_0_2 {μ : Mem} (h : Ok μ) : gR 10 2 0 μ = some 37 := gRS h (by decide) rfl rfl
theorem r_0_3 {μ : Mem} (h : Ok μ) : gR 10 3 0 μ = some 90 := gRS h (by decide) rfl rfl
theorem r_0_4 {μ : Mem} (h : Ok μ) : gR 10 4 0 μ = some 92 := gRS h (by decide) rfl rfl
theorem r_0_5 {μ : Mem} (h : Ok μ) : gR 10 5 0 μ = some 93 := gRS h (by decide) rfl rfl
theorem r_0_6 {μ : Mem} (h : Ok μ) : gR 10 6 0 μ = some 94 := gRS h (by decide) rfl rfl
theorem r_0_7 {μ : Mem} (h : Ok μ) : gR 10 7 0 μ = some 107 := gRS h (by decide) rfl rfl
theorem r_0_8 {μ : Mem} (h : Ok μ) : gR 10 8 0 μ = some 108 := gRS h (by decide) rfl rfl
theorem r_1_0 {μ : Mem} (h : Ok μ) : gR 9 0 1 μ = some 2 := gRS h (by decide) rfl rfl
theorem r_1_1 {μ : Mem} (h : Ok μ) : gR 9 1 1 μ = some 7 := gRS h (by decide) rfl rfl
theorem r_1_2 {μ : Mem} (h : Ok μ) : gR 9 2 1 μ = some 12 := gRS h (by decide) rfl rfl
theorem r_1_3 {μ : Mem} (h : Ok μ) : gR 9 3 1 μ = some 13 := gRS h (by decide) rfl rfl
theorem r_1_4 {μ : Mem} (h : Ok μ) : gR 9 4 1 μ = some 18 := gRS h (by decide) rfl rfl
theorem r_30_0 {μ : Mem} (h : Ok μ) : gR 8 0 30 μ = some 31 := gRS h (by decide) rfl rfl
theorem r_30_1 {μ : Mem} (h : Ok μ) : gR 8 1 30 μ = some 36 := gRS h (by decide) rfl rfl
theorem r_37_0 {μ : Mem} (h : Ok μ) : gR 0 0 37 μ = some 38 := gRS h (by decide) rfl rfl
theorem r_37_1 {μ : Mem} (h : Ok μ) : gR 0 1 37 μ = some 39 := gRS h (by decide) rfl rfl
theorem r_90_3 {μ : Mem} (h : Ok μ) : gR 2 3 90 μ = some 91 := gRS h (by decide) rfl rfl
theorem r_94_1 {μ : Mem} (h : Ok μ) : gR 4 1 94 μ = some 95 := gRS h (by decide) rfl rfl
theorem r_94_2 {μ : Mem} (h : Ok μ) : gR 4 2 94 μ = some 96 := gRS h (by decide) rfl rfl
theorem r_94_3 {μ : Mem} (h : Ok μ) : gR 4 3 94 μ = some 1 := gRS h (by decide) rfl rfl
theorem r_94_4 {μ : Mem} (h : Ok μ) : gR 4 4 94 μ = some 30 := gRS h (by decide) rfl rfl
theorem r_94_5 {μ : Mem} (h : Ok μ) : gR 4 5 94 μ = some 37 := gRS h (by decide) rfl rfl
theorem r_94_6 {μ : Mem} (h : Ok μ) : gR 4 6 94 μ = some 97 := gRS h (by decide) rfl rfl
theorem r_94_7 {μ : Mem} (h : Ok μ) : gR 4 7 94 μ = some 98 := gRS h (by decide) rfl rfl
theorem r_94_8 {μ : Mem} (h : Ok μ) : gR 4 8 94 μ = some 99 := gRS h (by decide) rfl rfl
theorem r_94_9 {μ : Mem} (h : Ok μ) : gR 4 9 94 μ = some 100 := gRS h (by decide) rfl rfl
theorem r_94_10 {μ : Mem} (h : Ok μ) : gR 4 10 94 μ = some 101 := gRS h (by decide) rfl rfl
theorem r_94_11 {μ : Mem} (h : Ok μ) : gR 4 11 94 μ = some 102 := gRS h (by decide) rfl rfl
theorem r_94_12 {μ : Mem} (h : Ok μ) : gR 4 12 94 μ = some 103 := gRS h (by decide) rfl rfl
theorem r_94_13 {μ : Mem} (h : Ok μ) : gR 4 13 94 μ = some 104 := gRS h (by decide) rfl rfl
theorem r_94_14 {μ : Mem} (h : Ok μ) : gR 4 14 94 μ = some 105 := gRS h (by decide) rfl rfl
theorem r_94_15 {μ : Mem} (h : Ok μ) : gR 4 15 94 μ = some 106 := gRS h (by decide) rfl rfl
theorem r_107_4 {μ : Mem} (h : Ok μ) : gR 7 4 107 μ = some 1 := gRS h (by decide) rfl rfl
theorem r_107_5 {μ : Mem} (h : Ok μ) : gR 7 5 107 μ = some 30 := gRS h (by decide) rfl rfl
theorem r_107_6 {μ : Mem} (h : Ok μ) : gR 7 6 107 μ = some 37 := gRS h (by decide) rfl rfl
theorem r_109_1 {μ : Mem} (h : Ok μ) : gR 3 1 109 μ = some 110 := gRS h (by decide) rfl rfl
theorem r_109_2 {μ : Mem} (h : Ok μ) : gR 3 2 109 μ = some 111 := gRS h (by decide) rfl rfl
theorem r_109_3 {μ : Mem} (h : Ok μ) : gR 3 3 109 μ = some 112 := gRS h (by decide) rfl rfl
theorem r_109_4 {μ : Mem} (h : Ok μ) : gR 3 4 109 μ = some 113 := gRS h (by decide) rfl rfl
theorem r_114_1 {μ : Mem} (h : Ok μ) : gR 3 1 114 μ = some 115 := gRS h (by decide) rfl rfl
theorem r_114_2 {μ : Mem} (h : Ok μ) : gR 3 2 114 μ = some 116 := gRS h (by decide) rfl rfl
theorem r_114_3 {μ : Mem} (h : Ok μ) : gR 3 3 114 μ = some 117 := gRS h (by decide) rfl rfl
theorem r_114_4 {μ : Mem} (h : Ok μ) : gR 3 4 114 μ = some 118 := gRS h (by decide) rfl rfl
theorem r_119_1 {μ : Mem} (h : Ok μ) : gR 3 1 119 μ = some 120 := gRS h (by decide) rfl rfl
theorem r_119_2 {μ : Mem} (h : Ok μ) : gR 3 2 119 μ = some 121 := gRS h (by decide) rfl rfl
theorem r_119_3 {μ : Mem} (h : Ok μ) : gR 3 3 119 μ = some 122 := gRS h (by decide) rfl rfl
theorem r_119_4 {μ : Mem} (h : Ok μ) : gR 3 4 119 μ = some 123 := gRS h (by decide) rfl rfl
theorem r_124_1 {μ : Mem} (h : Ok μ) : gR 3 1 124 μ = some 125 := gRS h (by decide) rfl rfl
theorem r_124_2 {μ : Mem} (h : Ok μ) : gR 3 2 124 μ = some 126 := gRS h (by decide) rfl rfl
theorem r_124_3 {μ : Mem} (h : Ok μ) : gR 3 3 124 μ = some 127 := gRS h (by decide) rfl rfl
theorem r_124_4 {μ : Mem} (h : Ok μ) : gR 3 4 124 μ = some 128 := gRS h (by decide) rfl rfl
theorem r_129_1 {μ : Mem} (h : Ok μ) : gR 3 1 129 μ = some 130 := gRS h (by decide) rfl rfl
theorem r_129_2 {μ : Mem} (h : Ok μ) : gR 3 2 129 μ = some 131 := gRS h (by decide) rfl rfl
theorem r_129_3 {μ : Mem} (h : Ok μ) : gR 3 3 129 μ = some 132 := gRS h (by decide) rfl rfl
theorem r_129_4 {μ : Mem} (h : Ok μ) : gR 3 4 129 μ = some 133 := gRS h (by decide) rfl rfl
theorem r_134_0 {μ : Mem} (h : Ok μ) : gR 11 0 134 μ = some 135 := gRS h (by decide) rfl rfl
theorem r_134_1 {μ : Mem} (h : Ok μ) : gR 11 1 134 μ = some 136 := gRS h (by decide) rfl rfl
theorem r_134_2 {μ : Mem} (h : Ok μ) : gR 11 2 134 μ = some 137 := gRS h (by decide) rfl rfl
theorem r_134_4 {μ : Mem} (h : Ok μ) : gR 11 4 134 μ = some 138 := gRS h (by decide) rfl rfl
theorem r_134_6 {μ : Mem} (h : Ok μ) : gR 11 6 134 μ = some 139 := gRS h (by decide) rfl rfl
theorem r_134_7 {μ : Mem} (h : Ok μ) : gR 11 7 134 μ = some 140 := gRS h (by decide) rfl rfl
theorem r_134_8 {μ : Mem} (h : Ok μ) : gR 11 8 134 μ = some 141 := gRS h (by decide) rfl rfl
theorem r_134_9 {μ : Mem} (h : Ok μ) : gR 11 9 134 μ = some 142 := gRS h (by decide) rfl rfl
theorem r_134_10 {μ : Mem} (h : Ok μ) : gR 11 10 134 μ = some 143 := gRS h (by decide) rfl rfl
theorem r_134_11 {μ : Mem} (h : Ok μ) : gR 11 11 134 μ = some 144 := gRS h (by decide) rfl rfl
theorem r_134_13 {μ : Mem} (h : Ok μ) : gR 11 13 134 μ = some 145 := gRS h (by decide) rfl rfl
theorem r_134_14 {μ : Mem} (h : Ok μ) : gR 11 14 134 μ = some 146 := gRS h (by decide) rfl rfl
theorem r_134_15 {μ : Mem} (h : Ok μ) : gR 11 15 134 μ = some 147 := gRS h (by decide) rfl rfl
theorem r_134_16 {μ : Mem} (h : Ok μ) : gR 11 16 134 μ = some 148 := gRS h (by decide) rfl rfl
theorem r_134_17 {μ : Mem} (h : Ok μ) : gR 11 17 134 μ = some 149 := gRS h (by decide) rfl rfl
theorem r_134_18 {μ : Mem} (h : Ok μ) : gR 11 18 134 μ = some 150 := gRS h (by decide) rfl rfl
theorem r_134_19 {μ : Mem} (h : Ok μ) : gR 11 19 134 μ = some 151 := gRS h (by decide) rfl rfl
theorem r_134_20 {μ : Mem} (h : Ok μ) : gR 11 20 134 μ = some 152 := gRS h (by decide) rfl rfl
theorem r_134_21 {μ : Mem} (h : Ok μ) : gR 11 21 134 μ = some 153 := gRS h (by decide) rfl rfl
theorem r_134_22 {μ : Mem} (h : Ok μ) : gR 11 22 134 μ = some 154 := gRS h (by decide) rfl rfl
theorem r_134_23 {μ : Mem} (h : Ok μ) : gR 11 23 134 μ = some 155 := gRS h (by decide) rfl rfl
theorem r_134_24 {μ : Mem} (h : Ok μ) : gR 11 24 134 μ = some 156 := gRS h (by decide) rfl rfl
theorem r_134_25 {μ : Mem} (h : Ok μ) : gR 11 25 134 μ = some 157 := gRS h (by decide) rfl rfl
theorem r_134_26 {μ : Mem} (h : Ok μ) : gR 11 26 134 μ = some 158 := gRS h (by decide) rfl rfl
theorem r_134_27 {μ : Mem} (h : Ok μ) : gR 11 27 134 μ = some 159 := gRS h (by decide) rfl rfl
theorem r_134_28 {μ : Mem} (h : Ok μ) : gR 11 28 134 μ = some 160 := gRS h (by decide) rfl rfl
theorem r_134_29 {μ : Mem} (h : Ok μ) : gR 11 29 134 μ = some 161 := gRS h (by decide) rfl rfl
theorem r_134_30 {μ : Mem} (h : Ok μ) : gR 11 30 134 μ = some 162 := gRS h (by decide) rfl rfl
theorem r_134_31 {μ : Mem} (h : Ok μ) : gR 11 31 134 μ = some 163 := gRS h (by decide) rfl rfl
theorem r_134_32 {μ : Mem} (h : Ok μ) : gR 11 32 134 μ = some 164 := gRS h (by decide) rfl rfl
theorem r_134_33 {μ : Mem} (h : Ok μ) : gR 11 33 134 μ = some 165 := gRS h (by decide) rfl rfl
theorem r_134_40 {μ : Mem} (h : Ok μ) : gR 11 40 134 μ = some 166 := gRS h (by decide) rfl rfl
theorem r_134_42 {μ : Mem} (h : Ok μ) : gR 11 42 134 μ = some 167 := gRS h (by decide) rfl rfl
theorem r_134_43 {μ : Mem} (h : Ok μ) : gR 11 43 134 μ = some 168 := gRS h (by decide) rfl rfl
theorem r_134_44 {μ : Mem} (h : Ok μ) : gR 11 44 134 μ = some 169 := gRS h (by decide) rfl rfl
theorem r_134_46 {μ : Mem} (h : Ok μ) : gR 11 46 134 μ = some 170 := gRS h (by decide) rfl rfl
theorem r_134_47 {μ : Mem} (h : Ok μ) : gR 11 47 134 μ = some 171 := gRS h (by decide) rfl rfl
theorem r_134_48 {μ : Mem} (h : Ok μ) : gR 11 48 134 μ = some 172 := gRS h (by decide) rfl rfl
theorem r_134_49 {μ : Mem} (h : Ok μ) : gR 11 49 134 μ = some 173 := gRS h (by decide) rfl rfl
theorem r_134_50 {μ : Mem} (h : Ok μ) : gR 11 50 134 μ = some 174 := gRS h (by decide) rfl rfl
theorem ar_next {μ : Mem} {i : Nat} (h : Ok μ) (hi : i < 4) : aR 7 2 (nI i) μ = some (3 + i) := (aR_eq h (by decide) rfl hi (by decide)).trans ((h.2.2.1 2 i rfl).trans (if_pos hi))
theorem s_next {i : Nat} (hi : i < 4) : S0 (3 + i) = (1, 4) := by
  revert i
  decide
theorem ar_shown {μ : Mem} {i : Nat} (h : Ok μ) (hi : i < 4) : aR 7 7 (nI i) μ = some (8 + i) := (aR_eq h (by decide) rfl hi (by decide)).trans ((h.2.2.1 7 i rfl).trans (if_pos hi))
theorem s_shown {i : Nat} (hi : i < 4) : S0 (8 + i) = (1, 4) := by
  revert i
  decide
theorem ar_signs {μ : Mem} {i : Nat} (h : Ok μ) (hi : i < 4) : aR 7 13 (nI i) μ = some (14 + i) := (aR_eq h (by decide) rfl hi (by decide)).trans ((h.2.2.1 13 i rfl).trans (if_pos hi))
theorem s_signs {i : Nat} (hi : i < 4) : S0 (14 + i) = (1, 61) := by
  revert i
  decide
theorem ar_ahead {μ : Mem} {i : Nat} (h : Ok μ) (hi : i < 9) : aR 7 18 (nI i) μ = some (19 + i) := (aR_eq h (by decide) rfl hi (by decide)).trans ((h.2.2.1 18 i rfl).trans (if_pos hi))
theorem s_ahead {i : Nat} (hi : i < 9) : S0 (19 + i) = (1, 4) := by
  revert i
  decide
theorem ar_costs {μ : Mem} {i : Nat} (h : Ok μ) (hi : i < 4) : aR 7 31 (nI i) μ = some (32 + i) := (aR_eq h (by decide) rfl hi (by decide)).trans ((h.2.2.1 31 i rfl).trans (if_pos hi))
theorem s_costs {i : Nat} (hi : i < 4) : S0 (32 + i) = (1, 4) := by
  revert i
  decide
theorem ar_things {μ : Mem} {i : Nat} (h : Ok μ) (hi : i < 10) : aR 6 38 (nI i) μ = some (40 + i) := (aR_eq h (by decide) rfl hi (by decide)).trans ((h.2.2.1 38 i rfl).trans (if_pos hi))
theorem s_things {i : Nat} (hi : i < 10) : S0 (40 + i) = (0, 6) := by
  revert i
  decide
theorem ar_sayings {μ : Mem} {i : Nat} (h : Ok μ) (hi : i < 40) : aR 5 39 (nI i) μ = some (50 + i) := (aR_eq h (by decide) rfl hi (by decide)).trans ((h.2.2.1 39 i rfl).trans (if_pos hi))
theorem s_sayings {i : Nat} (hi : i < 40) : S0 (50 + i) = (0, 5) := by
  revert i
  decide
theorem r_w6 {μ : Mem} (h : Ok μ) : gR 9 6 1 μ = some (wtA μ) := (gR_eq h (by decide) rfl).trans h.2.2.2.1.1
theorem r_w7 {μ : Mem} (h : Ok μ) : gR 9 7 1 μ = some (wtB μ) := (gR_eq h (by decide) rfl).trans h.2.2.2.1.2.1
theorem r_sp {μ : Mem} (h : Ok μ) : gR 10 9 0 μ = some (spA μ) := (gR_eq h (by decide) rfl).trans h.2.2.2.2.2.1
theorem ar_laws {μ : Mem} {p : Nat} (h : Ok μ) (hp : p < 4) : aR 4 92 (nI p) μ = some (lwA μ p) := (aR_eq h (by decide) rfl hp (by decide)).trans (h.2.2.2.2.1 p hp).1
theorem isLw.s0 {l : Nat} (h : isLw l) : S0 l = (0, 3) ∧ l < 129 + 1 ∧ S0 (l + 1) = (1, 8) ∧ S0 (l + 2) = (1, 8) ∧ S0 (l + 3) = (1, 8) ∧ S0 (l + 4) = (1, 8) ∧ (∀ k, dynR l k = false) ∧ R0 l 1 = some (l + 1) ∧ R0 l 2 = some (l + 2) ∧ R0 l 3 = some (l + 3) ∧ R0 l 4 = some (l + 4) := by
  rcases h with rfl | rfl | rfl | rfl | rfl <;> exact ⟨rfl, by decide, rfl, rfl, rfl, rfl, fun _ => rfl, rfl, rfl, rfl, rfl⟩
theorem r_l {μ : Mem} {l : Nat} (h : Ok μ) (hl : isLw l) : gR 3 1 l μ = some (l + 1) ∧ gR 3 2 l μ = some (l + 2) ∧ gR 3 3 l μ = some (l + 3) ∧ gR 3 4 l μ = some (l + 4) := by
  obtain ⟨h1, h2, -, -, -, -, hd, e1, e2, e3, e4⟩ := hl.s0
  exact ⟨(gRS h (by omega) h1 (hd 1)).trans e1, (gRS h (by omega) h1 (hd 2)).trans e2, (gRS h (by omega) h1 (hd 3)).trans e3, (gRS h (by omega) h1 (hd 4)).trans e4⟩
end
section
/-! ===== loops over a counter; numbers ===== -/
def itr {α : Type} (f : Nat → α → α) : Nat → Nat → α → α
  | _, 0, a => a
  | i, d + 1, a => itr f (i + 1) d (f i a)
theorem itr_succ {α : Type} (f : Nat → α → α) : ∀ (d i : Nat) (a : α), itr f i (d + 1) a = f (i + d) (itr f i d a)
  | 0, i, a => rfl
  | d + 1, i, a => by
    show itr f (i + 1) (d + 1) (f i a) = f (i + (d + 1)) (itr f (i + 1) d (f i a))
    rw [itr_succ f d (i + 1) (f i a), show i + 1 + d = i + (d + 1) by omega]
theorem itr_congr {α : Type} {f g : Nat → α → α} : ∀ (d i : Nat) (a : α), (∀ j x, i ≤ j → j < i + d → f j x = g j x) → itr f i d a = itr g i d a
  | 0, _, _, _ => rfl
  | d + 1, i, a, h => by
    show itr f (i + 1) d (f i a) = itr g (i + 1) d (g i a)
    rw [h i a (Nat.le_refl _) (by omega)]
    exact itr_congr d (i + 1) _ (fun j x h1 h2 => h j x (by omega) (by omega))
/-- a loop without a memory of its own: it runs f -/
theorem loopA {α β : Type} {F : Nat → α → Nat → Option β} {f : Nat → α → α} {n : Nat} (hs : ∀ k a i, i < n → F (k + 1) a i = F k (f i a) (i + 1)) : ∀ (d k : Nat) (a : α) (i : Nat), i + d = n → F (k + d) a i = F k (itr f i d a) n
  | 0, k, a, i, h => by
    have e : i = n := h
    subst e
    rfl
  | d + 1, k, a, i, h => by
    show F (k + d + 1) a i = _
    rw [hs (k + d) a i (by omega)]
    exact loopA hs d k (f i a) (i + 1) (by omega)
/-- a loop with an invariant -/
theorem loopP {α β : Type} {F : Nat → α → Nat → Option β} {P : Nat → α → Prop} {n : Nat} (hs : ∀ k a i, i < n → P i a → ∃ a', P (i + 1) a' ∧ F (k + 1) a i = F k a' (i + 1)) : ∀ (d k : Nat) (a : α) (i : Nat), i + d = n → P i a → ∃ a', P n a' ∧ F (k + d) a i = F k a' n
  | 0, k, a, i, h, p => by
    have e : i = n := h
    subst e
    exact ⟨a, p, rfl⟩
  | d + 1, k, a, i, h, p => by
    obtain ⟨a', p', e⟩ := hs (k + d) a i (by omega) p
    obtain ⟨b, q, e2⟩ := loopP hs d k a' (i + 1) (by omega) p'
    exact ⟨b, q, (show F (k + d + 1) a i = _ from e).trans e2⟩
theorem FU_ge (d : Nat) (h : d ≤ 100000) : FU = (100000 - d) + d := by
  unfold FU
  omega
theorem nI_add1 (i : Nat) : nI i + 1 = nI (i + 1) := nI_1 i
theorem n_le {a b : Nat} (ha : a < 2 ^ 31) (hb : b < 2 ^ 31) : (nI a ≤ nI b) = (a ≤ b) := propext (nI_leI ha hb)
theorem n_lt {a b : Nat} (ha : a < 2 ^ 31) (hb : b < 2 ^ 31) : (nI a < nI b) = (a < b) := propext (nI_ltI ha hb)
theorem n_eq {a b : Nat} (ha : a < 2 ^ 31) (hb : b < 2 ^ 31) : (nI a = nI b) = (a = b) := propext (nI_eq ha hb)
/-- a number within bounds that are not below 0 -/
theorem win {x : Int32} {n : Nat} (hn : n < 2 ^ 31) (h0 : ¬ x < 0) (h1 : ¬ nI n < x) : ∃ i, i ≤ n ∧ x = nI i := by
  obtain ⟨j, hj, rfl⟩ := nI_of h0
  rw [n_lt hn hj] at h1
  exact ⟨j, by omega, rfl⟩
end
section
/-! ===== what the promises speak of (core), and what is only written and read within a call ===== -/
def coA (a : Nat) : Bool := decide ((3 ≤ a ∧ a ≤ 6) ∨ (8 ≤ a ∧ a ≤ 12) ∨ (14 ≤ a ∧ a ≤ 17) ∨ (32 ≤ a ∧ a ≤ 36) ∨ (40 ≤ a ∧ a ≤ 89) ∨ a = 91 ∨ (109 ≤ a ∧ a ≤ 133) ∨ (135 ≤ a ∧ a ≤ 138) ∨ (145 ≤ a ∧ a ≤ 160) ∨ a = 165 ∨ (170 ≤ a ∧ a ≤ 174))
def coF (a k : Nat) : Bool := match a with
  | 0 => k == 10
  | 1 => k == 5
  | 37 => k == 2 || k == 3
  | 90 => k == 0 || k == 2
  | 134 => k == 3 || (k == 5 || (k == 12 || (k == 34 || (k == 35 || k == 45))))
  | _ => false
def cor (a k : Nat) : Bool := coA a || coF a k
/-- the same but for scratch -/
def Sm (μ μ' : Mem) : Prop := Ok μ' ∧ (∀ a k, cor a k = true → mI μ' a k = mI μ a k) ∧ mR μ' 92 = mR μ 92 ∧ mR μ' 0 9 = mR μ 0 9
theorem Sm.rf {μ : Mem} (h : Ok μ) : Sm μ μ := ⟨h, fun _ _ _ => rfl, rfl, rfl⟩
theorem Sm.tr {μ μ' μ'' : Mem} (h : Sm μ μ') (h2 : Sm μ' μ'') : Sm μ μ'' := ⟨h2.1, fun a k q => (h2.2.1 a k q).trans (h.2.1 a k q), h2.2.2.1.trans h.2.2.1, h2.2.2.2.trans h.2.2.2⟩
theorem Sm.wI {μ μ' : Mem} {a k : Nat} {v : Int32} (h : Sm μ μ') (hc : cor a k = false) : Sm μ (wI μ' a k v) := by
  refine ⟨h.1, fun b j q => ?_, h.2.2.1, h.2.2.2⟩
  rw [mI_wI, if_neg (fun e => by rw [e.1, e.2, hc] at q; cases q)]
  exact h.2.1 b j q
theorem Sm.wJ {μ μ' : Mem} {a k : Nat} {v : Int64} (h : Sm μ μ') : Sm μ (wJ μ' a k v) := h
/-- a row that is scratch as a whole -/
theorem cor_no {a k : Nat} (h : coA a = false) (h2 : ∀ k, coF a k = false) : cor a k = false := by
  unfold cor
  rw [h, h2]
  rfl
end
section
/-! ===== WORK: what both programs hold of it, and the odds in whole numbers ===== -/
def vN (x : Int32) : Nat := x.toNatClampNeg
theorem vN_nI {n : Nat} (h : n < 2 ^ 31) : vN (nI n) = n := nI_clamp h
def mv (μ : Mem) (i j : Nat) : Nat := vN (mI μ 135 (4 * i + j))
def sw (μ : Mem) (i s : Nat) : Nat := vN (mI μ 136 (4 * i + s))
def bg (μ : Mem) (i : Nat) : Nat := vN (mI μ 137 i)
def sg (μ : Mem) (p t : Nat) : Int32 := mI μ 138 (61 * p + t)
def nw (μ : Mem) : Nat := vN (mI μ 134 5)
def ss (μ : Mem) : Int32 := mI μ 134 3
def RW1 (μ : Mem) : Prop := ∀ i j, i < 4 → j < 4 → mI μ (3 + i) j = nI (mv μ i j) ∧ mI μ 135 (4 * i + j) = nI (mv μ i j) ∧ mv μ i j ≤ 4
def RW2 (μ : Mem) : Prop := ∀ i j, i < 4 → j < 4 → mI μ (8 + i) j = nI (sw μ i j) ∧ mI μ 136 (4 * i + j) = nI (sw μ i j) ∧ sw μ i j ≤ 4
def RW3 (μ : Mem) : Prop := ∀ i, i < 4 → mI μ 12 i = nI (bg μ i) ∧ mI μ 137 i = nI (bg μ i) ∧ bg μ i ≤ 4
def RW4 (μ : Mem) : Prop := mI μ 1 5 = ss μ ∧ ∃ n, n ≤ 15 ∧ ss μ = nI n
def RW5 (μ : Mem) : Prop := ∀ p t, p < 4 → t < 61 → mI μ (14 + p) t = sg μ p t ∧ (sg μ p t = -1 ∨ ∃ s, s < 4 ∧ sg μ p t = nI s)
def RW6 (μ : Mem) : Prop := mI μ 0 10 = nI (nw μ) ∧ mI μ 134 5 = nI (nw μ) ∧ nw μ ≤ 60
def RelW (μ : Mem) : Prop := RW1 μ ∧ RW2 μ ∧ RW3 μ ∧ RW4 μ ∧ RW5 μ ∧ RW6 μ
theorem Sm.row {μ μ' : Mem} {a : Nat} (h : Sm μ μ') (ha : coA a = true) : mI μ' a = mI μ a := funext fun k => h.2.1 a k (by unfold cor; rw [ha]; rfl)
theorem Sm.fld {μ μ' : Mem} {a k : Nat} (h : Sm μ μ') (ha : coF a k = true) : mI μ' a k = mI μ a k := h.2.1 a k (by unfold cor; rw [ha]; exact Bool.or_true _)
theorem mv_sm {μ μ' : Mem} (h : Sm μ μ') : mv μ' = mv μ := by
  funext i j
  unfold mv
  rw [h.row rfl]
theorem sw_sm {μ μ' : Mem} (h : Sm μ μ') : sw μ' = sw μ := by
  funext i j
  unfold sw
  rw [h.row rfl]
theorem bg_sm {μ μ' : Mem} (h : Sm μ μ') : bg μ' = bg μ := by
  funext i
  unfold bg
  rw [h.row rfl]
theorem sg_sm {μ μ' : Mem} (h : Sm μ μ') : sg μ' = sg μ := by
  funext i j
  unfold sg
  rw [h.row rfl]
theorem nw_sm {μ μ' : Mem} (h : Sm μ μ') : nw μ' = nw μ := by
  unfold nw
  rw [h.fld rfl]
theorem ss_sm {μ μ' : Mem} (h : Sm μ μ') : ss μ' = ss μ := by
  unfold ss
  rw [h.fld rfl]
theorem coA_4 {b i : Nat} (hb : b = 3 ∨ b = 8 ∨ b = 14 ∨ b = 32) (hi : i < 4) : coA (b + i) = true := by
  unfold coA
  rw [decide_eq_true_eq]
  omega
theorem RelW.sm {μ μ' : Mem} (h : RelW μ) (s : Sm μ μ') : RelW μ' := by
  obtain ⟨h1, h2, h3, h4, h5, h6⟩ := h
  refine ⟨fun i j hi hj => ?_, fun i j hi hj => ?_, fun i hi => ?_, ?_, fun p t hp ht => ?_, ?_⟩
  · rw [s.row (coA_4 (by omega) hi), s.row (a := 135) rfl, mv_sm s]
    exact h1 i j hi hj
  · rw [s.row (coA_4 (by omega) hi), s.row (a := 136) rfl, sw_sm s]
    exact h2 i j hi hj
  · rw [s.row (a := 12) rfl, s.row (a := 137) rfl, bg_sm s]
    exact h3 i hi
  · unfold RW4
    rw [s.fld (a := 1) (k := 5) rfl, ss_sm s]
    exact h4
  · rw [s.row (coA_4 (by omega) hp), sg_sm s]
    exact h5 p t hp ht
  · unfold RW6
    rw [s.fld (a := 0) (k := 10) rfl, s.fld (a := 134) (k := 5) rfl, nw_sm s]
    exact h6
/-- how often, or (counting) whether at all -/
def fac (c : Bool) (x : Nat) : Nat := if c = true ∧ 0 < x then 1 else x
def psi (μ : Mem) (c : Bool) (i : Nat) (s : Int32) : Nat := if s < 0 then 1 else fac c (sw μ i (vN s))
def wN (μ : Mem) (c : Bool) (p st : Nat) : Nat → Nat → Nat
  | 0, i => fac c (bg μ i) * psi μ c i (sg μ p st)
  | d + 1, j => (wN μ c p st d 0 * fac c (mv μ 0 j) + wN μ c p st d 1 * fac c (mv μ 1 j) + wN μ c p st d 2 * fac c (mv μ 2 j) + wN μ c p st d 3 * fac c (mv μ 3 j)) * psi μ c j (sg μ p (st + d + 1))
def wgt (μ : Mem) (c : Bool) (p t i : Nat) : Nat := wN μ c p (t - 6) (t - (t - 6)) i
theorem psi_sm {μ μ' : Mem} (h : Sm μ μ') : psi μ' = psi μ := by
  funext c i s
  unfold psi
  rw [sw_sm h]
theorem wN_sm {μ μ' : Mem} (h : Sm μ μ') (c : Bool) (p st : Nat) : ∀ d i, wN μ' c p st d i = wN μ c p st d i
  | 0, i => by
    unfold wN
    rw [bg_sm h, psi_sm h, sg_sm h]
  | d + 1, j => by
    unfold wN
    rw [wN_sm h c p st d 0, wN_sm h c p st d 1, wN_sm h c p st d 2, wN_sm h c p st d 3, mv_sm h, psi_sm h, sg_sm h]
theorem wgt_sm {μ μ' : Mem} (h : Sm μ μ') : wgt μ' = wgt μ := by
  funext c p t i
  exact wN_sm h c p _ _ i
def cI (c : Bool) : Int32 := if c = true then 1 else 0
theorem factor_eq {m : Nat} {c : Bool} (hm : m < 2 ^ 31) : X9_factor (nI m) (cI c) = lN (fac c m) := by
  unfold X9_factor fac cI
  cases c
  · simp [nI_l hm]
  · by_cases h : 0 < m
    · rw [if_neg (by decide), if_neg (fun q => by rw [← nI_0, n_le hm (by decide)] at q; omega), if_pos ⟨rfl, h⟩]
      rfl
    · have : m = 0 := by omega
      subst this
      rfl
theorem fac_le {c : Bool} {x n : Nat} (h : x ≤ n) : fac c x ≤ n := by
  unfold fac
  split
  · omega
  · exact h
theorem signF {μ : Mem} {c : Bool} {i : Nat} {s : Int32} (h : Ok μ) (R : RW2 μ) (hi : i < 4) (hs : s = -1 ∨ ∃ k, k < 4 ∧ s = nI k) : X9_signFactor 1 (nI i) s (cI c) μ = some (lN (psi μ c i s)) := by
  unfold X9_signFactor psi
  rcases hs with rfl | ⟨k, hk, rfl⟩
  · rw [if_pos (by decide), if_pos (by decide)]
    rfl
  · have h0 : ¬ nI k < 0 := nI_pos (by omega)
    rw [if_neg h0, if_pos (by rw [show (4 : Int32) = nI 4 from rfl, n_lt (by omega) (by decide)]; exact hk), if_neg h0, r_1_1 h, Option.bind_some, ar_shown h hi, Option.bind_some, aI_eq h (by omega) (s_shown hi) hk (by decide), Option.bind_some, Option.bind_some, (R i k hi hk).1, vN_nI (by omega), factor_eq (by have := (R i k hi hk).2.2; omega)]
end
section
/-! ===== the class's weights ===== -/
def HJ (μ : Mem) (a n : Nat) (f : Nat → Nat) : Prop := ∀ i, i < n → mJ μ a i = lN (f i)
theorem wt_s {μ : Mem} (h : Ok μ) : S0 (wtA μ) = (2, 4) ∧ S0 (wtB μ) = (2, 4) ∧ wtA μ < 175 ∧ wtB μ < 175 ∧ wtA μ ≠ wtB μ := by
  rcases h.2.2.2.1.2.2 with ⟨a, b⟩ | ⟨a, b⟩ <;> rw [a, b] <;> exact ⟨rfl, rfl, by decide, by decide, by decide⟩
theorem HJ.put {μ : Mem} {a n : Nat} {f : Nat → Nat} {v : Int64} (h : HJ μ a n f) (hv : v = lN (f n)) : HJ (wJ μ a n v) a (n + 1) f := by
  intro i hi
  rw [mJ_wJ]
  by_cases e : i = n
  · subst e
    rw [if_pos ⟨rfl, rfl⟩, hv]
  · rw [if_neg (fun q => e q.2)]
    exact h i (by omega)
theorem HJ.oth {μ : Mem} {a b n k : Nat} {f : Nat → Nat} {v : Int64} (h : HJ μ a n f) (hb : a ≠ b) : HJ (wJ μ b k v) a n f := by
  intro i hi
  rw [mJ_wJ, if_neg (fun q => hb q.1)]
  exact h i hi
theorem weigh19 {μ : Mem} (h : Ok μ) (R : RelW μ) {p st : Nat} (hp : p < 4) (hst : st < 61) (c : Bool) (x2 : Int32) (k : Nat) : ∃ μ', (Sm μ μ' ∧ wtA μ' = wtA μ ∧ wtB μ' = wtB μ ∧ HJ μ' (wtA μ) 4 (wN μ c p st 0)) ∧ X9_weigh_L19 1 (nI p) x2 (cI c) (nI st) (k + 1 + 4) 0 μ = some (nI 4, μ') := by
  have key := loopP (F := fun k (a : Mem) i => X9_weigh_L19 1 (nI p) x2 (cI c) (nI st) k (nI i) a) (P := fun i a => Sm μ a ∧ wtA a = wtA μ ∧ wtB a = wtB μ ∧ HJ a (wtA μ) i (wN μ c p st 0)) (n := 4) (fun k a i hi P => by
    obtain ⟨s, ea, eb, hj⟩ := P
    have ha := s.1
    have Ra := R.sm s
    have w := wt_s ha
    have e1 := aI_eq (a := 12) ha (by decide) rfl hi (by decide)
    have e2 := aI_eq ha (by omega) (s_signs hp) hst (by decide)
    have e3 := signF (c := c) ha Ra.2.1 hi (Ra.2.2.2.2.1 p st hp hst).2
    refine ⟨wJ a (wtA a) i (X9_factor (mI a 12 i) (cI c) * lN (psi a c i (sg a p st))), ⟨s.wJ, ea, eb, ?_⟩, ?_⟩
    rotate_left 1
    · show X9_weigh_L19 1 (nI p) x2 (cI c) (nI st) (k + 1) (nI i) a = _
      rw [X9_weigh_L19, if_neg (by rw [show (4 : Int32) = nI 4 from rfl, n_le (by decide) (by omega)]; omega)]
      simp only [r_w6 ha, r_1_2 ha, r_1_3 ha, ar_signs ha hp, vO_eq (c := 9) (a := 1) ha (by decide) rfl, e1, e2, (Ra.2.2.2.2.1 p st hp hst).1, e3, Option.bind_some, sJ_eq ha w.2.2.1 w.1 hi (by decide), nI_add1]
    · rw [ea]
      refine hj.put ?_
      rw [(Ra.2.2.1 i hi).1, factor_eq (by have := (Ra.2.2.1 i hi).2.2; omega), lN_mul, bg_sm s, psi_sm s, sg_sm s]
      rfl) 4 (k + 1) μ 0 rfl ⟨Sm.rf h, rfl, rfl, fun i hi => absurd hi (Nat.not_lt_zero i)⟩
  obtain ⟨μ', P, e⟩ := key
  refine ⟨μ', P, ?_⟩
  rw [← nI_0]
  refine e.trans ?_
  show X9_weigh_L19 1 (nI p) x2 (cI c) (nI st) (k + 1) (nI 4) μ' = _
  rw [X9_weigh_L19, if_pos (by decide)]
end
section
theorem lN_0 : lN 0 = 0 := rfl
theorem weigh93 {μ : Mem} (h : Ok μ) (R : RelW μ) {j : Nat} (hj : j < 4) {f : Nat → Nat} (hf : HJ μ (wtA μ) 4 f) (c : Bool) (x1 x2 x5 : Int32) (k : Nat) : X9_weigh_L93 1 x1 x2 (cI c) x5 (nI j) μ (k + 1 + 4) 0 0 = some (lN (f 0 * fac c (mv μ 0 j) + f 1 * fac c (mv μ 1 j) + f 2 * fac c (mv μ 2 j) + f 3 * fac c (mv μ 3 j)), nI 4) := by
  have key := loopA (F := fun k (a : Int64) i => X9_weigh_L93 1 x1 x2 (cI c) x5 (nI j) μ k a (nI i)) (f := fun i a => a + lN (f i * fac c (mv μ i j))) (n := 4) (fun k a i hi => by
    have w := wt_s h
    show X9_weigh_L93 1 x1 x2 (cI c) x5 (nI j) μ (k + 1) a (nI i) = _
    rw [X9_weigh_L93, if_neg (by rw [show (4 : Int32) = nI 4 from rfl, n_le (by decide) (by omega)]; omega)]
    simp only [r_w6 h, aJ_eq h w.2.2.1 w.1 hi (by decide), hf i hi, r_1_0 h, ar_next h hi, aI_eq h (by omega) (s_next hi) hj (by decide), (R.1 i j hi hj).1, Option.bind_some, factor_eq (show mv μ i j < 2 ^ 31 by have := (R.1 i j hi hj).2.2; omega), lN_mul, nI_add1]) 4 (k + 1) 0 0 rfl
  rw [show X9_weigh_L93 1 x1 x2 (cI c) x5 (nI j) μ (k + 1 + 4) 0 0 = X9_weigh_L93 1 x1 x2 (cI c) x5 (nI j) μ (k + 1 + 4) 0 (nI 0) from rfl]
  refine key.trans ?_
  show X9_weigh_L93 1 x1 x2 (cI c) x5 (nI j) μ (k + 1) _ (nI 4) = _
  rw [X9_weigh_L93, if_pos (by decide)]
  simp only [itr, ← lN_0, lN_add, Nat.zero_add]
theorem weigh81 {μ : Mem} (h : Ok μ) (R : RelW μ) {p u : Nat} (hp : p < 4) (hu : u < 61) {f : Nat → Nat} (hf : HJ μ (wtA μ) 4 f) (c : Bool) (x2 : Int32) (k : Nat) : ∃ μ', (Sm μ μ' ∧ wtA μ' = wtA μ ∧ wtB μ' = wtB μ ∧ HJ μ' (wtB μ) 4 (fun j => (f 0 * fac c (mv μ 0 j) + f 1 * fac c (mv μ 1 j) + f 2 * fac c (mv μ 2 j) + f 3 * fac c (mv μ 3 j)) * psi μ c j (sg μ p u))) ∧ X9_weigh_L81 1 (nI p) x2 (cI c) (nI u) (k + 1 + 4) 0 μ = some (nI 4, μ') := by
  have key := loopP (F := fun k (a : Mem) i => X9_weigh_L81 1 (nI p) x2 (cI c) (nI u) k (nI i) a) (P := fun i a => Sm μ a ∧ wtA a = wtA μ ∧ wtB a = wtB μ ∧ HJ a (wtA μ) 4 f ∧ HJ a (wtB μ) i (fun j => (f 0 * fac c (mv μ 0 j) + f 1 * fac c (mv μ 1 j) + f 2 * fac c (mv μ 2 j) + f 3 * fac c (mv μ 3 j)) * psi μ c j (sg μ p u))) (n := 4) (fun k a i hi P => by
    obtain ⟨s, ea, eb, hfa, hj⟩ := P
    have ha := s.1
    have Ra := R.sm s
    have w := wt_s ha
    have e2 := aI_eq ha (by omega) (s_signs hp) hu (by decide)
    have e3 := signF (c := c) ha Ra.2.1 hi (Ra.2.2.2.2.1 p u hp hu).2
    have e4 := weigh93 ha Ra hi (f := f) (by rw [ea]; exact hfa) c (nI p) x2 (nI u) 99995
    refine ⟨wJ a (wtB a) i (lN (f 0 * fac c (mv a 0 i) + f 1 * fac c (mv a 1 i) + f 2 * fac c (mv a 2 i) + f 3 * fac c (mv a 3 i)) * lN (psi a c i (sg a p u))), ⟨s.wJ, ea, eb, ?_, ?_⟩, ?_⟩
    rotate_left 2
    · show X9_weigh_L81 1 (nI p) x2 (cI c) (nI u) (k + 1) (nI i) a = _
      rw [X9_weigh_L81, if_neg (by rw [show (4 : Int32) = nI 4 from rfl, n_le (by decide) (by omega)]; omega), show FU = 99995 + 1 + 4 from rfl]
      simp only [e4, r_w7 ha, r_1_3 ha, ar_signs ha hp, vO_eq (c := 9) (a := 1) ha (by decide) rfl, e2, (Ra.2.2.2.2.1 p u hp hu).1, e3, Option.bind_some, sJ_eq ha w.2.2.2.1 w.2.1 hi (by decide), nI_add1]
    · rw [eb]
      exact hfa.oth (by rw [← ea, ← eb]; exact w.2.2.2.2)
    · rw [eb]
      refine hj.put ?_
      rw [lN_mul, mv_sm s, psi_sm s, sg_sm s]) 4 (k + 1) μ 0 rfl ⟨Sm.rf h, rfl, rfl, hf, fun i hi => absurd hi (Nat.not_lt_zero i)⟩
  obtain ⟨μ', P, e⟩ := key
  refine ⟨μ', ⟨P.1, P.2.1, P.2.2.1, P.2.2.2.2⟩, ?_⟩
  rw [← nI_0]
  refine e.trans ?_
  show X9_weigh_L81 1 (nI p) x2 (cI c) (nI u) (k + 1) (nI 4) μ' = _
  rw [X9_weigh_L81, if_pos (by decide)]
/-- the two rows of weights change places -/
def swp (μ : Mem) : Mem := wR (wR μ 1 6 (wtB μ)) 1 7 (wtA μ)
theorem swp_R {μ : Mem} {a k : Nat} (hd : ¬ (a = 1 ∧ (k = 6 ∨ k = 7))) : mR (swp μ) a k = mR μ a k := by
  unfold swp
  rw [mR_wR, if_neg (fun q => hd ⟨q.1, Or.inr q.2⟩), mR_wR, if_neg (fun q => hd ⟨q.1, Or.inl q.2⟩)]
theorem swp_6 {μ : Mem} : mR (swp μ) 1 6 = some (wtB μ) := rfl
theorem swp_7 {μ : Mem} : mR (swp μ) 1 7 = some (wtA μ) := rfl
theorem Ok.swp {μ : Mem} (h : Ok μ) : Ok (swp μ) := by
  obtain ⟨h1, h2, h3, ⟨h4, h5, h6⟩, h7⟩ := h
  refine ⟨h1, h2, fun a k hd => ?_, ⟨rfl, rfl, ?_⟩, ?_⟩
  · rw [swp_R (fun q => ?_)]
    · exact h3 a k hd
    · obtain ⟨rfl, rfl | rfl⟩ := q <;> cases hd
  · show (wtB μ = 28 ∧ wtA μ = 29) ∨ (wtB μ = 29 ∧ wtA μ = 28)
    omega
  · exact h7
theorem Sm.swp {μ μ' : Mem} (h : Sm μ μ') : Sm μ (swp μ') := ⟨h.1.swp, h.2.1, h.2.2.1, h.2.2.2⟩
theorem weigh72 {μ : Mem} (h : Ok μ) (R : RelW μ) {p st D : Nat} (hp : p < 4) (ht : st + D < 61) (c : Bool) (hf : HJ μ (wtA μ) 4 (wN μ c p st 0)) (k : Nat) : ∃ μ', (Sm μ μ' ∧ HJ μ' (wtA μ') 4 (wN μ c p st D)) ∧ X9_weigh_L72 1 (nI p) (nI (st + D)) (cI c) (k + 1 + D) (nI (st + 1)) μ = some (nI (st + 1 + D), μ') := by
  have key := loopP (F := fun k (a : Mem) d => X9_weigh_L72 1 (nI p) (nI (st + D)) (cI c) k (nI (st + 1 + d)) a) (P := fun d a => Sm μ a ∧ HJ a (wtA a) 4 (wN μ c p st d)) (n := D) (fun k a d hd P => by
    obtain ⟨s, hj⟩ := P
    have ha := s.1
    have Ra := R.sm s
    obtain ⟨b, ⟨sb, eA, eB, hb⟩, e⟩ := weigh81 ha Ra hp (u := st + 1 + d) (by omega) hj c (nI (st + D)) 99995
    refine ⟨swp b, ⟨(s.tr sb).swp, ?_⟩, ?_⟩
    · show HJ b (wtB b) 4 _
      rw [eB]
      intro i hi
      rw [hb i hi, mv_sm s, psi_sm s, sg_sm s, show st + 1 + d = st + d + 1 by omega]
      rfl
    · show X9_weigh_L72 1 (nI p) (nI (st + D)) (cI c) (k + 1) (nI (st + 1 + d)) a = _
      have hb1 := sb.1
      have hb2 : Ok (wR b 1 6 (wtB b)) → True := fun _ => trivial
      rw [X9_weigh_L72, if_neg (by rw [n_lt (by omega) (by omega)]; omega), show FU = 99995 + 1 + 4 from rfl]
      have p1 : pR 9 6 1 (wtB b) b = some (wR b 1 6 (wtB b)) := pR_eq hb1 (by decide) rfl
      have p2 : pR 9 7 1 (wtA b) (wR b 1 6 (wtB b)) = some (swp b) := if_pos ⟨hb1.1 ▸ (by decide), by show mS b 1 = _; rw [hb1.2.1]; rfl⟩
      simp only [e, Option.bind_some, r_w6 hb1, r_w7 hb1, p1, p2, nI_add1]
      rfl) D (k + 1) μ 0 (by omega) ⟨Sm.rf h, hf⟩
  obtain ⟨μ', P, e⟩ := key
  refine ⟨μ', P, ?_⟩
  refine e.trans ?_
  show X9_weigh_L72 1 (nI p) (nI (st + D)) (cI c) (k + 1) (nI (st + 1 + D)) μ' = _
  rw [X9_weigh_L72, if_pos (by rw [n_lt (by omega) (by omega)]; omega)]
theorem weigh_ok {μ : Mem} (h : Ok μ) (R : RelW μ) {p t : Nat} (hp : p < 4) (ht : t < 61) (c : Bool) : ∃ μ', (Sm μ μ' ∧ HJ μ' (wtA μ') 4 (wgt μ c p t)) ∧ X9_weigh 1 (nI p) (nI t) (cI c) μ = some μ' := by
  obtain ⟨a, ⟨sa, ea, eb, hja⟩, e1⟩ := weigh19 h R hp (st := t - 6) (by omega) c (nI t) 99995
  obtain ⟨b, ⟨sb, hjb⟩, e2⟩ := weigh72 sa.1 (R.sm sa) hp (st := t - 6) (D := t - (t - 6)) (by omega) c (by rw [ea]; intro i hi; rw [hja i hi, wN_sm sa]) (99999 - (t - (t - 6)))
  refine ⟨b, ⟨sa.tr sb, fun i hi => ?_⟩, ?_⟩
  · rw [hjb i hi, wN_sm sa]
    rfl
  · rw [show t - 6 + (t - (t - 6)) = t by omega, show 99999 - (t - (t - 6)) + 1 + (t - (t - 6)) = FU by unfold FU; omega] at e2
    have e0 : (if nI t ≤ 6 then 0 else nI t - 6 : Int32) = nI (t - 6) := by
      by_cases q : t ≤ 6
      · rw [if_pos (by rw [show (6 : Int32) = nI 6 from rfl, n_le (by omega) (by decide)]; exact q), show t - 6 = 0 by omega]
        rfl
      · rw [if_neg (by rw [show (6 : Int32) = nI 6 from rfl, n_le (by omega) (by decide)]; exact q), show (6 : Int32) = nI 6 from rfl, pk_sub (by omega)]
    rw [show 99995 + 1 + 4 = FU from rfl] at e1
    unfold X9_weigh
    simp only [e0, Option.bind_some, e1, nI_add1, e2]
end
section
/-! ===== the odds ===== -/
theorem fac_1 {x : Nat} : fac true x ≤ 1 := by
  unfold fac
  split
  · exact Nat.le_refl _
  · rename_i h
    have : ¬ 0 < x := fun q => h ⟨rfl, q⟩
    omega
theorem psi_le {μ : Mem} (R : RelW μ) {c : Bool} {i p t : Nat} (hi : i < 4) (hp : p < 4) (ht : t < 61) : psi μ c i (sg μ p t) ≤ 4 := by
  unfold psi
  rcases (R.2.2.2.2.1 p t hp ht).2 with e | ⟨s, hs, e⟩
  · rw [e, if_pos (by decide)]
    decide
  · rw [e, if_neg (nI_pos (by omega)), vN_nI (by omega)]
    exact fac_le (R.2.1 i s hi hs).2.2
theorem psi_1 {μ : Mem} {i : Nat} {s : Int32} : psi μ true i s ≤ 1 := by
  unfold psi
  split
  · exact Nat.le_refl _
  · exact fac_1
theorem wN_le {μ : Mem} (R : RelW μ) {c : Bool} {p st : Nat} (hp : p < 4) : ∀ d i, i < 4 → st + d < 61 → wN μ c p st d i ≤ 16 * 64 ^ d
  | 0, i, hi, hs => by
    unfold wN
    exact Nat.le_trans (Nat.mul_le_mul (fac_le (R.2.2.1 i hi).2.2) (psi_le R hi hp (by omega))) (by decide : 4 * 4 ≤ 16 * 64 ^ 0)
  | d + 1, j, hj, hs => by
    unfold wN
    have h0 := Nat.mul_le_mul (wN_le R (c := c) (st := st) hp d 0 (by decide) (by omega)) (fac_le (c := c) (R.1 0 j (by decide) hj).2.2)
    have h1 := Nat.mul_le_mul (wN_le R (c := c) (st := st) hp d 1 (by decide) (by omega)) (fac_le (c := c) (R.1 1 j (by decide) hj).2.2)
    have h2 := Nat.mul_le_mul (wN_le R (c := c) (st := st) hp d 2 (by decide) (by omega)) (fac_le (c := c) (R.1 2 j (by decide) hj).2.2)
    have h3 := Nat.mul_le_mul (wN_le R (c := c) (st := st) hp d 3 (by decide) (by omega)) (fac_le (c := c) (R.1 3 j (by decide) hj).2.2)
    have h4 := psi_le R (c := c) hj hp (t := st + d + 1) (by omega)
    rw [Nat.pow_succ]
    generalize 64 ^ d = q at h0 h1 h2 h3 ⊢
    refine Nat.le_trans (Nat.mul_le_mul (Nat.add_le_add (Nat.add_le_add (Nat.add_le_add h0 h1) h2) h3) h4) ?_
    omega
theorem wN_cle {μ : Mem} {p st : Nat} : ∀ d i, wN μ true p st d i ≤ 4 ^ d
  | 0, i => by
    unfold wN
    exact Nat.mul_le_mul fac_1 psi_1
  | d + 1, j => by
    unfold wN
    have h0 := Nat.mul_le_mul (wN_cle (μ := μ) (p := p) (st := st) d 0) (fac_1 (x := mv μ 0 j))
    have h1 := Nat.mul_le_mul (wN_cle (μ := μ) (p := p) (st := st) d 1) (fac_1 (x := mv μ 1 j))
    have h2 := Nat.mul_le_mul (wN_cle (μ := μ) (p := p) (st := st) d 2) (fac_1 (x := mv μ 2 j))
    have h3 := Nat.mul_le_mul (wN_cle (μ := μ) (p := p) (st := st) d 3) (fac_1 (x := mv μ 3 j))
    have h4 := psi_1 (μ := μ) (i := j) (s := sg μ p (st + d + 1))
    rw [Nat.pow_succ]
    generalize 4 ^ d = q at h0 h1 h2 h3 ⊢
    refine Nat.le_trans (Nat.mul_le_mul (Nat.add_le_add (Nat.add_le_add (Nat.add_le_add h0 h1) h2) h3) h4) ?_
    omega
theorem wgt_le {μ : Mem} (R : RelW μ) {c : Bool} {p t i : Nat} (hp : p < 4) (ht : t < 61) (hi : i < 4) : wgt μ c p t i ≤ 16 * 64 ^ 6 := by
  refine Nat.le_trans (wN_le R hp _ i hi (by omega)) (Nat.mul_le_mul_left _ (Nat.pow_le_pow_right (by decide) (by omega)))
theorem wgt_cle {μ : Mem} {p t i : Nat} : wgt μ true p t i ≤ 4 ^ 6 := Nat.le_trans (wN_cle _ i) (Nat.pow_le_pow_right (by decide) (by omega))
def allW (μ : Mem) (c : Bool) (p t : Nat) : Nat := wgt μ c p t 0 + wgt μ c p t 1 + wgt μ c p t 2 + wgt μ c p t 3
theorem allW_sm {μ μ' : Mem} (h : Sm μ μ') : allW μ' = allW μ := by
  funext c p t
  unfold allW
  rw [wgt_sm h]
theorem allW_eq {μ : Mem} (h : Ok μ) {f : Nat → Nat} (hf : HJ μ (wtA μ) 4 f) : X9_allWeights 1 μ = some (lN (f 0 + f 1 + f 2 + f 3)) := by
  have w := wt_s h
  have e : ∀ i, i < 4 → aJ (wtA μ) (nI i) μ = some (lN (f i)) := fun i hi => (aJ_eq h w.2.2.1 w.1 hi (by decide)).trans (by rw [hf i hi])
  unfold X9_allWeights
  rw [show (0 : Int32) = nI 0 from rfl, show (1 : Int32) = nI 1 from rfl, show (2 : Int32) = nI 2 from rfl, show (3 : Int32) = nI 3 from rfl]
  simp only [r_w6 h, Option.bind_some, e 0 (by decide), e 1 (by decide), e 2 (by decide), e 3 (by decide), lN_add]
theorem fits_c {μ : Mem} (h : Ok μ) (R : RelW μ) {p t : Nat} (hp : p < 4) (ht : t < 61) : ∃ μ', Sm μ μ' ∧ X9_fittingRows 1 (nI p) (nI t) μ = some (nI (allW μ true p t), μ') := by
  obtain ⟨a, ⟨sa, hj⟩, e⟩ := weigh_ok h R hp ht true
  refine ⟨a, sa, ?_⟩
  unfold X9_fittingRows
  rw [show (1 : Int32) = cI true from rfl]
  simp only [vO_eq (c := 9) (a := 1) h (by decide) rfl, vO_eq (c := 9) (a := 1) sa.1 (by decide) rfl, Option.bind_some, e, allW_eq sa.1 hj, lN_i]
  rfl
/-- ODDS ahead by k TICKS at a TICK -/
def tot (μ : Mem) (i : Nat) : Nat := mv μ i 0 + mv μ i 1 + mv μ i 2 + mv μ i 3
def mvS (μ : Mem) (od : Nat → Nat) (i j : Nat) : Nat := if tot μ i = 0 then 0 else od i * mv μ i j / tot μ i
def odd (μ : Mem) (p t : Nat) : Nat → Nat → Nat
  | 0, i => if allW μ false p t = 0 then 0 else wgt μ false p t i * 1000000 / allW μ false p t
  | k + 1, j => mvS μ (odd μ p t k) 0 j + mvS μ (odd μ p t k) 1 j + mvS μ (odd μ p t k) 2 j + mvS μ (odd μ p t k) 3 j
theorem odd_sm {μ μ' : Mem} (h : Sm μ μ') (p t : Nat) : ∀ k i, odd μ' p t k i = odd μ p t k i
  | 0, i => by
    unfold odd
    rw [allW_sm h, wgt_sm h]
  | k + 1, j => by
    have e : odd μ' p t k = odd μ p t k := funext (odd_sm h p t k)
    have e2 : tot μ' = tot μ := funext fun i => by unfold tot; rw [mv_sm h]
    unfold odd mvS
    rw [e, e2, mv_sm h]
def sum4 (f : Nat → Nat) : Nat := f 0 + f 1 + f 2 + f 3
theorem mvS_sum (μ : Mem) (od : Nat → Nat) (i : Nat) : mvS μ od i 0 + mvS μ od i 1 + mvS μ od i 2 + mvS μ od i 3 ≤ od i := by
  unfold mvS
  by_cases h : tot μ i = 0
  · simp [h]
  · simp only [if_neg h]
    have h1 := Nat.div_mul_le_self (od i * mv μ i 0) (tot μ i)
    have h2 := Nat.div_mul_le_self (od i * mv μ i 1) (tot μ i)
    have h3 := Nat.div_mul_le_self (od i * mv μ i 2) (tot μ i)
    have h4 := Nat.div_mul_le_self (od i * mv μ i 3) (tot μ i)
    have h5 : (od i * mv μ i 0 / tot μ i + od i * mv μ i 1 / tot μ i + od i * mv μ i 2 / tot μ i + od i * mv μ i 3 / tot μ i) * tot μ i ≤ od i * tot μ i := by
      have e : od i * tot μ i = od i * mv μ i 0 + od i * mv μ i 1 + od i * mv μ i 2 + od i * mv μ i 3 := by
        unfold tot
        rw [Nat.mul_add, Nat.mul_add, Nat.mul_add]
      rw [e, Nat.add_mul, Nat.add_mul, Nat.add_mul]
      omega
    exact Nat.le_of_mul_le_mul_right h5 (Nat.pos_of_ne_zero h)
theorem odd_sum {μ : Mem} (p t : Nat) : ∀ k, sum4 (odd μ p t k) ≤ 1000000
  | 0 => by
    unfold sum4 odd
    by_cases h : allW μ false p t = 0
    · simp [h]
    · simp only [if_neg h]
      have h1 := Nat.div_mul_le_self (wgt μ false p t 0 * 1000000) (allW μ false p t)
      have h2 := Nat.div_mul_le_self (wgt μ false p t 1 * 1000000) (allW μ false p t)
      have h3 := Nat.div_mul_le_self (wgt μ false p t 2 * 1000000) (allW μ false p t)
      have h4 := Nat.div_mul_le_self (wgt μ false p t 3 * 1000000) (allW μ false p t)
      refine Nat.le_of_mul_le_mul_right (c := allW μ false p t) ?_ (Nat.pos_of_ne_zero h)
      rw [Nat.add_mul, Nat.add_mul, Nat.add_mul]
      have e : allW μ false p t = wgt μ false p t 0 + wgt μ false p t 1 + wgt μ false p t 2 + wgt μ false p t 3 := rfl
      generalize allW μ false p t = A at *
      omega
  | k + 1 => by
    have ih := odd_sum p t (μ := μ) k
    have h0 := mvS_sum μ (odd μ p t k) 0
    have h1 := mvS_sum μ (odd μ p t k) 1
    have h2 := mvS_sum μ (odd μ p t k) 2
    have h3 := mvS_sum μ (odd μ p t k) 3
    show (mvS μ (odd μ p t k) 0 0 + mvS μ (odd μ p t k) 1 0 + mvS μ (odd μ p t k) 2 0 + mvS μ (odd μ p t k) 3 0) + (mvS μ (odd μ p t k) 0 1 + mvS μ (odd μ p t k) 1 1 + mvS μ (odd μ p t k) 2 1 + mvS μ (odd μ p t k) 3 1) + (mvS μ (odd μ p t k) 0 2 + mvS μ (odd μ p t k) 1 2 + mvS μ (odd μ p t k) 2 2 + mvS μ (odd μ p t k) 3 2) + (mvS μ (odd μ p t k) 0 3 + mvS μ (odd μ p t k) 1 3 + mvS μ (odd μ p t k) 2 3 + mvS μ (odd μ p t k) 3 3) ≤ 1000000
    unfold sum4 at ih
    omega
theorem odd_le {μ : Mem} {p t k i : Nat} (hi : i < 4) : odd μ p t k i ≤ 1000000 := by
  have h := odd_sum (μ := μ) p t k
  unfold sum4 at h
  rcases (show i = 0 ∨ i = 1 ∨ i = 2 ∨ i = 3 by omega) with rfl | rfl | rfl | rfl <;> omega
end
section
/-! ===== the class looks ahead ===== -/
def HI (μ : Mem) (a n : Nat) (f : Nat → Nat) : Prop := ∀ i, i < n → mI μ a i = nI (f i)
/-- only the ints of one row are written -/
def Onl (r : Nat) (μ μ' : Mem) : Prop := Ok μ' ∧ mR μ' = mR μ ∧ mJ μ' = mJ μ ∧ ∀ b, b ≠ r → mI μ' b = mI μ b
theorem Onl.rf {r : Nat} {μ : Mem} (h : Ok μ) : Onl r μ μ := ⟨h, rfl, rfl, fun _ _ => rfl⟩
theorem Onl.tr {r : Nat} {μ μ' μ'' : Mem} (h : Onl r μ μ') (h2 : Onl r μ' μ'') : Onl r μ μ'' := ⟨h2.1, h2.2.1.trans h.2.1, h2.2.2.1.trans h.2.2.1, fun b hb => (h2.2.2.2 b hb).trans (h.2.2.2 b hb)⟩
theorem Onl.wI {r k : Nat} {v : Int32} {μ μ' : Mem} (h : Onl r μ μ') : Onl r μ (wI μ' r k v) := ⟨h.1, h.2.1, h.2.2.1, fun b hb => (funext fun j => by rw [mI_wI, if_neg (fun q => hb q.1)]).trans (h.2.2.2 b hb)⟩
theorem Onl.sm {r : Nat} {μ μ' : Mem} (h : Onl r μ μ') (hr : ∀ k, cor r k = false) : Sm μ μ' := by
  refine ⟨h.1, fun a k q => ?_, by rw [h.2.1], by rw [h.2.1]⟩
  rw [h.2.2.2 a (fun e => by rw [e, hr k] at q; cases q)]
theorem HI.put {μ : Mem} {a n : Nat} {f : Nat → Nat} {v : Int32} (h : HI μ a n f) (hv : v = nI (f n)) : HI (wI μ a n v) a (n + 1) f := by
  intro i hi
  rw [mI_wI]
  by_cases e : i = n
  · subst e
    rw [if_pos ⟨rfl, rfl⟩, hv]
  · rw [if_neg (fun q => e q.2)]
    exact h i (by omega)
theorem HI.oth {r a n : Nat} {f : Nat → Nat} {μ μ' : Mem} (h : HI μ a n f) (o : Onl r μ μ') (hr : a ≠ r) : HI μ' a n f := by
  intro i hi
  rw [o.2.2.2 a hr]
  exact h i hi
theorem cor_ahead {s : Nat} (hs : s < 9) (k : Nat) : cor (19 + s) k = false := by
  rcases (show s = 0 ∨ s = 1 ∨ s = 2 ∨ s = 3 ∨ s = 4 ∨ s = 5 ∨ s = 6 ∨ s = 7 ∨ s = 8 by omega) with rfl | rfl | rfl | rfl | rfl | rfl | rfl | rfl | rfl <;> rfl
theorem ge4 {i : Nat} (hi : i < 4) : ¬ (4 : Int32) ≤ nI i := by
  rw [show (4 : Int32) = nI 4 from rfl, n_le (by decide) (by omega)]
  omega
theorem lN_pos {A : Nat} (hA : A < 2 ^ 63) : (0 < lg_cmp (lN A) 0) = (0 < A) := by
  rw [lg_cmp_gt, ← lN_0, pk_lLT (by decide) hA]
theorem lN_iz {A : Nat} (hA : A < 2 ^ 63) : (lg_cmp (lN A) 0 = 0) = (A = 0) := by
  rw [lg_cmp_eq, ← lN_0, pk_lEQ hA (by decide)]
theorem dvJ_eq {a b : Nat} (ha : a < 2 ^ 63) (h0 : 0 < b) (hb : b < 2 ^ 63) : dvJ (lN a) (lN b) = some (lN (a / b)) := by
  unfold dvJ
  rw [if_neg (fun q => by rw [← lN_0, pk_lEQ hb (by decide)] at q; omega), pk_lDiv ha h0 hb]
theorem dvI_eq {a b : Nat} (ha : a < 2 ^ 31) (h0 : 0 < b) (hb : b < 2 ^ 31) : dvI (nI a) (nI b) = some (nI (a / b)) := by
  unfold dvI
  rw [if_neg (fun q => by rw [← nI_0, n_eq hb (by decide)] at q; omega), pk_div ha h0 hb]
theorem look16 {μ : Mem} (h : Ok μ) {f : Nat → Nat} (hf : HJ μ (wtA μ) 4 f) (hb : ∀ i, i < 4 → f i ≤ 16 * 64 ^ 6) (x3 : Int32) (k : Nat) : ∃ μ', (Onl 19 μ μ' ∧ HI μ' 19 4 (fun i => if f 0 + f 1 + f 2 + f 3 = 0 then 0 else f i * 1000000 / (f 0 + f 1 + f 2 + f 3))) ∧ X9_lookAhead_L16 1 x3 (lN (f 0 + f 1 + f 2 + f 3)) (k + 1 + 4) 0 μ = some (nI 4, μ') := by
  have hA : f 0 + f 1 + f 2 + f 3 ≤ 64 * 64 ^ 6 := by
    have h0 := hb 0 (by decide)
    have h1 := hb 1 (by decide)
    have h2 := hb 2 (by decide)
    have h3 := hb 3 (by decide)
    omega
  have key := loopP (F := fun k (a : Mem) i => X9_lookAhead_L16 1 x3 (lN (f 0 + f 1 + f 2 + f 3)) k (nI i) a) (P := fun i a => Onl 19 μ a ∧ HI a 19 i (fun i => if f 0 + f 1 + f 2 + f 3 = 0 then 0 else f i * 1000000 / (f 0 + f 1 + f 2 + f 3))) (n := 4) (fun k a i hi P => by
    obtain ⟨o, hj⟩ := P
    have ha := o.1
    have w := wt_s ha
    have ewt : wtA a = wtA μ := by unfold wtA; rw [o.2.1]
    have eJ : aJ (wtA a) (nI i) a = some (lN (f i)) := (aJ_eq ha w.2.2.1 w.1 hi (by decide)).trans (by rw [ewt, o.2.2.1, hf i hi])
    have hfi := hb i hi
    have er : ((if (0 : Int32) < lg_cmp (lN (f 0 + f 1 + f 2 + f 3)) 0 then (gR 9 6 1 a).bind fun v5 => (aJ v5 (nI i) a).bind fun v6 => (dvJ (v6 * 1000000) (lN (f 0 + f 1 + f 2 + f 3))).bind fun v7 => some v7.toInt32 else some 0) : Option Int32) = some (nI (if f 0 + f 1 + f 2 + f 3 = 0 then 0 else f i * 1000000 / (f 0 + f 1 + f 2 + f 3))) := by
      by_cases q : f 0 + f 1 + f 2 + f 3 = 0
      · rw [if_neg (by rw [lN_pos (by omega)]; omega), if_pos q]
        rfl
      · rw [if_pos (by rw [lN_pos (by omega)]; omega), if_neg q, r_w6 ha, Option.bind_some, eJ, Option.bind_some, show (1000000 : Int64) = lN 1000000 from rfl, lN_mul, dvJ_eq (by omega) (by omega) (by omega), Option.bind_some, lN_i]
    refine ⟨wI a 19 i (nI (if f 0 + f 1 + f 2 + f 3 = 0 then 0 else f i * 1000000 / (f 0 + f 1 + f 2 + f 3))), ⟨o.wI, hj.put rfl⟩, ?_⟩
    show X9_lookAhead_L16 1 x3 (lN (f 0 + f 1 + f 2 + f 3)) (k + 1) (nI i) a = _
    rw [X9_lookAhead_L16, if_neg (ge4 hi), r_1_4 ha, Option.bind_some, show (0 : Int32) = nI 0 from rfl, ar_ahead ha (by decide), Option.bind_some, show nI 0 = (0 : Int32) from rfl, er, Option.bind_some, sI_eq ha (by decide) rfl hi (by decide), Option.bind_some, nI_add1]) 4 (k + 1) μ 0 rfl ⟨Onl.rf h, fun i hi => absurd hi (Nat.not_lt_zero i)⟩
  obtain ⟨μ', P, e⟩ := key
  refine ⟨μ', P, ?_⟩
  rw [← nI_0]
  refine e.trans ?_
  show X9_lookAhead_L16 1 x3 (lN (f 0 + f 1 + f 2 + f 3)) (k + 1) (nI 4) μ' = _
  rw [X9_lookAhead_L16, if_pos (by decide)]
def psm (μ : Mem) (f : Nat → Nat) (j : Nat) : Nat → Nat
  | 0 => 0
  | i + 1 => psm μ f j i + mvS μ f i j
section MOV
variable {μ : Mem} {r1 r2 : Nat} {f : Nat → Nat}
theorem move2 (h : Ok μ) (h2 : r2 < 175) (s2 : S0 r2 = (1, 4)) (k : Nat) : ∃ μ', (Onl r2 μ μ' ∧ HI μ' r2 4 (fun _ => 0)) ∧ X9_moveOn_L2 1 r1 r2 (k + 1 + 4) 0 μ = some (nI 4, μ') := by
  have key := loopP (F := fun k (a : Mem) i => X9_moveOn_L2 1 r1 r2 k (nI i) a) (P := fun i a => Onl r2 μ a ∧ HI a r2 i (fun _ => 0)) (n := 4) (fun k a i hi P => by
    obtain ⟨o, hj⟩ := P
    refine ⟨wI a r2 i 0, ⟨o.wI, hj.put rfl⟩, ?_⟩
    show X9_moveOn_L2 1 r1 r2 (k + 1) (nI i) a = _
    rw [X9_moveOn_L2, if_neg (ge4 hi), sI_eq o.1 h2 s2 hi (by decide), Option.bind_some, nI_add1]) 4 (k + 1) μ 0 rfl ⟨Onl.rf h, fun i hi => absurd hi (Nat.not_lt_zero i)⟩
  obtain ⟨μ', P, e⟩ := key
  refine ⟨μ', P, ?_⟩
  rw [← nI_0]
  refine e.trans ?_
  show X9_moveOn_L2 1 r1 r2 (k + 1) (nI 4) μ' = _
  rw [X9_moveOn_L2, if_pos (by decide)]
theorem move69 (h : Ok μ) (R : RelW μ) (h1 : r1 < 175) (h2 : r2 < 175) (s1 : S0 r1 = (1, 4)) (s2 : S0 r2 = (1, 4)) (hne : r1 ≠ r2) (hsc : ∀ k, cor r2 k = false) (hf : HI μ r1 4 f) (fb : ∀ i, i < 4 → f i ≤ 1000000) {g : Nat → Nat} (hg : HI μ r2 4 g) {i : Nat} (hi : i < 4) (ht : ¬ tot μ i = 0) (k : Nat) : ∃ μ', (Onl r2 μ μ' ∧ HI μ' r2 4 (fun j => g j + mvS μ f i j)) ∧ X9_moveOn_L69 1 r1 r2 (nI i) (nI (tot μ i)) (k + 1 + 4) 0 μ = some (nI 4, μ') := by
  have htt : tot μ i ≤ 16 := by
    have a0 := (R.1 i 0 hi (by decide)).2.2
    have a1 := (R.1 i 1 hi (by decide)).2.2
    have a2 := (R.1 i 2 hi (by decide)).2.2
    have a3 := (R.1 i 3 hi (by decide)).2.2
    unfold tot
    omega
  have key := loopP (F := fun k (a : Mem) j => X9_moveOn_L69 1 r1 r2 (nI i) (nI (tot μ i)) k (nI j) a) (P := fun j a => Onl r2 μ a ∧ HI a r2 j (fun j => g j + mvS μ f i j) ∧ ∀ j', j ≤ j' → j' < 4 → mI a r2 j' = nI (g j')) (n := 4) (fun k a j hj P => by
    obtain ⟨o, hp, hq⟩ := P
    have ha := o.1
    have Ra := R.sm (o.sm hsc)
    have emv : mv a = mv μ := mv_sm (o.sm hsc)
    refine ⟨wI a r2 j (nI (g j) + nI (f i * mv μ i j / tot μ i)), ⟨o.wI, hp.put ?_, fun j' q1 q2 => ?_⟩, ?_⟩
    · rw [nI_add]
      unfold mvS
      rw [if_neg ht]
    · rw [mI_wI, if_neg (fun q => by omega)]
      exact hq j' (by omega) q2
    · show X9_moveOn_L69 1 r1 r2 (nI i) (nI (tot μ i)) (k + 1) (nI j) a = _
      have m1 := (Ra.1 i j hi hj)
      rw [emv] at m1
      have m2 := fb i hi
      have m3 := m1.2.2
      have m4 : f i * mv μ i j ≤ 1000000 * 4 := Nat.mul_le_mul m2 m3
      rw [X9_moveOn_L69, if_neg (ge4 hj), aI_eq ha h2 s2 hj (by decide), hq j (Nat.le_refl _) hj, Option.bind_some, aI_eq ha h1 s1 hi (by decide), (hf.oth o hne) i hi, Option.bind_some, r_1_0 ha, Option.bind_some, ar_next ha hi, Option.bind_some, aI_eq ha (by omega) (s_next hi) hj (by decide), m1.1, Option.bind_some, pk_mul, dvI_eq (by omega) (by omega) (by omega), Option.bind_some, sI_eq ha h2 s2 hj (by decide), Option.bind_some, nI_add1]) 4 (k + 1) μ 0 rfl ⟨Onl.rf h, fun i hi => absurd hi (Nat.not_lt_zero i), fun j' _ q => hg j' q⟩
  obtain ⟨μ', P, e⟩ := key
  refine ⟨μ', ⟨P.1, P.2.1⟩, ?_⟩
  rw [← nI_0]
  refine e.trans ?_
  show X9_moveOn_L69 1 r1 r2 (nI i) (nI (tot μ i)) (k + 1) (nI 4) μ' = _
  rw [X9_moveOn_L69, if_pos (by decide)]
theorem move_ok (h : Ok μ) (R : RelW μ) (h1 : r1 < 175) (h2 : r2 < 175) (s1 : S0 r1 = (1, 4)) (s2 : S0 r2 = (1, 4)) (hne : r1 ≠ r2) (hsc : ∀ k, cor r2 k = false) (hf : HI μ r1 4 f) (fb : ∀ i, i < 4 → f i ≤ 1000000) : ∃ μ', (Onl r2 μ μ' ∧ HI μ' r2 4 (fun j => mvS μ f 0 j + mvS μ f 1 j + mvS μ f 2 j + mvS μ f 3 j)) ∧ X9_moveOn 1 r1 r2 μ = some μ' := by
  obtain ⟨a, ⟨oa, ga⟩, ea⟩ := move2 (r1 := r1) h h2 s2 99995
  have key := loopP (F := fun k (b : Mem) i => X9_moveOn_L19 1 r1 r2 k (nI i) b) (P := fun i b => Onl r2 μ b ∧ HI b r2 4 (fun j => psm μ f j i)) (n := 4) (fun k b i hi P => by
    obtain ⟨o, hp⟩ := P
    have hb := o.1
    have Rb := R.sm (o.sm hsc)
    have emv : mv b = mv μ := mv_sm (o.sm hsc)
    have etot : tot b i = tot μ i := by unfold tot; rw [emv]
    have htt : tot μ i ≤ 16 := by
      have a0 := (R.1 i 0 hi (by decide)).2.2
      have a1 := (R.1 i 1 hi (by decide)).2.2
      have a2 := (R.1 i 2 hi (by decide)).2.2
      have a3 := (R.1 i 3 hi (by decide)).2.2
      unfold tot
      omega
    have rd : ∀ j, j < 4 → aI (3 + i) (nI j) b = some (nI (mv μ i j)) := fun j hj => (aI_eq hb (by omega) (s_next hi) hj (by decide)).trans (by rw [(Rb.1 i j hi hj).1, emv])
    have st : X9_moveOn_L19 1 r1 r2 (k + 1) (nI i) b = (if nI (tot μ i) ≤ 0 then some b else (X9_moveOn_L69 1 r1 r2 (nI i) (nI (tot μ i)) FU 0 b).bind fun z16 => some z16.2).bind fun z17 => X9_moveOn_L19 1 r1 r2 k (nI (i + 1)) z17 := by
      rw [X9_moveOn_L19, if_neg (ge4 hi), show (0 : Int32) = nI 0 from rfl, show (1 : Int32) = nI 1 from rfl, show (2 : Int32) = nI 2 from rfl, show (3 : Int32) = nI 3 from rfl]
      simp only [r_1_0 hb, ar_next hb hi, rd 0 (by decide), rd 1 (by decide), rd 2 (by decide), rd 3 (by decide), Option.bind_some, nI_add]
      rfl
    by_cases q : tot μ i = 0
    · refine ⟨b, ⟨o, fun j hj => ?_⟩, ?_⟩
      · rw [hp j hj]
        show nI _ = nI (psm μ f j i + mvS μ f i j)
        unfold mvS
        rw [if_pos q]
        rfl
      · show X9_moveOn_L19 1 r1 r2 (k + 1) (nI i) b = _
        rw [st, if_pos (by rw [q]; decide), Option.bind_some]
    · obtain ⟨d, ⟨od, gd⟩, ed⟩ := move69 hb Rb h1 h2 s1 s2 hne hsc (hf.oth o hne) fb hp hi (by rw [etot]; exact q) 99995
      refine ⟨d, ⟨o.tr od, fun j hj => ?_⟩, ?_⟩
      · rw [gd j hj]
        show nI _ = nI (psm μ f j i + mvS μ f i j)
        unfold mvS
        rw [etot, emv]
      · show X9_moveOn_L19 1 r1 r2 (k + 1) (nI i) b = _
        rw [etot, show 99995 + 1 + 4 = FU from rfl] at ed
        rw [st, if_neg (by rw [← nI_0, n_le (by omega) (by decide)]; omega), ed]
        rfl) 4 99996 a 0 rfl ⟨oa, fun j hj => ga j hj⟩
  obtain ⟨μ', P, e⟩ := key
  refine ⟨μ', ⟨P.1, fun j hj => ?_⟩, ?_⟩
  · rw [P.2 j hj]
    show nI (0 + mvS μ f 0 j + mvS μ f 1 j + mvS μ f 2 j + mvS μ f 3 j) = _
    rw [Nat.zero_add]
  · have e2 : X9_moveOn_L19 1 r1 r2 FU 0 a = some (nI 4, μ') := by
      rw [← nI_0]
      refine e.trans ?_
      show X9_moveOn_L19 1 r1 r2 (99995 + 1) (nI 4) μ' = _
      rw [X9_moveOn_L19, if_pos (by decide)]
    rw [show 99995 + 1 + 4 = FU from rfl] at ea
    unfold X9_moveOn
    rw [ea, Option.bind_some, e2, Option.bind_some]
end MOV
end
section
theorem look66 {μ : Mem} (h : Ok μ) (R : RelW μ) {p t k : Nat} (hk : k ≤ 8) (h0 : HI μ 19 4 (odd μ p t 0)) (m : Nat) : ∃ μ', (Sm μ μ' ∧ ∀ s, s ≤ k → HI μ' (19 + s) 4 (odd μ p t s)) ∧ X9_lookAhead_L66 1 (nI k) (m + 1 + k) 1 μ = some (nI (k + 1), μ') := by
  have key := loopP (F := fun m (a : Mem) d => X9_lookAhead_L66 1 (nI k) m (nI (d + 1)) a) (P := fun d a => Sm μ a ∧ ∀ s, s ≤ d → HI a (19 + s) 4 (odd μ p t s)) (n := k) (fun m a d hd P => by
    obtain ⟨s, hh⟩ := P
    have ha := s.1
    have Ra := R.sm s
    obtain ⟨b, ⟨ob, gb⟩, eb⟩ := move_ok (r1 := 19 + d) (r2 := 19 + (d + 1)) ha Ra (by omega) (by omega) (s_ahead (by omega)) (s_ahead (by omega)) (by omega) (cor_ahead (by omega)) (hh d (Nat.le_refl d)) (fun i hi => odd_le hi)
    refine ⟨b, ⟨s.tr (ob.sm (cor_ahead (by omega))), fun q hq => ?_⟩, ?_⟩
    · by_cases e : q = d + 1
      · subst e
        intro j hj
        rw [gb j hj]
        have emv := mv_sm s
        have etot : tot a = tot μ := funext fun i => by unfold tot; rw [emv]
        show nI _ = nI (mvS μ (odd μ p t d) 0 j + mvS μ (odd μ p t d) 1 j + mvS μ (odd μ p t d) 2 j + mvS μ (odd μ p t d) 3 j)
        unfold mvS
        rw [emv, etot]
      · exact (hh q (by omega)).oth ob (by omega)
    · show X9_lookAhead_L66 1 (nI k) (m + 1) (nI (d + 1)) a = _
      rw [X9_lookAhead_L66, if_neg (by rw [n_lt (by omega) (by omega)]; omega), if_neg (by rw [show (8 : Int32) = nI 8 from rfl, n_lt (by decide) (by omega)]; omega), r_1_4 ha, Option.bind_some, nI_pred, ar_ahead ha (by omega), Option.bind_some, Option.bind_some, ar_ahead ha (by omega), Option.bind_some, vO_eq (c := 9) (a := 1) ha (by decide) rfl, Option.bind_some, eb, Option.bind_some, nI_add1]) k (m + 1) μ 0 (by omega) ⟨Sm.rf h, fun q hq => by
      have : q = 0 := by omega
      subst this
      exact h0⟩
  obtain ⟨μ', P, e⟩ := key
  refine ⟨μ', P, ?_⟩
  refine e.trans ?_
  show X9_lookAhead_L66 1 (nI k) (m + 1) (nI (k + 1)) μ' = _
  rw [X9_lookAhead_L66, if_pos (by rw [n_lt (by omega) (by omega)]; omega)]
theorem look_ok {μ : Mem} (h : Ok μ) (R : RelW μ) {p t k : Nat} (hp : p < 4) (ht : t < 61) (hk : k ≤ 8) : ∃ μ', (Sm μ μ' ∧ ∀ s, s ≤ k → HI μ' (19 + s) 4 (odd μ p t s)) ∧ X9_lookAhead 1 (nI p) (nI t) (nI k) μ = some μ' := by
  obtain ⟨a, ⟨sa, hj⟩, ea⟩ := weigh_ok h R hp ht false
  have ew : allW μ false p t = wgt μ false p t 0 + wgt μ false p t 1 + wgt μ false p t 2 + wgt μ false p t 3 := rfl
  obtain ⟨b, ⟨ob, gb⟩, eb⟩ := look16 sa.1 hj (fun i hi => wgt_le R hp ht hi) (nI k) 99995
  have sb := sa.tr (ob.sm (cor_ahead (s := 0) (by decide)))
  obtain ⟨d, ⟨sd, gd⟩, ed⟩ := look66 sb.1 (R.sm sb) (p := p) (t := t) hk (by
    intro i hi
    rw [gb i hi, odd_sm sb]
    rfl) (99999 - k)
  refine ⟨d, ⟨sb.tr sd, fun s hs i hi => ?_⟩, ?_⟩
  · rw [gd s hs i hi, odd_sm sb]
  · rw [show 99995 + 1 + 4 = FU from rfl] at eb
    rw [show 99999 - k + 1 + k = FU by unfold FU; omega] at ed
    unfold X9_lookAhead
    rw [show (0 : Int32) = cI false from rfl, vO_eq (c := 9) (a := 1) h (by decide) rfl, Option.bind_some, ea, Option.bind_some, vO_eq (c := 9) (a := 1) sa.1 (by decide) rfl, Option.bind_some, allW_eq sa.1 hj, Option.bind_some, show cI false = (0 : Int32) from rfl, eb, Option.bind_some, ed, Option.bind_some]
/-! ===== bits ===== -/
def bt (x : Int32) (i : Nat) : Nat := if (x >>> (nI i &&& 31)) &&& 1 = 0 then 0 else 1
theorem and1 (x : Int32) : x &&& 1 = nI (if x &&& 1 = 0 then 0 else 1) := by
  have h := pk_and x (m := 1) 1 rfl
  rcases Nat.mod_two_eq_zero_or_one x.toBitVec.toNat with e | e
  · rw [e] at h
    rw [h]
    rfl
  · rw [e] at h
    rw [h]
    rfl
theorem bt_eq (x : Int32) (i : Nat) : (x >>> (nI i &&& 31)) &&& 1 = nI (bt x i) := and1 _
theorem bt_le (x : Int32) (i : Nat) : bt x i ≤ 1 := by
  unfold bt
  split <;> omega
theorem bt_z (x : Int32) (i : Nat) : ((x >>> (nI i &&& 31)) &&& 1 = 0) = (bt x i = 0) := by
  unfold bt
  split <;> simp_all
theorem bt_1 (x : Int32) (i : Nat) : ((x >>> (nI i &&& 31)) &&& 1 = 1) = (bt x i = 1) := by
  rw [bt_eq, show (1 : Int32) = nI 1 from rfl, n_eq (by have := bt_le x i; omega) (by decide)]
theorem has_eq (x : Int32) (i : Nat) : X10_contains x (nI i) = nI (bt x i) := by
  unfold X10_contains bt
  split <;> rfl
theorem has_z (x : Int32) (i : Nat) : (X10_contains x (nI i) = 0) = (bt x i = 0) := by
  rw [has_eq, ← nI_0, n_eq (by have := bt_le x i; omega) (by decide)]
/-- SEAM ODDS out of a row of odds -/
def sS (μ : Mem) (f : Nat → Nat) : Nat := bt (ss μ) 0 * f 0 + bt (ss μ) 1 * f 1 + bt (ss μ) 2 * f 2 + bt (ss μ) 3 * f 3
theorem sS_sm {μ μ' : Mem} (h : Sm μ μ') : sS μ' = sS μ := by
  funext f
  unfold sS
  rw [ss_sm h]
theorem bt_mul_le (x : Int32) (i y : Nat) : bt x i * y ≤ y := by
  have := Nat.mul_le_mul_right y (bt_le x i)
  omega
theorem sS_le {μ : Mem} {p t k : Nat} : sS μ (odd μ p t k) ≤ 1000000 := by
  have h := odd_sum (μ := μ) p t k
  have h0 := bt_mul_le (ss μ) 0 (odd μ p t k 0)
  have h1 := bt_mul_le (ss μ) 1 (odd μ p t k 1)
  have h2 := bt_mul_le (ss μ) 2 (odd μ p t k 2)
  have h3 := bt_mul_le (ss μ) 3 (odd μ p t k 3)
  unfold sum4 at h
  unfold sS
  omega
theorem seam_c {μ : Mem} (h : Ok μ) (R : RelW μ) {s : Nat} (hs : s < 9) {f : Nat → Nat} (hf : HI μ (19 + s) 4 f) : X9_seamOdds 1 (nI s) μ = some (nI (sS μ f)) := by
  have key := loopA (F := fun k (a : Int32) i => X9_seamOdds_L4 1 (nI s) μ k a (nI i)) (f := fun i a => a + nI (bt (ss μ) i * f i)) (n := 4) (fun k a i hi => by
    show X9_seamOdds_L4 1 (nI s) μ (k + 1) a (nI i) = _
    rw [X9_seamOdds_L4, if_neg (ge4 hi), gI_eq (a := 1) h (by decide) rfl, R.2.2.2.1.1, Option.bind_some]
    by_cases q : bt (ss μ) i = 0
    · rw [if_pos (by rw [has_z]; exact q), Option.bind_some, nI_add1, q, Nat.zero_mul, nI_0, Int32.add_zero]
    · have q1 : bt (ss μ) i = 1 := by have := bt_le (ss μ) i; omega
      rw [if_neg (by rw [has_z]; exact q), r_1_4 h, Option.bind_some, ar_ahead h hs, Option.bind_some, aI_eq h (by omega) (s_ahead hs) hi (by decide), Option.bind_some, Option.bind_some, hf i hi, nI_add1, q1, Nat.one_mul]) 4 99996 0 0 rfl
  have e : X9_seamOdds_L4 1 (nI s) μ FU 0 0 = some (nI (sS μ f), nI 4) := by
    refine (show X9_seamOdds_L4 1 (nI s) μ FU 0 0 = X9_seamOdds_L4 1 (nI s) μ (99996 + 4) 0 (nI 0) from rfl).trans (key.trans ?_)
    show X9_seamOdds_L4 1 (nI s) μ (99995 + 1) _ (nI 4) = _
    rw [X9_seamOdds_L4, if_pos (by decide)]
    simp only [itr, ← nI_0, nI_add, Nat.zero_add]
    rfl
  unfold X9_seamOdds
  rw [e, Option.bind_some]
end
section
/-! ===== the reference's rows ===== -/
def sgn (x : Nat) : Nat := if x = 0 then 0 else 1
theorem fac_t (x : Nat) : fac true x = sgn x := by
  unfold fac sgn
  by_cases h : x = 0
  · subst h
    rfl
  · rw [if_pos ⟨rfl, by omega⟩, if_neg h]
theorem fac_f (x : Nat) : fac false x = x := rfl
theorem sgn_mul (a b : Nat) : sgn (a * b) = sgn a * sgn b := by
  unfold sgn
  by_cases ha : a = 0
  · subst ha
    simp
  · by_cases hb : b = 0
    · subst hb
      simp
    · rw [if_neg ha, if_neg hb, if_neg (Nat.mul_ne_zero ha hb)]
theorem psi_t (μ : Mem) (i : Nat) (s : Int32) : psi μ true i s = sgn (psi μ false i s) := by
  unfold psi
  split
  · rfl
  · exact fac_t _
theorem shows_m {μ : Mem} (h : Ok μ) (R : RelW μ) {p t i : Nat} (hp : p < 4) (ht : t < 61) (hi : i < 4) : X11_showsAt 134 (nI p) (nI t) (nI i) μ = some (nI (psi μ false i (sg μ p t))) := by
  unfold X11_showsAt
  rw [r_134_4 h, Option.bind_some, show (61 : Int32) = nI 61 from rfl, pk_mul, nI_add, aI_eq (a := 138) h (by decide) rfl (by omega) (by decide), Option.bind_some]
  show ((if (0 : Int32) ≤ sg μ p t then _ else _ : Option Int32)).bind _ = _
  unfold psi
  rcases (R.2.2.2.2.1 p t hp ht).2 with e | ⟨s, hs, e⟩
  · have e1 : mI μ 138 (61 * p + t) = -1 := e
    rw [e, if_neg (by decide), if_pos (by decide)]
    rfl
  · have e1 : mI μ 138 (61 * p + t) = nI s := e
    rw [e, if_pos (nI_pos' (by omega)), if_neg (nI_pos (by omega)), r_134_1 h, Option.bind_some, e1, show (4 : Int32) = nI 4 from rfl, pk_mul, nI_add, aI_eq (a := 136) h (by decide) rfl (by omega) (by decide), Option.bind_some, Option.bind_some, (R.2.1 i s hi hs).2.1, vN_nI (by omega), fac_f]
theorem scr_m {r k : Nat} (hr : r = 139 ∨ r = 140 ∨ r = 141 ∨ r = 142 ∨ r = 143 ∨ r = 144) : cor r k = false := by
  rcases hr with rfl | rfl | rfl | rfl | rfl | rfl <;> rfl
theorem HJ.wI {μ : Mem} {a n b k : Nat} {f : Nat → Nat} {v : Int32} (h : HJ μ a n f) : HJ (wI μ b k v) a n f := h
theorem HI.wJ {μ : Mem} {a n b k : Nat} {f : Nat → Nat} {v : Int64} (h : HI μ a n f) : HI (wJ μ b k v) a n f := h
theorem HI.oth2 {μ : Mem} {a b n k : Nat} {f : Nat → Nat} {v : Int32} (h : HI μ a n f) (hb : a ≠ b) : HI (wI μ b k v) a n f := by
  intro i hi
  rw [mI_wI, if_neg (fun q => hb q.1)]
  exact h i hi
theorem HJ.hi {μ : Mem} {a n k : Nat} {f : Nat → Nat} {v : Int64} (h : HJ μ a n f) (hk : n ≤ k) : HJ (wJ μ a k v) a n f := by
  intro i hi
  rw [mJ_wJ, if_neg (fun q => by omega)]
  exact h i hi
theorem HI.hi {μ : Mem} {a n k : Nat} {f : Nat → Nat} {v : Int32} (h : HI μ a n f) (hk : n ≤ k) : HI (wI μ a k v) a n f := by
  intro i hi
  rw [mI_wI, if_neg (fun q => by omega)]
  exact h i hi
def psF (f b : Nat → Nat) : Nat → Nat
  | 0 => 0
  | i + 1 => psF f b i + f i * b i
theorem rows18 {μ : Mem} (h : Ok μ) (R : RelW μ) {p st : Nat} (hp : p < 4) (hst : st < 61) (x2 : Int32) (k : Nat) : ∃ μ', (Sm μ μ' ∧ HJ μ' 139 4 (wN μ false p st 0) ∧ HI μ' 141 4 (wN μ true p st 0)) ∧ X11_findRows_L18 134 (nI p) x2 (nI st) (k + 1 + 4) 0 μ = some (nI 4, μ') := by
  have key := loopP (F := fun k (a : Mem) i => X11_findRows_L18 134 (nI p) x2 (nI st) k (nI i) a) (P := fun i a => Sm μ a ∧ HJ a 139 i (wN μ false p st 0) ∧ HI a 141 i (wN μ true p st 0)) (n := 4) (fun k a i hi P => by
    obtain ⟨s, hj, hr⟩ := P
    have ha := s.1
    have Ra := R.sm s
    have e0 : bg μ i ≤ 4 := (R.2.2.1 i hi).2.2
    have e1 : psi μ false i (sg μ p st) ≤ 4 := psi_le R hi hp hst
    have e2 : bg μ i * psi μ false i (sg μ p st) ≤ 4 * 4 := Nat.mul_le_mul e0 e1
    have ew : wN μ false p st 0 i = bg μ i * psi μ false i (sg μ p st) := rfl
    have ec : wN μ true p st 0 i = sgn (bg μ i * psi μ false i (sg μ p st)) := by
      show fac true (bg μ i) * psi μ true i (sg μ p st) = _
      rw [fac_t, psi_t, sgn_mul]
    refine ⟨wI (wJ a 139 i (lN (bg μ i * psi μ false i (sg μ p st)))) 141 i (nI (sgn (bg μ i * psi μ false i (sg μ p st)))), ⟨(s.wJ).wI (scr_m (by decide)), (hj.put (by rw [ew])).wI, (hr.wJ).put (by rw [ec])⟩, ?_⟩
    show X11_findRows_L18 134 (nI p) x2 (nI st) (k + 1) (nI i) a = _
    have hb : Ok (wJ a 139 i (lN (bg μ i * psi μ false i (sg μ p st)))) := ha
    rw [X11_findRows_L18, if_neg (ge4 hi), r_134_6 ha, Option.bind_some, r_134_2 ha, Option.bind_some, aI_eq (a := 137) ha (by decide) rfl hi (by decide), (Ra.2.2.1 i hi).2.1, bg_sm s, Option.bind_some, vO_eq (c := 11) (a := 134) ha (by decide) rfl, Option.bind_some, shows_m ha Ra hp hst hi, psi_sm s, sg_sm s, Option.bind_some, nI_l (by omega), nI_l (by omega), lN_mul, sJ_eq (a := 139) ha (by decide) rfl hi (by decide), Option.bind_some, r_134_8 hb, Option.bind_some, r_134_6 hb, Option.bind_some, aJ_eq (a := 139) hb (by decide) rfl hi (by decide), mJ_wJ, if_pos ⟨rfl, rfl⟩, Option.bind_some, Option.bind_some]
    have es : (if lg_cmp (lN (bg μ i * psi μ false i (sg μ p st))) 0 ≤ 0 then 0 else 1 : Int32) = nI (sgn (bg μ i * psi μ false i (sg μ p st))) := by
      unfold sgn
      by_cases q : bg μ i * psi μ false i (sg μ p st) = 0
      · rw [q]
        rfl
      · rw [if_neg q, if_neg (by rw [lg_cmp_le, ← lN_0, pk_lLE (by omega) (by decide)]; omega)]
        rfl
    rw [es, sI_eq (a := 141) hb (by decide) rfl hi (by decide), Option.bind_some, nI_add1]) 4 (k + 1) μ 0 rfl ⟨Sm.rf h, fun i hi => absurd hi (Nat.not_lt_zero i), fun i hi => absurd hi (Nat.not_lt_zero i)⟩
  obtain ⟨μ', P, e⟩ := key
  refine ⟨μ', P, ?_⟩
  rw [← nI_0]
  refine e.trans ?_
  show X11_findRows_L18 134 (nI p) x2 (nI st) (k + 1) (nI 4) μ' = _
  rw [X11_findRows_L18, if_pos (by decide)]
end
section
section MR
variable {μ : Mem} {p u : Nat} {f g : Nat → Nat}
/-- one more tick: what comes behind, by the reference -/
def nxW (μ : Mem) (f : Nat → Nat) (p u j : Nat) : Nat := psF f (fun i => mv μ i j * psi μ false j (sg μ p u)) 4
def nxR (μ : Mem) (g : Nat → Nat) (p u j : Nat) : Nat := psF g (fun i => sgn (mv μ i j * psi μ false j (sg μ p u))) 4
theorem rows118 (h : Ok μ) (R : RelW μ) (hp : p < 4) (hu : u < 61) {j : Nat} (hj : j < 4) (hf : HJ μ 139 4 f) (hg : HI μ 141 4 g) (z1 : mJ μ 140 j = lN 0) (z2 : mI μ 142 j = nI 0) {F G : Nat → Nat} (hF : HJ μ 140 j F) (hG : HI μ 142 j G) (x2 : Int32) (k : Nat) : ∃ μ', (Sm μ μ' ∧ HJ μ' 139 4 f ∧ HI μ' 141 4 g ∧ HJ μ' 140 j F ∧ HI μ' 142 j G ∧ mJ μ' 140 j = lN (nxW μ f p u j) ∧ mI μ' 142 j = nI (nxR μ g p u j)) ∧ X11_findRows_L118 134 (nI p) x2 (nI u) (nI j) (k + 1 + 4) 0 μ = some (nI 4, μ') := by
  have key := loopP (F := fun k (a : Mem) i => X11_findRows_L118 134 (nI p) x2 (nI u) (nI j) k (nI i) a) (P := fun i a => Sm μ a ∧ HJ a 139 4 f ∧ HI a 141 4 g ∧ HJ a 140 j F ∧ HI a 142 j G ∧ mJ a 140 j = lN (psF f (fun i => mv μ i j * psi μ false j (sg μ p u)) i) ∧ mI a 142 j = nI (psF g (fun i => sgn (mv μ i j * psi μ false j (sg μ p u))) i)) (n := 4) (fun k a i hi P => by
    obtain ⟨s, q1, q2, q3, q4, q5, q6⟩ := P
    have ha := s.1
    have Ra := R.sm s
    have b1 : mv μ i j ≤ 4 := (R.1 i j hi hj).2.2
    have b2 : psi μ false j (sg μ p u) ≤ 4 := psi_le R hj hp hu
    have b3 : mv μ i j * psi μ false j (sg μ p u) ≤ 4 * 4 := Nat.mul_le_mul b1 b2
    generalize hB : mv μ i j * psi μ false j (sg μ p u) = B at b3
    have hb : Ok (wJ a 140 j (lN (psF f (fun i => mv μ i j * psi μ false j (sg μ p u)) (i + 1)))) := ha
    refine ⟨wI (wJ a 140 j (lN (psF f (fun i => mv μ i j * psi μ false j (sg μ p u)) (i + 1)))) 142 j (nI (psF g (fun i => sgn (mv μ i j * psi μ false j (sg μ p u))) (i + 1))), ⟨(s.wJ).wI (scr_m (by decide)), (q1.oth (by decide)).wI, (q2.wJ).oth2 (by decide), (q3.hi (Nat.le_refl _)).wI, (q4.wJ).hi (Nat.le_refl _), ?_, ?_⟩, ?_⟩
    · show mJ (wJ a 140 j _) 140 j = _
      rw [mJ_wJ, if_pos ⟨rfl, rfl⟩]
    · rw [mI_wI, if_pos ⟨rfl, rfl⟩]
    · show X11_findRows_L118 134 (nI p) x2 (nI u) (nI j) (k + 1) (nI i) a = _
      rw [X11_findRows_L118, if_neg (ge4 hi), r_134_0 ha, Option.bind_some, show (4 : Int32) = nI 4 from rfl, pk_mul, nI_add, aI_eq (a := 135) ha (by decide) rfl (by omega) (by decide), (Ra.1 i j hi hj).2.1, mv_sm s, Option.bind_some, vO_eq (c := 11) (a := 134) ha (by decide) rfl, Option.bind_some, shows_m ha Ra hp hu hj, psi_sm s, sg_sm s, Option.bind_some, pk_mul, hB, Option.bind_some, r_134_7 ha, Option.bind_some, aJ_eq (a := 140) ha (by decide) rfl hj (by decide), q5, Option.bind_some, r_134_6 ha, Option.bind_some, aJ_eq (a := 139) ha (by decide) rfl hi (by decide), q1 i hi, Option.bind_some, nI_l (by omega), lN_mul, lN_add]
      have e1 : psF f (fun i => mv μ i j * psi μ false j (sg μ p u)) i + f i * B = psF f (fun i => mv μ i j * psi μ false j (sg μ p u)) (i + 1) := by rw [← hB]; rfl
      rw [e1, sJ_eq (a := 140) ha (by decide) rfl hj (by decide), Option.bind_some, r_134_9 hb, Option.bind_some, aI_eq (a := 142) hb (by decide) rfl hj (by decide)]
      have e2 : mI (wJ a 140 j (lN (psF f (fun i => mv μ i j * psi μ false j (sg μ p u)) (i + 1)))) 142 j = nI (psF g (fun i => sgn (mv μ i j * psi μ false j (sg μ p u))) i) := q6
      have e3 : ((if nI B ≤ 0 then some 0 else (gR 11 8 134 (wJ a 140 j (lN (psF f (fun i => mv μ i j * psi μ false j (sg μ p u)) (i + 1))))).bind fun v15 => (aI v15 (nI i) (wJ a 140 j (lN (psF f (fun i => mv μ i j * psi μ false j (sg μ p u)) (i + 1))))).bind fun v16 => some v16) : Option Int32) = some (nI (g i * sgn B)) := by
        unfold sgn
        by_cases q : B = 0
        · rw [q, if_pos (by decide), if_pos rfl]
          rfl
        · rw [if_neg (by rw [← nI_0, n_le (by omega) (by decide)]; omega), if_neg q, r_134_8 hb, Option.bind_some, aI_eq (a := 141) hb (by decide) rfl hi (by decide), Option.bind_some, Nat.mul_one]
          exact congrArg some (q2 i hi)
      have e4 : psF g (fun i => sgn (mv μ i j * psi μ false j (sg μ p u))) i + g i * sgn B = psF g (fun i => sgn (mv μ i j * psi μ false j (sg μ p u))) (i + 1) := by rw [← hB]; rfl
      rw [e2, Option.bind_some, e3, Option.bind_some, nI_add, e4, sI_eq (a := 142) hb (by decide) rfl hj (by decide), Option.bind_some, nI_add1]) 4 (k + 1) μ 0 rfl ⟨Sm.rf h, hf, hg, hF, hG, z1, z2⟩
  obtain ⟨μ', P, e⟩ := key
  refine ⟨μ', P, ?_⟩
  rw [← nI_0]
  refine e.trans ?_
  show X11_findRows_L118 134 (nI p) x2 (nI u) (nI j) (k + 1) (nI 4) μ' = _
  rw [X11_findRows_L118, if_pos (by decide)]
theorem nx_sm {μ' : Mem} (s : Sm μ μ') : nxW μ' = nxW μ ∧ nxR μ' = nxR μ := by
  constructor
  · funext f p u j
    unfold nxW
    rw [mv_sm s, psi_sm s, sg_sm s]
  · funext f p u j
    unfold nxR
    rw [mv_sm s, psi_sm s, sg_sm s]
theorem rows93 (h : Ok μ) (R : RelW μ) (hp : p < 4) (hu : u < 61) (hf : HJ μ 139 4 f) (hg : HI μ 141 4 g) (x2 : Int32) (k : Nat) : ∃ μ', (Sm μ μ' ∧ HJ μ' 140 4 (nxW μ f p u) ∧ HI μ' 142 4 (nxR μ g p u)) ∧ X11_findRows_L93 134 (nI p) x2 (nI u) (k + 1 + 4) 0 μ = some (nI 4, μ') := by
  have key := loopP (F := fun k (a : Mem) j => X11_findRows_L93 134 (nI p) x2 (nI u) k (nI j) a) (P := fun j a => Sm μ a ∧ HJ a 139 4 f ∧ HI a 141 4 g ∧ HJ a 140 j (nxW μ f p u) ∧ HI a 142 j (nxR μ g p u)) (n := 4) (fun k a j hj P => by
    obtain ⟨s, q1, q2, q3, q4⟩ := P
    have ha := s.1
    have hb : Ok (wJ a 140 j (lN 0)) := ha
    have sc : Sm μ (wI (wJ a 140 j (lN 0)) 142 j (nI 0)) := (s.wJ).wI (scr_m (by decide))
    obtain ⟨b, ⟨s2, r1, r2, r3, r4, r5, r6⟩, eb⟩ := rows118 sc.1 (R.sm sc) hp hu hj (f := f) (g := g) ((q1.oth (by decide)).wI) ((q2.wJ).oth2 (by decide)) (by show mJ (wJ a 140 j _) 140 j = _; rw [mJ_wJ, if_pos ⟨rfl, rfl⟩]) (by rw [mI_wI, if_pos ⟨rfl, rfl⟩]) (F := nxW μ f p u) (G := nxR μ g p u) ((q3.hi (Nat.le_refl _)).wI) ((q4.wJ).hi (Nat.le_refl _)) x2 99995
    rw [(nx_sm sc).1] at r5
    rw [(nx_sm sc).2] at r6
    refine ⟨b, ⟨sc.tr s2, r1, r2, fun i hi => ?_, fun i hi => ?_⟩, ?_⟩
    · by_cases e : i = j
      · subst e
        exact r5
      · exact r3 i (by omega)
    · by_cases e : i = j
      · subst e
        exact r6
      · exact r4 i (by omega)
    · show X11_findRows_L93 134 (nI p) x2 (nI u) (k + 1) (nI j) a = _
      rw [X11_findRows_L93, if_neg (ge4 hj), r_134_7 ha, Option.bind_some, ← lN_0, sJ_eq (a := 140) ha (by decide) rfl hj (by decide), Option.bind_some, r_134_9 hb, Option.bind_some, ← nI_0, sI_eq (a := 142) hb (by decide) rfl hj (by decide), Option.bind_some, show nI 0 = (0 : Int32) from rfl, show FU = 99995 + 1 + 4 from rfl]
      rw [show (nI 0 : Int32) = 0 from rfl] at eb
      rw [eb, Option.bind_some, nI_add1]) 4 (k + 1) μ 0 rfl ⟨Sm.rf h, hf, hg, fun i hi => absurd hi (Nat.not_lt_zero i), fun i hi => absurd hi (Nat.not_lt_zero i)⟩
  obtain ⟨μ', P, e⟩ := key
  refine ⟨μ', ⟨P.1, P.2.2.2⟩, ?_⟩
  rw [← nI_0]
  refine e.trans ?_
  show X11_findRows_L93 134 (nI p) x2 (nI u) (k + 1) (nI 4) μ' = _
  rw [X11_findRows_L93, if_pos (by decide)]
theorem rows210 (h : Ok μ) (hf : HJ μ 140 4 f) (hg : HI μ 142 4 g) (x1 x2 x4 : Int32) (k : Nat) : ∃ μ', (Sm μ μ' ∧ HJ μ' 139 4 f ∧ HI μ' 141 4 g) ∧ X11_findRows_L210 134 x1 x2 x4 (k + 1 + 4) 0 μ = some (nI 4, μ') := by
  have key := loopP (F := fun k (a : Mem) j => X11_findRows_L210 134 x1 x2 x4 k (nI j) a) (P := fun j a => Sm μ a ∧ HJ a 140 4 f ∧ HI a 142 4 g ∧ HJ a 139 j f ∧ HI a 141 j g) (n := 4) (fun k a j hj P => by
    obtain ⟨s, q1, q2, q3, q4⟩ := P
    have ha := s.1
    have hb : Ok (wJ a 139 j (lN (f j))) := ha
    refine ⟨wI (wJ a 139 j (lN (f j))) 141 j (nI (g j)), ⟨(s.wJ).wI (scr_m (by decide)), (q1.oth (by decide)).wI, (q2.wJ).oth2 (by decide), (q3.put rfl).wI, (q4.wJ).put rfl⟩, ?_⟩
    show X11_findRows_L210 134 x1 x2 x4 (k + 1) (nI j) a = _
    rw [X11_findRows_L210, if_neg (ge4 hj), r_134_6 ha, Option.bind_some, r_134_7 ha, Option.bind_some, aJ_eq (a := 140) ha (by decide) rfl hj (by decide), q1 j hj, Option.bind_some, sJ_eq (a := 139) ha (by decide) rfl hj (by decide), Option.bind_some, r_134_8 hb, Option.bind_some, r_134_9 hb, Option.bind_some, aI_eq (a := 142) hb (by decide) rfl hj (by decide), show mI (wJ a 139 j (lN (f j))) 142 j = nI (g j) from q2 j hj, Option.bind_some, sI_eq (a := 141) hb (by decide) rfl hj (by decide), Option.bind_some, nI_add1]) 4 (k + 1) μ 0 rfl ⟨Sm.rf h, hf, hg, fun i hi => absurd hi (Nat.not_lt_zero i), fun i hi => absurd hi (Nat.not_lt_zero i)⟩
  obtain ⟨μ', P, e⟩ := key
  refine ⟨μ', ⟨P.1, P.2.2.2⟩, ?_⟩
  rw [← nI_0]
  refine e.trans ?_
  show X11_findRows_L210 134 x1 x2 x4 (k + 1) (nI 4) μ' = _
  rw [X11_findRows_L210, if_pos (by decide)]
theorem nxW_eq (c : Nat → Nat) (st d : Nat) (hc : ∀ i, i < 4 → c i = wN μ false p st d i) (j : Nat) : nxW μ c p (st + d + 1) j = wN μ false p st (d + 1) j := by
  have h0 := hc 0 (by decide)
  have h1 := hc 1 (by decide)
  have h2 := hc 2 (by decide)
  have h3 := hc 3 (by decide)
  show 0 + c 0 * (mv μ 0 j * psi μ false j (sg μ p (st + d + 1))) + c 1 * (mv μ 1 j * psi μ false j (sg μ p (st + d + 1))) + c 2 * (mv μ 2 j * psi μ false j (sg μ p (st + d + 1))) + c 3 * (mv μ 3 j * psi μ false j (sg μ p (st + d + 1))) = (wN μ false p st d 0 * mv μ 0 j + wN μ false p st d 1 * mv μ 1 j + wN μ false p st d 2 * mv μ 2 j + wN μ false p st d 3 * mv μ 3 j) * psi μ false j (sg μ p (st + d + 1))
  rw [h0, h1, h2, h3, Nat.zero_add, Nat.add_mul, Nat.add_mul, Nat.add_mul, Nat.mul_assoc, Nat.mul_assoc, Nat.mul_assoc, Nat.mul_assoc]
theorem nxR_eq (c : Nat → Nat) (st d : Nat) (hc : ∀ i, i < 4 → c i = wN μ true p st d i) (j : Nat) : nxR μ c p (st + d + 1) j = wN μ true p st (d + 1) j := by
  have h0 := hc 0 (by decide)
  have h1 := hc 1 (by decide)
  have h2 := hc 2 (by decide)
  have h3 := hc 3 (by decide)
  show 0 + c 0 * sgn (mv μ 0 j * psi μ false j (sg μ p (st + d + 1))) + c 1 * sgn (mv μ 1 j * psi μ false j (sg μ p (st + d + 1))) + c 2 * sgn (mv μ 2 j * psi μ false j (sg μ p (st + d + 1))) + c 3 * sgn (mv μ 3 j * psi μ false j (sg μ p (st + d + 1))) = (wN μ true p st d 0 * fac true (mv μ 0 j) + wN μ true p st d 1 * fac true (mv μ 1 j) + wN μ true p st d 2 * fac true (mv μ 2 j) + wN μ true p st d 3 * fac true (mv μ 3 j)) * psi μ true j (sg μ p (st + d + 1))
  rw [h0, h1, h2, h3, Nat.zero_add, Nat.add_mul, Nat.add_mul, Nat.add_mul, fac_t, fac_t, fac_t, fac_t, psi_t, sgn_mul, sgn_mul, sgn_mul, sgn_mul, Nat.mul_assoc, Nat.mul_assoc, Nat.mul_assoc, Nat.mul_assoc]
theorem rows84 (h : Ok μ) (R : RelW μ) {st D : Nat} (hp : p < 4) (ht : st + D < 61) (hf : HJ μ 139 4 (wN μ false p st 0)) (hg : HI μ 141 4 (wN μ true p st 0)) (k : Nat) : ∃ μ', (Sm μ μ' ∧ HJ μ' 139 4 (wN μ false p st D) ∧ HI μ' 141 4 (wN μ true p st D)) ∧ X11_findRows_L84 134 (nI p) (nI (st + D)) (k + 1 + D) (nI (st + 1)) μ = some (nI (st + 1 + D), μ') := by
  have key := loopP (F := fun k (a : Mem) d => X11_findRows_L84 134 (nI p) (nI (st + D)) k (nI (st + 1 + d)) a) (P := fun d a => Sm μ a ∧ HJ a 139 4 (wN μ false p st d) ∧ HI a 141 4 (wN μ true p st d)) (n := D) (fun k a d hd P => by
    obtain ⟨s, q1, q2⟩ := P
    obtain ⟨b, ⟨sb, r1, r2⟩, eb⟩ := rows93 s.1 (R.sm s) hp (u := st + 1 + d) (by omega) q1 q2 (nI (st + D)) 99995
    obtain ⟨c, ⟨sc, t1, t2⟩, ec⟩ := rows210 sb.1 r1 r2 (nI p) (nI (st + D)) (nI (st + 1 + d)) 99995
    refine ⟨c, ⟨(s.tr sb).tr sc, fun i hi => ?_, fun i hi => ?_⟩, ?_⟩
    · rw [t1 i hi, (nx_sm s).1, show st + 1 + d = st + d + 1 by omega, nxW_eq _ st d (fun _ _ => rfl)]
    · rw [t2 i hi, (nx_sm s).2, show st + 1 + d = st + d + 1 by omega, nxR_eq _ st d (fun _ _ => rfl)]
    · show X11_findRows_L84 134 (nI p) (nI (st + D)) (k + 1) (nI (st + 1 + d)) a = _
      rw [X11_findRows_L84, if_neg (by rw [n_lt (by omega) (by omega)]; omega), show FU = 99995 + 1 + 4 from rfl, eb, Option.bind_some, ec, Option.bind_some, nI_add1]
      rfl) D (k + 1) μ 0 (by omega) ⟨Sm.rf h, hf, hg⟩
  obtain ⟨μ', P, e⟩ := key
  refine ⟨μ', P, ?_⟩
  refine e.trans ?_
  show X11_findRows_L84 134 (nI p) (nI (st + D)) (k + 1) (nI (st + 1 + D)) μ' = _
  rw [X11_findRows_L84, if_pos (by rw [n_lt (by omega) (by omega)]; omega)]
theorem rows_ok (h : Ok μ) (R : RelW μ) {t : Nat} (hp : p < 4) (ht : t < 61) : ∃ μ', (Sm μ μ' ∧ HJ μ' 139 4 (wgt μ false p t) ∧ HI μ' 141 4 (wgt μ true p t)) ∧ X11_findRows 134 (nI p) (nI t) μ = some μ' := by
  obtain ⟨a, ⟨sa, hj, hr⟩, e1⟩ := rows18 h R hp (st := t - 6) (by omega) (nI t) 99995
  obtain ⟨b, ⟨sb, hjb, hrb⟩, e2⟩ := rows84 sa.1 (R.sm sa) hp (st := t - 6) (D := t - (t - 6)) (by omega) (by intro i hi; rw [hj i hi, wN_sm sa]) (by intro i hi; rw [hr i hi, wN_sm sa]) (99999 - (t - (t - 6)))
  refine ⟨b, ⟨sa.tr sb, fun i hi => ?_, fun i hi => ?_⟩, ?_⟩
  · rw [hjb i hi, wN_sm sa]
    rfl
  · rw [hrb i hi, wN_sm sa]
    rfl
  · rw [show t - 6 + (t - (t - 6)) = t by omega, show 99999 - (t - (t - 6)) + 1 + (t - (t - 6)) = FU by unfold FU; omega] at e2
    have e0 : (if (6 : Int32) ≤ nI t then nI t - 6 else 0 : Int32) = nI (t - 6) := by
      by_cases q : 6 ≤ t
      · rw [if_pos (by rw [show (6 : Int32) = nI 6 from rfl, n_le (by decide) (by omega)]; exact q), show (6 : Int32) = nI 6 from rfl, pk_sub q]
      · rw [if_neg (by rw [show (6 : Int32) = nI 6 from rfl, n_le (by decide) (by omega)]; exact q), show t - 6 = 0 by omega]
        rfl
    rw [show 99995 + 1 + 4 = FU from rfl] at e1
    unfold X11_findRows
    simp only [e0, Option.bind_some, e1, nI_add1, e2]
end MR
end
section
/-! ===== the reference's odds ===== -/
section MO
variable {μ : Mem} {p t : Nat} {f g : Nat → Nat}
theorem odds38 (h : Ok μ) (hf : HJ μ 139 4 f) (hb : ∀ i, i < 4 → f i ≤ 16 * 64 ^ 6) (x3 : Int32) (k : Nat) : ∃ μ', (Sm μ μ' ∧ HI μ' 143 4 (fun i => if f 0 + f 1 + f 2 + f 3 = 0 then 0 else f i * 1000000 / (f 0 + f 1 + f 2 + f 3))) ∧ X11_findOdds_L38 134 x3 (lN (f 0 + f 1 + f 2 + f 3)) (k + 1 + 4) 0 μ = some (nI 4, μ') := by
  have hA : f 0 + f 1 + f 2 + f 3 ≤ 64 * 64 ^ 6 := by
    have h0 := hb 0 (by decide)
    have h1 := hb 1 (by decide)
    have h2 := hb 2 (by decide)
    have h3 := hb 3 (by decide)
    omega
  have key := loopP (F := fun k (a : Mem) i => X11_findOdds_L38 134 x3 (lN (f 0 + f 1 + f 2 + f 3)) k (nI i) a) (P := fun i a => Sm μ a ∧ HJ a 139 4 f ∧ HI a 143 i (fun i => if f 0 + f 1 + f 2 + f 3 = 0 then 0 else f i * 1000000 / (f 0 + f 1 + f 2 + f 3))) (n := 4) (fun k a i hi P => by
    obtain ⟨s, hja, hj⟩ := P
    have ha := s.1
    have hfi := hb i hi
    have er : ((if lg_cmp (lN (f 0 + f 1 + f 2 + f 3)) 0 = 0 then some 0 else (gR 11 6 134 a).bind fun v4 => (aJ v4 (nI i) a).bind fun v5 => (dvJ (v5 * 1000000) (lN (f 0 + f 1 + f 2 + f 3))).bind fun v6 => some v6.toInt32) : Option Int32) = some (nI (if f 0 + f 1 + f 2 + f 3 = 0 then 0 else f i * 1000000 / (f 0 + f 1 + f 2 + f 3))) := by
      by_cases q : f 0 + f 1 + f 2 + f 3 = 0
      · rw [if_pos (by rw [lN_iz (by omega)]; exact q), if_pos q]
        rfl
      · rw [if_neg (by rw [lN_iz (by omega)]; exact q), if_neg q, r_134_6 ha, Option.bind_some, aJ_eq (a := 139) ha (by decide) rfl hi (by decide), hja i hi, Option.bind_some, show (1000000 : Int64) = lN 1000000 from rfl, lN_mul, dvJ_eq (by omega) (by omega) (by omega), Option.bind_some, lN_i]
    refine ⟨wI a 143 i (nI (if f 0 + f 1 + f 2 + f 3 = 0 then 0 else f i * 1000000 / (f 0 + f 1 + f 2 + f 3))), ⟨s.wI (scr_m (by decide)), hja.wI, hj.put rfl⟩, ?_⟩
    show X11_findOdds_L38 134 x3 (lN (f 0 + f 1 + f 2 + f 3)) (k + 1) (nI i) a = _
    rw [X11_findOdds_L38, if_neg (ge4 hi), r_134_10 ha, Option.bind_some, er, Option.bind_some, sI_eq (a := 143) ha (by decide) rfl hi (by decide), Option.bind_some, nI_add1]) 4 (k + 1) μ 0 rfl ⟨Sm.rf h, hf, fun i hi => absurd hi (Nat.not_lt_zero i)⟩
  obtain ⟨μ', P, e⟩ := key
  refine ⟨μ', ⟨P.1, P.2.2⟩, ?_⟩
  rw [← nI_0]
  refine e.trans ?_
  show X11_findOdds_L38 134 x3 (lN (f 0 + f 1 + f 2 + f 3)) (k + 1) (nI 4) μ' = _
  rw [X11_findOdds_L38, if_pos (by decide)]
theorem tot_le (R : RelW μ) {i : Nat} (hi : i < 4) : tot μ i ≤ 16 := by
  have a0 := (R.1 i 0 hi (by decide)).2.2
  have a1 := (R.1 i 1 hi (by decide)).2.2
  have a2 := (R.1 i 2 hi (by decide)).2.2
  have a3 := (R.1 i 3 hi (by decide)).2.2
  unfold tot
  omega
theorem odds112 (h : Ok μ) (R : RelW μ) (hf : HI μ 143 4 f) (fb : ∀ i, i < 4 → f i ≤ 1000000) {j : Nat} (hj : j < 4) (z : mI μ 144 j = nI 0) {G : Nat → Nat} (hG : HI μ 144 j G) (x3 x6 : Int32) (k : Nat) : ∃ μ', (Sm μ μ' ∧ HI μ' 143 4 f ∧ HI μ' 144 j G ∧ mI μ' 144 j = nI (psm μ f j 4)) ∧ X11_findOdds_L112 134 x3 x6 (nI j) (k + 1 + 4) 0 μ = some (nI 4, μ') := by
  have key := loopP (F := fun k (a : Mem) i => X11_findOdds_L112 134 x3 x6 (nI j) k (nI i) a) (P := fun i a => Sm μ a ∧ HI a 143 4 f ∧ HI a 144 j G ∧ mI a 144 j = nI (psm μ f j i)) (n := 4) (fun k a i hi P => by
    obtain ⟨s, q1, q2, q3⟩ := P
    have ha := s.1
    have Ra := R.sm s
    have rd : ∀ j, j < 4 → aI 135 (nI (4 * i + j)) a = some (nI (mv μ i j)) := fun j hj => (aI_eq (a := 135) ha (by decide) rfl (by omega) (by decide)).trans (by rw [(Ra.1 i j hi hj).2.1, mv_sm s])
    have tl := tot_le R hi
    have m2 := fb i hi
    have m3 := (R.1 i j hi hj).2.2
    have m4 : f i * mv μ i j ≤ 1000000 * 4 := Nat.mul_le_mul m2 m3
    have er : ((if nI (tot μ i) = 0 then some 0 else (gR 11 10 134 a).bind fun v14 => (aI v14 (nI i) a).bind fun v15 => (gR 11 0 134 a).bind fun v16 => (aI v16 (nI (4 * i + j)) a).bind fun v17 => (dvI (v15 * v17) (nI (tot μ i))).bind fun v18 => some v18) : Option Int32) = some (nI (mvS μ f i j)) := by
      unfold mvS
      by_cases q : tot μ i = 0
      · rw [if_pos (by rw [q]; rfl), if_pos q]
        rfl
      · rw [if_neg (by rw [← nI_0, n_eq (by omega) (by decide)]; exact q), if_neg q, r_134_10 ha, Option.bind_some, aI_eq (a := 143) ha (by decide) rfl hi (by decide), q1 i hi, Option.bind_some, r_134_0 ha, Option.bind_some, rd j hj, Option.bind_some, pk_mul, dvI_eq (by omega) (by omega) (by omega), Option.bind_some]
    refine ⟨wI a 144 j (nI (psm μ f j (i + 1))), ⟨s.wI (scr_m (by decide)), q1.oth2 (by decide), q2.hi (Nat.le_refl _), by rw [mI_wI, if_pos ⟨rfl, rfl⟩]⟩, ?_⟩
    show X11_findOdds_L112 134 x3 x6 (nI j) (k + 1) (nI i) a = _
    have rd0 := rd 0 (by decide)
    rw [Nat.add_zero] at rd0
    rw [X11_findOdds_L112, if_neg (ge4 hi), show (4 : Int32) = nI 4 from rfl, pk_mul, show (1 : Int32) = nI 1 from rfl, show (2 : Int32) = nI 2 from rfl, show (3 : Int32) = nI 3 from rfl, nI_add, nI_add, nI_add, nI_add]
    simp only [r_134_0 ha, Option.bind_some, rd0, rd 1 (by decide), rd 2 (by decide), rd 3 (by decide), nI_add, r_134_11 ha, aI_eq (a := 144) ha (by decide) rfl hj (by decide), q3]
    have er2 := er
    unfold tot at er2
    rw [r_134_0 ha] at er2
    rw [show mv μ i 0 + mv μ i 1 + mv μ i 2 + mv μ i 3 = tot μ i from rfl] at er2 ⊢
    simp only [Option.bind_some] at er2
    rw [er2, Option.bind_some, nI_add]
    rw [show psm μ f j i + mvS μ f i j = psm μ f j (i + 1) from rfl, sI_eq (a := 144) ha (by decide) rfl hj (by decide), Option.bind_some]) 4 (k + 1) μ 0 rfl ⟨Sm.rf h, hf, hG, z⟩
  obtain ⟨μ', P, e⟩ := key
  refine ⟨μ', P, ?_⟩
  rw [← nI_0]
  refine e.trans ?_
  show X11_findOdds_L112 134 x3 x6 (nI j) (k + 1) (nI 4) μ' = _
  rw [X11_findOdds_L112, if_pos (by decide)]
theorem psm_sm {μ' : Mem} (s : Sm μ μ') (f : Nat → Nat) (j : Nat) : ∀ i, psm μ' f j i = psm μ f j i
  | 0 => rfl
  | i + 1 => by
    show psm μ' f j i + mvS μ' f i j = psm μ f j i + mvS μ f i j
    rw [psm_sm s f j i]
    unfold mvS tot
    rw [mv_sm s]
theorem odds95 (h : Ok μ) (R : RelW μ) (hf : HI μ 143 4 f) (fb : ∀ i, i < 4 → f i ≤ 1000000) (x3 x6 : Int32) (k : Nat) : ∃ μ', (Sm μ μ' ∧ HI μ' 144 4 (fun j => psm μ f j 4)) ∧ X11_findOdds_L95 134 x3 x6 (k + 1 + 4) 0 μ = some (nI 4, μ') := by
  have key := loopP (F := fun k (a : Mem) j => X11_findOdds_L95 134 x3 x6 k (nI j) a) (P := fun j a => Sm μ a ∧ HI a 143 4 f ∧ HI a 144 j (fun j => psm μ f j 4)) (n := 4) (fun k a j hj P => by
    obtain ⟨s, q1, q2⟩ := P
    have ha := s.1
    have sc : Sm μ (wI a 144 j (nI 0)) := s.wI (scr_m (by decide))
    obtain ⟨b, ⟨s2, r1, r2, r3⟩, eb⟩ := odds112 sc.1 (R.sm sc) (f := f) (q1.oth2 (by decide)) fb hj (by rw [mI_wI, if_pos ⟨rfl, rfl⟩]) (G := fun j => psm μ f j 4) (q2.hi (Nat.le_refl _)) x3 x6 99995
    refine ⟨b, ⟨sc.tr s2, r1, fun i hi => ?_⟩, ?_⟩
    · by_cases e : i = j
      · subst e
        rw [r3, psm_sm sc]
      · exact r2 i (by omega)
    · show X11_findOdds_L95 134 x3 x6 (k + 1) (nI j) a = _
      rw [X11_findOdds_L95, if_neg (ge4 hj), r_134_11 ha, Option.bind_some, ← nI_0, sI_eq (a := 144) ha (by decide) rfl hj (by decide), Option.bind_some, show FU = 99995 + 1 + 4 from rfl]
      rw [show (0 : Int32) = nI 0 from rfl] at eb
      rw [eb, Option.bind_some, nI_add1]) 4 (k + 1) μ 0 rfl ⟨Sm.rf h, hf, fun i hi => absurd hi (Nat.not_lt_zero i)⟩
  obtain ⟨μ', P, e⟩ := key
  refine ⟨μ', ⟨P.1, P.2.2⟩, ?_⟩
  rw [← nI_0]
  refine e.trans ?_
  show X11_findOdds_L95 134 x3 x6 (k + 1) (nI 4) μ' = _
  rw [X11_findOdds_L95, if_pos (by decide)]
theorem odds222 (h : Ok μ) (hf : HI μ 144 4 f) (x3 x6 : Int32) (k : Nat) : ∃ μ', (Sm μ μ' ∧ HI μ' 143 4 f) ∧ X11_findOdds_L222 134 x3 x6 (k + 1 + 4) 0 μ = some (nI 4, μ') := by
  have key := loopP (F := fun k (a : Mem) j => X11_findOdds_L222 134 x3 x6 k (nI j) a) (P := fun j a => Sm μ a ∧ HI a 144 4 f ∧ HI a 143 j f) (n := 4) (fun k a j hj P => by
    obtain ⟨s, q1, q2⟩ := P
    have ha := s.1
    refine ⟨wI a 143 j (nI (f j)), ⟨s.wI (scr_m (by decide)), q1.oth2 (by decide), q2.put rfl⟩, ?_⟩
    show X11_findOdds_L222 134 x3 x6 (k + 1) (nI j) a = _
    rw [X11_findOdds_L222, if_neg (ge4 hj), r_134_10 ha, Option.bind_some, r_134_11 ha, Option.bind_some, aI_eq (a := 144) ha (by decide) rfl hj (by decide), q1 j hj, Option.bind_some, sI_eq (a := 143) ha (by decide) rfl hj (by decide), Option.bind_some, nI_add1]) 4 (k + 1) μ 0 rfl ⟨Sm.rf h, hf, fun i hi => absurd hi (Nat.not_lt_zero i)⟩
  obtain ⟨μ', P, e⟩ := key
  refine ⟨μ', ⟨P.1, P.2.2⟩, ?_⟩
  rw [← nI_0]
  refine e.trans ?_
  show X11_findOdds_L222 134 x3 x6 (k + 1) (nI 4) μ' = _
  rw [X11_findOdds_L222, if_pos (by decide)]
theorem odds86 (h : Ok μ) (R : RelW μ) {k : Nat} (hk : k ≤ 8) (hf : HI μ 143 4 (odd μ p t 0)) (m : Nat) : ∃ μ', (Sm μ μ' ∧ HI μ' 143 4 (odd μ p t k)) ∧ X11_findOdds_L86 134 (nI k) (m + 1 + k) 0 μ = some (nI k, μ') := by
  have key := loopP (F := fun m (a : Mem) d => X11_findOdds_L86 134 (nI k) m (nI d) a) (P := fun d a => Sm μ a ∧ HI a 143 4 (odd μ p t d)) (n := k) (fun m a d hd P => by
    obtain ⟨s, q1⟩ := P
    obtain ⟨b, ⟨sb, r1⟩, eb⟩ := odds95 s.1 (R.sm s) q1 (fun i hi => odd_le hi) (nI k) (nI d) 99995
    obtain ⟨c, ⟨sc, t1⟩, ec⟩ := odds222 sb.1 r1 (nI k) (nI d) 99995
    refine ⟨c, ⟨(s.tr sb).tr sc, fun i hi => ?_⟩, ?_⟩
    · rw [t1 i hi]
      show nI (psm a (odd μ p t d) i 4) = _
      rw [psm_sm s]
      show nI (0 + mvS μ (odd μ p t d) 0 i + mvS μ (odd μ p t d) 1 i + mvS μ (odd μ p t d) 2 i + mvS μ (odd μ p t d) 3 i) = _
      rw [Nat.zero_add]
      rfl
    · show X11_findOdds_L86 134 (nI k) (m + 1) (nI d) a = _
      rw [X11_findOdds_L86, if_neg (by rw [n_le (by omega) (by omega)]; omega), show FU = 99995 + 1 + 4 from rfl, eb, Option.bind_some, ec, Option.bind_some, nI_add1]) k (m + 1) μ 0 (by omega) ⟨Sm.rf h, hf⟩
  obtain ⟨μ', P, e⟩ := key
  refine ⟨μ', P, ?_⟩
  rw [← nI_0]
  refine e.trans ?_
  show X11_findOdds_L86 134 (nI k) (m + 1) (nI k) μ' = _
  rw [X11_findOdds_L86, if_pos (by rw [n_le (by omega) (by omega)]; omega)]
theorem modds_ok (h : Ok μ) (R : RelW μ) {k : Nat} (hp : p < 4) (ht : t < 61) (hk : k ≤ 8) : ∃ μ', (Sm μ μ' ∧ HI μ' 143 4 (odd μ p t k)) ∧ X11_findOdds 134 (nI p) (nI t) (nI k) μ = some μ' := by
  obtain ⟨a, ⟨sa, hj, -⟩, ea⟩ := rows_ok h R hp ht
  obtain ⟨b, ⟨sb, gb⟩, eb⟩ := odds38 sa.1 hj (fun i hi => wgt_le R hp ht hi) (nI k) 99995
  have sb2 := sa.tr sb
  obtain ⟨d, ⟨sd, gd⟩, ed⟩ := odds86 sb2.1 (R.sm sb2) (p := p) (t := t) hk (by
    intro i hi
    rw [gb i hi, odd_sm sb2]
    rfl) (99999 - k)
  refine ⟨d, ⟨sb2.tr sd, fun i hi => ?_⟩, ?_⟩
  · rw [gd i hi, odd_sm sb2]
  · rw [show 99995 + 1 + 4 = FU from rfl] at eb
    rw [show 99999 - k + 1 + k = FU by unfold FU; omega] at ed
    have e : ∀ i, i < 4 → aJ 139 (nI i) a = some (lN (wgt μ false p t i)) := fun i hi => (aJ_eq (a := 139) sa.1 (by decide) rfl hi (by decide)).trans (by rw [hj i hi])
    unfold X11_findOdds
    rw [vO_eq (c := 11) (a := 134) h (by decide) rfl, Option.bind_some, ea, Option.bind_some, r_134_6 sa.1, Option.bind_some]
    have e0 : aJ 139 0 a = some (lN (wgt μ false p t 0)) := e 0 (by decide)
    have e1 : aJ 139 1 a = some (lN (wgt μ false p t 1)) := e 1 (by decide)
    have e2 : aJ 139 2 a = some (lN (wgt μ false p t 2)) := e 2 (by decide)
    have e3 : aJ 139 3 a = some (lN (wgt μ false p t 3)) := e 3 (by decide)
    rw [e0, Option.bind_some, Option.bind_some, e1, Option.bind_some, Option.bind_some, e2, Option.bind_some, Option.bind_some, e3, Option.bind_some, Option.bind_some, lN_add, lN_add, lN_add, eb, Option.bind_some, ed, Option.bind_some]
theorem mseam_ok (h : Ok μ) (R : RelW μ) {k : Nat} (hp : p < 4) (ht : t < 61) (hk : k ≤ 8) : ∃ μ', (Sm μ μ' ∧ HI μ' 143 4 (odd μ p t k)) ∧ X11_seamOdds 134 (nI p) (nI t) (nI k) μ = some (nI (sS μ (odd μ p t k)), μ') := by
  obtain ⟨a, ⟨sa, ha⟩, ea⟩ := modds_ok h R hp ht hk
  refine ⟨a, ⟨sa, ha⟩, ?_⟩
  have oa := sa.1
  have key := loopA (F := fun k (b : Int32) i => X11_seamOdds_L13 134 a k b (nI i)) (f := fun i b => b + nI (bt (ss μ) i * odd μ p t k i)) (n := 4) (fun k2 b i hi => by
    show X11_seamOdds_L13 134 a (k2 + 1) b (nI i) = _
    rw [X11_seamOdds_L13, if_neg (ge4 hi), gI_eq (a := 134) oa (by decide) rfl, show mI a 134 3 = ss μ from ss_sm sa, Option.bind_some, r_134_10 oa, Option.bind_some, aI_eq (a := 143) oa (by decide) rfl hi (by decide), ha i hi, Option.bind_some, bt_eq, pk_mul, Option.bind_some, nI_add1]) 4 99996 0 0 rfl
  have e : X11_seamOdds_L13 134 a FU 0 0 = some (nI (sS μ (odd μ p t k)), nI 4) := by
    refine (show X11_seamOdds_L13 134 a FU 0 0 = X11_seamOdds_L13 134 a (99996 + 4) 0 (nI 0) from rfl).trans (key.trans ?_)
    show X11_seamOdds_L13 134 a (99995 + 1) _ (nI 4) = _
    rw [X11_seamOdds_L13, if_pos (by decide)]
    simp only [itr, ← nI_0, nI_add, Nat.zero_add]
    rfl
  unfold X11_seamOdds
  rw [vO_eq (c := 11) (a := 134) h (by decide) rfl, Option.bind_some, ea, Option.bind_some, e, Option.bind_some]
end MO
end
section
/-! ===== what both hold of all else; the invariant of a run ===== -/
def cs (μ : Mem) (w s : Nat) : Nat := vN (mI μ 154 (4 * w + s))
def sn (μ : Mem) (w : Nat) : Nat := vN (mI μ 155 w)
def RelC (μ : Mem) : Prop := (∀ w s, w < 4 → s < 4 → mI μ (32 + w) s = nI (cs μ w s) ∧ mI μ 154 (4 * w + s) = nI (cs μ w s) ∧ cs μ w s ≤ 999) ∧ ∀ w, w < 4 → mI μ 36 w = nI (sn μ w) ∧ mI μ 155 w = nI (sn μ w) ∧ sn μ w ≤ 100
/-- of THINGS: 0 persons, 1 kind, 2 matter, 3 from, 4 worth, 5 less, 6 clock, 7 tick, 8 dead -/
def tv (μ : Mem) (c t : Nat) : Nat := vN (mI μ (145 + c) t)
def tn (μ : Mem) : Nat := vN (mI μ 134 12)
def tbd (c : Nat) : Nat := [15, 3, 5, 9, 999, 99, 60, 60, 1].getD c 0
def RelT (μ : Mem) : Prop := (mI μ 37 2 = nI (tn μ) ∧ mI μ 134 12 = nI (tn μ) ∧ tn μ ≤ 10) ∧ (∀ c t, c < 9 → t < 10 → mI μ (40 + t) c = nI (tv μ c t) ∧ mI μ (145 + c) t = nI (tv μ c t) ∧ tv μ c t ≤ tbd c) ∧ (∀ t, t < 10 → tv μ 7 t ≤ nw μ) ∧ ∀ t, tn μ ≤ t → t < 10 → tv μ 8 t = 0
/-- of SAYINGS: 0 person, 1 set, 2 way, 3 tick, 4 what came -/
def sv (μ : Mem) (c s : Nat) : Nat := vN (mI μ (170 + c) s)
def sc (μ : Mem) : Nat := vN (mI μ 134 45)
def sbd (c : Nat) : Nat := [3, 1023, 3, 60, 3].getD c 0
def RelS (μ : Mem) : Prop := (mI μ 37 3 = nI (sc μ) ∧ mI μ 134 45 = nI (sc μ) ∧ sc μ ≤ 40) ∧ (∀ c s, c < 5 → s < 40 → mI μ (50 + s) c = nI (sv μ c s) ∧ mI μ (170 + c) s = nI (sv μ c s) ∧ sv μ c s ≤ sbd c) ∧ (∀ s, s < 40 → sv μ 3 s ≤ nw μ) ∧ ∀ s, sc μ ≤ s → s < 40 → sv μ 4 s = 0
def tl (μ : Mem) : Nat := vN (mI μ 134 34)
def tx (μ : Mem) (k : Nat) : Nat := vN (mI μ 165 k)
def RelX (μ : Mem) : Prop := (mI μ 90 0 = nI (tl μ) ∧ mI μ 134 34 = nI (tl μ) ∧ tl μ ≤ 160) ∧ (∀ k, k < 160 → mI μ 91 k = nI (tx μ k) ∧ mI μ 165 k = nI (tx μ k) ∧ tx μ k ≤ 255) ∧ mI μ 90 2 = mI μ 134 35
/-- of LAWS of a person: how many; 0 the sort, 1 .. 3 the numbers of a clause -/
def lc (μ : Mem) (p : Nat) : Nat := vN (mI μ 156 p)
def lv (μ : Mem) (c p k : Nat) : Nat := vN (mI μ (157 + c) (8 * p + k))
def RelL (μ : Mem) : Prop := ∀ p, p < 4 → (mI μ (lwA μ p) 0 = nI (lc μ p) ∧ mI μ 156 p = nI (lc μ p) ∧ lc μ p ≤ 8) ∧ ∀ k, k < lc μ p → (mI μ (lwA μ p + 1) k = nI (lv μ 0 p k) ∧ mI μ 157 (8 * p + k) = nI (lv μ 0 p k) ∧ lv μ 0 p k ≤ 4) ∧ (mI μ (lwA μ p + 2) k = nI (lv μ 1 p k) ∧ mI μ 158 (8 * p + k) = nI (lv μ 1 p k) ∧ lv μ 1 p k ≤ 9 ∧ (lv μ 0 p k < 3 → lv μ 1 p k ≤ 3)) ∧ (1 ≤ lv μ 0 p k → lv μ 0 p k ≤ 3 → mI μ (lwA μ p + 3) k = nI (lv μ 2 p k) ∧ mI μ 159 (8 * p + k) = nI (lv μ 2 p k) ∧ lv μ 2 p k ≤ 60 ∧ (lv μ 0 p k = 1 → lv μ 2 p k ≤ 3)) ∧ (lv μ 0 p k = 1 → mI μ (lwA μ p + 4) k = nI (lv μ 3 p k) ∧ mI μ 160 (8 * p + k) = nI (lv μ 3 p k) ∧ lv μ 3 p k ≤ 100)
def Inv (μ : Mem) : Prop := Ok μ ∧ RelW μ ∧ RelC μ ∧ RelT μ ∧ RelS μ ∧ RelX μ ∧ RelL μ
theorem cs_sm {μ μ' : Mem} (h : Sm μ μ') : cs μ' = cs μ := by
  funext i j
  unfold cs
  rw [h.row rfl]
theorem sn_sm {μ μ' : Mem} (h : Sm μ μ') : sn μ' = sn μ := by
  funext i
  unfold sn
  rw [h.row rfl]
theorem coA_t {c : Nat} (hc : c < 16) : coA (145 + c) = true := by
  unfold coA
  rw [decide_eq_true_eq]
  omega
theorem coA_s {c : Nat} (hc : c < 5) : coA (170 + c) = true := by
  unfold coA
  rw [decide_eq_true_eq]
  omega
theorem coA_o {c : Nat} (hc : c < 50) : coA (40 + c) = true := by
  unfold coA
  rw [decide_eq_true_eq]
  omega
theorem tv_sm {μ μ' : Mem} (h : Sm μ μ') {c t : Nat} (hc : c < 9) : tv μ' c t = tv μ c t := by
  unfold tv
  rw [h.row (coA_t (by omega))]
theorem tn_sm {μ μ' : Mem} (h : Sm μ μ') : tn μ' = tn μ := by
  unfold tn
  rw [h.fld rfl]
theorem sv_sm {μ μ' : Mem} (h : Sm μ μ') {c s : Nat} (hc : c < 5) : sv μ' c s = sv μ c s := by
  unfold sv
  rw [h.row (coA_s hc)]
theorem sc_sm {μ μ' : Mem} (h : Sm μ μ') : sc μ' = sc μ := by
  unfold sc
  rw [h.fld rfl]
theorem tl_sm {μ μ' : Mem} (h : Sm μ μ') : tl μ' = tl μ := by
  unfold tl
  rw [h.fld rfl]
theorem tx_sm {μ μ' : Mem} (h : Sm μ μ') : tx μ' = tx μ := by
  funext k
  unfold tx
  rw [h.row rfl]
theorem lc_sm {μ μ' : Mem} (h : Sm μ μ') : lc μ' = lc μ := by
  funext p
  unfold lc
  rw [h.row rfl]
theorem lv_sm {μ μ' : Mem} (h : Sm μ μ') {c p k : Nat} (hc : c < 4) : lv μ' c p k = lv μ c p k := by
  unfold lv
  rw [show 157 + c = 145 + (12 + c) by omega, h.row (coA_t (by omega))]
theorem lw_sm {μ μ' : Mem} (h : Sm μ μ') : lwA μ' = lwA μ := by
  funext p
  unfold lwA
  rw [h.2.2.1]
theorem isLw.co {l c : Nat} (h : isLw l) (hc : c < 5) : coA (l + c) = true := by
  unfold coA
  rw [decide_eq_true_eq]
  unfold isLw at h
  omega
theorem Inv.sm {μ μ' : Mem} (h : Inv μ) (s : Sm μ μ') : Inv μ' := by
  obtain ⟨h0, h1, ⟨h2, h2b⟩, ⟨h3, h3b, h3c, h3d⟩, ⟨h4, h4b, h4c, h4d⟩, ⟨h5, h5b, h5c⟩, h6⟩ := h
  refine ⟨s.1, h1.sm s, ⟨fun w k hw hk => ?_, fun w hw => ?_⟩, ⟨?_, fun c t hc ht => ?_, fun t ht => ?_, fun t q ht => ?_⟩, ⟨?_, fun c t hc ht => ?_, fun t ht => ?_, fun t q ht => ?_⟩, ⟨?_, fun k hk => ?_, ?_⟩, fun p hp => ?_⟩
  · rw [s.row (coA_4 (by omega) hw), s.row (a := 154) rfl, cs_sm s]
    exact h2 w k hw hk
  · rw [s.row (a := 36) rfl, s.row (a := 155) rfl, sn_sm s]
    exact h2b w hw
  · rw [s.fld (a := 37) (k := 2) rfl, s.fld (a := 134) (k := 12) rfl, tn_sm s]
    exact h3
  · rw [s.row (coA_o (by omega)), s.row (coA_t (by omega)), tv_sm s hc]
    exact h3b c t hc ht
  · rw [tv_sm s (by decide), nw_sm s]
    exact h3c t ht
  · rw [tn_sm s] at q
    rw [tv_sm s (by decide)]
    exact h3d t q ht
  · rw [s.fld (a := 37) (k := 3) rfl, s.fld (a := 134) (k := 45) rfl, sc_sm s]
    exact h4
  · rw [show 50 + t = 40 + (10 + t) by omega, s.row (coA_o (by omega)), s.row (coA_s hc), sv_sm s hc, show 40 + (10 + t) = 50 + t by omega]
    exact h4b c t hc ht
  · rw [sv_sm s (by decide), nw_sm s]
    exact h4c t ht
  · rw [sc_sm s] at q
    rw [sv_sm s (by decide)]
    exact h4d t q ht
  · rw [s.fld (a := 90) (k := 0) rfl, s.fld (a := 134) (k := 34) rfl, tl_sm s]
    exact h5
  · rw [s.row (a := 91) rfl, s.row (a := 165) rfl, tx_sm s]
    exact h5b k hk
  · rw [s.fld (a := 90) (k := 2) rfl, s.fld (a := 134) (k := 35) rfl]
    exact h5c
  · obtain ⟨hl, hc⟩ := h6 p hp
    have il := (h0.2.2.2.2.1 p hp).2
    have r0 := s.row (il.co (c := 0) (by decide))
    rw [Nat.add_zero] at r0
    rw [lw_sm s, lc_sm s, r0, s.row (il.co (c := 1) (by decide)), s.row (il.co (c := 2) (by decide)), s.row (il.co (c := 3) (by decide)), s.row (il.co (c := 4) (by decide)), s.row (a := 156) rfl, s.row (a := 157) rfl, s.row (a := 158) rfl, s.row (a := 159) rfl, s.row (a := 160) rfl]
    refine ⟨hl, fun k hk => ?_⟩
    rw [lv_sm s (by decide), lv_sm s (by decide), lv_sm s (by decide), lv_sm s (by decide)]
    exact hc k hk
end
section
/-! ===== a part of the invariant rests on its own rows alone ===== -/
section CG
variable {μ μ' : Mem}
theorem row_ne {a k b : Nat} {v : Int32} (h : b ≠ a) : mI (wI μ a k v) b = mI μ b := funext fun j => by rw [mI_wI, if_neg (fun q => h q.1)]
theorem fld_ne {a k b j : Nat} {v : Int32} (h : ¬ (b = a ∧ j = k)) : mI (wI μ a k v) b j = mI μ b j := by rw [mI_wI, if_neg h]
theorem fld_eq {a k : Nat} {v : Int32} : mI (wI μ a k v) a k = v := by rw [mI_wI, if_pos ⟨rfl, rfl⟩]
theorem RW1.cg (h : RW1 μ) (e1 : ∀ i, i < 4 → mI μ' (3 + i) = mI μ (3 + i)) (e2 : mI μ' 135 = mI μ 135) : RW1 μ' := by
  have e : mv μ' = mv μ := by
    funext i j
    unfold mv
    rw [e2]
  intro i j hi hj
  rw [e1 i hi, e2, e]
  exact h i j hi hj
theorem RW2.cg (h : RW2 μ) (e1 : ∀ i, i < 4 → mI μ' (8 + i) = mI μ (8 + i)) (e2 : mI μ' 136 = mI μ 136) : RW2 μ' := by
  have e : sw μ' = sw μ := by
    funext i j
    unfold sw
    rw [e2]
  intro i j hi hj
  rw [e1 i hi, e2, e]
  exact h i j hi hj
theorem RW3.cg (h : RW3 μ) (e1 : mI μ' 12 = mI μ 12) (e2 : mI μ' 137 = mI μ 137) : RW3 μ' := by
  have e : bg μ' = bg μ := by
    funext i
    unfold bg
    rw [e2]
  intro i hi
  rw [e1, e2, e]
  exact h i hi
theorem RW4.cg (h : RW4 μ) (e1 : mI μ' 1 5 = mI μ 1 5) (e2 : mI μ' 134 3 = mI μ 134 3) : RW4 μ' := by
  have e : ss μ' = ss μ := e2
  unfold RW4
  rw [e1, e]
  exact h
theorem RW5.cg (h : RW5 μ) (e1 : ∀ i, i < 4 → mI μ' (14 + i) = mI μ (14 + i)) (e2 : mI μ' 138 = mI μ 138) : RW5 μ' := by
  have e : sg μ' = sg μ := by
    funext i j
    unfold sg
    rw [e2]
  intro i j hi hj
  rw [e1 i hi, e]
  exact h i j hi hj
theorem RW6.cg (h : RW6 μ) (e1 : mI μ' 0 10 = mI μ 0 10) (e2 : mI μ' 134 5 = mI μ 134 5) : RW6 μ' := by
  have e : nw μ' = nw μ := by
    unfold nw
    rw [e2]
  unfold RW6
  rw [e1, e2, e]
  exact h
theorem RelC.cg (h : RelC μ) (e1 : ∀ i, i < 4 → mI μ' (32 + i) = mI μ (32 + i)) (e2 : mI μ' 154 = mI μ 154) (e3 : mI μ' 36 = mI μ 36) (e4 : mI μ' 155 = mI μ 155) : RelC μ' := by
  have ea : cs μ' = cs μ := by
    funext i j
    unfold cs
    rw [e2]
  have eb : sn μ' = sn μ := by
    funext i
    unfold sn
    rw [e4]
  refine ⟨fun i j hi hj => ?_, fun i hi => ?_⟩
  · rw [e1 i hi, e2, ea]
    exact h.1 i j hi hj
  · rw [e3, e4, eb]
    exact h.2 i hi
theorem RelT.cg (h : RelT μ) (e1 : mI μ' 37 2 = mI μ 37 2) (e2 : mI μ' 134 12 = mI μ 134 12) (e3 : ∀ t, t < 10 → mI μ' (40 + t) = mI μ (40 + t)) (e4 : ∀ c, c < 9 → mI μ' (145 + c) = mI μ (145 + c)) (e5 : nw μ ≤ nw μ') : RelT μ' := by
  have ea : tn μ' = tn μ := by
    unfold tn
    rw [e2]
  have eb : ∀ c t, c < 9 → tv μ' c t = tv μ c t := fun c t hc => by
    unfold tv
    rw [e4 c hc]
  refine ⟨?_, fun c t hc ht => ?_, fun t ht => ?_, fun t q ht => ?_⟩
  · rw [e1, e2, ea]
    exact h.1
  · rw [e3 t ht, e4 c hc, eb c t hc]
    exact h.2.1 c t hc ht
  · rw [eb 7 t (by decide)]
    exact Nat.le_trans (h.2.2.1 t ht) e5
  · rw [ea] at q
    rw [eb 8 t (by decide)]
    exact h.2.2.2 t q ht
theorem RelS.cg (h : RelS μ) (e1 : mI μ' 37 3 = mI μ 37 3) (e2 : mI μ' 134 45 = mI μ 134 45) (e3 : ∀ t, t < 40 → mI μ' (50 + t) = mI μ (50 + t)) (e4 : ∀ c, c < 5 → mI μ' (170 + c) = mI μ (170 + c)) (e5 : nw μ ≤ nw μ') : RelS μ' := by
  have ea : sc μ' = sc μ := by
    unfold sc
    rw [e2]
  have eb : ∀ c t, c < 5 → sv μ' c t = sv μ c t := fun c t hc => by
    unfold sv
    rw [e4 c hc]
  refine ⟨?_, fun c t hc ht => ?_, fun t ht => ?_, fun t q ht => ?_⟩
  · rw [e1, e2, ea]
    exact h.1
  · rw [e3 t ht, e4 c hc, eb c t hc]
    exact h.2.1 c t hc ht
  · rw [eb 3 t (by decide)]
    exact Nat.le_trans (h.2.2.1 t ht) e5
  · rw [ea] at q
    rw [eb 4 t (by decide)]
    exact h.2.2.2 t q ht
theorem RelX.cg (h : RelX μ) (e1 : mI μ' 90 0 = mI μ 90 0) (e2 : mI μ' 134 34 = mI μ 134 34) (e3 : mI μ' 91 = mI μ 91) (e4 : mI μ' 165 = mI μ 165) (e5 : mI μ' 90 2 = mI μ 90 2) (e6 : mI μ' 134 35 = mI μ 134 35) : RelX μ' := by
  have ea : tl μ' = tl μ := by
    unfold tl
    rw [e2]
  have eb : tx μ' = tx μ := by
    funext k
    unfold tx
    rw [e4]
  refine ⟨?_, fun k hk => ?_, ?_⟩
  · rw [e1, e2, ea]
    exact h.1
  · rw [e3, e4, eb]
    exact h.2.1 k hk
  · rw [e5, e6]
    exact h.2.2
theorem RelL.cg (o : Ok μ) (h : RelL μ) (e0 : mR μ' 92 = mR μ 92) (e1 : ∀ l c, isLw l → c < 5 → mI μ' (l + c) = mI μ (l + c)) (e2 : ∀ c, c < 5 → mI μ' (156 + c) = mI μ (156 + c)) : RelL μ' := by
  intro p hp
  have il := (o.2.2.2.2.1 p hp).2
  have ea : lwA μ' p = lwA μ p := by
    unfold lwA
    rw [e0]
  have eb : lc μ' p = lc μ p := by
    unfold lc
    rw [show (156 : Nat) = 156 + 0 from rfl, e2 0 (by decide)]
  have ec : ∀ c k, c < 4 → lv μ' c p k = lv μ c p k := fun c k hc => by
    unfold lv
    rw [show 157 + c = 156 + (c + 1) by omega, e2 (c + 1) (by omega)]
  have r0 := e1 (lwA μ p) 0 il (by decide)
  rw [Nat.add_zero] at r0
  have q0 := e2 0 (by decide)
  have q1 := e2 1 (by decide)
  have q2 := e2 2 (by decide)
  have q3 := e2 3 (by decide)
  have q4 := e2 4 (by decide)
  rw [ea, eb, r0, e1 _ 1 il (by decide), e1 _ 2 il (by decide), e1 _ 3 il (by decide), e1 _ 4 il (by decide), q0, q1, q2, q3, q4]
  refine ⟨(h p hp).1, fun k hk => ?_⟩
  rw [ec 0 k (by decide), ec 1 k (by decide), ec 2 k (by decide), ec 3 k (by decide)]
  exact (h p hp).2 k hk
end CG
/-! ===== bounds are looked at alike ===== -/
theorem i64_lt (x y : Int32) : (x.toInt64 < y.toInt64) = (x < y) := by
  rw [Int64.lt_iff_toInt_lt, Int32.lt_iff_toInt_lt, Int32.toInt_toInt64, Int32.toInt_toInt64]
theorem in_eq (x a b : Int32) : X11_in x.toInt64 a.toInt64 b.toInt64 = X10_within x a b := by
  unfold X11_in X10_within
  simp only [lg_cmp_lt, lg_cmp_gt, i64_lt]
theorem gd (x : Int32) (n : Nat) (hn : n < 2 ^ 31) : (X10_within x 0 (nI n) = 0 ∧ X11_in x.toInt64 0 (nI n).toInt64 = 0) ∨ (¬ X10_within x 0 (nI n) = 0 ∧ ¬ X11_in x.toInt64 0 (nI n).toInt64 = 0 ∧ ∃ i, i ≤ n ∧ x = nI i) := by
  have e : X11_in x.toInt64 0 (nI n).toInt64 = X10_within x 0 (nI n) := in_eq x 0 (nI n)
  rw [e]
  by_cases h : X10_within x 0 (nI n) = 0
  · exact Or.inl ⟨h, h⟩
  · refine Or.inr ⟨h, h, ?_⟩
    unfold X10_within at h
    split at h
    · exact absurd rfl h
    · split at h
      · exact absurd rfl h
      · rename_i h1 h2
        exact win hn h1 h2
theorem exch {μ : Mem} {a n j : Nat} {v : Int32} (h : Ok μ) (ha : a < 175) (hs : S0 a = (1, n)) (hj : j < n) (hn : n < 2 ^ 31) : X10_exchange a (nI j) v μ = some (mI μ a j, wI μ a j v) := by
  unfold X10_exchange
  rw [if_neg (nI_pos (by omega)), aL_eq h ha hs (by decide) (by decide), Option.bind_some, if_pos (by rw [n_lt (by omega) hn]; exact hj), aI_eq h ha hs hj hn, Option.bind_some, sI_eq h ha hs hj hn, Option.bind_some]
end
section
/-! ===== calls, pair by pair: the class, then the reference; the same answer ===== -/
def Pair (fC fM : Mem → Option (Int32 × Mem)) : Prop := ∀ μ, Inv μ → ∃ r μ1 μ2, fC μ = some (r, μ1) ∧ Ok μ1 ∧ fM μ1 = some (r, μ2) ∧ Inv μ2
theorem pairR {fC fM : Mem → Option (Int32 × Mem)} {μ : Mem} (h : Inv μ) {r : Int32} (e1 : fC μ = some (r, μ)) (e2 : fM μ = some (r, μ)) : ∃ r μ1 μ2, fC μ = some (r, μ1) ∧ Ok μ1 ∧ fM μ1 = some (r, μ2) ∧ Inv μ2 := ⟨r, μ, μ, e1, h.1, e2, h⟩
theorem pairS {fC fM : Mem → Option (Int32 × Mem)} {μ μ1 μ2 : Mem} (h : Inv μ) {r : Int32} (e1 : fC μ = some (r, μ1)) (s1 : Sm μ μ1) (e2 : fM μ1 = some (r, μ2)) (s2 : Sm μ1 μ2) : ∃ r μ1 μ2, fC μ = some (r, μ1) ∧ Ok μ1 ∧ fM μ1 = some (r, μ2) ∧ Inv μ2 := ⟨r, μ1, μ2, e1, s1.1, e2, (h.sm s1).sm s2⟩
theorem nw_le {μ μ' : Mem} (e : mI μ' 134 5 = mI μ 134 5) : nw μ ≤ nw μ' := by
  unfold nw
  rw [e]
  exact Nat.le_refl _
theorem p_move (x1 x2 x3 : Int32) : Pair (X10_move 0 x1 x2 x3) (X11_move 134 x1 x2 x3) := by
  intro μ h
  have h0 := h
  obtain ⟨o, ⟨w1, w2, w3, w4, w5, w6⟩, hC, hT, hS, hX, hL⟩ := h
  rcases gd x1 3 (by decide) with ⟨g1, k1⟩ | ⟨g1, k1, i, hi, rfl⟩
  · exact pairR h0 (by unfold X10_move; rw [if_pos (show X10_isState x1 = 0 from g1)]) (by unfold X11_move; rw [if_pos (show X11_isState x1 = 0 from k1)])
  rcases gd x2 3 (by decide) with ⟨g2, k2⟩ | ⟨g2, k2, j, hj, rfl⟩
  · exact pairR h0 (by unfold X10_move; rw [if_neg (show ¬ X10_isState (nI i) = 0 from g1), if_pos (show X10_isState x2 = 0 from g2)]) (by unfold X11_move; rw [if_neg (show ¬ X11_isState (nI i) = 0 from k1), if_pos (show X11_isState x2 = 0 from k2)])
  rcases gd x3 4 (by decide) with ⟨g3, k3⟩ | ⟨g3, k3, v, hv, rfl⟩
  · exact pairR h0 (by unfold X10_move; rw [if_neg (show ¬ X10_isState (nI i) = 0 from g1), if_neg (show ¬ X10_isState (nI j) = 0 from g2), if_pos (show X10_isOften x3 = 0 from g3)]) (by unfold X11_move; rw [if_neg (show ¬ X11_isState (nI i) = 0 from k1), if_neg (show ¬ X11_isState (nI j) = 0 from k2), if_pos (show X11_in x3.toInt64 0 4 = 0 from k3)])
  have o1 : Ok (wI μ (3 + i) j (nI v)) := o
  have oldM := w1 i j (by omega) (by omega)
  refine ⟨nI (mv μ i j), wI μ (3 + i) j (nI v), wI (wI μ (3 + i) j (nI v)) 135 (4 * i + j) (nI v), ?_, o, ?_, ?_⟩
  · unfold X10_move
    rw [if_neg (show ¬ X10_isState (nI i) = 0 from g1), if_neg (show ¬ X10_isState (nI j) = 0 from g2), if_neg (show ¬ X10_isOften (nI v) = 0 from g3), r_0_0 o, Option.bind_some, r_1_0 o, Option.bind_some, ar_next o (by omega), Option.bind_some, exch o (by omega) (s_next (by omega)) (by omega) (by decide), Option.bind_some, oldM.1]
  · unfold X11_move
    rw [if_neg (show ¬ X11_isState (nI i) = 0 from k1), if_neg (show ¬ X11_isState (nI j) = 0 from k2), if_neg (show ¬ X11_in (nI v).toInt64 0 4 = 0 from k3), r_134_0 o1, Option.bind_some, show (4 : Int32) = nI 4 from rfl, pk_mul, nI_add, aI_eq (a := 135) o1 (by decide) rfl (by omega) (by decide), row_ne (by omega), oldM.2.1, Option.bind_some, Option.bind_some, sI_eq (a := 135) o1 (by decide) rfl (by omega) (by decide), Option.bind_some]
  · have rn : ∀ a, a ≠ 3 + i → a ≠ 135 → mI (wI (wI μ (3 + i) j (nI v)) 135 (4 * i + j) (nI v)) a = mI μ a := fun a q1 q2 => by rw [row_ne q2, row_ne q1]
    refine ⟨o, ⟨?_, w2.cg (fun q hq => rn _ (by omega) (by omega)) (rn _ (by omega) (by omega)), w3.cg (rn _ (by omega) (by omega)) (rn _ (by omega) (by omega)), w4.cg (by rw [rn _ (by omega) (by omega)]) (by rw [rn _ (by omega) (by omega)]), w5.cg (fun q hq => rn _ (by omega) (by omega)) (rn _ (by omega) (by omega)), w6.cg (by rw [rn _ (by omega) (by omega)]) (by rw [rn _ (by omega) (by omega)])⟩, hC.cg (fun q hq => rn _ (by omega) (by omega)) (rn _ (by omega) (by omega)) (rn _ (by omega) (by omega)) (rn _ (by omega) (by omega)), hT.cg (by rw [rn _ (by omega) (by omega)]) (by rw [rn _ (by omega) (by omega)]) (fun q hq => rn _ (by omega) (by omega)) (fun q hq => rn _ (by omega) (by omega)) (by unfold nw; rw [rn 134 (by omega) (by omega)]; exact Nat.le_refl _), hS.cg (by rw [rn _ (by omega) (by omega)]) (by rw [rn _ (by omega) (by omega)]) (fun q hq => rn _ (by omega) (by omega)) (fun q hq => rn _ (by omega) (by omega)) (by unfold nw; rw [rn 134 (by omega) (by omega)]; exact Nat.le_refl _), hX.cg (by rw [rn _ (by omega) (by omega)]) (by rw [rn _ (by omega) (by omega)]) (rn _ (by omega) (by omega)) (rn _ (by omega) (by omega)) (by rw [rn _ (by omega) (by omega)]) (by rw [rn _ (by omega) (by omega)]), hL.cg o rfl (fun l c hl hc => rn _ (by unfold isLw at hl; omega) (by unfold isLw at hl; omega)) (fun c hc => rn _ (by omega) (by omega))⟩
    intro i' j' hi' hj'
    have em : mv (wI (wI μ (3 + i) j (nI v)) 135 (4 * i + j) (nI v)) i' j' = if i' = i ∧ j' = j then v else mv μ i' j' := by
      unfold mv
      by_cases q : i' = i ∧ j' = j
      · obtain ⟨rfl, rfl⟩ := q
        rw [fld_eq, if_pos ⟨rfl, rfl⟩, vN_nI (by omega)]
      · rw [fld_ne (fun z => q (by omega)), row_ne (by omega), if_neg q]
    rw [em]
    by_cases q : i' = i ∧ j' = j
    · obtain ⟨rfl, rfl⟩ := q
      rw [if_pos ⟨rfl, rfl⟩, row_ne (by omega), fld_eq, fld_eq]
      exact ⟨rfl, rfl, hv⟩
    · rw [if_neg q, row_ne (by omega), fld_ne (fun z => q (by omega)), fld_ne (fun z => q (by omega)), row_ne (by omega)]
      exact w1 i' j' hi' hj'
end
section
theorem p_shows (x1 x2 x3 : Int32) : Pair (X10_shows 0 x1 x2 x3) (X11_shows 134 x1 x2 x3) := by
  intro μ h
  have h0 := h
  obtain ⟨o, ⟨w1, w2, w3, w4, w5, w6⟩, hC, hT, hS, hX, hL⟩ := h
  rcases gd x1 3 (by decide) with ⟨g0, k0⟩ | ⟨g0, k0, i, hi, rfl⟩
  · exact pairR h0 (by unfold X10_shows; rw [if_pos (show X10_isState x1 = 0 from g0)]) (by unfold X11_shows; rw [if_pos (show X11_isState x1 = 0 from k0)])
  rcases gd x2 3 (by decide) with ⟨g1, k1⟩ | ⟨g1, k1, j, hj, rfl⟩
  · exact pairR h0 (by unfold X10_shows; rw [if_neg (show ¬ X10_isState (nI i) = 0 from g0), if_pos (show X10_within x2 0 3 = 0 from g1)]) (by unfold X11_shows; rw [if_neg (show ¬ X11_isState (nI i) = 0 from k0), if_pos (show X11_isState x2 = 0 from k1)])
  rcases gd x3 4 (by decide) with ⟨g2, k2⟩ | ⟨g2, k2, v, hv, rfl⟩
  · exact pairR h0 (by unfold X10_shows; rw [if_neg (show ¬ X10_isState (nI i) = 0 from g0), if_neg (show ¬ X10_within (nI j) 0 3 = 0 from g1), if_pos (show X10_isOften x3 = 0 from g2)]) (by unfold X11_shows; rw [if_neg (show ¬ X11_isState (nI i) = 0 from k0), if_neg (show ¬ X11_isState (nI j) = 0 from k1), if_pos (show X11_in (x3).toInt64 0 4 = 0 from k2)])
  have o1 : Ok (wI μ (8 + i) j (nI v)) := o
  have oldM := w2 i j (by omega) (by omega)
  refine ⟨nI (sw μ i j), wI μ (8 + i) j (nI v), wI (wI μ (8 + i) (j) (nI v)) (136) (4 * i + j) (nI v), ?_, o, ?_, ?_⟩
  · unfold X10_shows
    rw [if_neg (show ¬ X10_isState (nI i) = 0 from g0), if_neg (show ¬ X10_within (nI j) 0 3 = 0 from g1), if_neg (show ¬ X10_isOften (nI v) = 0 from g2), r_0_0 o, Option.bind_some, r_1_1 o, Option.bind_some, ar_shown o (by omega), Option.bind_some, exch o (by omega) (s_shown (by omega)) (by omega) (by decide), Option.bind_some, oldM.1]
  · unfold X11_shows
    rw [if_neg (show ¬ X11_isState (nI i) = 0 from k0), if_neg (show ¬ X11_isState (nI j) = 0 from k1), if_neg (show ¬ X11_in ((nI v)).toInt64 0 4 = 0 from k2), r_134_1 o1, Option.bind_some, show (4 : Int32) = nI 4 from rfl, pk_mul, nI_add, aI_eq (a := 136) o1 (by decide) rfl (by omega) (by decide), row_ne (by omega), oldM.2.1, Option.bind_some, Option.bind_some, sI_eq (a := 136) o1 (by decide) rfl (by omega) (by decide), Option.bind_some]
  · skip
    have ln : ∀ a k, ¬ (a = 8 + i ∧ k = j) → ¬ (a = 136 ∧ k = 4 * i + j) → mI (wI (wI μ (8 + i) (j) (nI v)) (136) (4 * i + j) (nI v)) a k = mI μ a k := fun a k q1 q2 => by rw [fld_ne q2, fld_ne q1]
    have rn : ∀ a, a ≠ 8 + i → a ≠ 136 → mI (wI (wI μ (8 + i) (j) (nI v)) (136) (4 * i + j) (nI v)) a = mI μ a := fun a q1 q2 => by rw [row_ne q2, row_ne q1]
    refine ⟨o, ⟨w1.cg (fun q hq => rn _ (by omega) (by omega)) (rn _ (by omega) (by omega)), ?_, w3.cg (rn _ (by omega) (by omega)) (rn _ (by omega) (by omega)), w4.cg (ln _ _ (by omega) (by omega)) (ln _ _ (by omega) (by omega)), w5.cg (fun q hq => rn _ (by omega) (by omega)) (rn _ (by omega) (by omega)), w6.cg (ln _ _ (by omega) (by omega)) (ln _ _ (by omega) (by omega))⟩, hC.cg (fun q hq => rn _ (by omega) (by omega)) (rn _ (by omega) (by omega)) (rn _ (by omega) (by omega)) (rn _ (by omega) (by omega)), hT.cg (ln _ _ (by omega) (by omega)) (ln _ _ (by omega) (by omega)) (fun q hq => rn _ (by omega) (by omega)) (fun q hq => rn _ (by omega) (by omega)) (nw_le (ln 134 5 (by omega) (by omega))), hS.cg (ln _ _ (by omega) (by omega)) (ln _ _ (by omega) (by omega)) (fun q hq => rn _ (by omega) (by omega)) (fun q hq => rn _ (by omega) (by omega)) (nw_le (ln 134 5 (by omega) (by omega))), hX.cg (ln _ _ (by omega) (by omega)) (ln _ _ (by omega) (by omega)) (rn _ (by omega) (by omega)) (rn _ (by omega) (by omega)) (ln _ _ (by omega) (by omega)) (ln _ _ (by omega) (by omega)), hL.cg o rfl (fun l c hl hc => rn _ (by unfold isLw at hl; omega) (by unfold isLw at hl; omega)) (fun c hc => rn _ (by omega) (by omega))⟩
    intro i' j' hi' hj'
    have em : sw (wI (wI μ (8 + i) (j) (nI v)) (136) (4 * i + j) (nI v)) i' j' = if i' = i ∧ j' = j then v else sw μ i' j' := by
      unfold sw
      by_cases q : i' = i ∧ j' = j
      · obtain ⟨rfl, rfl⟩ := q
        rw [fld_eq, if_pos ⟨rfl, rfl⟩, vN_nI (by omega)]
      · rw [fld_ne (fun z => q (by omega)), row_ne (by omega), if_neg q]
    rw [em]
    by_cases q : i' = i ∧ j' = j
    · obtain ⟨rfl, rfl⟩ := q
      rw [if_pos ⟨rfl, rfl⟩, row_ne (by omega), fld_eq, fld_eq]
      exact ⟨rfl, rfl, hv⟩
    · rw [if_neg q, row_ne (by omega), fld_ne (fun z => q (by omega)), fld_ne (fun z => q (by omega)), row_ne (by omega)]
      exact w2 i' j' hi' hj'

theorem p_cost (x1 x2 x3 : Int32) : Pair (X10_cost 0 x1 x2 x3) (X11_cost 134 x1 x2 x3) := by
  intro μ h
  have h0 := h
  obtain ⟨o, ⟨w1, w2, w3, w4, w5, w6⟩, hC, hT, hS, hX, hL⟩ := h
  rcases gd x1 3 (by decide) with ⟨g0, k0⟩ | ⟨g0, k0, i, hi, rfl⟩
  · exact pairR h0 (by unfold X10_cost; rw [if_pos (show X10_isWay x1 = 0 from g0)]) (by unfold X11_cost; rw [if_pos (show X11_isWay x1 = 0 from k0)])
  rcases gd x2 3 (by decide) with ⟨g1, k1⟩ | ⟨g1, k1, j, hj, rfl⟩
  · exact pairR h0 (by unfold X10_cost; rw [if_neg (show ¬ X10_isWay (nI i) = 0 from g0), if_pos (show X10_isState x2 = 0 from g1)]) (by unfold X11_cost; rw [if_neg (show ¬ X11_isWay (nI i) = 0 from k0), if_pos (show X11_isState x2 = 0 from k1)])
  rcases gd x3 999 (by decide) with ⟨g2, k2⟩ | ⟨g2, k2, v, hv, rfl⟩
  · exact pairR h0 (by unfold X10_cost; rw [if_neg (show ¬ X10_isWay (nI i) = 0 from g0), if_neg (show ¬ X10_isState (nI j) = 0 from g1), if_pos (show X10_within x3 0 999 = 0 from g2)]) (by unfold X11_cost; rw [if_neg (show ¬ X11_isWay (nI i) = 0 from k0), if_neg (show ¬ X11_isState (nI j) = 0 from k1), if_pos (show X11_in (x3).toInt64 0 999 = 0 from k2)])
  have o1 : Ok (wI μ (32 + i) j (nI v)) := o
  have oldM := hC.1 i j (by omega) (by omega)
  refine ⟨nI (cs μ i j), wI μ (32 + i) j (nI v), wI (wI μ (32 + i) (j) (nI v)) (154) (4 * i + j) (nI v), ?_, o, ?_, ?_⟩
  · unfold X10_cost
    rw [if_neg (show ¬ X10_isWay (nI i) = 0 from g0), if_neg (show ¬ X10_isState (nI j) = 0 from g1), if_neg (show ¬ X10_within (nI v) 0 999 = 0 from g2), r_0_1 o, Option.bind_some, r_30_0 o, Option.bind_some, ar_costs o (by omega), Option.bind_some, exch o (by omega) (s_costs (by omega)) (by omega) (by decide), Option.bind_some, oldM.1]
  · unfold X11_cost
    rw [if_neg (show ¬ X11_isWay (nI i) = 0 from k0), if_neg (show ¬ X11_isState (nI j) = 0 from k1), if_neg (show ¬ X11_in ((nI v)).toInt64 0 999 = 0 from k2), r_134_22 o1, Option.bind_some, show (4 : Int32) = nI 4 from rfl, pk_mul, nI_add, aI_eq (a := 154) o1 (by decide) rfl (by omega) (by decide), row_ne (by omega), oldM.2.1, Option.bind_some, Option.bind_some, sI_eq (a := 154) o1 (by decide) rfl (by omega) (by decide), Option.bind_some]
  · skip
    have ln : ∀ a k, ¬ (a = 32 + i ∧ k = j) → ¬ (a = 154 ∧ k = 4 * i + j) → mI (wI (wI μ (32 + i) (j) (nI v)) (154) (4 * i + j) (nI v)) a k = mI μ a k := fun a k q1 q2 => by rw [fld_ne q2, fld_ne q1]
    have rn : ∀ a, a ≠ 32 + i → a ≠ 154 → mI (wI (wI μ (32 + i) (j) (nI v)) (154) (4 * i + j) (nI v)) a = mI μ a := fun a q1 q2 => by rw [row_ne q2, row_ne q1]
    refine ⟨o, ⟨w1.cg (fun q hq => rn _ (by omega) (by omega)) (rn _ (by omega) (by omega)), w2.cg (fun q hq => rn _ (by omega) (by omega)) (rn _ (by omega) (by omega)), w3.cg (rn _ (by omega) (by omega)) (rn _ (by omega) (by omega)), w4.cg (ln _ _ (by omega) (by omega)) (ln _ _ (by omega) (by omega)), w5.cg (fun q hq => rn _ (by omega) (by omega)) (rn _ (by omega) (by omega)), w6.cg (ln _ _ (by omega) (by omega)) (ln _ _ (by omega) (by omega))⟩, ?_, hT.cg (ln _ _ (by omega) (by omega)) (ln _ _ (by omega) (by omega)) (fun q hq => rn _ (by omega) (by omega)) (fun q hq => rn _ (by omega) (by omega)) (nw_le (ln 134 5 (by omega) (by omega))), hS.cg (ln _ _ (by omega) (by omega)) (ln _ _ (by omega) (by omega)) (fun q hq => rn _ (by omega) (by omega)) (fun q hq => rn _ (by omega) (by omega)) (nw_le (ln 134 5 (by omega) (by omega))), hX.cg (ln _ _ (by omega) (by omega)) (ln _ _ (by omega) (by omega)) (rn _ (by omega) (by omega)) (rn _ (by omega) (by omega)) (ln _ _ (by omega) (by omega)) (ln _ _ (by omega) (by omega)), hL.cg o rfl (fun l c hl hc => rn _ (by unfold isLw at hl; omega) (by unfold isLw at hl; omega)) (fun c hc => rn _ (by omega) (by omega))⟩
    refine ⟨?_, fun w hw => by
      have e9 : sn (wI (wI μ (32 + i) (j) (nI v)) (154) (4 * i + j) (nI v)) = sn μ := by
        funext w
        unfold sn
        rw [rn 155 (by omega) (by omega)]
      rw [rn 36 (by omega) (by omega), rn 155 (by omega) (by omega), e9]
      exact hC.2 w hw⟩
    intro i' j' hi' hj'
    have em : cs (wI (wI μ (32 + i) (j) (nI v)) (154) (4 * i + j) (nI v)) i' j' = if i' = i ∧ j' = j then v else cs μ i' j' := by
      unfold cs
      by_cases q : i' = i ∧ j' = j
      · obtain ⟨rfl, rfl⟩ := q
        rw [fld_eq, if_pos ⟨rfl, rfl⟩, vN_nI (by omega)]
      · rw [fld_ne (fun z => q (by omega)), row_ne (by omega), if_neg q]
    rw [em]
    by_cases q : i' = i ∧ j' = j
    · obtain ⟨rfl, rfl⟩ := q
      rw [if_pos ⟨rfl, rfl⟩, row_ne (by omega), fld_eq, fld_eq]
      exact ⟨rfl, rfl, hv⟩
    · rw [if_neg q, row_ne (by omega), fld_ne (fun z => q (by omega)), fld_ne (fun z => q (by omega)), row_ne (by omega)]
      exact hC.1 i' j' hi' hj'

theorem p_begins (x1 x2 : Int32) : Pair (X10_begins 0 x1 x2) (X11_begins 134 x1 x2) := by
  intro μ h
  have h0 := h
  obtain ⟨o, ⟨w1, w2, w3, w4, w5, w6⟩, hC, hT, hS, hX, hL⟩ := h
  rcases gd x1 3 (by decide) with ⟨g0, k0⟩ | ⟨g0, k0, i, hi, rfl⟩
  · exact pairR h0 (by unfold X10_begins; rw [if_pos (show X10_isState x1 = 0 from g0)]) (by unfold X11_begins; rw [if_pos (show X11_isState x1 = 0 from k0)])
  rcases gd x2 4 (by decide) with ⟨g1, k1⟩ | ⟨g1, k1, v, hv, rfl⟩
  · exact pairR h0 (by unfold X10_begins; rw [if_neg (show ¬ X10_isState (nI i) = 0 from g0), if_pos (show X10_isOften x2 = 0 from g1)]) (by unfold X11_begins; rw [if_neg (show ¬ X11_isState (nI i) = 0 from k0), if_pos (show X11_in (x2).toInt64 0 4 = 0 from k1)])
  have o1 : Ok (wI μ 12 i (nI v)) := o
  have oldM := w3 i (by omega)
  refine ⟨nI (bg μ i), wI μ 12 i (nI v), wI (wI μ (12) (i) (nI v)) (137) (i) (nI v), ?_, o, ?_, ?_⟩
  · unfold X10_begins
    rw [if_neg (show ¬ X10_isState (nI i) = 0 from g0), if_neg (show ¬ X10_isOften (nI v) = 0 from g1), r_0_0 o, Option.bind_some, r_1_2 o, Option.bind_some, exch (a := 12) o (by decide) rfl (by omega) (by decide), Option.bind_some, oldM.1]
  · unfold X11_begins
    rw [if_neg (show ¬ X11_isState (nI i) = 0 from k0), if_neg (show ¬ X11_in ((nI v)).toInt64 0 4 = 0 from k1), r_134_2 o1, Option.bind_some, aI_eq (a := 137) o1 (by decide) rfl (by omega) (by decide), row_ne (by omega), oldM.2.1, Option.bind_some, Option.bind_some, sI_eq (a := 137) o1 (by decide) rfl (by omega) (by decide), Option.bind_some]
  · skip
    have ln : ∀ a k, ¬ (a = 12 ∧ k = i) → ¬ (a = 137 ∧ k = i) → mI (wI (wI μ (12) (i) (nI v)) (137) (i) (nI v)) a k = mI μ a k := fun a k q1 q2 => by rw [fld_ne q2, fld_ne q1]
    have rn : ∀ a, a ≠ 12 → a ≠ 137 → mI (wI (wI μ (12) (i) (nI v)) (137) (i) (nI v)) a = mI μ a := fun a q1 q2 => by rw [row_ne q2, row_ne q1]
    refine ⟨o, ⟨w1.cg (fun q hq => rn _ (by omega) (by omega)) (rn _ (by omega) (by omega)), w2.cg (fun q hq => rn _ (by omega) (by omega)) (rn _ (by omega) (by omega)), ?_, w4.cg (ln _ _ (by omega) (by omega)) (ln _ _ (by omega) (by omega)), w5.cg (fun q hq => rn _ (by omega) (by omega)) (rn _ (by omega) (by omega)), w6.cg (ln _ _ (by omega) (by omega)) (ln _ _ (by omega) (by omega))⟩, hC.cg (fun q hq => rn _ (by omega) (by omega)) (rn _ (by omega) (by omega)) (rn _ (by omega) (by omega)) (rn _ (by omega) (by omega)), hT.cg (ln _ _ (by omega) (by omega)) (ln _ _ (by omega) (by omega)) (fun q hq => rn _ (by omega) (by omega)) (fun q hq => rn _ (by omega) (by omega)) (nw_le (ln 134 5 (by omega) (by omega))), hS.cg (ln _ _ (by omega) (by omega)) (ln _ _ (by omega) (by omega)) (fun q hq => rn _ (by omega) (by omega)) (fun q hq => rn _ (by omega) (by omega)) (nw_le (ln 134 5 (by omega) (by omega))), hX.cg (ln _ _ (by omega) (by omega)) (ln _ _ (by omega) (by omega)) (rn _ (by omega) (by omega)) (rn _ (by omega) (by omega)) (ln _ _ (by omega) (by omega)) (ln _ _ (by omega) (by omega)), hL.cg o rfl (fun l c hl hc => rn _ (by unfold isLw at hl; omega) (by unfold isLw at hl; omega)) (fun c hc => rn _ (by omega) (by omega))⟩
    intro i' hi'
    have em : bg (wI (wI μ (12) (i) (nI v)) (137) (i) (nI v)) i' = if i' = i then v else bg μ i' := by
      unfold bg
      by_cases q : i' = i
      · subst q
        rw [fld_eq, if_pos rfl, vN_nI (by omega)]
      · rw [fld_ne (fun z => q z.2), row_ne (by omega), if_neg q]
    rw [em]
    by_cases q : i' = i
    · subst q
      rw [if_pos rfl, row_ne (by omega), fld_eq, fld_eq]
      exact ⟨rfl, rfl, hv⟩
    · rw [if_neg q, row_ne (by omega), fld_ne (fun z => q z.2), fld_ne (fun z => q z.2), row_ne (by omega)]
      exact w3 i' hi'

theorem p_seen (x1 x2 : Int32) : Pair (X10_seen 0 x1 x2) (X11_seen 134 x1 x2) := by
  intro μ h
  have h0 := h
  obtain ⟨o, ⟨w1, w2, w3, w4, w5, w6⟩, hC, hT, hS, hX, hL⟩ := h
  rcases gd x1 3 (by decide) with ⟨g0, k0⟩ | ⟨g0, k0, i, hi, rfl⟩
  · exact pairR h0 (by unfold X10_seen; rw [if_pos (show X10_isWay x1 = 0 from g0)]) (by unfold X11_seen; rw [if_pos (show X11_isWay x1 = 0 from k0)])
  rcases gd x2 100 (by decide) with ⟨g1, k1⟩ | ⟨g1, k1, v, hv, rfl⟩
  · exact pairR h0 (by unfold X10_seen; rw [if_neg (show ¬ X10_isWay (nI i) = 0 from g0), if_pos (show X10_within x2 0 100 = 0 from g1)]) (by unfold X11_seen; rw [if_neg (show ¬ X11_isWay (nI i) = 0 from k0), if_pos (show X11_in (x2).toInt64 0 100 = 0 from k1)])
  have o1 : Ok (wI μ 36 i (nI v)) := o
  have oldM := hC.2 i (by omega)
  refine ⟨nI (sn μ i), wI μ 36 i (nI v), wI (wI μ (36) (i) (nI v)) (155) (i) (nI v), ?_, o, ?_, ?_⟩
  · unfold X10_seen
    rw [if_neg (show ¬ X10_isWay (nI i) = 0 from g0), if_neg (show ¬ X10_within (nI v) 0 100 = 0 from g1), r_0_1 o, Option.bind_some, r_30_1 o, Option.bind_some, exch (a := 36) o (by decide) rfl (by omega) (by decide), Option.bind_some, oldM.1]
  · unfold X11_seen
    rw [if_neg (show ¬ X11_isWay (nI i) = 0 from k0), if_neg (show ¬ X11_in ((nI v)).toInt64 0 100 = 0 from k1), r_134_23 o1, Option.bind_some, aI_eq (a := 155) o1 (by decide) rfl (by omega) (by decide), row_ne (by omega), oldM.2.1, Option.bind_some, Option.bind_some, sI_eq (a := 155) o1 (by decide) rfl (by omega) (by decide), Option.bind_some]
  · skip
    have ln : ∀ a k, ¬ (a = 36 ∧ k = i) → ¬ (a = 155 ∧ k = i) → mI (wI (wI μ (36) (i) (nI v)) (155) (i) (nI v)) a k = mI μ a k := fun a k q1 q2 => by rw [fld_ne q2, fld_ne q1]
    have rn : ∀ a, a ≠ 36 → a ≠ 155 → mI (wI (wI μ (36) (i) (nI v)) (155) (i) (nI v)) a = mI μ a := fun a q1 q2 => by rw [row_ne q2, row_ne q1]
    refine ⟨o, ⟨w1.cg (fun q hq => rn _ (by omega) (by omega)) (rn _ (by omega) (by omega)), w2.cg (fun q hq => rn _ (by omega) (by omega)) (rn _ (by omega) (by omega)), w3.cg (rn _ (by omega) (by omega)) (rn _ (by omega) (by omega)), w4.cg (ln _ _ (by omega) (by omega)) (ln _ _ (by omega) (by omega)), w5.cg (fun q hq => rn _ (by omega) (by omega)) (rn _ (by omega) (by omega)), w6.cg (ln _ _ (by omega) (by omega)) (ln _ _ (by omega) (by omega))⟩, ?_, hT.cg (ln _ _ (by omega) (by omega)) (ln _ _ (by omega) (by omega)) (fun q hq => rn _ (by omega) (by omega)) (fun q hq => rn _ (by omega) (by omega)) (nw_le (ln 134 5 (by omega) (by omega))), hS.cg (ln _ _ (by omega) (by omega)) (ln _ _ (by omega) (by omega)) (fun q hq => rn _ (by omega) (by omega)) (fun q hq => rn _ (by omega) (by omega)) (nw_le (ln 134 5 (by omega) (by omega))), hX.cg (ln _ _ (by omega) (by omega)) (ln _ _ (by omega) (by omega)) (rn _ (by omega) (by omega)) (rn _ (by omega) (by omega)) (ln _ _ (by omega) (by omega)) (ln _ _ (by omega) (by omega)), hL.cg o rfl (fun l c hl hc => rn _ (by unfold isLw at hl; omega) (by unfold isLw at hl; omega)) (fun c hc => rn _ (by omega) (by omega))⟩
    refine ⟨fun w s hw hs => by
      have e9 : cs (wI (wI μ (36) (i) (nI v)) (155) (i) (nI v)) = cs μ := by
        funext w s
        unfold cs
        rw [rn 154 (by omega) (by omega)]
      rw [rn (32 + w) (by omega) (by omega), rn 154 (by omega) (by omega), e9]
      exact hC.1 w s hw hs, ?_⟩
    intro i' hi'
    have em : sn (wI (wI μ (36) (i) (nI v)) (155) (i) (nI v)) i' = if i' = i then v else sn μ i' := by
      unfold sn
      by_cases q : i' = i
      · subst q
        rw [fld_eq, if_pos rfl, vN_nI (by omega)]
      · rw [fld_ne (fun z => q z.2), row_ne (by omega), if_neg q]
    rw [em]
    by_cases q : i' = i
    · subst q
      rw [if_pos rfl, row_ne (by omega), fld_eq, fld_eq]
      exact ⟨rfl, rfl, hv⟩
    · rw [if_neg q, row_ne (by omega), fld_ne (fun z => q z.2), fld_ne (fun z => q z.2), row_ne (by omega)]
      exact hC.2 i' hi'

theorem p_seams (x1 : Int32) : Pair (X10_seams 0 x1) (X11_seams 134 x1) := by
  intro μ h
  have h0 := h
  obtain ⟨o, ⟨w1, w2, w3, w4, w5, w6⟩, hC, hT, hS, hX, hL⟩ := h
  rcases gd x1 15 (by decide) with ⟨g0, k0⟩ | ⟨g0, k0, v, hv, rfl⟩
  · exact pairR h0 (by unfold X10_seams; rw [if_pos (show X10_within x1 0 15 = 0 from g0)]) (by unfold X11_seams; rw [if_pos (show X11_in (x1).toInt64 0 15 = 0 from k0)])
  have o1 : Ok (wI μ 1 5 (nI v)) := o
  refine ⟨ss μ, wI μ 1 5 (nI v), wI (wI μ (1) (5) (nI v)) (134) (3) (nI v), ?_, o, ?_, ?_⟩
  · unfold X10_seams
    rw [if_neg (show ¬ X10_within (nI v) 0 15 = 0 from g0), r_0_0 o, Option.bind_some, gI_eq (a := 1) o (by decide) rfl, w4.1, Option.bind_some, Option.bind_some, pI_eq (a := 1) o (by decide) rfl, Option.bind_some]
  · unfold X11_seams
    rw [if_neg (show ¬ X11_in ((nI v)).toInt64 0 15 = 0 from k0), gI_eq (a := 134) o1 (by decide) rfl, row_ne (by omega), Option.bind_some, pI_eq (a := 134) o1 (by decide) rfl, Option.bind_some]
    rfl
  · skip
    have ln : ∀ a k, ¬ (a = 1 ∧ k = 5) → ¬ (a = 134 ∧ k = 3) → mI (wI (wI μ (1) (5) (nI v)) (134) (3) (nI v)) a k = mI μ a k := fun a k q1 q2 => by rw [fld_ne q2, fld_ne q1]
    have rn : ∀ a, a ≠ 1 → a ≠ 134 → mI (wI (wI μ (1) (5) (nI v)) (134) (3) (nI v)) a = mI μ a := fun a q1 q2 => by rw [row_ne q2, row_ne q1]
    refine ⟨o, ⟨w1.cg (fun q hq => rn _ (by omega) (by omega)) (rn _ (by omega) (by omega)), w2.cg (fun q hq => rn _ (by omega) (by omega)) (rn _ (by omega) (by omega)), w3.cg (rn _ (by omega) (by omega)) (rn _ (by omega) (by omega)), ?_, w5.cg (fun q hq => rn _ (by omega) (by omega)) (rn _ (by omega) (by omega)), w6.cg (ln _ _ (by omega) (by omega)) (ln _ _ (by omega) (by omega))⟩, hC.cg (fun q hq => rn _ (by omega) (by omega)) (rn _ (by omega) (by omega)) (rn _ (by omega) (by omega)) (rn _ (by omega) (by omega)), hT.cg (ln _ _ (by omega) (by omega)) (ln _ _ (by omega) (by omega)) (fun q hq => rn _ (by omega) (by omega)) (fun q hq => rn _ (by omega) (by omega)) (nw_le (ln 134 5 (by omega) (by omega))), hS.cg (ln _ _ (by omega) (by omega)) (ln _ _ (by omega) (by omega)) (fun q hq => rn _ (by omega) (by omega)) (fun q hq => rn _ (by omega) (by omega)) (nw_le (ln 134 5 (by omega) (by omega))), hX.cg (ln _ _ (by omega) (by omega)) (ln _ _ (by omega) (by omega)) (rn _ (by omega) (by omega)) (rn _ (by omega) (by omega)) (ln _ _ (by omega) (by omega)) (ln _ _ (by omega) (by omega)), hL.cg o rfl (fun l c hl hc => rn _ (by unfold isLw at hl; omega) (by unfold isLw at hl; omega)) (fun c hc => rn _ (by omega) (by omega))⟩
    have em : ss (wI (wI μ (1) (5) (nI v)) (134) (3) (nI v)) = nI v := fld_eq
    unfold RW4
    rw [em, row_ne (by omega), fld_eq]
    exact ⟨rfl, v, hv, rfl⟩
end
section
theorem gdm (x : Int32) : (X10_within x (-1) 3 = 0 ∧ X11_in x.toInt64 (-1) 3 = 0) ∨ (¬ X10_within x (-1) 3 = 0 ∧ ¬ X11_in x.toInt64 (-1) 3 = 0 ∧ (x = -1 ∨ ∃ s, s < 4 ∧ x = nI s)) := by
  have e : X11_in x.toInt64 (-1) 3 = X10_within x (-1) 3 := in_eq x (-1) 3
  rw [e]
  by_cases h : X10_within x (-1) 3 = 0
  · exact Or.inl ⟨h, h⟩
  · refine Or.inr ⟨h, h, ?_⟩
    unfold X10_within at h
    split at h
    · exact absurd rfl h
    · split at h
      · exact absurd rfl h
      · rename_i h1 h2
        by_cases q : x < 0
        · left
          have a1 : (-1 : Int) ≤ x.toInt := by
            rw [Int32.lt_iff_toInt_lt] at h1
            have : (-1 : Int32).toInt = -1 := rfl
            omega
          have a2 : x.toInt < 0 := by
            rw [Int32.lt_iff_toInt_lt] at q
            have : (0 : Int32).toInt = 0 := rfl
            omega
          apply Int32.toInt_inj.mp
          have : (-1 : Int32).toInt = -1 := rfl
          omega
        · right
          obtain ⟨s, hs, e⟩ := win (n := 3) (by decide) q h2
          exact ⟨s, by omega, e⟩
theorem p_sign (x1 x2 : Int32) : Pair (X10_sign 0 x1 x2) (X11_sign 134 x1 x2) := by
  intro μ h
  have h0 := h
  obtain ⟨o, ⟨w1, w2, w3, w4, w5, w6⟩, hC, hT, hS, hX, hL⟩ := h
  rcases gd x1 3 (by decide) with ⟨g0, k0⟩ | ⟨g0, k0, p, hp, rfl⟩
  · exact pairR h0 (by unfold X10_sign; rw [if_pos (show X10_isPerson x1 = 0 from g0)]) (by unfold X11_sign; rw [if_pos (show X11_isPerson x1 = 0 from k0)])
  rcases gdm x2 with ⟨g2, k2⟩ | ⟨g2, k2, hx⟩
  · exact pairR h0 (by unfold X10_sign; rw [if_neg (show ¬ X10_isPerson (nI p) = 0 from g0), if_pos g2]) (by unfold X11_sign; rw [if_neg (show ¬ X11_isPerson (nI p) = 0 from k0), if_pos k2])
  have o1 : Ok (wI μ (14 + p) (nw μ) x2) := o
  have hn := w6.2.2
  refine ⟨1, wI μ (14 + p) (nw μ) x2, wI (wI μ (14 + p) (nw μ) (x2)) (138) (61 * p + nw μ) (x2), ?_, o, ?_, ?_⟩
  · unfold X10_sign
    rw [if_neg (show ¬ X10_isPerson (nI p) = 0 from g0), if_neg g2, r_0_0 o, Option.bind_some, r_1_3 o, Option.bind_some, ar_signs o (by omega), Option.bind_some, gI_eq (a := 0) o (by decide) rfl, w6.1, Option.bind_some, exch o (by omega) (s_signs (by omega)) (by omega) (by decide), Option.bind_some]
  · unfold X11_sign
    rw [if_neg (show ¬ X11_isPerson (nI p) = 0 from k0), if_neg k2, r_134_4 o1, Option.bind_some, gI_eq (a := 134) o1 (by decide) rfl, row_ne (by omega), w6.2.1, Option.bind_some, show (61 : Int32) = nI 61 from rfl, pk_mul, nI_add, sI_eq (a := 138) o1 (by decide) rfl (by omega) (by decide), Option.bind_some]
  · skip
    have ln : ∀ a k, ¬ (a = 14 + p ∧ k = nw μ) → ¬ (a = 138 ∧ k = 61 * p + nw μ) → mI (wI (wI μ (14 + p) (nw μ) (x2)) (138) (61 * p + nw μ) (x2)) a k = mI μ a k := fun a k q1 q2 => by rw [fld_ne q2, fld_ne q1]
    have rn : ∀ a, a ≠ 14 + p → a ≠ 138 → mI (wI (wI μ (14 + p) (nw μ) (x2)) (138) (61 * p + nw μ) (x2)) a = mI μ a := fun a q1 q2 => by rw [row_ne q2, row_ne q1]
    refine ⟨o, ⟨w1.cg (fun q hq => rn _ (by omega) (by omega)) (rn _ (by omega) (by omega)), w2.cg (fun q hq => rn _ (by omega) (by omega)) (rn _ (by omega) (by omega)), w3.cg (rn _ (by omega) (by omega)) (rn _ (by omega) (by omega)), w4.cg (ln _ _ (by omega) (by omega)) (ln _ _ (by omega) (by omega)), ?_, w6.cg (ln _ _ (by omega) (by omega)) (ln _ _ (by omega) (by omega))⟩, hC.cg (fun q hq => rn _ (by omega) (by omega)) (rn _ (by omega) (by omega)) (rn _ (by omega) (by omega)) (rn _ (by omega) (by omega)), hT.cg (ln _ _ (by omega) (by omega)) (ln _ _ (by omega) (by omega)) (fun q hq => rn _ (by omega) (by omega)) (fun q hq => rn _ (by omega) (by omega)) (nw_le (ln 134 5 (by omega) (by omega))), hS.cg (ln _ _ (by omega) (by omega)) (ln _ _ (by omega) (by omega)) (fun q hq => rn _ (by omega) (by omega)) (fun q hq => rn _ (by omega) (by omega)) (nw_le (ln 134 5 (by omega) (by omega))), hX.cg (ln _ _ (by omega) (by omega)) (ln _ _ (by omega) (by omega)) (rn _ (by omega) (by omega)) (rn _ (by omega) (by omega)) (ln _ _ (by omega) (by omega)) (ln _ _ (by omega) (by omega)), hL.cg o rfl (fun l c hl hc => rn _ (by unfold isLw at hl; omega) (by unfold isLw at hl; omega)) (fun c hc => rn _ (by omega) (by omega))⟩
    intro p' t hp' ht
    have em : sg (wI (wI μ (14 + p) (nw μ) (x2)) (138) (61 * p + nw μ) (x2)) p' t = if p' = p ∧ t = nw μ then x2 else sg μ p' t := by
      unfold sg
      by_cases q : p' = p ∧ t = nw μ
      · obtain ⟨rfl, rfl⟩ := q
        rw [fld_eq, if_pos ⟨rfl, rfl⟩]
      · rw [fld_ne (fun z => q (by omega)), row_ne (by omega), if_neg q]
    rw [em]
    by_cases q : p' = p ∧ t = nw μ
    · obtain ⟨rfl, rfl⟩ := q
      rw [if_pos ⟨rfl, rfl⟩, row_ne (by omega), fld_eq]
      exact ⟨rfl, hx⟩
    · rw [if_neg q, row_ne (by omega), fld_ne (fun z => q (by omega))]
      exact w5 p' t hp' ht

theorem p_go (x1 : Int32) : Pair (X10_go 0 x1) (X11_go 134 x1) := by
  intro μ h
  have h0 := h
  obtain ⟨o, ⟨w1, w2, w3, w4, w5, w6⟩, hC, hT, hS, hX, hL⟩ := h
  rcases gd x1 20 (by decide) with ⟨g0, k0⟩ | ⟨g0, k0, n, hn, rfl⟩
  · exact pairR h0 (by unfold X10_go; rw [if_pos (show X10_within x1 0 20 = 0 from g0)]) (by unfold X11_go; rw [if_pos (show X11_in (x1).toInt64 0 20 = 0 from k0)])
  have hw := w6.2.2
  by_cases q : nw μ + n ≤ 60
  · have cnd : nI (nw μ) + nI n ≤ 60 := by
      rw [nI_add, show (60 : Int32) = nI 60 from rfl, n_le (by omega) (by decide)]
      exact q
    have o1 : Ok (wI μ 0 10 (nI (nw μ + n))) := o
    have o2 : Ok (wI (wI μ (0) (10) (nI (nw μ + n))) (134) (5) (nI (nw μ + n))) := o
    refine ⟨nI (nw μ + n), wI μ 0 10 (nI (nw μ + n)), wI (wI μ (0) (10) (nI (nw μ + n))) (134) (5) (nI (nw μ + n)), ?_, o, ?_, ?_⟩
    · unfold X10_go
      rw [if_neg (show ¬ X10_within (nI n) 0 20 = 0 from g0), gI_eq (a := 0) o (by decide) rfl, w6.1, Option.bind_some, if_pos cnd, Option.bind_some, nI_add, pI_eq (a := 0) o (by decide) rfl, Option.bind_some, gI_eq (a := 0) o1 (by decide) rfl, Option.bind_some, fld_eq]
    · unfold X11_go
      rw [if_neg (show ¬ X11_in ((nI n)).toInt64 0 20 = 0 from k0), gI_eq (a := 134) o1 (by decide) rfl, row_ne (by omega), w6.2.1, Option.bind_some, if_pos cnd, Option.bind_some, nI_add, pI_eq (a := 134) o1 (by decide) rfl, Option.bind_some, gI_eq (a := 134) o2 (by decide) rfl, Option.bind_some, fld_eq]
    · skip
      have ln : ∀ a k, ¬ (a = 0 ∧ k = 10) → ¬ (a = 134 ∧ k = 5) → mI (wI (wI μ (0) (10) (nI (nw μ + n))) (134) (5) (nI (nw μ + n))) a k = mI μ a k := fun a k q1 q2 => by rw [fld_ne q2, fld_ne q1]
      have rn : ∀ a, a ≠ 0 → a ≠ 134 → mI (wI (wI μ (0) (10) (nI (nw μ + n))) (134) (5) (nI (nw μ + n))) a = mI μ a := fun a q1 q2 => by rw [row_ne q2, row_ne q1]
      have em : nw (wI (wI μ (0) (10) (nI (nw μ + n))) (134) (5) (nI (nw μ + n))) = nw μ + n := by
        show vN (mI (wI (wI μ (0) (10) (nI (nw μ + n))) (134) (5) (nI (nw μ + n))) 134 5) = _
        rw [fld_eq, vN_nI (by omega)]
      refine ⟨o, ⟨w1.cg (fun q hq => rn _ (by omega) (by omega)) (rn _ (by omega) (by omega)), w2.cg (fun q hq => rn _ (by omega) (by omega)) (rn _ (by omega) (by omega)), w3.cg (rn _ (by omega) (by omega)) (rn _ (by omega) (by omega)), w4.cg (ln _ _ (by omega) (by omega)) (ln _ _ (by omega) (by omega)), w5.cg (fun q hq => rn _ (by omega) (by omega)) (rn _ (by omega) (by omega)), ?_⟩, hC.cg (fun q hq => rn _ (by omega) (by omega)) (rn _ (by omega) (by omega)) (rn _ (by omega) (by omega)) (rn _ (by omega) (by omega)), hT.cg (ln _ _ (by omega) (by omega)) (ln _ _ (by omega) (by omega)) (fun q hq => rn _ (by omega) (by omega)) (fun q hq => rn _ (by omega) (by omega)) (by rw [em]; omega), hS.cg (ln _ _ (by omega) (by omega)) (ln _ _ (by omega) (by omega)) (fun q hq => rn _ (by omega) (by omega)) (fun q hq => rn _ (by omega) (by omega)) (by rw [em]; omega), hX.cg (ln _ _ (by omega) (by omega)) (ln _ _ (by omega) (by omega)) (rn _ (by omega) (by omega)) (rn _ (by omega) (by omega)) (ln _ _ (by omega) (by omega)) (ln _ _ (by omega) (by omega)), hL.cg o rfl (fun l c hl hc => rn _ (by unfold isLw at hl; omega) (by unfold isLw at hl; omega)) (fun c hc => rn _ (by omega) (by omega))⟩
      refine ⟨?_, ?_, by rw [em]; exact q⟩
      · rw [em, row_ne (by omega), fld_eq]
      · rw [em, fld_eq]
  · have cnd : ¬ nI (nw μ) + nI n ≤ 60 := by
      rw [nI_add, show (60 : Int32) = nI 60 from rfl, n_le (by omega) (by decide)]
      exact q
    exact pairR h0 (by unfold X10_go; rw [if_neg (show ¬ X10_within (nI n) 0 20 = 0 from g0), gI_eq (a := 0) o (by decide) rfl, w6.1, Option.bind_some, if_neg cnd]) (by unfold X11_go; rw [if_neg (show ¬ X11_in ((nI n)).toInt64 0 20 = 0 from k0), gI_eq (a := 134) o (by decide) rfl, w6.2.1, Option.bind_some, if_neg cnd])
end
section
theorem p_fits (x1 x2 : Int32) : Pair (X10_fits 0 x1 x2) (X11_fits 134 x1 x2) := by
  intro μ h
  have h0 := h
  obtain ⟨o, W, hC, hT, hS, hX, hL⟩ := h
  obtain ⟨w1, w2, w3, w4, w5, w6⟩ := id W
  rcases gd x1 3 (by decide) with ⟨g0, k0⟩ | ⟨g0, k0, p, hp, rfl⟩
  · exact pairR h0 (by unfold X10_fits; rw [if_pos (show X10_isPerson x1 = 0 from g0)]) (by unfold X11_fits; rw [if_pos (show X11_isPerson x1 = 0 from k0)])
  have hn := w6.2.2
  rcases gd x2 (nw μ) (by omega) with ⟨g2, k2⟩ | ⟨g2, k2, t, ht, rfl⟩
  · exact pairR h0 (by unfold X10_fits; rw [if_neg (show ¬ X10_isPerson (nI p) = 0 from g0), gI_eq (a := 0) o (by decide) rfl, w6.1, Option.bind_some, if_pos g2]) (by unfold X11_fits; rw [if_neg (show ¬ X11_isPerson (nI p) = 0 from k0), gI_eq (a := 134) o (by decide) rfl, w6.2.1, Option.bind_some, if_pos k2])
  obtain ⟨a, sa, ea⟩ := fits_c o W (p := p) (t := t) (by omega) (by omega)
  have Wa := W.sm sa
  obtain ⟨b, ⟨sb, -, hb⟩, eb⟩ := rows_ok sa.1 Wa (p := p) (t := t) (by omega) (by omega)
  refine pairS h0 (r := nI (allW μ true p t)) (μ1 := a) (μ2 := b) ?_ sa ?_ sb
  · unfold X10_fits
    rw [if_neg (show ¬ X10_isPerson (nI p) = 0 from g0), gI_eq (a := 0) o (by decide) rfl, w6.1, Option.bind_some, if_neg g2, r_0_0 o, Option.bind_some, vO_eq (c := 9) (a := 1) o (by decide) rfl, Option.bind_some, ea, Option.bind_some]
  · have e0 : aI 141 0 b = some (nI (wgt a true p t 0)) := (aI_eq (a := 141) (i := 0) sb.1 (by decide) rfl (by decide) (by decide)).trans (by rw [hb 0 (by decide)])
    have e1 : aI 141 1 b = some (nI (wgt a true p t 1)) := (aI_eq (a := 141) (i := 1) sb.1 (by decide) rfl (by decide) (by decide)).trans (by rw [hb 1 (by decide)])
    have e2 : aI 141 2 b = some (nI (wgt a true p t 2)) := (aI_eq (a := 141) (i := 2) sb.1 (by decide) rfl (by decide) (by decide)).trans (by rw [hb 2 (by decide)])
    have e3 : aI 141 3 b = some (nI (wgt a true p t 3)) := (aI_eq (a := 141) (i := 3) sb.1 (by decide) rfl (by decide) (by decide)).trans (by rw [hb 3 (by decide)])
    have hwa : mI a 134 5 = nI (nw μ) := (sa.fld (a := 134) (k := 5) rfl).trans w6.2.1
    unfold X11_fits
    rw [if_neg (show ¬ X11_isPerson (nI p) = 0 from k0), gI_eq (a := 134) sa.1 (by decide) rfl, hwa, Option.bind_some, if_neg k2, vO_eq (c := 11) (a := 134) sa.1 (by decide) rfl, Option.bind_some, eb, Option.bind_some, r_134_8 sb.1, Option.bind_some, e0, Option.bind_some, Option.bind_some, e1, Option.bind_some, Option.bind_some, e2, Option.bind_some, Option.bind_some, e3, Option.bind_some, nI_add, nI_add, nI_add, wgt_sm sa]
    rfl

theorem p_odds (x1 x2 x3 : Int32) : Pair (X10_odds 0 x1 x2 x3) (X11_odds 134 x1 x2 x3) := by
  intro μ h
  have h0 := h
  obtain ⟨o, W, hC, hT, hS, hX, hL⟩ := h
  obtain ⟨w1, w2, w3, w4, w5, w6⟩ := id W
  rcases gd x1 3 (by decide) with ⟨g0, k0⟩ | ⟨g0, k0, p, hp, rfl⟩
  · exact pairR h0 (by unfold X10_odds; rw [if_pos (show X10_isPerson x1 = 0 from g0)]) (by unfold X11_odds; rw [if_pos (show X11_isPerson x1 = 0 from k0)])
  rcases gd x2 3 (by decide) with ⟨g1, k1⟩ | ⟨g1, k1, i, hi, rfl⟩
  · exact pairR h0 (by unfold X10_odds; rw [if_neg (show ¬ X10_isPerson (nI p) = 0 from g0), if_pos (show X10_isState x2 = 0 from g1)]) (by unfold X11_odds; rw [if_neg (show ¬ X11_isPerson (nI p) = 0 from k0), if_pos (show X11_isState x2 = 0 from k1)])
  rcases gd x3 8 (by decide) with ⟨g2, k2⟩ | ⟨g2, k2, k, hk, rfl⟩
  · exact pairR h0 (by unfold X10_odds; rw [if_neg (show ¬ X10_isPerson (nI p) = 0 from g0), if_neg (show ¬ X10_isState (nI i) = 0 from g1), if_pos (show X10_isAhead x3 = 0 from g2)]) (by unfold X11_odds; rw [if_neg (show ¬ X11_isPerson (nI p) = 0 from k0), if_neg (show ¬ X11_isState (nI i) = 0 from k1), if_pos (show X11_in (x3).toInt64 0 8 = 0 from k2)])
  have hn := w6.2.2
  obtain ⟨a, ⟨sa, ha⟩, ea⟩ := look_ok o W (p := p) (t := nw μ) (k := k) (by omega) (by omega) (by omega)
  obtain ⟨b, ⟨sb, hb⟩, eb⟩ := modds_ok sa.1 (W.sm sa) (p := p) (t := nw μ) (k := k) (by omega) (by omega) (by omega)
  refine pairS h0 (r := nI (odd μ p (nw μ) k i)) (μ1 := a) (μ2 := b) ?_ sa ?_ sb
  · unfold X10_odds
    rw [if_neg (show ¬ X10_isPerson (nI p) = 0 from g0), if_neg (show ¬ X10_isState (nI i) = 0 from g1), if_neg (show ¬ X10_isAhead (nI k) = 0 from g2), r_0_0 o, Option.bind_some, gI_eq (a := 0) o (by decide) rfl, w6.1, Option.bind_some, vO_eq (c := 9) (a := 1) o (by decide) rfl, Option.bind_some, ea, Option.bind_some, r_0_0 sa.1, Option.bind_some, r_1_4 sa.1, Option.bind_some, ar_ahead sa.1 (by omega), Option.bind_some, aI_eq sa.1 (by omega) (s_ahead (by omega)) (by omega) (by decide), ha k (Nat.le_refl _) i (by omega), Option.bind_some]
  · have hwa : mI a 134 5 = nI (nw μ) := (sa.fld (a := 134) (k := 5) rfl).trans w6.2.1
    unfold X11_odds
    rw [if_neg (show ¬ X11_isPerson (nI p) = 0 from k0), if_neg (show ¬ X11_isState (nI i) = 0 from k1), if_neg (show ¬ X11_in ((nI k)).toInt64 0 8 = 0 from k2), gI_eq (a := 134) sa.1 (by decide) rfl, hwa, Option.bind_some, vO_eq (c := 11) (a := 134) sa.1 (by decide) rfl, Option.bind_some, eb, Option.bind_some, r_134_10 sb.1, Option.bind_some, aI_eq (a := 143) sb.1 (by decide) rfl (by omega) (by decide), hb i (by omega), Option.bind_some, odd_sm sa]

theorem p_seam (x1 x2 : Int32) : Pair (X10_seam 0 x1 x2) (X11_seam 134 x1 x2) := by
  intro μ h
  have h0 := h
  obtain ⟨o, W, hC, hT, hS, hX, hL⟩ := h
  obtain ⟨w1, w2, w3, w4, w5, w6⟩ := id W
  rcases gd x1 3 (by decide) with ⟨g0, k0⟩ | ⟨g0, k0, p, hp, rfl⟩
  · exact pairR h0 (by unfold X10_seam; rw [if_pos (show X10_isPerson x1 = 0 from g0)]) (by unfold X11_seam; rw [if_pos (show X11_isPerson x1 = 0 from k0)])
  have hn := w6.2.2
  rcases gd x2 8 (by decide) with ⟨g2, k2⟩ | ⟨g2, k2, k, hk, rfl⟩
  · exact pairR h0 (by unfold X10_seam; rw [if_neg (show ¬ X10_isPerson (nI p) = 0 from g0), if_pos (show X10_isAhead x2 = 0 from g2)]) (by unfold X11_seam; rw [if_neg (show ¬ X11_isPerson (nI p) = 0 from k0), if_pos (show X11_in x2.toInt64 0 8 = 0 from k2), Option.bind_some])
  obtain ⟨a, ⟨sa, ha⟩, ea⟩ := look_ok o W (p := p) (t := nw μ) (k := k) (by omega) (by omega) (by omega)
  obtain ⟨b, ⟨sb, hb⟩, eb⟩ := mseam_ok sa.1 (W.sm sa) (p := p) (t := nw μ) (k := k) (by omega) (by omega) (by omega)
  refine pairS h0 (r := nI (sS μ (odd μ p (nw μ) k))) (μ1 := a) (μ2 := b) ?_ sa ?_ sb
  · unfold X10_seam
    rw [if_neg (show ¬ X10_isPerson (nI p) = 0 from g0), if_neg (show ¬ X10_isAhead (nI k) = 0 from g2), r_0_0 o, Option.bind_some, gI_eq (a := 0) o (by decide) rfl, w6.1, Option.bind_some, vO_eq (c := 9) (a := 1) o (by decide) rfl, Option.bind_some, ea, Option.bind_some, r_0_0 sa.1, Option.bind_some, vO_eq (c := 9) (a := 1) sa.1 (by decide) rfl, Option.bind_some, seam_c sa.1 (W.sm sa) (by omega) (ha k (Nat.le_refl _)), Option.bind_some, sS_sm sa]
  · have hwa : mI a 134 5 = nI (nw μ) := (sa.fld (a := 134) (k := 5) rfl).trans w6.2.1
    unfold X11_seam
    rw [if_neg (show ¬ X11_isPerson (nI p) = 0 from k0), if_neg (show ¬ X11_in (nI k).toInt64 0 8 = 0 from k2), gI_eq (a := 134) sa.1 (by decide) rfl, hwa, Option.bind_some, vO_eq (c := 11) (a := 134) sa.1 (by decide) rfl, Option.bind_some, eb, Option.bind_some, Option.bind_some, sS_sm sa, show odd a p (nw μ) k = odd μ p (nw μ) k from funext (odd_sm sa p (nw μ) k)]

theorem until_both {μ a : Mem} (W : RelW μ) {p : Nat} (hp : p < 4) (sa : Sm μ a) (ha : ∀ s, s ≤ 8 → HI a (19 + s) 4 (odd μ p (nw μ) s)) (x2 : Int32) (m : Nat) : ∀ d k, k + d = 9 → ∃ r, X10_until_L41 0 x2 a (m + 1 + d) (nI k) = some (r, a) ∧ ∀ b, Sm μ b → ∃ c, Sm b c ∧ X11_until_L29 134 (nI p) x2 (m + 1 + d) (nI k) b = some (r, c)
  | 0, k, h => by
    have e : k = 9 := h
    subst e
    refine ⟨-1, ?_, fun b sb => ⟨b, Sm.rf sb.1, ?_⟩⟩
    · show X10_until_L41 0 x2 a (m + 1) (nI 9) = _
      rw [X10_until_L41, if_pos (by decide)]
    · show X11_until_L29 134 (nI p) x2 (m + 1) (nI 9) b = _
      rw [X11_until_L29, if_pos (by decide)]
  | d + 1, k, h => by
    have hw := W.2.2.2.2.2
    obtain ⟨r, ih1, ih2⟩ := until_both W hp sa ha x2 m d (k + 1) (by omega)
    have g8 : ¬ (8 : Int32) < nI k := by
      rw [show (8 : Int32) = nI 8 from rfl, n_lt (by decide) (by omega)]
      omega
    have eC : ∀ f, X10_until_L41 0 x2 a (f + 1) (nI k) = if nI (sS μ (odd μ p (nw μ) k)) < x2 then X10_until_L41 0 x2 a f (nI (k + 1)) else some (nI k, a) := fun f => by
      rw [X10_until_L41, if_neg g8, r_0_0 sa.1, Option.bind_some, vO_eq (c := 9) (a := 1) sa.1 (by decide) rfl, Option.bind_some, seam_c sa.1 (W.sm sa) (by omega) (ha k (by omega)), Option.bind_some, nI_add1, sS_sm sa]
    have eM : ∀ b, Sm μ b → ∃ c, Sm b c ∧ ∀ f, X11_until_L29 134 (nI p) x2 (f + 1) (nI k) b = if nI (sS μ (odd μ p (nw μ) k)) < x2 then X11_until_L29 134 (nI p) x2 f (nI (k + 1)) c else some (nI k, c) := fun b sb => by
      obtain ⟨c, ⟨sc, -⟩, ec⟩ := mseam_ok sb.1 (W.sm sb) hp (t := nw μ) (k := k) (by have := hw.2.2; omega) (by omega)
      refine ⟨c, sc, fun f => ?_⟩
      have hwb : mI b 134 5 = nI (nw μ) := (sb.fld (a := 134) (k := 5) rfl).trans hw.2.1
      rw [X11_until_L29, if_neg g8, gI_eq (a := 134) sb.1 (by decide) rfl, hwb, Option.bind_some, vO_eq (c := 11) (a := 134) sb.1 (by decide) rfl, Option.bind_some, ec, Option.bind_some, nI_add1, sS_sm sb, show odd b p (nw μ) k = odd μ p (nw μ) k from funext (odd_sm sb p (nw μ) k)]
    by_cases q : nI (sS μ (odd μ p (nw μ) k)) < x2
    · refine ⟨r, ?_, fun b sb => ?_⟩
      · show X10_until_L41 0 x2 a (m + 1 + d + 1) (nI k) = _
        rw [eC, if_pos q]
        exact ih1
      · obtain ⟨c, sc, ec⟩ := eM b sb
        obtain ⟨c2, sc2, ec2⟩ := ih2 c (sb.tr sc)
        refine ⟨c2, sc.tr sc2, ?_⟩
        show X11_until_L29 134 (nI p) x2 (m + 1 + d + 1) (nI k) b = _
        rw [ec, if_pos q]
        exact ec2
    · refine ⟨nI k, ?_, fun b sb => ?_⟩
      · show X10_until_L41 0 x2 a (m + 1 + d + 1) (nI k) = _
        rw [eC, if_neg q]
      · obtain ⟨c, sc, ec⟩ := eM b sb
        refine ⟨c, sc, ?_⟩
        show X11_until_L29 134 (nI p) x2 (m + 1 + d + 1) (nI k) b = _
        rw [ec, if_neg q]
theorem p_until (x1 x2 : Int32) : Pair (X10_until 0 x1 x2) (X11_until 134 x1 x2) := by
  intro μ h
  have h0 := h
  obtain ⟨o, W, hC, hT, hS, hX, hL⟩ := h
  obtain ⟨w1, w2, w3, w4, w5, w6⟩ := id W
  rcases gd x1 3 (by decide) with ⟨g0, k0⟩ | ⟨g0, k0, p, hp, rfl⟩
  · exact pairR h0 (by unfold X10_until; rw [if_pos (show X10_isPerson x1 = 0 from g0)]) (by unfold X11_until; rw [if_pos (show X11_isPerson x1 = 0 from k0)])
  have hn := w6.2.2
  rcases gd x2 1000000 (by decide) with ⟨g2, k2⟩ | ⟨g2, k2, -⟩
  · exact pairR h0 (by unfold X10_until; rw [if_neg (show ¬ X10_isPerson (nI p) = 0 from g0), if_pos (show X10_within x2 0 1000000 = 0 from g2)]) (by unfold X11_until; rw [if_neg (show ¬ X11_isPerson (nI p) = 0 from k0), if_pos (show X11_in x2.toInt64 0 1000000 = 0 from k2)])
  obtain ⟨a, ⟨sa, ha⟩, ea⟩ := look_ok o W (p := p) (t := nw μ) (k := 8) (by omega) (by omega) (by omega)
  obtain ⟨r, e1, e2⟩ := until_both W (p := p) (by omega) sa ha x2 99990 9 0 rfl
  obtain ⟨b, sb, e3⟩ := e2 a sa
  refine pairS h0 (r := r) (μ1 := a) (μ2 := b) ?_ sa ?_ sb
  · unfold X10_until
    rw [if_neg (show ¬ X10_isPerson (nI p) = 0 from g0), if_neg (show ¬ X10_within x2 0 1000000 = 0 from g2), r_0_0 o, Option.bind_some, gI_eq (a := 0) o (by decide) rfl, w6.1, Option.bind_some, vO_eq (c := 9) (a := 1) o (by decide) rfl, Option.bind_some, show (8 : Int32) = nI 8 from rfl, ea, Option.bind_some]
    exact e1
  · unfold X11_until
    rw [if_neg (show ¬ X11_isPerson (nI p) = 0 from k0), if_neg (show ¬ X11_in x2.toInt64 0 1000000 = 0 from k2)]
    exact e3
end
section
/-! ===== LOSS, VALUE ===== -/
def lsS (μ : Mem) (w : Nat) (f : Nat → Nat) : Nat := f 0 * cs μ w 0 / 1000000 + f 1 * cs μ w 1 / 1000000 + f 2 * cs μ w 2 / 1000000 + f 3 * cs μ w 3 / 1000000
theorem lsS_sm {μ μ' : Mem} (h : Sm μ μ') : lsS μ' = lsS μ := by
  funext w f
  unfold lsS
  rw [cs_sm h]
theorem loss_c {μ : Mem} (h : Ok μ) (C : RelC μ) {w r : Nat} (hw : w < 4) (hr : r < 175) (sr : S0 r = (1, 4)) {f : Nat → Nat} (hf : HI μ r 4 f) (fb : ∀ i, i < 4 → f i ≤ 1000000) : X8_lossBy 30 (nI w) r μ = some (nI (lsS μ w f)) := by
  have key := loopA (F := fun k (a : Int32) i => X8_lossBy_L5 30 (nI w) r μ k a (nI i)) (f := fun i a => a + nI (f i * cs μ w i / 1000000)) (n := 4) (fun k a i hi => by
    have b1 := fb i hi
    have b2 := (C.1 w i hw hi).2.2
    have b3 : f i * cs μ w i ≤ 1000000 * 999 := Nat.mul_le_mul b1 b2
    show X8_lossBy_L5 30 (nI w) r μ (k + 1) a (nI i) = _
    rw [X8_lossBy_L5, if_neg (ge4 hi), aI_eq h hr sr hi (by decide), hf i hi, Option.bind_some, r_30_0 h, Option.bind_some, ar_costs h hw, Option.bind_some, aI_eq h (by omega) (s_costs hw) hi (by decide), (C.1 w i hw hi).1, Option.bind_some, nI_l (by omega), nI_l (by omega), lN_mul, show (1000000 : Int64) = lN 1000000 from rfl, dvJ_eq (by omega) (by decide) (by decide), Option.bind_some, lN_i, Option.bind_some, nI_add1]) 4 99996 0 0 rfl
  have e : X8_lossBy_L5 30 (nI w) r μ FU 0 0 = some (nI (lsS μ w f), nI 4) := by
    refine (show X8_lossBy_L5 30 (nI w) r μ FU 0 0 = X8_lossBy_L5 30 (nI w) r μ (99996 + 4) 0 (nI 0) from rfl).trans (key.trans ?_)
    show X8_lossBy_L5 30 (nI w) r μ (99995 + 1) _ (nI 4) = _
    rw [X8_lossBy_L5, if_pos (by decide)]
    simp only [itr, ← nI_0, nI_add, Nat.zero_add]
    rfl
  unfold X8_lossBy
  rw [e, Option.bind_some]
theorem loss_m {μ : Mem} (h : Ok μ) (W : RelW μ) (C : RelC μ) {p t k w : Nat} (hp : p < 4) (ht : t < 61) (hk : k ≤ 8) (hw : w < 4) : ∃ μ', Sm μ μ' ∧ X11_lossOf 134 (nI p) (nI w) (nI t) (nI k) μ = some (nI (lsS μ w (odd μ p t k)), μ') := by
  obtain ⟨a, ⟨sa, ha⟩, ea⟩ := modds_ok h W hp ht hk
  have oa := sa.1
  have key := loopA (F := fun m (b : Int32) i => X11_lossOf_L14 134 (nI w) a m b (nI i)) (f := fun i b => b + nI (odd μ p t k i * cs μ w i / 1000000)) (n := 4) (fun m b i hi => by
    have b1 := odd_le (μ := μ) (p := p) (t := t) (k := k) hi
    have b2 := (C.1 w i hw hi).2.2
    have b3 : odd μ p t k i * cs μ w i ≤ 1000000 * 999 := Nat.mul_le_mul b1 b2
    show X11_lossOf_L14 134 (nI w) a (m + 1) b (nI i) = _
    rw [X11_lossOf_L14, if_neg (ge4 hi), r_134_10 oa, Option.bind_some, aI_eq (a := 143) oa (by decide) rfl hi (by decide), ha i hi, Option.bind_some, r_134_22 oa, Option.bind_some, show (4 : Int32) = nI 4 from rfl, pk_mul, nI_add, aI_eq (a := 154) oa (by decide) rfl (by omega) (by decide), sa.row (a := 154) rfl, (C.1 w i hw hi).2.1, Option.bind_some, pk_mul, show (1000000 : Int32) = nI 1000000 from rfl, dvI_eq (by omega) (by decide) (by decide), Option.bind_some, Option.bind_some, nI_add1]) 4 99996 0 0 rfl
  have e : X11_lossOf_L14 134 (nI w) a FU 0 0 = some (nI (lsS μ w (odd μ p t k)), nI 4) := by
    refine (show X11_lossOf_L14 134 (nI w) a FU 0 0 = X11_lossOf_L14 134 (nI w) a (99996 + 4) 0 (nI 0) from rfl).trans (key.trans ?_)
    show X11_lossOf_L14 134 (nI w) a (99995 + 1) _ (nI 4) = _
    rw [X11_lossOf_L14, if_pos (by decide)]
    simp only [itr, ← nI_0, nI_add, Nat.zero_add]
    rfl
  refine ⟨a, sa, ?_⟩
  unfold X11_lossOf
  rw [vO_eq (c := 11) (a := 134) h (by decide) rfl, Option.bind_some, ea, Option.bind_some, e, Option.bind_some]
theorem p_loss (x1 x2 x3 : Int32) : Pair (X10_loss 0 x1 x2 x3) (X11_loss 134 x1 x2 x3) := by
  intro μ h
  have h0 := h
  obtain ⟨o, W, hC, hT, hS, hX, hL⟩ := h
  obtain ⟨w1, w2, w3, w4, w5, w6⟩ := id W
  rcases gd x1 3 (by decide) with ⟨g0, k0⟩ | ⟨g0, k0, p, hp, rfl⟩
  · exact pairR h0 (by unfold X10_loss; rw [if_pos (show X10_isPerson x1 = 0 from g0)]) (by unfold X11_loss; rw [if_pos (show X11_isPerson x1 = 0 from k0)])
  have hn := w6.2.2
  rcases gd x2 3 (by decide) with ⟨g2, k2⟩ | ⟨g2, k2, w, hw, rfl⟩
  · exact pairR h0 (by unfold X10_loss; rw [if_neg (show ¬ X10_isPerson (nI p) = 0 from g0), if_pos (show X10_isWay x2 = 0 from g2)]) (by unfold X11_loss; rw [if_neg (show ¬ X11_isPerson (nI p) = 0 from k0), if_pos (show X11_isWay x2 = 0 from k2), Option.bind_some])
  rcases gd x3 8 (by decide) with ⟨g3, k3⟩ | ⟨g3, k3, k, hk, rfl⟩
  · exact pairR h0 (by unfold X10_loss; rw [if_neg (show ¬ X10_isPerson (nI p) = 0 from g0), if_neg (show ¬ X10_isWay (nI w) = 0 from g2), if_pos (show X10_isAhead x3 = 0 from g3)]) (by unfold X11_loss; rw [if_neg (show ¬ X11_isPerson (nI p) = 0 from k0), if_neg (show ¬ X11_isWay (nI w) = 0 from k2), if_pos (show X11_in x3.toInt64 0 8 = 0 from k3), Option.bind_some])
  obtain ⟨a, ⟨sa, ha⟩, ea⟩ := look_ok o W (p := p) (t := nw μ) (k := k) (by omega) (by omega) (by omega)
  have Ia := h0.sm sa
  obtain ⟨b, sb, eb⟩ := loss_m sa.1 (W.sm sa) Ia.2.2.1 (p := p) (t := nw μ) (k := k) (w := w) (by omega) (by omega) (by omega) (by omega)
  refine pairS h0 (r := nI (lsS μ w (odd μ p (nw μ) k))) (μ1 := a) (μ2 := b) ?_ sa ?_ sb
  · unfold X10_loss
    rw [if_neg (show ¬ X10_isPerson (nI p) = 0 from g0), if_neg (show ¬ X10_isWay (nI w) = 0 from g2), if_neg (show ¬ X10_isAhead (nI k) = 0 from g3), r_0_0 o, Option.bind_some, gI_eq (a := 0) o (by decide) rfl, w6.1, Option.bind_some, vO_eq (c := 9) (a := 1) o (by decide) rfl, Option.bind_some, ea, Option.bind_some, r_0_1 sa.1, Option.bind_some, r_0_0 sa.1, Option.bind_some, r_1_4 sa.1, Option.bind_some, ar_ahead sa.1 (by omega), Option.bind_some, vO_eq (c := 8) (a := 30) sa.1 (by decide) rfl, Option.bind_some, loss_c sa.1 Ia.2.2.1 (by omega) (by omega) (s_ahead (by omega)) (ha k (Nat.le_refl _)) (fun i hi => odd_le hi), Option.bind_some, lsS_sm sa]
  · have hwa : mI a 134 5 = nI (nw μ) := (sa.fld (a := 134) (k := 5) rfl).trans w6.2.1
    unfold X11_loss
    rw [if_neg (show ¬ X11_isPerson (nI p) = 0 from k0), if_neg (show ¬ X11_isWay (nI w) = 0 from k2), if_neg (show ¬ X11_in (nI k).toInt64 0 8 = 0 from k3), gI_eq (a := 134) sa.1 (by decide) rfl, hwa, Option.bind_some, vO_eq (c := 11) (a := 134) sa.1 (by decide) rfl, Option.bind_some, eb, Option.bind_some, Option.bind_some, lsS_sm sa, show odd a p (nw μ) k = odd μ p (nw μ) k from funext (odd_sm sa p (nw μ) k)]
end
section
/-! ===== which THINGS and SAYINGS there are ===== -/
theorem zz1 : zz 1 = some 1 := rfl
theorem zz0 : zz 0 = some 0 := rfl
/-- a count that both hold: bounds are looked at alike -/
theorem gcnt (x : Int32) {n : Nat} (hn : n < 1000) : ((((if x < 0 then some 0 else if nI n ≤ x then some 0 else some 1) : Option Int32)) = some 0 ∧ X11_in x.toInt64 0 (nI n - 1).toInt64 = 0) ∨ ((((if x < 0 then some 0 else if nI n ≤ x then some 0 else some 1) : Option Int32)) = some 1 ∧ X11_in x.toInt64 0 (nI n - 1).toInt64 = 1 ∧ ∃ t, t < n ∧ x = nI t) := by
  have e : X11_in x.toInt64 0 (nI n - 1).toInt64 = X10_within x 0 (nI n - 1) := in_eq x 0 (nI n - 1)
  rw [e]
  unfold X10_within
  by_cases h0 : x < 0
  · left
    rw [if_pos h0, if_pos h0]
    exact ⟨rfl, rfl⟩
  · obtain ⟨t, ht, rfl⟩ := nI_of h0
    have c1 : nI n ≤ nI t ↔ n ≤ t := nI_leI (by omega) ht
    rw [if_neg h0, if_neg h0]
    by_cases h1 : n ≤ t
    · left
      rw [if_pos (c1.mpr h1)]
      refine ⟨rfl, ?_⟩
      rw [if_pos]
      cases n with
      | zero =>
        rw [show nI 0 - 1 = -1 from rfl, Int32.lt_iff_toInt_lt, nI_toInt ht]
        have : (-1 : Int32).toInt = -1 := rfl
        omega
      | succ n =>
        rw [nI_pred, n_lt (by omega) ht]
        omega
    · right
      rw [if_neg (fun q => h1 (c1.mp q))]
      refine ⟨rfl, ?_, t, by omega, rfl⟩
      rw [if_neg]
      cases n with
      | zero => omega
      | succ n =>
        rw [nI_pred, n_lt (by omega) ht]
        omega
theorem gT {μ : Mem} (h : Ok μ) (T : RelT μ) (x : Int32) : (X0_hasThing 37 x μ = some 0 ∧ X11_isThing 134 x μ = some 0) ∨ (X0_hasThing 37 x μ = some 1 ∧ X11_isThing 134 x μ = some 1 ∧ ∃ t, t < tn μ ∧ x = nI t) := by
  have hn := T.1.2.2
  unfold X0_hasThing X11_isThing
  rw [gI_eq (a := 37) h (by decide) rfl, T.1.1, gI_eq (a := 134) h (by decide) rfl, T.1.2.1, Option.bind_some, Option.bind_some]
  rcases gcnt x (n := tn μ) (by omega) with ⟨e1, e2⟩ | ⟨e1, e2, e3⟩
  · left
    rw [e1, e2]
    exact ⟨rfl, rfl⟩
  · right
    rw [e1, e2]
    exact ⟨rfl, rfl, e3⟩
theorem gS {μ : Mem} (h : Ok μ) (S : RelS μ) (x : Int32) : (X0_hasSaying 37 x μ = some 0 ∧ X11_isSaying 134 x μ = some 0) ∨ (X0_hasSaying 37 x μ = some 1 ∧ X11_isSaying 134 x μ = some 1 ∧ ∃ t, t < sc μ ∧ x = nI t) := by
  have hn := S.1.2.2
  unfold X0_hasSaying X11_isSaying
  rw [gI_eq (a := 37) h (by decide) rfl, S.1.1, gI_eq (a := 134) h (by decide) rfl, S.1.2.1, Option.bind_some, Option.bind_some]
  rcases gcnt x (n := sc μ) (by omega) with ⟨e1, e2⟩ | ⟨e1, e2, e3⟩
  · left
    rw [e1, e2]
    exact ⟨rfl, rfl⟩
  · right
    rw [e1, e2]
    exact ⟨rfl, rfl, e3⟩
/-- VALUE of a THING in a TICK with seam odds -/
def valD (μ : Mem) (t k : Nat) : Int32 := nI (tv μ 4 t) - nI (tv μ 5 t) * (nI (nw μ + k) - nI (tv μ 7 t))
def valV (μ : Mem) (t k s : Nat) : Int32 := if tv μ 8 t = 0 then (if nw μ + k ≤ tv μ 6 t then (if 0 < valD μ t k then (if tv μ 1 t = 2 then ((valD μ t k).toInt64 * (nI s).toInt64 / 1000000).toInt32 else valD μ t k) else 0) else 0) else 0
theorem dvM (x : Int64) : dvJ x 1000000 = some (x / 1000000) := if_neg (by decide)
theorem val_c {μ : Mem} (h : Ok μ) (T : RelT μ) {t k s : Nat} (ht : t < 10) (hk : nw μ + k < 1000) : X6_valueIn (40 + t) (nI (nw μ + k)) (nI s) μ = some (valV μ t k s) := by
  have so := s_things ht
  have f := fun c hc => (T.2.1 c t hc ht).1
  have b6 : tv μ 6 t ≤ 60 := (T.2.1 6 t (by decide) ht).2.2
  have b8 : tv μ 8 t ≤ 1 := (T.2.1 8 t (by decide) ht).2.2
  have b1 : tv μ 1 t ≤ 3 := (T.2.1 1 t (by decide) ht).2.2
  unfold X6_valueIn valV
  rw [gI_eq h (by omega) so, gI_eq h (by omega) so, gI_eq h (by omega) so, gI_eq h (by omega) so, gI_eq h (by omega) so, gI_eq h (by omega) so, f 8 (by decide), f 6 (by decide), f 4 (by decide), f 5 (by decide), f 7 (by decide), f 1 (by decide)]
  simp only [Option.bind_some]
  have c8 : nI (tv μ 8 t) = 0 ↔ tv μ 8 t = 0 := nI_eq (b := 0) (by omega) (by decide)
  have c6 : nI (nw μ + k) ≤ nI (tv μ 6 t) ↔ nw μ + k ≤ tv μ 6 t := nI_leI (by omega) (by omega)
  have c1 : nI (tv μ 1 t) = 2 ↔ tv μ 1 t = 2 := nI_eq (b := 2) (by omega) (by decide)
  by_cases q8 : tv μ 8 t = 0
  · rw [if_pos (c8.mpr q8), if_pos q8]
    by_cases q6 : nw μ + k ≤ tv μ 6 t
    · rw [if_pos (c6.mpr q6), if_pos q6]
      by_cases q : 0 < valD μ t k
      · rw [if_pos q, if_pos (show 0 < nI (tv μ 4 t) - nI (tv μ 5 t) * (nI (nw μ + k) - nI (tv μ 7 t)) from q)]
        by_cases q1 : tv μ 1 t = 2
        · rw [if_pos (c1.mpr q1), if_pos q1, dvM, Option.bind_some, Option.bind_some]
          rfl
        · rw [if_neg (fun z => q1 (c1.mp z)), if_neg q1, Option.bind_some]
          rfl
      · rw [if_neg q, if_neg (show ¬ 0 < nI (tv μ 4 t) - nI (tv μ 5 t) * (nI (nw μ + k) - nI (tv μ 7 t)) from q)]
        by_cases q1 : tv μ 1 t = 2
        · rw [if_pos (c1.mpr q1), dvM, Option.bind_some, Option.bind_some, show (0 : Int32).toInt64 = 0 from rfl, Int64.zero_mul]
          rfl
        · rw [if_neg (fun z => q1 (c1.mp z)), Option.bind_some]
    · rw [if_neg (fun z => q6 (c6.mp z)), if_neg q6]
  · rw [if_neg (fun z => q8 (c8.mp z)), if_neg q8]
end
section
theorem val_m {μ : Mem} (h : Ok μ) (W : RelW μ) (T : RelT μ) {p t k : Nat} (hp : p < 4) (ht : t < 10) (hk : k ≤ 8) : ∃ μ', Sm μ μ' ∧ X11_valueOf 134 (nI t) (nI p) (nI k) μ = some (valV μ t k (sS μ (odd μ p (nw μ) k)), μ') := by
  have hn := W.2.2.2.2.2.2.2
  have hw := W.2.2.2.2.2.2.1
  have f := fun c hc => (T.2.1 c t hc ht).2.1
  have b6 : tv μ 6 t ≤ 60 := (T.2.1 6 t (by decide) ht).2.2
  have b8 : tv μ 8 t ≤ 1 := (T.2.1 8 t (by decide) ht).2.2
  have b1 : tv μ 1 t ≤ 3 := (T.2.1 1 t (by decide) ht).2.2
  have c8 : nI (tv μ 8 t) = 0 ↔ tv μ 8 t = 0 := nI_eq (b := 0) (by omega) (by decide)
  have c6 : nI (tv μ 6 t) < nI (nw μ + k) ↔ tv μ 6 t < nw μ + k := nI_ltI (by omega) (by omega)
  have c1 : nI (tv μ 1 t) = 2 ↔ tv μ 1 t = 2 := nI_eq (b := 2) (by omega) (by decide)
  have r4 : aI 149 (nI t) μ = some (nI (tv μ 4 t)) := (aI_eq (a := 149) h (by decide) rfl ht (by decide)).trans (by rw [← f 4 (by decide)])
  have r5 : aI 150 (nI t) μ = some (nI (tv μ 5 t)) := (aI_eq (a := 150) h (by decide) rfl ht (by decide)).trans (by rw [← f 5 (by decide)])
  have r7 : aI 152 (nI t) μ = some (nI (tv μ 7 t)) := (aI_eq (a := 152) h (by decide) rfl ht (by decide)).trans (by rw [← f 7 (by decide)])
  have r8 : aZ 153 (nI t) μ = some (nI (tv μ 8 t)) := (aZ_eq (a := 153) h (by decide) rfl ht (by decide)).trans (by rw [← f 8 (by decide)])
  have r6 : aI 151 (nI t) μ = some (nI (tv μ 6 t)) := (aI_eq (a := 151) h (by decide) rfl ht (by decide)).trans (by rw [← f 6 (by decide)])
  have r1 : aI 146 (nI t) μ = some (nI (tv μ 1 t)) := (aI_eq (a := 146) h (by decide) rfl ht (by decide)).trans (by rw [← f 1 (by decide)])
  obtain ⟨b, ⟨sb, -⟩, eb⟩ := mseam_ok h W hp (t := nw μ) (k := k) (by omega) hk
  unfold X11_valueOf valV
  rw [gI_eq (a := 134) h (by decide) rfl, hw]
  simp only [Option.bind_some, nI_add, r_134_17 h, r4, r_134_18 h, r5, r_134_20 h, r7, r_134_21 h, r8]
  by_cases q8 : tv μ 8 t = 0
  · rw [if_pos (c8.mpr q8), if_pos q8, r_134_19 h, Option.bind_some, r6, Option.bind_some]
    by_cases q6 : nw μ + k ≤ tv μ 6 t
    · rw [if_neg (fun z => by have := c6.mp z; omega), if_pos q6]
      by_cases q : 0 < valD μ t k
      · rw [if_pos q, if_pos (show 0 < nI (tv μ 4 t) - nI (tv μ 5 t) * (nI (nw μ + k) - nI (tv μ 7 t)) from q), r_134_14 h, Option.bind_some, r1, Option.bind_some]
        by_cases q1 : tv μ 1 t = 2
        · refine ⟨b, sb, ?_⟩
          rw [if_pos (c1.mpr q1), if_pos q1, vO_eq (c := 11) (a := 134) h (by decide) rfl, Option.bind_some, eb, Option.bind_some, dvM, Option.bind_some, Option.bind_some]
          rfl
        · refine ⟨μ, Sm.rf h, ?_⟩
          rw [if_neg (fun z => q1 (c1.mp z)), if_neg q1, Option.bind_some]
          rfl
      · refine ⟨μ, Sm.rf h, ?_⟩
        rw [if_neg q, if_neg (show ¬ 0 < nI (tv μ 4 t) - nI (tv μ 5 t) * (nI (nw μ + k) - nI (tv μ 7 t)) from q)]
    · refine ⟨μ, Sm.rf h, ?_⟩
      rw [if_pos (c6.mpr (by omega)), if_neg q6]
  · refine ⟨μ, Sm.rf h, ?_⟩
    rw [if_neg (fun z => q8 (c8.mp z)), if_neg q8]
theorem valV_sm {μ μ' : Mem} (s : Sm μ μ') : valV μ' = valV μ := by
  funext t k z
  unfold valV valD
  rw [tv_sm s (by decide), tv_sm s (by decide), tv_sm s (by decide), tv_sm s (by decide), tv_sm s (by decide), tv_sm s (by decide), nw_sm s]
theorem p_value (x1 x2 x3 : Int32) : Pair (X10_value 0 x1 x2 x3) (X11_value 134 x1 x2 x3) := by
  intro μ h
  have h0 := h
  obtain ⟨o, W, hC, hT, hS, hX, hL⟩ := h
  obtain ⟨w1, w2, w3, w4, w5, w6⟩ := id W
  have hn := w6.2.2
  have ht10 := hT.1.2.2
  rcases gT o hT x1 with ⟨g1, k1⟩ | ⟨g1, k1, t, ht, rfl⟩
  · exact pairR h0 (by unfold X10_value; rw [r_0_2 o, Option.bind_some, vO_eq (c := 0) (a := 37) o (by decide) rfl, Option.bind_some, g1, Option.bind_some, if_pos rfl]) (by unfold X11_value; rw [vO_eq (c := 11) (a := 134) o (by decide) rfl, Option.bind_some, k1, Option.bind_some, if_pos rfl])
  rcases gd x2 3 (by decide) with ⟨g2, k2⟩ | ⟨g2, k2, p, hp, rfl⟩
  · exact pairR h0 (by unfold X10_value; rw [r_0_2 o, Option.bind_some, vO_eq (c := 0) (a := 37) o (by decide) rfl, Option.bind_some, g1, Option.bind_some, if_neg (by decide), if_pos (show X10_isPerson x2 = 0 from g2)]) (by unfold X11_value; rw [vO_eq (c := 11) (a := 134) o (by decide) rfl, Option.bind_some, k1, Option.bind_some, if_neg (by decide), if_pos (show X11_isPerson x2 = 0 from k2)])
  rcases gd x3 8 (by decide) with ⟨g3, k3⟩ | ⟨g3, k3, k, hk, rfl⟩
  · exact pairR h0 (by unfold X10_value; rw [r_0_2 o, Option.bind_some, vO_eq (c := 0) (a := 37) o (by decide) rfl, Option.bind_some, g1, Option.bind_some, if_neg (by decide), if_neg (show ¬ X10_isPerson (nI p) = 0 from g2), if_pos (show X10_isAhead x3 = 0 from g3)]) (by unfold X11_value; rw [vO_eq (c := 11) (a := 134) o (by decide) rfl, Option.bind_some, k1, Option.bind_some, if_neg (by decide), if_neg (show ¬ X11_isPerson (nI p) = 0 from k2), if_pos (show X11_in x3.toInt64 0 8 = 0 from k3), Option.bind_some])
  obtain ⟨a, ⟨sa, ha⟩, ea⟩ := look_ok o W (p := p) (t := nw μ) (k := k) (by omega) (by omega) (by omega)
  have Ia := h0.sm sa
  obtain ⟨b, sb, eb⟩ := val_m sa.1 (W.sm sa) Ia.2.2.2.1 (p := p) (t := t) (k := k) (by omega) (by omega) (by omega)
  have hwa : mI a 0 10 = nI (nw μ) := (sa.fld (a := 0) (k := 10) rfl).trans w6.1
  refine pairS h0 (r := valV μ t k (sS μ (odd μ p (nw μ) k))) (μ1 := a) (μ2 := b) ?_ sa ?_ sb
  · have ev := val_c sa.1 Ia.2.2.2.1 (t := t) (k := k) (s := sS μ (odd μ p (nw μ) k)) (by omega) (by rw [nw_sm sa]; omega)
    rw [nw_sm sa] at ev
    unfold X10_value
    rw [r_0_2 o, Option.bind_some, vO_eq (c := 0) (a := 37) o (by decide) rfl, Option.bind_some, g1, Option.bind_some, if_neg (by decide), if_neg (show ¬ X10_isPerson (nI p) = 0 from g2), if_neg (show ¬ X10_isAhead (nI k) = 0 from g3), r_0_0 o, Option.bind_some, gI_eq (a := 0) o (by decide) rfl, w6.1, Option.bind_some, vO_eq (c := 9) (a := 1) o (by decide) rfl, Option.bind_some, ea, Option.bind_some, r_0_2 sa.1, Option.bind_some, r_37_0 sa.1, Option.bind_some, ar_things sa.1 (by omega), Option.bind_some, gI_eq (a := 0) sa.1 (by decide) rfl, hwa, Option.bind_some, r_0_0 sa.1, Option.bind_some, vO_eq (c := 9) (a := 1) sa.1 (by decide) rfl, Option.bind_some, seam_c sa.1 (W.sm sa) (by omega) (ha k (Nat.le_refl _)), Option.bind_some, vO_eq (c := 6) sa.1 (by omega) (s_things (by omega)), Option.bind_some, nI_add, sS_sm sa, ev, Option.bind_some, valV_sm sa]
  · have k1a : X11_isThing 134 (nI t) a = some 1 := by
      rcases gT sa.1 Ia.2.2.2.1 (nI t) with ⟨z1, z2⟩ | ⟨z1, z2, -⟩
      · unfold X0_hasThing at z1 g1
        rw [gI_eq (a := 37) sa.1 (by decide) rfl, sa.fld (a := 37) (k := 2) rfl] at z1
        rw [gI_eq (a := 37) o (by decide) rfl] at g1
        rw [g1] at z1
        exact absurd (inj1 z1) (by decide)
      · exact z2
    unfold X11_value
    rw [vO_eq (c := 11) (a := 134) sa.1 (by decide) rfl, Option.bind_some, k1a, Option.bind_some, if_neg (by decide), if_neg (show ¬ X11_isPerson (nI p) = 0 from k2), if_neg (show ¬ X11_in (nI k).toInt64 0 8 = 0 from k3), Option.bind_some, eb, Option.bind_some, Option.bind_some, valV_sm sa, sS_sm sa, nw_sm sa, show odd a p (nw μ) k = odd μ p (nw μ) k from funext (odd_sm sa p (nw μ) k)]
end
section
/-! ===== sayings gone through ===== -/
theorem s_saying {s : Nat} (hs : s < 40) : S0 (50 + s) = (0, 5) := s_sayings hs
def cnS (μ : Mem) (t : Nat) : Nat := itr (fun s n => n + bt (nI (sv μ 1 s)) t) 0 (sc μ) 0
theorem itr_bd {f : Nat → Nat → Nat} (hf : ∀ s n, f s n ≤ n + 1) : ∀ d i a, itr f i d a ≤ a + d
  | 0, _, _ => Nat.le_refl _
  | d + 1, i, a => by
    have h1 := itr_bd hf d (i + 1) (f i a)
    have h2 := hf i a
    show itr f (i + 1) d (f i a) ≤ a + (d + 1)
    omega
theorem cnS_sm {μ μ' : Mem} (h : Sm μ μ') : cnS μ' = cnS μ := by
  funext t
  unfold cnS
  rw [sc_sm h]
  exact itr_congr _ _ _ (fun j x _ _ => by rw [sv_sm h (by decide)])
theorem with_c {μ : Mem} (h : Ok μ) (S : RelS μ) (t : Nat) : X0_sayingsWith 37 (nI t) μ = some (nI (cnS μ t)) := by
  have hc := S.1.2.2
  have key := loopA (F := fun k (a : Nat) i => X0_sayingsWith_L4 37 (nI t) μ k (nI a) (nI i)) (f := fun s n => n + bt (nI (sv μ 1 s)) t) (n := sc μ) (fun k a i hi => by
    have g : ¬ nI (sc μ) ≤ nI i := nI_ge hi (by omega)
    show X0_sayingsWith_L4 37 (nI t) μ (k + 1) (nI a) (nI i) = _
    rw [X0_sayingsWith_L4, gI_eq (a := 37) h (by decide) rfl, S.1.1, Option.bind_some, if_neg g, r_37_1 h, Option.bind_some, ar_sayings h (by omega), Option.bind_some, gI_eq h (by omega) (s_saying (by omega)), (S.2.1 1 i (by decide) (by omega)).1, Option.bind_some, Option.bind_some]
    have e : (if X10_contains (nI (sv μ 1 i)) (nI t) = 0 then nI a else nI a + 1 : Int32) = nI (a + bt (nI (sv μ 1 i)) t) := by
      by_cases q : bt (nI (sv μ 1 i)) t = 0
      · rw [if_pos (by rw [has_z]; exact q), q]
        rfl
      · rw [if_neg (by rw [has_z]; exact q), show bt (nI (sv μ 1 i)) t = 1 by have := bt_le (nI (sv μ 1 i)) t; omega, nI_add1]
    rw [e, nI_add1]) (sc μ) (99999 - sc μ + 1) 0 0 (by omega)
  unfold X0_sayingsWith
  have e2 : X0_sayingsWith_L4 37 (nI t) μ FU 0 0 = some (nI (cnS μ t), nI (sc μ)) := by
    rw [show FU = 99999 - sc μ + 1 + sc μ by unfold FU; omega]
    refine key.trans ?_
    show X0_sayingsWith_L4 37 (nI t) μ (99999 - sc μ + 1) _ (nI (sc μ)) = _
    rw [X0_sayingsWith_L4, gI_eq (a := 37) h (by decide) rfl, S.1.1, Option.bind_some, if_pos (nI_le (Nat.le_refl _) (by omega))]
    rfl
  rw [e2, Option.bind_some]
theorem with_m {μ : Mem} (h : Ok μ) (S : RelS μ) (t : Nat) : X11_sayingsOf 134 (nI t) μ = some (nI (cnS μ t)) := by
  have hc := S.1.2.2
  have key := loopA (F := fun k (a : Nat) i => X11_sayingsOf_L4 134 (nI t) μ k (nI a) (nI i)) (f := fun s n => n + bt (nI (sv μ 1 s)) t) (n := sc μ) (fun k a i hi => by
    have g : ¬ nI (sc μ) ≤ nI i := nI_ge hi (by omega)
    show X11_sayingsOf_L4 134 (nI t) μ (k + 1) (nI a) (nI i) = _
    rw [X11_sayingsOf_L4, gI_eq (a := 134) h (by decide) rfl, S.1.2.1, Option.bind_some, if_neg g, r_134_47 h, Option.bind_some, aI_eq (a := 171) h (by decide) rfl (by omega) (by decide), (S.2.1 1 i (by decide) (by omega)).2.1, Option.bind_some, Option.bind_some, nI_add1, bt_eq, nI_add]) (sc μ) (99999 - sc μ + 1) 0 0 (by omega)
  unfold X11_sayingsOf
  have e2 : X11_sayingsOf_L4 134 (nI t) μ FU 0 0 = some (nI (cnS μ t), nI (sc μ)) := by
    rw [show FU = 99999 - sc μ + 1 + sc μ by unfold FU; omega]
    refine key.trans ?_
    show X11_sayingsOf_L4 134 (nI t) μ (99999 - sc μ + 1) _ (nI (sc μ)) = _
    rw [X11_sayingsOf_L4, gI_eq (a := 134) h (by decide) rfl, S.1.2.1, Option.bind_some, if_pos (nI_le (Nat.le_refl _) (by omega))]
    rfl
  rw [e2, Option.bind_some]
end
section
/-! ===== TOLD ===== -/
/-- one saying more: how many of the THING are not wiped, who looked at one (a set) -/
def tdF (μ : Mem) (t : Nat) (s : Nat) (a : Nat × Nat) : Nat × Nat := if bt (nI (sv μ 1 s)) t = 0 then a else (if sv μ 4 s = 3 then a.1 else a.1 + 1, if sv μ 4 s = 1 then a.2 ||| 2 ^ sv μ 0 s else a.2)
def tdA (μ : Mem) (t : Nat) (i : Nat) : Nat × Nat := itr (tdF μ t) 0 i (0, 0)
theorem tdA_s (μ : Mem) (t i : Nat) : tdA μ t (i + 1) = tdF μ t i (tdA μ t i) := by
  unfold tdA
  rw [itr_succ, Nat.zero_add]
theorem or16 : ∀ m, m < 16 → ∀ k, k < 4 → nI m ||| (1 <<< (nI k &&& 31)) = nI (m ||| 2 ^ k) ∧ (m ||| 2 ^ k) < 16 := by decide +kernel
theorem tdA_ok {μ : Mem} (S : RelS μ) (t : Nat) : ∀ i, i ≤ 40 → (tdA μ t i).2 < 16 ∧ ((tdA μ t i).2 ≠ 0 → (tdA μ t i).1 ≠ 0) ∧ (tdA μ t i).1 ≤ i
  | 0, _ => ⟨(by decide : (0 : Nat) < 16), fun h => absurd rfl h, Nat.le_refl _⟩
  | i + 1, h => by
    obtain ⟨h1, h2, h3⟩ := tdA_ok S t i (by omega)
    rw [tdA_s]
    unfold tdF
    have b0 : sv μ 0 i ≤ 3 := (S.2.1 0 i (by decide) (by omega)).2.2
    by_cases q : bt (nI (sv μ 1 i)) t = 0
    · rw [if_pos q]
      exact ⟨h1, h2, by omega⟩
    · rw [if_neg q]
      refine ⟨?_, ?_, ?_⟩
      · show (if sv μ 4 i = 1 then (tdA μ t i).2 ||| 2 ^ sv μ 0 i else (tdA μ t i).2) < 16
        split
        · exact (or16 _ h1 _ (by omega)).2
        · exact h1
      · show (if sv μ 4 i = 1 then (tdA μ t i).2 ||| 2 ^ sv μ 0 i else (tdA μ t i).2) ≠ 0 → (if sv μ 4 i = 3 then (tdA μ t i).1 else (tdA μ t i).1 + 1) ≠ 0
        by_cases e3 : sv μ 4 i = 3
        · rw [if_pos e3, if_neg (by omega)]
          exact h2
        · rw [if_neg e3]
          intro _
          omega
      · show (if sv μ 4 i = 3 then (tdA μ t i).1 else (tdA μ t i).1 + 1) ≤ i + 1
        split <;> omega
theorem told_c7 {μ : Mem} (h : Ok μ) (S : RelS μ) (t : Nat) : X0_isTold_L7 37 (nI t) μ FU 0 0 0 = some (nI (tdA μ t (sc μ)).1, nI (tdA μ t (sc μ)).2, nI (sc μ)) := by
  have hc := S.1.2.2
  have key := loopP (F := fun k (a : Nat × Nat) i => X0_isTold_L7 37 (nI t) μ k (nI a.1) (nI a.2) (nI i)) (P := fun i a => a = tdA μ t i) (n := sc μ) (fun k a i hi P => by
    subst P
    obtain ⟨h1, h2, h3⟩ := tdA_ok S t i (by omega)
    have b0 : sv μ 0 i ≤ 3 := (S.2.1 0 i (by decide) (by omega)).2.2
    have b4 : sv μ 4 i ≤ 3 := (S.2.1 4 i (by decide) (by omega)).2.2
    have g : ¬ nI (sc μ) ≤ nI i := nI_ge hi (by omega)
    have c3 : nI (sv μ 4 i) = 3 ↔ sv μ 4 i = 3 := nI_eq (b := 3) (by omega) (by decide)
    have c1 : nI (sv μ 4 i) = 1 ↔ sv μ 4 i = 1 := nI_eq (b := 1) (by omega) (by decide)
    have f := fun c hc' => (S.2.1 c i hc' (by omega)).1
    have so := s_saying (s := i) (by omega)
    refine ⟨tdA μ t (i + 1), rfl, ?_⟩
    show X0_isTold_L7 37 (nI t) μ (k + 1) (nI (tdA μ t i).1) (nI (tdA μ t i).2) (nI i) = X0_isTold_L7 37 (nI t) μ k (nI (tdA μ t (i + 1)).1) (nI (tdA μ t (i + 1)).2) (nI (i + 1))
    rw [tdA_s]
    unfold tdF
    generalize tdA μ t i = a at *
    rw [X0_isTold_L7, gI_eq (a := 37) h (by decide) rfl, S.1.1, Option.bind_some, if_neg g]
    simp only [r_37_1 h, ar_sayings h (show i < 40 by omega), Option.bind_some, gI_eq (c := 5) h (show 50 + i < 175 by omega) so, f 1 (by decide), f 4 (by decide), f 0 (by decide)]
    by_cases q : bt (nI (sv μ 1 i)) t = 0
    · rw [if_pos (by rw [has_z]; exact q), if_pos q, Option.bind_some, nI_add1]
    · rw [if_neg (by rw [has_z]; exact q), if_neg q]
      by_cases e3 : sv μ 4 i = 3
      · rw [if_pos (c3.mpr e3), if_neg (fun z => by have := c1.mp z; omega), Option.bind_some, if_pos e3, if_neg (by omega), nI_add1]
      · rw [if_neg (fun z => e3 (c3.mp z)), if_neg e3]
        by_cases e1 : sv μ 4 i = 1
        · rw [if_pos (c1.mpr e1), Option.bind_some, if_pos e1, (or16 _ h1 _ (by omega)).1, nI_add1, nI_add1]
        · rw [if_neg (fun z => e1 (c1.mp z)), Option.bind_some, if_neg e1, nI_add1, nI_add1]) (sc μ) (99999 - sc μ + 1) (0, 0) 0 (by omega) rfl
  obtain ⟨a, P, e⟩ := key
  subst P
  rw [show FU = 99999 - sc μ + 1 + sc μ by unfold FU; omega]
  refine e.trans ?_
  show X0_isTold_L7 37 (nI t) μ (99999 - sc μ + 1) _ _ (nI (sc μ)) = _
  rw [X0_isTold_L7, gI_eq (a := 37) h (by decide) rfl, S.1.1, Option.bind_some, if_pos (nI_le (Nat.le_refl _) (by omega))]
end
section
/-! ===== reads and writes by place ===== -/
theorem gi_0 {μ : Mem} {k : Nat} (h : Ok μ) : gI 10 k 0 μ = some (mI μ 0 k) := gI_eq h (by decide) rfl
theorem pi_0 {μ : Mem} {k : Nat} {x : Int32} (h : Ok μ) : pI 10 k 0 x μ = some (wI μ 0 k x) := pI_eq h (by decide) rfl
theorem vo_0 {μ : Mem} (h : Ok μ) : vO 10 0 μ = some () := vO_eq h (by decide) rfl
theorem gi_1 {μ : Mem} {k : Nat} (h : Ok μ) : gI 9 k 1 μ = some (mI μ 1 k) := gI_eq h (by decide) rfl
theorem pi_1 {μ : Mem} {k : Nat} {x : Int32} (h : Ok μ) : pI 9 k 1 x μ = some (wI μ 1 k x) := pI_eq h (by decide) rfl
theorem vo_1 {μ : Mem} (h : Ok μ) : vO 9 1 μ = some () := vO_eq h (by decide) rfl
theorem ai_12 {μ : Mem} {i : Nat} (h : Ok μ) (hi : i < 4) : aI 12 (nI i) μ = some (mI μ 12 i) := aI_eq h (by decide) rfl hi (by decide)
theorem si_12 {μ : Mem} {i : Nat} {x : Int32} (h : Ok μ) (hi : i < 4) : sI 12 (nI i) x μ = some (wI μ 12 i x) := sI_eq h (by decide) rfl hi (by decide)
theorem gi_30 {μ : Mem} {k : Nat} (h : Ok μ) : gI 8 k 30 μ = some (mI μ 30 k) := gI_eq h (by decide) rfl
theorem pi_30 {μ : Mem} {k : Nat} {x : Int32} (h : Ok μ) : pI 8 k 30 x μ = some (wI μ 30 k x) := pI_eq h (by decide) rfl
theorem vo_30 {μ : Mem} (h : Ok μ) : vO 8 30 μ = some () := vO_eq h (by decide) rfl
theorem ai_36 {μ : Mem} {i : Nat} (h : Ok μ) (hi : i < 4) : aI 36 (nI i) μ = some (mI μ 36 i) := aI_eq h (by decide) rfl hi (by decide)
theorem si_36 {μ : Mem} {i : Nat} {x : Int32} (h : Ok μ) (hi : i < 4) : sI 36 (nI i) x μ = some (wI μ 36 i x) := sI_eq h (by decide) rfl hi (by decide)
theorem gi_37 {μ : Mem} {k : Nat} (h : Ok μ) : gI 0 k 37 μ = some (mI μ 37 k) := gI_eq h (by decide) rfl
theorem pi_37 {μ : Mem} {k : Nat} {x : Int32} (h : Ok μ) : pI 0 k 37 x μ = some (wI μ 37 k x) := pI_eq h (by decide) rfl
theorem vo_37 {μ : Mem} (h : Ok μ) : vO 0 37 μ = some () := vO_eq h (by decide) rfl
theorem gi_90 {μ : Mem} {k : Nat} (h : Ok μ) : gI 2 k 90 μ = some (mI μ 90 k) := gI_eq h (by decide) rfl
theorem pi_90 {μ : Mem} {k : Nat} {x : Int32} (h : Ok μ) : pI 2 k 90 x μ = some (wI μ 90 k x) := pI_eq h (by decide) rfl
theorem vo_90 {μ : Mem} (h : Ok μ) : vO 2 90 μ = some () := vO_eq h (by decide) rfl
theorem ai_91 {μ : Mem} {i : Nat} (h : Ok μ) (hi : i < 160) : aI 91 (nI i) μ = some (mI μ 91 i) := aI_eq h (by decide) rfl hi (by decide)
theorem si_91 {μ : Mem} {i : Nat} {x : Int32} (h : Ok μ) (hi : i < 160) : sI 91 (nI i) x μ = some (wI μ 91 i x) := sI_eq h (by decide) rfl hi (by decide)
theorem gi_93 {μ : Mem} {k : Nat} (h : Ok μ) : gI 1 k 93 μ = some (mI μ 93 k) := gI_eq h (by decide) rfl
theorem pi_93 {μ : Mem} {k : Nat} {x : Int32} (h : Ok μ) : pI 1 k 93 x μ = some (wI μ 93 k x) := pI_eq h (by decide) rfl
theorem vo_93 {μ : Mem} (h : Ok μ) : vO 1 93 μ = some () := vO_eq h (by decide) rfl
theorem gi_94 {μ : Mem} {k : Nat} (h : Ok μ) : gI 4 k 94 μ = some (mI μ 94 k) := gI_eq h (by decide) rfl
theorem pi_94 {μ : Mem} {k : Nat} {x : Int32} (h : Ok μ) : pI 4 k 94 x μ = some (wI μ 94 k x) := pI_eq h (by decide) rfl
theorem vo_94 {μ : Mem} (h : Ok μ) : vO 4 94 μ = some () := vO_eq h (by decide) rfl
theorem ai_95 {μ : Mem} {i : Nat} (h : Ok μ) (hi : i < 6) : aI 95 (nI i) μ = some (mI μ 95 i) := aI_eq h (by decide) rfl hi (by decide)
theorem si_95 {μ : Mem} {i : Nat} {x : Int32} (h : Ok μ) (hi : i < 6) : sI 95 (nI i) x μ = some (wI μ 95 i x) := sI_eq h (by decide) rfl hi (by decide)
theorem ai_96 {μ : Mem} {i : Nat} (h : Ok μ) (hi : i < 6) : aI 96 (nI i) μ = some (mI μ 96 i) := aI_eq h (by decide) rfl hi (by decide)
theorem si_96 {μ : Mem} {i : Nat} {x : Int32} (h : Ok μ) (hi : i < 6) : sI 96 (nI i) x μ = some (wI μ 96 i x) := sI_eq h (by decide) rfl hi (by decide)
theorem gi_97 {μ : Mem} {k : Nat} (h : Ok μ) : gI 1 k 97 μ = some (mI μ 97 k) := gI_eq h (by decide) rfl
theorem pi_97 {μ : Mem} {k : Nat} {x : Int32} (h : Ok μ) : pI 1 k 97 x μ = some (wI μ 97 k x) := pI_eq h (by decide) rfl
theorem vo_97 {μ : Mem} (h : Ok μ) : vO 1 97 μ = some () := vO_eq h (by decide) rfl
theorem ai_98 {μ : Mem} {i : Nat} (h : Ok μ) (hi : i < 6) : aI 98 (nI i) μ = some (mI μ 98 i) := aI_eq h (by decide) rfl hi (by decide)
theorem si_98 {μ : Mem} {i : Nat} {x : Int32} (h : Ok μ) (hi : i < 6) : sI 98 (nI i) x μ = some (wI μ 98 i x) := sI_eq h (by decide) rfl hi (by decide)
theorem ai_99 {μ : Mem} {i : Nat} (h : Ok μ) (hi : i < 64) : aI 99 (nI i) μ = some (mI μ 99 i) := aI_eq h (by decide) rfl hi (by decide)
theorem si_99 {μ : Mem} {i : Nat} {x : Int32} (h : Ok μ) (hi : i < 64) : sI 99 (nI i) x μ = some (wI μ 99 i x) := sI_eq h (by decide) rfl hi (by decide)
theorem ai_100 {μ : Mem} {i : Nat} (h : Ok μ) (hi : i < 64) : aI 100 (nI i) μ = some (mI μ 100 i) := aI_eq h (by decide) rfl hi (by decide)
theorem si_100 {μ : Mem} {i : Nat} {x : Int32} (h : Ok μ) (hi : i < 64) : sI 100 (nI i) x μ = some (wI μ 100 i x) := sI_eq h (by decide) rfl hi (by decide)
theorem ai_101 {μ : Mem} {i : Nat} (h : Ok μ) (hi : i < 64) : aI 101 (nI i) μ = some (mI μ 101 i) := aI_eq h (by decide) rfl hi (by decide)
theorem si_101 {μ : Mem} {i : Nat} {x : Int32} (h : Ok μ) (hi : i < 64) : sI 101 (nI i) x μ = some (wI μ 101 i x) := sI_eq h (by decide) rfl hi (by decide)
theorem ai_102 {μ : Mem} {i : Nat} (h : Ok μ) (hi : i < 4) : aI 102 (nI i) μ = some (mI μ 102 i) := aI_eq h (by decide) rfl hi (by decide)
theorem si_102 {μ : Mem} {i : Nat} {x : Int32} (h : Ok μ) (hi : i < 4) : sI 102 (nI i) x μ = some (wI μ 102 i x) := sI_eq h (by decide) rfl hi (by decide)
theorem ai_103 {μ : Mem} {i : Nat} (h : Ok μ) (hi : i < 384) : aI 103 (nI i) μ = some (mI μ 103 i) := aI_eq h (by decide) rfl hi (by decide)
theorem si_103 {μ : Mem} {i : Nat} {x : Int32} (h : Ok μ) (hi : i < 384) : sI 103 (nI i) x μ = some (wI μ 103 i x) := sI_eq h (by decide) rfl hi (by decide)
theorem ai_104 {μ : Mem} {i : Nat} (h : Ok μ) (hi : i < 384) : aI 104 (nI i) μ = some (mI μ 104 i) := aI_eq h (by decide) rfl hi (by decide)
theorem si_104 {μ : Mem} {i : Nat} {x : Int32} (h : Ok μ) (hi : i < 384) : sI 104 (nI i) x μ = some (wI μ 104 i x) := sI_eq h (by decide) rfl hi (by decide)
theorem ai_105 {μ : Mem} {i : Nat} (h : Ok μ) (hi : i < 4096) : aI 105 (nI i) μ = some (mI μ 105 i) := aI_eq h (by decide) rfl hi (by decide)
theorem si_105 {μ : Mem} {i : Nat} {x : Int32} (h : Ok μ) (hi : i < 4096) : sI 105 (nI i) x μ = some (wI μ 105 i x) := sI_eq h (by decide) rfl hi (by decide)
theorem ai_106 {μ : Mem} {i : Nat} (h : Ok μ) (hi : i < 66) : aI 106 (nI i) μ = some (mI μ 106 i) := aI_eq h (by decide) rfl hi (by decide)
theorem si_106 {μ : Mem} {i : Nat} {x : Int32} (h : Ok μ) (hi : i < 66) : sI 106 (nI i) x μ = some (wI μ 106 i x) := sI_eq h (by decide) rfl hi (by decide)
theorem gi_107 {μ : Mem} {k : Nat} (h : Ok μ) : gI 7 k 107 μ = some (mI μ 107 k) := gI_eq h (by decide) rfl
theorem pi_107 {μ : Mem} {k : Nat} {x : Int32} (h : Ok μ) : pI 7 k 107 x μ = some (wI μ 107 k x) := pI_eq h (by decide) rfl
theorem vo_107 {μ : Mem} (h : Ok μ) : vO 7 107 μ = some () := vO_eq h (by decide) rfl
theorem ai_108 {μ : Mem} {i : Nat} (h : Ok μ) (hi : i < 66) : aI 108 (nI i) μ = some (mI μ 108 i) := aI_eq h (by decide) rfl hi (by decide)
theorem si_108 {μ : Mem} {i : Nat} {x : Int32} (h : Ok μ) (hi : i < 66) : sI 108 (nI i) x μ = some (wI μ 108 i x) := sI_eq h (by decide) rfl hi (by decide)
theorem gi_109 {μ : Mem} {k : Nat} (h : Ok μ) : gI 3 k 109 μ = some (mI μ 109 k) := gI_eq h (by decide) rfl
theorem pi_109 {μ : Mem} {k : Nat} {x : Int32} (h : Ok μ) : pI 3 k 109 x μ = some (wI μ 109 k x) := pI_eq h (by decide) rfl
theorem vo_109 {μ : Mem} (h : Ok μ) : vO 3 109 μ = some () := vO_eq h (by decide) rfl
theorem gi_114 {μ : Mem} {k : Nat} (h : Ok μ) : gI 3 k 114 μ = some (mI μ 114 k) := gI_eq h (by decide) rfl
theorem pi_114 {μ : Mem} {k : Nat} {x : Int32} (h : Ok μ) : pI 3 k 114 x μ = some (wI μ 114 k x) := pI_eq h (by decide) rfl
theorem vo_114 {μ : Mem} (h : Ok μ) : vO 3 114 μ = some () := vO_eq h (by decide) rfl
theorem gi_119 {μ : Mem} {k : Nat} (h : Ok μ) : gI 3 k 119 μ = some (mI μ 119 k) := gI_eq h (by decide) rfl
theorem pi_119 {μ : Mem} {k : Nat} {x : Int32} (h : Ok μ) : pI 3 k 119 x μ = some (wI μ 119 k x) := pI_eq h (by decide) rfl
theorem vo_119 {μ : Mem} (h : Ok μ) : vO 3 119 μ = some () := vO_eq h (by decide) rfl
theorem gi_124 {μ : Mem} {k : Nat} (h : Ok μ) : gI 3 k 124 μ = some (mI μ 124 k) := gI_eq h (by decide) rfl
theorem pi_124 {μ : Mem} {k : Nat} {x : Int32} (h : Ok μ) : pI 3 k 124 x μ = some (wI μ 124 k x) := pI_eq h (by decide) rfl
theorem vo_124 {μ : Mem} (h : Ok μ) : vO 3 124 μ = some () := vO_eq h (by decide) rfl
theorem gi_129 {μ : Mem} {k : Nat} (h : Ok μ) : gI 3 k 129 μ = some (mI μ 129 k) := gI_eq h (by decide) rfl
theorem pi_129 {μ : Mem} {k : Nat} {x : Int32} (h : Ok μ) : pI 3 k 129 x μ = some (wI μ 129 k x) := pI_eq h (by decide) rfl
theorem vo_129 {μ : Mem} (h : Ok μ) : vO 3 129 μ = some () := vO_eq h (by decide) rfl
theorem gi_134 {μ : Mem} {k : Nat} (h : Ok μ) : gI 11 k 134 μ = some (mI μ 134 k) := gI_eq h (by decide) rfl
theorem pi_134 {μ : Mem} {k : Nat} {x : Int32} (h : Ok μ) : pI 11 k 134 x μ = some (wI μ 134 k x) := pI_eq h (by decide) rfl
theorem vo_134 {μ : Mem} (h : Ok μ) : vO 11 134 μ = some () := vO_eq h (by decide) rfl
theorem ai_135 {μ : Mem} {i : Nat} (h : Ok μ) (hi : i < 16) : aI 135 (nI i) μ = some (mI μ 135 i) := aI_eq h (by decide) rfl hi (by decide)
theorem si_135 {μ : Mem} {i : Nat} {x : Int32} (h : Ok μ) (hi : i < 16) : sI 135 (nI i) x μ = some (wI μ 135 i x) := sI_eq h (by decide) rfl hi (by decide)
theorem ai_136 {μ : Mem} {i : Nat} (h : Ok μ) (hi : i < 16) : aI 136 (nI i) μ = some (mI μ 136 i) := aI_eq h (by decide) rfl hi (by decide)
theorem si_136 {μ : Mem} {i : Nat} {x : Int32} (h : Ok μ) (hi : i < 16) : sI 136 (nI i) x μ = some (wI μ 136 i x) := sI_eq h (by decide) rfl hi (by decide)
theorem ai_137 {μ : Mem} {i : Nat} (h : Ok μ) (hi : i < 4) : aI 137 (nI i) μ = some (mI μ 137 i) := aI_eq h (by decide) rfl hi (by decide)
theorem si_137 {μ : Mem} {i : Nat} {x : Int32} (h : Ok μ) (hi : i < 4) : sI 137 (nI i) x μ = some (wI μ 137 i x) := sI_eq h (by decide) rfl hi (by decide)
theorem ai_138 {μ : Mem} {i : Nat} (h : Ok μ) (hi : i < 244) : aI 138 (nI i) μ = some (mI μ 138 i) := aI_eq h (by decide) rfl hi (by decide)
theorem si_138 {μ : Mem} {i : Nat} {x : Int32} (h : Ok μ) (hi : i < 244) : sI 138 (nI i) x μ = some (wI μ 138 i x) := sI_eq h (by decide) rfl hi (by decide)
theorem ai_141 {μ : Mem} {i : Nat} (h : Ok μ) (hi : i < 4) : aI 141 (nI i) μ = some (mI μ 141 i) := aI_eq h (by decide) rfl hi (by decide)
theorem si_141 {μ : Mem} {i : Nat} {x : Int32} (h : Ok μ) (hi : i < 4) : sI 141 (nI i) x μ = some (wI μ 141 i x) := sI_eq h (by decide) rfl hi (by decide)
theorem ai_142 {μ : Mem} {i : Nat} (h : Ok μ) (hi : i < 4) : aI 142 (nI i) μ = some (mI μ 142 i) := aI_eq h (by decide) rfl hi (by decide)
theorem si_142 {μ : Mem} {i : Nat} {x : Int32} (h : Ok μ) (hi : i < 4) : sI 142 (nI i) x μ = some (wI μ 142 i x) := sI_eq h (by decide) rfl hi (by decide)
theorem ai_143 {μ : Mem} {i : Nat} (h : Ok μ) (hi : i < 4) : aI 143 (nI i) μ = some (mI μ 143 i) := aI_eq h (by decide) rfl hi (by decide)
theorem si_143 {μ : Mem} {i : Nat} {x : Int32} (h : Ok μ) (hi : i < 4) : sI 143 (nI i) x μ = some (wI μ 143 i x) := sI_eq h (by decide) rfl hi (by decide)
theorem ai_144 {μ : Mem} {i : Nat} (h : Ok μ) (hi : i < 4) : aI 144 (nI i) μ = some (mI μ 144 i) := aI_eq h (by decide) rfl hi (by decide)
theorem si_144 {μ : Mem} {i : Nat} {x : Int32} (h : Ok μ) (hi : i < 4) : sI 144 (nI i) x μ = some (wI μ 144 i x) := sI_eq h (by decide) rfl hi (by decide)
theorem ai_145 {μ : Mem} {i : Nat} (h : Ok μ) (hi : i < 10) : aI 145 (nI i) μ = some (mI μ 145 i) := aI_eq h (by decide) rfl hi (by decide)
theorem si_145 {μ : Mem} {i : Nat} {x : Int32} (h : Ok μ) (hi : i < 10) : sI 145 (nI i) x μ = some (wI μ 145 i x) := sI_eq h (by decide) rfl hi (by decide)
theorem ai_146 {μ : Mem} {i : Nat} (h : Ok μ) (hi : i < 10) : aI 146 (nI i) μ = some (mI μ 146 i) := aI_eq h (by decide) rfl hi (by decide)
theorem si_146 {μ : Mem} {i : Nat} {x : Int32} (h : Ok μ) (hi : i < 10) : sI 146 (nI i) x μ = some (wI μ 146 i x) := sI_eq h (by decide) rfl hi (by decide)
theorem ai_147 {μ : Mem} {i : Nat} (h : Ok μ) (hi : i < 10) : aI 147 (nI i) μ = some (mI μ 147 i) := aI_eq h (by decide) rfl hi (by decide)
theorem si_147 {μ : Mem} {i : Nat} {x : Int32} (h : Ok μ) (hi : i < 10) : sI 147 (nI i) x μ = some (wI μ 147 i x) := sI_eq h (by decide) rfl hi (by decide)
theorem ai_148 {μ : Mem} {i : Nat} (h : Ok μ) (hi : i < 10) : aI 148 (nI i) μ = some (mI μ 148 i) := aI_eq h (by decide) rfl hi (by decide)
theorem si_148 {μ : Mem} {i : Nat} {x : Int32} (h : Ok μ) (hi : i < 10) : sI 148 (nI i) x μ = some (wI μ 148 i x) := sI_eq h (by decide) rfl hi (by decide)
theorem ai_149 {μ : Mem} {i : Nat} (h : Ok μ) (hi : i < 10) : aI 149 (nI i) μ = some (mI μ 149 i) := aI_eq h (by decide) rfl hi (by decide)
theorem si_149 {μ : Mem} {i : Nat} {x : Int32} (h : Ok μ) (hi : i < 10) : sI 149 (nI i) x μ = some (wI μ 149 i x) := sI_eq h (by decide) rfl hi (by decide)
theorem ai_150 {μ : Mem} {i : Nat} (h : Ok μ) (hi : i < 10) : aI 150 (nI i) μ = some (mI μ 150 i) := aI_eq h (by decide) rfl hi (by decide)
theorem si_150 {μ : Mem} {i : Nat} {x : Int32} (h : Ok μ) (hi : i < 10) : sI 150 (nI i) x μ = some (wI μ 150 i x) := sI_eq h (by decide) rfl hi (by decide)
theorem ai_151 {μ : Mem} {i : Nat} (h : Ok μ) (hi : i < 10) : aI 151 (nI i) μ = some (mI μ 151 i) := aI_eq h (by decide) rfl hi (by decide)
theorem si_151 {μ : Mem} {i : Nat} {x : Int32} (h : Ok μ) (hi : i < 10) : sI 151 (nI i) x μ = some (wI μ 151 i x) := sI_eq h (by decide) rfl hi (by decide)
theorem ai_152 {μ : Mem} {i : Nat} (h : Ok μ) (hi : i < 10) : aI 152 (nI i) μ = some (mI μ 152 i) := aI_eq h (by decide) rfl hi (by decide)
theorem si_152 {μ : Mem} {i : Nat} {x : Int32} (h : Ok μ) (hi : i < 10) : sI 152 (nI i) x μ = some (wI μ 152 i x) := sI_eq h (by decide) rfl hi (by decide)
theorem az_153 {μ : Mem} {i : Nat} (h : Ok μ) (hi : i < 10) : aZ 153 (nI i) μ = some (mI μ 153 i) := aZ_eq h (by decide) rfl hi (by decide)
theorem sz_153 {μ : Mem} {i : Nat} {x : Int32} (h : Ok μ) (hi : i < 10) (hx : x = 0 ∨ x = 1) : sZ 153 (nI i) x μ = some (wI μ 153 i x) := sZ_eq h (by decide) rfl hi (by decide) hx
theorem ai_154 {μ : Mem} {i : Nat} (h : Ok μ) (hi : i < 16) : aI 154 (nI i) μ = some (mI μ 154 i) := aI_eq h (by decide) rfl hi (by decide)
theorem si_154 {μ : Mem} {i : Nat} {x : Int32} (h : Ok μ) (hi : i < 16) : sI 154 (nI i) x μ = some (wI μ 154 i x) := sI_eq h (by decide) rfl hi (by decide)
theorem ai_155 {μ : Mem} {i : Nat} (h : Ok μ) (hi : i < 4) : aI 155 (nI i) μ = some (mI μ 155 i) := aI_eq h (by decide) rfl hi (by decide)
theorem si_155 {μ : Mem} {i : Nat} {x : Int32} (h : Ok μ) (hi : i < 4) : sI 155 (nI i) x μ = some (wI μ 155 i x) := sI_eq h (by decide) rfl hi (by decide)
theorem ai_156 {μ : Mem} {i : Nat} (h : Ok μ) (hi : i < 4) : aI 156 (nI i) μ = some (mI μ 156 i) := aI_eq h (by decide) rfl hi (by decide)
theorem si_156 {μ : Mem} {i : Nat} {x : Int32} (h : Ok μ) (hi : i < 4) : sI 156 (nI i) x μ = some (wI μ 156 i x) := sI_eq h (by decide) rfl hi (by decide)
theorem ai_157 {μ : Mem} {i : Nat} (h : Ok μ) (hi : i < 32) : aI 157 (nI i) μ = some (mI μ 157 i) := aI_eq h (by decide) rfl hi (by decide)
theorem si_157 {μ : Mem} {i : Nat} {x : Int32} (h : Ok μ) (hi : i < 32) : sI 157 (nI i) x μ = some (wI μ 157 i x) := sI_eq h (by decide) rfl hi (by decide)
theorem ai_158 {μ : Mem} {i : Nat} (h : Ok μ) (hi : i < 32) : aI 158 (nI i) μ = some (mI μ 158 i) := aI_eq h (by decide) rfl hi (by decide)
theorem si_158 {μ : Mem} {i : Nat} {x : Int32} (h : Ok μ) (hi : i < 32) : sI 158 (nI i) x μ = some (wI μ 158 i x) := sI_eq h (by decide) rfl hi (by decide)
theorem ai_159 {μ : Mem} {i : Nat} (h : Ok μ) (hi : i < 32) : aI 159 (nI i) μ = some (mI μ 159 i) := aI_eq h (by decide) rfl hi (by decide)
theorem si_159 {μ : Mem} {i : Nat} {x : Int32} (h : Ok μ) (hi : i < 32) : sI 159 (nI i) x μ = some (wI μ 159 i x) := sI_eq h (by decide) rfl hi (by decide)
theorem ai_160 {μ : Mem} {i : Nat} (h : Ok μ) (hi : i < 32) : aI 160 (nI i) μ = some (mI μ 160 i) := aI_eq h (by decide) rfl hi (by decide)
theorem si_160 {μ : Mem} {i : Nat} {x : Int32} (h : Ok μ) (hi : i < 32) : sI 160 (nI i) x μ = some (wI μ 160 i x) := sI_eq h (by decide) rfl hi (by decide)
theorem ai_161 {μ : Mem} {i : Nat} (h : Ok μ) (hi : i < 9) : aI 161 (nI i) μ = some (mI μ 161 i) := aI_eq h (by decide) rfl hi (by decide)
theorem si_161 {μ : Mem} {i : Nat} {x : Int32} (h : Ok μ) (hi : i < 9) : sI 161 (nI i) x μ = some (wI μ 161 i x) := sI_eq h (by decide) rfl hi (by decide)
theorem ai_162 {μ : Mem} {i : Nat} (h : Ok μ) (hi : i < 9) : aI 162 (nI i) μ = some (mI μ 162 i) := aI_eq h (by decide) rfl hi (by decide)
theorem si_162 {μ : Mem} {i : Nat} {x : Int32} (h : Ok μ) (hi : i < 9) : sI 162 (nI i) x μ = some (wI μ 162 i x) := sI_eq h (by decide) rfl hi (by decide)
theorem ai_163 {μ : Mem} {i : Nat} (h : Ok μ) (hi : i < 9) : aI 163 (nI i) μ = some (mI μ 163 i) := aI_eq h (by decide) rfl hi (by decide)
theorem si_163 {μ : Mem} {i : Nat} {x : Int32} (h : Ok μ) (hi : i < 9) : sI 163 (nI i) x μ = some (wI μ 163 i x) := sI_eq h (by decide) rfl hi (by decide)
theorem ai_164 {μ : Mem} {i : Nat} (h : Ok μ) (hi : i < 9) : aI 164 (nI i) μ = some (mI μ 164 i) := aI_eq h (by decide) rfl hi (by decide)
theorem si_164 {μ : Mem} {i : Nat} {x : Int32} (h : Ok μ) (hi : i < 9) : sI 164 (nI i) x μ = some (wI μ 164 i x) := sI_eq h (by decide) rfl hi (by decide)
theorem ai_165 {μ : Mem} {i : Nat} (h : Ok μ) (hi : i < 160) : aI 165 (nI i) μ = some (mI μ 165 i) := aI_eq h (by decide) rfl hi (by decide)
theorem si_165 {μ : Mem} {i : Nat} {x : Int32} (h : Ok μ) (hi : i < 160) : sI 165 (nI i) x μ = some (wI μ 165 i x) := sI_eq h (by decide) rfl hi (by decide)
theorem ai_166 {μ : Mem} {i : Nat} (h : Ok μ) (hi : i < 6) : aI 166 (nI i) μ = some (mI μ 166 i) := aI_eq h (by decide) rfl hi (by decide)
theorem si_166 {μ : Mem} {i : Nat} {x : Int32} (h : Ok μ) (hi : i < 6) : sI 166 (nI i) x μ = some (wI μ 166 i x) := sI_eq h (by decide) rfl hi (by decide)
theorem ai_167 {μ : Mem} {i : Nat} (h : Ok μ) (hi : i < 28672) : aI 167 (nI i) μ = some (mI μ 167 i) := aI_eq h (by decide) rfl hi (by decide)
theorem si_167 {μ : Mem} {i : Nat} {x : Int32} (h : Ok μ) (hi : i < 28672) : sI 167 (nI i) x μ = some (wI μ 167 i x) := sI_eq h (by decide) rfl hi (by decide)
theorem ai_168 {μ : Mem} {i : Nat} (h : Ok μ) (hi : i < 384) : aI 168 (nI i) μ = some (mI μ 168 i) := aI_eq h (by decide) rfl hi (by decide)
theorem si_168 {μ : Mem} {i : Nat} {x : Int32} (h : Ok μ) (hi : i < 384) : sI 168 (nI i) x μ = some (wI μ 168 i x) := sI_eq h (by decide) rfl hi (by decide)
theorem ai_169 {μ : Mem} {i : Nat} (h : Ok μ) (hi : i < 384) : aI 169 (nI i) μ = some (mI μ 169 i) := aI_eq h (by decide) rfl hi (by decide)
theorem si_169 {μ : Mem} {i : Nat} {x : Int32} (h : Ok μ) (hi : i < 384) : sI 169 (nI i) x μ = some (wI μ 169 i x) := sI_eq h (by decide) rfl hi (by decide)
theorem ai_170 {μ : Mem} {i : Nat} (h : Ok μ) (hi : i < 40) : aI 170 (nI i) μ = some (mI μ 170 i) := aI_eq h (by decide) rfl hi (by decide)
theorem si_170 {μ : Mem} {i : Nat} {x : Int32} (h : Ok μ) (hi : i < 40) : sI 170 (nI i) x μ = some (wI μ 170 i x) := sI_eq h (by decide) rfl hi (by decide)
theorem ai_171 {μ : Mem} {i : Nat} (h : Ok μ) (hi : i < 40) : aI 171 (nI i) μ = some (mI μ 171 i) := aI_eq h (by decide) rfl hi (by decide)
theorem si_171 {μ : Mem} {i : Nat} {x : Int32} (h : Ok μ) (hi : i < 40) : sI 171 (nI i) x μ = some (wI μ 171 i x) := sI_eq h (by decide) rfl hi (by decide)
theorem ai_172 {μ : Mem} {i : Nat} (h : Ok μ) (hi : i < 40) : aI 172 (nI i) μ = some (mI μ 172 i) := aI_eq h (by decide) rfl hi (by decide)
theorem si_172 {μ : Mem} {i : Nat} {x : Int32} (h : Ok μ) (hi : i < 40) : sI 172 (nI i) x μ = some (wI μ 172 i x) := sI_eq h (by decide) rfl hi (by decide)
theorem ai_173 {μ : Mem} {i : Nat} (h : Ok μ) (hi : i < 40) : aI 173 (nI i) μ = some (mI μ 173 i) := aI_eq h (by decide) rfl hi (by decide)
theorem si_173 {μ : Mem} {i : Nat} {x : Int32} (h : Ok μ) (hi : i < 40) : sI 173 (nI i) x μ = some (wI μ 173 i x) := sI_eq h (by decide) rfl hi (by decide)
theorem ai_174 {μ : Mem} {i : Nat} (h : Ok μ) (hi : i < 40) : aI 174 (nI i) μ = some (mI μ 174 i) := aI_eq h (by decide) rfl hi (by decide)
theorem si_174 {μ : Mem} {i : Nat} {x : Int32} (h : Ok μ) (hi : i < 40) : sI 174 (nI i) x μ = some (wI μ 174 i x) := sI_eq h (by decide) rfl hi (by decide)
theorem gi_T {μ : Mem} {k t : Nat} (h : Ok μ) (ht : t < 10) : gI 6 k (40 + t) μ = some (mI μ (40 + t) k) := gI_eq h (by omega) (s_things ht)
theorem pi_T {μ : Mem} {k t : Nat} {x : Int32} (h : Ok μ) (ht : t < 10) : pI 6 k (40 + t) x μ = some (wI μ (40 + t) k x) := pI_eq h (by omega) (s_things ht)
theorem pz_T {μ : Mem} {k t : Nat} {x : Int32} (h : Ok μ) (ht : t < 10) (hx : x = 0 ∨ x = 1) : pZ 6 k (40 + t) x μ = some (wI μ (40 + t) k x) := pZ_eq h (by omega) (s_things ht) hx
theorem vo_T {μ : Mem} {t : Nat} (h : Ok μ) (ht : t < 10) : vO 6 (40 + t) μ = some () := vO_eq h (by omega) (s_things ht)
theorem gi_S {μ : Mem} {k t : Nat} (h : Ok μ) (ht : t < 40) : gI 5 k (50 + t) μ = some (mI μ (50 + t) k) := gI_eq h (by omega) (s_sayings ht)
theorem pi_S {μ : Mem} {k t : Nat} {x : Int32} (h : Ok μ) (ht : t < 40) : pI 5 k (50 + t) x μ = some (wI μ (50 + t) k x) := pI_eq h (by omega) (s_sayings ht)
theorem pz_S {μ : Mem} {k t : Nat} {x : Int32} (h : Ok μ) (ht : t < 40) (hx : x = 0 ∨ x = 1) : pZ 5 k (50 + t) x μ = some (wI μ (50 + t) k x) := pZ_eq h (by omega) (s_sayings ht) hx
theorem vo_S {μ : Mem} {t : Nat} (h : Ok μ) (ht : t < 40) : vO 5 (50 + t) μ = some () := vO_eq h (by omega) (s_sayings ht)
theorem gi_l {μ : Mem} {l k : Nat} (h : Ok μ) (hl : isLw l) : gI 3 k l μ = some (mI μ l k) := gI_eq h (by have := hl.s0.2.1; omega) hl.s0.1
theorem pi_l {μ : Mem} {l k : Nat} {x : Int32} (h : Ok μ) (hl : isLw l) : pI 3 k l x μ = some (wI μ l k x) := pI_eq h (by have := hl.s0.2.1; omega) hl.s0.1
theorem vo_l {μ : Mem} {l : Nat} (h : Ok μ) (hl : isLw l) : vO 3 l μ = some () := vO_eq h (by have := hl.s0.2.1; omega) hl.s0.1
theorem rl_1 {μ : Mem} {l : Nat} (h : Ok μ) (hl : isLw l) : gR 3 1 l μ = some (l + 1) := (r_l h hl).1
theorem al_1 {μ : Mem} {l i : Nat} (h : Ok μ) (hl : isLw l) (hi : i < 8) : aI (l + 1) (nI i) μ = some (mI μ (l + 1) i) := aI_eq h (by have := hl.s0.2.1; omega) hl.s0.2.2.1 hi (by decide)
theorem sl_1 {μ : Mem} {l i : Nat} {x : Int32} (h : Ok μ) (hl : isLw l) (hi : i < 8) : sI (l + 1) (nI i) x μ = some (wI μ (l + 1) i x) := sI_eq h (by have := hl.s0.2.1; omega) hl.s0.2.2.1 hi (by decide)
theorem rl_2 {μ : Mem} {l : Nat} (h : Ok μ) (hl : isLw l) : gR 3 2 l μ = some (l + 2) := (r_l h hl).2.1
theorem al_2 {μ : Mem} {l i : Nat} (h : Ok μ) (hl : isLw l) (hi : i < 8) : aI (l + 2) (nI i) μ = some (mI μ (l + 2) i) := aI_eq h (by have := hl.s0.2.1; omega) hl.s0.2.2.2.1 hi (by decide)
theorem sl_2 {μ : Mem} {l i : Nat} {x : Int32} (h : Ok μ) (hl : isLw l) (hi : i < 8) : sI (l + 2) (nI i) x μ = some (wI μ (l + 2) i x) := sI_eq h (by have := hl.s0.2.1; omega) hl.s0.2.2.2.1 hi (by decide)
theorem rl_3 {μ : Mem} {l : Nat} (h : Ok μ) (hl : isLw l) : gR 3 3 l μ = some (l + 3) := (r_l h hl).2.2.1
theorem al_3 {μ : Mem} {l i : Nat} (h : Ok μ) (hl : isLw l) (hi : i < 8) : aI (l + 3) (nI i) μ = some (mI μ (l + 3) i) := aI_eq h (by have := hl.s0.2.1; omega) hl.s0.2.2.2.2.1 hi (by decide)
theorem sl_3 {μ : Mem} {l i : Nat} {x : Int32} (h : Ok μ) (hl : isLw l) (hi : i < 8) : sI (l + 3) (nI i) x μ = some (wI μ (l + 3) i x) := sI_eq h (by have := hl.s0.2.1; omega) hl.s0.2.2.2.2.1 hi (by decide)
theorem rl_4 {μ : Mem} {l : Nat} (h : Ok μ) (hl : isLw l) : gR 3 4 l μ = some (l + 4) := (r_l h hl).2.2.2
theorem al_4 {μ : Mem} {l i : Nat} (h : Ok μ) (hl : isLw l) (hi : i < 8) : aI (l + 4) (nI i) μ = some (mI μ (l + 4) i) := aI_eq h (by have := hl.s0.2.1; omega) hl.s0.2.2.2.2.2.1 hi (by decide)
theorem sl_4 {μ : Mem} {l i : Nat} {x : Int32} (h : Ok μ) (hl : isLw l) (hi : i < 8) : sI (l + 4) (nI i) x μ = some (wI μ (l + 4) i x) := sI_eq h (by have := hl.s0.2.1; omega) hl.s0.2.2.2.2.2.1 hi (by decide)
theorem al_66a {μ : Mem} (h : Ok μ) : aL 106 μ = some (nI 66) := aL_eq h (by decide) rfl (by decide) (by decide)
theorem al_66b {μ : Mem} (h : Ok μ) : aL 108 μ = some (nI 66) := aL_eq h (by decide) rfl (by decide) (by decide)
/-- a loop over a counter from 0, with an invariant, to its end -/
theorem loopF {α β : Type} {F : Nat → α → Nat → Option β} {P : Nat → α → Prop} {n : Nat} {r : α → β} (hn : n < 100000) (hs : ∀ k a i, i < n → P i a → ∃ a', P (i + 1) a' ∧ F (k + 1) a i = F k a' (i + 1)) (he : ∀ k a, P n a → F (k + 1) a n = some (r a)) (a0 : α) (h0 : P 0 a0) : ∃ a, P n a ∧ F FU a0 0 = some (r a) := by
  obtain ⟨a, p, e⟩ := loopP hs n (99999 - n + 1) a0 0 (by omega) h0
  refine ⟨a, p, ?_⟩
  rw [show FU = 99999 - n + 1 + n by unfold FU; omega, e]
  exact he _ a p
/-- the same, from a counter i0 on -/
theorem loopG {α β : Type} {F : Nat → α → Nat → Option β} {P : Nat → α → Prop} {i0 n : Nat} {r : α → β} (hn : n < 100000) (hi : i0 ≤ n) (hs : ∀ k a i, i0 ≤ i → i < n → P i a → ∃ a', P (i + 1) a' ∧ F (k + 1) a i = F k a' (i + 1)) (he : ∀ k a, P n a → F (k + 1) a n = some (r a)) (a0 : α) (h0 : P i0 a0) : ∃ a, P n a ∧ F FU a0 i0 = some (r a) := by
  obtain ⟨a, ⟨p, -⟩, e⟩ := loopP (F := F) (P := fun i a => P i a ∧ i0 ≤ i) (n := n) (fun k a i h1 h2 => by
    obtain ⟨a', q, e⟩ := hs k a i h2.2 h1 h2.1
    exact ⟨a', ⟨q, by omega⟩, e⟩) (n - i0) (99999 - (n - i0) + 1) a0 i0 (by omega) ⟨h0, Nat.le_refl _⟩
  refine ⟨a, p, ?_⟩
  rw [show FU = 99999 - (n - i0) + 1 + (n - i0) by unfold FU; omega, e]
  exact he _ a p
/-- a loop that may end ahead of its last number -/
theorem loopE {α β : Type} {F : Nat → α → Nat → Option β} {P : Nat → α → Prop} {Q : β → Prop} {n : Nat} (hn : n < 100000) (hs : ∀ k a i, i < n → P i a → (∃ a', P (i + 1) a' ∧ F (k + 1) a i = F k a' (i + 1)) ∨ ∃ b, Q b ∧ F (k + 1) a i = some b) (he : ∀ k a, P n a → ∃ b, Q b ∧ F (k + 1) a n = some b) (a0 : α) (h0 : P 0 a0) : ∃ b, Q b ∧ F FU a0 0 = some b := by
  have key : ∀ d k a i, i + d = n → P i a → ∃ b, Q b ∧ F (k + 1 + d) a i = some b := by
    intro d
    induction d with
    | zero =>
      intro k a i e p
      have e : i = n := e
      subst e
      exact he k a p
    | succ d ih =>
      intro k a i e p
      rcases hs (k + 1 + d) a i (by omega) p with ⟨a', p', e2⟩ | ⟨b, q, e2⟩
      · obtain ⟨b, q, e3⟩ := ih k a' (i + 1) (by omega) p'
        exact ⟨b, q, (show F (k + 1 + d + 1) a i = _ from e2).trans e3⟩
      · exact ⟨b, q, e2⟩
  rw [show FU = 99999 - n + 1 + n by unfold FU; omega]
  exact key n _ a0 0 (by omega) h0
theorem L0 : (0 : Int32) = nI 0 := rfl
theorem L1 : (1 : Int32) = nI 1 := rfl
theorem L2 : (2 : Int32) = nI 2 := rfl
theorem L3 : (3 : Int32) = nI 3 := rfl
theorem L4 : (4 : Int32) = nI 4 := rfl
theorem L5 : (5 : Int32) = nI 5 := rfl
theorem L6 : (6 : Int32) = nI 6 := rfl
theorem L7 : (7 : Int32) = nI 7 := rfl
theorem L8 : (8 : Int32) = nI 8 := rfl
theorem L9 : (9 : Int32) = nI 9 := rfl
theorem L10 : (10 : Int32) = nI 10 := rfl
theorem L15 : (15 : Int32) = nI 15 := rfl
theorem L20 : (20 : Int32) = nI 20 := rfl
theorem L30 : (30 : Int32) = nI 30 := rfl
theorem L32 : (32 : Int32) = nI 32 := rfl
theorem L40 : (40 : Int32) = nI 40 := rfl
theorem L48 : (48 : Int32) = nI 48 := rfl
theorem L57 : (57 : Int32) = nI 57 := rfl
theorem L60 : (60 : Int32) = nI 60 := rfl
theorem L61 : (61 : Int32) = nI 61 := rfl
theorem L64 : (64 : Int32) = nI 64 := rfl
theorem L66 : (66 : Int32) = nI 66 := rfl
theorem L97 : (97 : Int32) = nI 97 := rfl
theorem L99 : (99 : Int32) = nI 99 := rfl
theorem L100 : (100 : Int32) = nI 100 := rfl
theorem L122 : (122 : Int32) = nI 122 := rfl
theorem L160 : (160 : Int32) = nI 160 := rfl
theorem L255 : (255 : Int32) = nI 255 := rfl
theorem L384 : (384 : Int32) = nI 384 := rfl
theorem L999 : (999 : Int32) = nI 999 := rfl
theorem L2000 : (2000 : Int32) = nI 2000 := rfl
theorem L4096 : (4096 : Int32) = nI 4096 := rfl
theorem L10000 : (10000 : Int32) = nI 10000 := rfl
theorem L1000000 : (1000000 : Int32) = nI 1000000 := rfl
theorem nI_0le {n : Nat} (h : n < 2 ^ 31) : (nI n ≤ 0) = (n = 0) := propext ⟨fun z => by
    have := (nI_leI (b := 0) h (by decide)).mp z
    omega, fun z => by subst z; decide⟩
theorem nI_lt0 {n : Nat} (h : n < 2 ^ 31) : (nI n < 0) = False := propext ⟨fun z => nI_pos h z, False.elim⟩
end
section
/-! ===== TOLD of the reference; how a THING stands ===== -/
def tdZ (n : Nat) : Int32 := if n = 0 then 0 else 1
theorem told_m7 {μ : Mem} (h : Ok μ) (S : RelS μ) (t : Nat) : X11_isTold_L7 134 (nI t) μ FU 0 0 0 = some (tdZ (tdA μ t (sc μ)).1, nI (tdA μ t (sc μ)).2, nI (sc μ)) := by
  have hc := S.1.2.2
  obtain ⟨a, P, e⟩ := loopF (F := fun k (a : Nat × Nat) i => X11_isTold_L7 134 (nI t) μ k (tdZ a.1) (nI a.2) (nI i)) (P := fun i a => a = tdA μ t i) (n := sc μ) (r := fun a => (tdZ a.1, nI a.2, nI (sc μ))) (by omega) (fun k a i hi P => by
    subst P
    obtain ⟨h1, h2, h3⟩ := tdA_ok S t i (by omega)
    have b0 : sv μ 0 i ≤ 3 := (S.2.1 0 i (by decide) (by omega)).2.2
    have b4 : sv μ 4 i ≤ 3 := (S.2.1 4 i (by decide) (by omega)).2.2
    have g : ¬ nI (sc μ) ≤ nI i := nI_ge hi (by omega)
    have c3 : nI (sv μ 4 i) = 3 ↔ sv μ 4 i = 3 := nI_eq (b := 3) (by omega) (by decide)
    have c1 : nI (sv μ 4 i) = 1 ↔ sv μ 4 i = 1 := nI_eq (b := 1) (by omega) (by decide)
    have f0 := (S.2.1 0 i (by decide) (by omega)).2.1
    have f1 := (S.2.1 1 i (by decide) (by omega)).2.1
    have f4 := (S.2.1 4 i (by decide) (by omega)).2.1
    have hi4 : i < 40 := by omega
    refine ⟨tdA μ t (i + 1), rfl, ?_⟩
    show X11_isTold_L7 134 (nI t) μ (k + 1) (tdZ (tdA μ t i).1) (nI (tdA μ t i).2) (nI i) = X11_isTold_L7 134 (nI t) μ k (tdZ (tdA μ t (i + 1)).1) (nI (tdA μ t (i + 1)).2) (nI (i + 1))
    rw [tdA_s]
    unfold tdF
    generalize tdA μ t i = a at *
    rw [X11_isTold_L7, gi_134 h, S.1.2.1, Option.bind_some, if_neg g]
    simp only [r_134_47 h, r_134_46 h, r_134_50 h, ai_171 h hi4, ai_170 h hi4, ai_174 h hi4, Option.bind_some, f0, f1, f4, nI_add1, bt_1]
    by_cases q : bt (nI (sv μ 1 i)) t = 0
    · have z : (if tdZ a.1 = 0 then (some 0 : Option Int32) else some 1) = some (tdZ a.1) := by
        unfold tdZ
        split <;> rfl
      simp only [q, Nat.zero_ne_one, if_false, if_true, z, Option.bind_some, Int32.or_zero]
    · have q1 : bt (nI (sv μ 1 i)) t = 1 := by have := bt_le (nI (sv μ 1 i)) t; omega
      simp only [q1, Nat.one_ne_zero, if_false, if_true, show ((1 : Int32) = 0) = False from by decide, c3, c1]
      by_cases e3 : sv μ 4 i = 3
      · have e1 : ¬ sv μ 4 i = 1 := by omega
        have z : (if tdZ a.1 = 0 then (some 0 : Option Int32) else some 1) = some (tdZ a.1) := by
          unfold tdZ
          split <;> rfl
        simp only [e3, if_true, z, Option.bind_some, show ((3 : Nat) = 1) = False from by decide, if_false, Int32.or_zero]
      · have z : (if tdZ a.1 = 0 then (some 1 : Option Int32) else some 1) = some 1 := by
          split <;> rfl
        have z2 : tdZ (a.1 + 1) = 1 := if_neg (by omega)
        by_cases e1 : sv μ 4 i = 1
        · simp only [e3, e1, if_true, if_false, z, z2, Option.bind_some, (or16 _ h1 _ (show sv μ 0 i < 4 by omega)).1, show ((1 : Nat) = 3) = False from by decide]
        · simp only [e3, e1, if_true, if_false, z, z2, Option.bind_some, Int32.or_zero]) (fun k a P => by
    show X11_isTold_L7 134 (nI t) μ (k + 1) (tdZ a.1) (nI a.2) (nI (sc μ)) = _
    rw [X11_isTold_L7, gi_134 h, S.1.2.1, Option.bind_some, if_pos (nI_le (Nat.le_refl _) (by omega))]) (0, 0) rfl
  subst P
  exact e
def tdV (μ : Mem) (t : Nat) : Nat := if tv μ 1 t = 3 then (if nI (tdA μ t (sc μ)).2 &&& (nI (tdA μ t (sc μ)).2 - 1) = 0 then 0 else 1) else (if (tdA μ t (sc μ)).1 = 0 then 0 else 1)
theorem bc16 : ∀ m, m < 16 → (J6_bitCount_0f7a4 (nI m) < 2 ↔ nI m &&& (nI m - 1) = 0) := by decide +kernel
theorem tdV_le (μ : Mem) (t : Nat) : tdV μ t ≤ 1 := by
  unfold tdV
  split <;> split <;> omega
theorem told_c {μ : Mem} (h : Ok μ) (T : RelT μ) (S : RelS μ) {t : Nat} (ht : t < 10) : X0_isTold 37 (nI t) μ = some (nI (tdV μ t)) := by
  have hc := S.1.2.2
  obtain ⟨h1, h2, h3⟩ := tdA_ok S t (sc μ) hc
  have b1 : tv μ 1 t ≤ 3 := (T.2.1 1 t (by decide) ht).2.2
  have c1 : nI (tv μ 1 t) = 3 ↔ tv μ 1 t = 3 := nI_eq (b := 3) (by omega) (by decide)
  have f1 := (T.2.1 1 t (by decide) ht).1
  unfold X0_isTold tdV
  rw [told_c7 h S, Option.bind_some]
  simp only [r_37_0 h, ar_things h ht, gi_T h ht, f1, Option.bind_some, c1, nI_0le (show (tdA μ t (sc μ)).1 < 2 ^ 31 by omega), bc16 _ h1]
  by_cases q : (tdA μ t (sc μ)).1 = 0
  · have q2 : (tdA μ t (sc μ)).2 = 0 := by
      by_cases z : (tdA μ t (sc μ)).2 = 0
      · exact z
      · exact absurd q (h2 z)
    rw [if_pos q, if_pos q, q2]
    by_cases q3 : tv μ 1 t = 3
    · rw [if_pos q3]
      rfl
    · rw [if_neg q3]
      rfl
  · rw [if_neg q, if_neg q]
    by_cases q3 : tv μ 1 t = 3
    · rw [if_pos q3, if_pos q3]
      by_cases q4 : nI (tdA μ t (sc μ)).2 &&& (nI (tdA μ t (sc μ)).2 - 1) = 0
      · rw [if_pos q4, if_pos q4]
        rfl
      · rw [if_neg q4, if_neg q4]
        rfl
    · rw [if_neg q3, if_neg q3]
      rfl
theorem told_m {μ : Mem} (h : Ok μ) (T : RelT μ) (S : RelS μ) {t : Nat} (ht : t < 10) : X11_isTold 134 (nI t) μ = some (nI (tdV μ t)) := by
  have b1 : tv μ 1 t ≤ 3 := (T.2.1 1 t (by decide) ht).2.2
  have c1 : nI (tv μ 1 t) = 3 ↔ tv μ 1 t = 3 := nI_eq (b := 3) (by omega) (by decide)
  have f1 := (T.2.1 1 t (by decide) ht).2.1
  unfold X11_isTold tdV
  rw [told_m7 h S, Option.bind_some]
  simp only [r_134_14 h, ai_146 h ht, f1, Option.bind_some, c1]
  by_cases q3 : tv μ 1 t = 3
  · rw [if_pos q3, if_pos q3]
    by_cases q4 : nI (tdA μ t (sc μ)).2 &&& (nI (tdA μ t (sc μ)).2 - 1) = 0
    · rw [if_pos q4, if_pos q4]
      rfl
    · rw [if_neg q4, if_neg q4]
      rfl
  · rw [if_neg q3, if_neg q3]
    unfold tdZ
    split <;> rfl
/-- 0 WAITING, 1 TOLD, 2 DEAD, 3 LATE -/
def stV (μ : Mem) (t : Nat) : Nat := if tv μ 8 t = 0 then (if tdV μ t = 0 then (if nw μ ≤ tv μ 6 t then 0 else 3) else 1) else 2
theorem stand_c {μ : Mem} (h : Ok μ) (W : RelW μ) (T : RelT μ) (S : RelS μ) {t : Nat} (ht : t < 10) : X0_standing 37 (nI t) (nI (nw μ)) μ = some (nI (stV μ t)) := by
  have hn := W.2.2.2.2.2.2.2
  have b8 : tv μ 8 t ≤ 1 := (T.2.1 8 t (by decide) ht).2.2
  have b6 : tv μ 6 t ≤ 60 := (T.2.1 6 t (by decide) ht).2.2
  have c8 : nI (tv μ 8 t) = 0 ↔ tv μ 8 t = 0 := nI_eq (b := 0) (by omega) (by decide)
  have cd : nI (tdV μ t) = 0 ↔ tdV μ t = 0 := nI_eq (b := 0) (by have := tdV_le μ t; omega) (by decide)
  have c6 : nI (nw μ) ≤ nI (tv μ 6 t) ↔ nw μ ≤ tv μ 6 t := nI_leI (by omega) (by omega)
  have f8 := (T.2.1 8 t (by decide) ht).1
  have f6 := (T.2.1 6 t (by decide) ht).1
  unfold X0_standing stV
  simp only [r_37_0 h, ar_things h ht, gi_T h ht, f8, f6, Option.bind_some, vo_37 h, told_c h T S ht, c8, cd, c6]
  by_cases q8 : tv μ 8 t = 0
  · by_cases qd : tdV μ t = 0
    · by_cases q6 : nw μ ≤ tv μ 6 t
      · simp only [q8, qd, q6, if_true]
        rfl
      · simp only [q8, qd, q6, if_true, if_false]
        rfl
    · simp only [q8, qd, if_true, if_false]
      rfl
  · simp only [q8, if_false]
    rfl
theorem stand_m {μ : Mem} (h : Ok μ) (W : RelW μ) (T : RelT μ) (S : RelS μ) {t : Nat} (ht : t < 10) : X11_stateOf 134 (nI t) μ = some (nI (stV μ t)) := by
  have hn := W.2.2.2.2.2.2.2
  have hw := W.2.2.2.2.2.2.1
  have b8 : tv μ 8 t ≤ 1 := (T.2.1 8 t (by decide) ht).2.2
  have b6 : tv μ 6 t ≤ 60 := (T.2.1 6 t (by decide) ht).2.2
  have c8 : nI (tv μ 8 t) = 0 ↔ tv μ 8 t = 0 := nI_eq (b := 0) (by omega) (by decide)
  have cd : nI (tdV μ t) = 0 ↔ tdV μ t = 0 := nI_eq (b := 0) (by have := tdV_le μ t; omega) (by decide)
  have c6 : nI (nw μ) ≤ nI (tv μ 6 t) ↔ nw μ ≤ tv μ 6 t := nI_leI (by omega) (by omega)
  have f8 := (T.2.1 8 t (by decide) ht).2.1
  have f6 := (T.2.1 6 t (by decide) ht).2.1
  unfold X11_stateOf stV
  simp only [r_134_21 h, r_134_19 h, az_153 h ht, ai_151 h ht, gi_134 h, hw, f8, f6, Option.bind_some, vo_134 h, told_m h T S ht, c8, cd, c6]
  by_cases q8 : tv μ 8 t = 0
  · by_cases qd : tdV μ t = 0
    · by_cases q6 : nw μ ≤ tv μ 6 t
      · simp only [q8, qd, q6, if_true]
        rfl
      · simp only [q8, qd, q6, if_true, if_false]
        rfl
    · simp only [q8, qd, if_true, if_false]
      rfl
  · simp only [q8, if_false]
    rfl
theorem stV_le (μ : Mem) (t : Nat) : stV μ t ≤ 3 := by
  unfold stV
  split
  · split
    · split <;> omega
    · omega
  · omega
theorem tdA_sm {μ μ' : Mem} (s : Sm μ μ') (t n : Nat) : tdA μ' t n = tdA μ t n := by
  unfold tdA
  refine itr_congr _ _ _ (fun j x _ _ => ?_)
  unfold tdF
  rw [sv_sm s (by decide), sv_sm s (by decide), sv_sm s (by decide)]
theorem stV_sm {μ μ' : Mem} (s : Sm μ μ') : stV μ' = stV μ := by
  funext t
  unfold stV tdV
  rw [tv_sm s (by decide), tv_sm s (by decide), tv_sm s (by decide), nw_sm s, sc_sm s, tdA_sm s]
def cnT (μ : Mem) (x : Nat) (n : Nat) : Nat := itr (fun t a => if stV μ t = x then a + 1 else a) 0 n 0
theorem cnT_s (μ : Mem) (x n : Nat) : cnT μ x (n + 1) = if stV μ n = x then cnT μ x n + 1 else cnT μ x n := by
  unfold cnT
  rw [itr_succ, Nat.zero_add]
theorem are_c {μ : Mem} (h : Ok μ) (W : RelW μ) (T : RelT μ) (S : RelS μ) {x : Nat} (hx : x ≤ 3) : X0_thingsThatAre 37 (nI x) (nI (nw μ)) μ = some (nI (cnT μ x (tn μ))) := by
  have hn := T.1.2.2
  obtain ⟨a, P, e⟩ := loopF (F := fun k (a : Nat) i => X0_thingsThatAre_L5 37 (nI x) (nI (nw μ)) μ k (nI a) (nI i)) (P := fun i a => a = cnT μ x i) (n := tn μ) (r := fun a => (nI a, nI (tn μ))) (by omega) (fun k a i hi P => by
    subst P
    have c : nI (stV μ i) = nI x ↔ stV μ i = x := nI_eq (by have := stV_le μ i; omega) (by omega)
    refine ⟨_, rfl, ?_⟩
    show X0_thingsThatAre_L5 37 (nI x) (nI (nw μ)) μ (k + 1) (nI (cnT μ x i)) (nI i) = X0_thingsThatAre_L5 37 (nI x) (nI (nw μ)) μ k (nI (cnT μ x (i + 1))) (nI (i + 1))
    rw [X0_thingsThatAre_L5, gi_37 h, T.1.1, Option.bind_some, if_neg (nI_ge hi (by omega)), vo_37 h, Option.bind_some, stand_c h W T S (by omega), Option.bind_some, Option.bind_some, cnT_s, nI_add1, nI_add1]
    by_cases q : stV μ i = x
    · rw [if_pos (c.mpr q), if_pos q]
    · rw [if_neg (fun z => q (c.mp z)), if_neg q]) (fun k a P => by
    show X0_thingsThatAre_L5 37 (nI x) (nI (nw μ)) μ (k + 1) (nI a) (nI (tn μ)) = _
    rw [X0_thingsThatAre_L5, gi_37 h, T.1.1, Option.bind_some, if_pos (nI_le (Nat.le_refl _) (by omega))]) 0 rfl
  subst P
  have e : X0_thingsThatAre_L5 37 (nI x) (nI (nw μ)) μ FU 0 0 = _ := e
  unfold X0_thingsThatAre
  rw [e, Option.bind_some]
theorem are_m {μ : Mem} (h : Ok μ) (W : RelW μ) (T : RelT μ) (S : RelS μ) {x : Nat} (hx : x ≤ 3) : X11_thingsThat 134 (nI x) μ = some (nI (cnT μ x (tn μ))) := by
  have hn := T.1.2.2
  obtain ⟨a, P, e⟩ := loopF (F := fun k (a : Nat) i => X11_thingsThat_L4 134 (nI x) μ k (nI a) (nI i)) (P := fun i a => a = cnT μ x i) (n := tn μ) (r := fun a => (nI a, nI (tn μ))) (by omega) (fun k a i hi P => by
    subst P
    have c : nI (stV μ i) = nI x ↔ stV μ i = x := nI_eq (by have := stV_le μ i; omega) (by omega)
    refine ⟨_, rfl, ?_⟩
    show X11_thingsThat_L4 134 (nI x) μ (k + 1) (nI (cnT μ x i)) (nI i) = X11_thingsThat_L4 134 (nI x) μ k (nI (cnT μ x (i + 1))) (nI (i + 1))
    rw [X11_thingsThat_L4, gi_134 h, T.1.2.1, Option.bind_some, if_neg (nI_ge hi (by omega)), vo_134 h, Option.bind_some, stand_m h W T S (by omega), Option.bind_some, Option.bind_some, Option.bind_some, cnT_s, nI_add1]
    by_cases q : stV μ i = x
    · rw [if_pos (c.mpr q), if_pos q, nI_add1]
    · rw [if_neg (fun z => q (c.mp z)), if_neg q, Int32.add_zero]) (fun k a P => by
    show X11_thingsThat_L4 134 (nI x) μ (k + 1) (nI a) (nI (tn μ)) = _
    rw [X11_thingsThat_L4, gi_134 h, T.1.2.1, Option.bind_some, if_pos (nI_le (Nat.le_refl _) (by omega))]) 0 rfl
  subst P
  have e : X11_thingsThat_L4 134 (nI x) μ FU 0 0 = _ := e
  unfold X11_thingsThat
  rw [e, Option.bind_some]
/-! ===== calls that change nothing and answer a number alone ===== -/
def PairV (fC fM : Mem → Option Int32) : Prop := ∀ μ, Inv μ → ∃ r, fC μ = some r ∧ fM μ = some r
theorem p_count (x1 : Int32) : PairV (X10_count 0 x1) (X11_count 134 x1) := by
  intro μ ⟨o, W, hC, hT, hS, hX, hL⟩
  have w6 := W.2.2.2.2.2
  unfold X10_count X11_count
  simp only [r_0_2 o, r_0_3 o, gi_0 o, gi_37 o, gi_90 o, gi_134 o, vo_37 o, vo_134 o, w6.1, w6.2.1, hT.1.1, hT.1.2.1, hS.1.1, hS.1.2.1, hX.1.1, hX.1.2.1, Option.bind_some, L0, L1, L2, L3, are_c o W hT hS (show 0 ≤ 3 by decide), are_c o W hT hS (show 1 ≤ 3 by decide), are_c o W hT hS (show 2 ≤ 3 by decide), are_c o W hT hS (show 3 ≤ 3 by decide), are_m o W hT hS (show 0 ≤ 3 by decide), are_m o W hT hS (show 1 ≤ 3 by decide), are_m o W hT hS (show 2 ≤ 3 by decide), are_m o W hT hS (show 3 ≤ 3 by decide)]
  repeat' split
  all_goals exact ⟨_, rfl, rfl⟩
theorem p_fault : PairV (X10_fault 0) (X11_fault 134) := by
  intro μ ⟨o, W, hC, hT, hS, hX, hL⟩
  unfold X10_fault X11_fault
  simp only [r_0_3 o, gi_90 o, gi_134 o, Option.bind_some, hX.2.2]
  exact ⟨_, rfl, rfl⟩
theorem p_told (x1 x2 : Int32) : PairV (X10_told 0 x1 x2) (X11_told 134 x1 x2) := by
  intro μ ⟨o, W, hC, hT, hS, hX, hL⟩
  have w6 := W.2.2.2.2.2
  have hn := hT.1.2.2
  unfold X10_told X11_told
  simp only [r_0_2 o, vo_37 o, vo_134 o, Option.bind_some]
  rcases gT o hT x1 with ⟨g1, k1⟩ | ⟨g1, k1, t, ht, rfl⟩
  · rw [g1, k1]
    exact ⟨_, rfl, rfl⟩
  · have t10 : t < 10 := by omega
    have f := fun c hc => (hT.2.1 c t hc t10).1
    have m0 := (hT.2.1 0 t (by decide) t10).2.1
    have m1 := (hT.2.1 1 t (by decide) t10).2.1
    have m2 := (hT.2.1 2 t (by decide) t10).2.1
    have m3 := (hT.2.1 3 t (by decide) t10).2.1
    have m6 := (hT.2.1 6 t (by decide) t10).2.1
    have m7 := (hT.2.1 7 t (by decide) t10).2.1
    rw [g1, k1]
    simp only [r_37_0 o, ar_things o t10, gi_0 o, gi_T o t10, r_134_13 o, r_134_14 o, r_134_15 o, r_134_16 o, r_134_19 o, r_134_20 o, ai_145 o t10, ai_146 o t10, ai_147 o t10, ai_148 o t10, ai_151 o t10, ai_152 o t10, w6.1, Option.bind_some, f 0 (by decide), f 1 (by decide), f 2 (by decide), f 3 (by decide), f 6 (by decide), f 7 (by decide), m0, m1, m2, m3, m6, m7, stand_c o W hT hS t10, stand_m o W hT hS t10, with_c o hS, with_m o hS]
    repeat' split
    all_goals exact ⟨_, rfl, rfl⟩
end
section
/-! ===== bits of sets ===== -/
theorem fa_and (a b : Nat) : nI a &&& nI b = nI (a &&& b) := by
  apply Int32.toBitVec_inj.1
  show BitVec.ofNat 32 a &&& BitVec.ofNat 32 b = BitVec.ofNat 32 (a &&& b)
  apply BitVec.eq_of_getLsbD_eq
  intro i hi
  simp [hi]
theorem fa_or (a b : Nat) : nI a ||| nI b = nI (a ||| b) := by
  apply Int32.toBitVec_inj.1
  show BitVec.ofNat 32 a ||| BitVec.ofNat 32 b = BitVec.ofNat 32 (a ||| b)
  apply BitVec.eq_of_getLsbD_eq
  intro i hi
  simp [hi]
/-- a without b -/
def nd (a b : Nat) : Nat := a &&& (b ^^^ (2 ^ 31 - 1))
theorem nd_eq {a b : Nat} (ha : a < 2 ^ 31) : nI a &&& (nI b ^^^ (-1)) = nI (nd a b) := by
  apply Int32.toBitVec_inj.1
  show BitVec.ofNat 32 a &&& (BitVec.ofNat 32 b ^^^ (-1 : Int32).toBitVec) = BitVec.ofNat 32 (nd a b)
  rw [show (-1 : Int32).toBitVec = BitVec.allOnes 32 from rfl]
  apply BitVec.eq_of_getLsbD_eq
  intro i hi
  have h31 : i = 31 → a.testBit i = false := fun e => by
    subst e
    exact Nat.testBit_lt_two_pow ha
  unfold nd
  simp only [BitVec.getLsbD_and, BitVec.getLsbD_xor, BitVec.getLsbD_ofNat, BitVec.getLsbD_allOnes, Nat.testBit_and, Nat.testBit_xor, Nat.testBit_two_pow_sub_one, hi, decide_true, Bool.true_and]
  by_cases q : i < 31
  · simp only [q, decide_true]
  · rw [h31 (by omega)]
    simp
theorem nd_bit {a b i : Nat} (hi : i < 31) : (nd a b).testBit i = (a.testBit i && !b.testBit i) := by
  unfold nd
  simp only [Nat.testBit_and, Nat.testBit_xor, Nat.testBit_two_pow_sub_one, hi, decide_true]
  cases a.testBit i <;> cases b.testBit i <;> rfl
theorem nd_le (a b : Nat) : nd a b ≤ a := Nat.and_le_left
theorem sh31 : ∀ t, t < 31 → (1 : Int32) <<< (nI t &&& 31) = nI (2 ^ t) := by decide +kernel
theorem sm31 : ∀ t, t < 31 → ((nI t &&& 31).toBitVec.smod 32).toNat = t := by decide +kernel
theorem bt_n {m t : Nat} (hm : m < 2 ^ 31) (ht : t < 31) : bt (nI m) t = m / 2 ^ t % 2 := by
  unfold bt
  have hd : m / 2 ^ t < 2 ^ 31 := Nat.lt_of_le_of_lt (Nat.div_le_self _ _) hm
  rw [pk_shrN hm _ t (sm31 t ht), show (1 : Int32) = nI 1 from rfl, fa_and, Nat.and_one_is_mod]
  have hl := Nat.mod_lt (m / 2 ^ t) (show 0 < 2 by decide)
  have c : nI (m / 2 ^ t % 2) = 0 ↔ m / 2 ^ t % 2 = 0 := nI_eq (b := 0) (by omega) (by decide)
  by_cases q : m / 2 ^ t % 2 = 0
  · rw [if_pos (c.mpr q), q]
  · rw [if_neg (fun z => q (c.mp z))]
    omega
theorem bt_t {m t : Nat} (hm : m < 2 ^ 31) (ht : t < 31) : (bt (nI m) t = 0) = (m.testBit t = false) := by
  rw [bt_n hm ht, Nat.testBit_eq_decide_div_mod_eq, decide_eq_false_iff_not]
  have hl := Nat.mod_lt (m / 2 ^ t) (show 0 < 2 by decide)
  exact propext ⟨fun z => by omega, fun z => by omega⟩
theorem bt_t1 {m t : Nat} (hm : m < 2 ^ 31) (ht : t < 31) : (bt (nI m) t = 1) = (m.testBit t = true) := by
  rw [bt_n hm ht, Nat.testBit_eq_decide_div_mod_eq, decide_eq_true_eq]
theorem has_t {m t : Nat} (hm : m < 2 ^ 31) (ht : t < 31) : (X10_contains (nI m) (nI t) = 0) = (m.testBit t = false) := by
  rw [has_z, bt_t hm ht]
theorem or_put {m t : Nat} (ht : t < 31) : nI m ||| ((1 : Int32) <<< (nI t &&& 31)) = nI (m ||| 2 ^ t) := by rw [sh31 t ht, fa_or]
theorem or_put_lt {m t n : Nat} (hm : m < 2 ^ n) (ht : t < n) : m ||| 2 ^ t < 2 ^ n := Nat.or_lt_two_pow hm (Nat.pow_lt_pow_right (by decide) ht)
theorem or_put_bit {m t i : Nat} : (m ||| 2 ^ t).testBit i = (m.testBit i || decide (t = i)) := by rw [Nat.testBit_or, Nat.testBit_two_pow]
theorem win2 {x : Int32} {a b : Nat} (ha : a < 2 ^ 31) (hb : b < 2 ^ 31) (h : ¬ X10_within x (nI a) (nI b) = 0) : ∃ i, a ≤ i ∧ i ≤ b ∧ x = nI i := by
  unfold X10_within at h
  by_cases q : x < nI a
  · rw [if_pos q] at h
    exact absurd rfl h
  · rw [if_neg q] at h
    by_cases q2 : nI b < x
    · rw [if_pos q2] at h
      exact absurd rfl h
    · have q0 : ¬ x < 0 := fun z => q (by
        rw [Int32.lt_iff_toInt_lt, nI_toInt ha]
        rw [Int32.lt_iff_toInt_lt] at z
        have : (0 : Int32).toInt = 0 := rfl
        omega)
      obtain ⟨j, hj, rfl⟩ := nI_of q0
      rw [n_lt hj ha] at q
      rw [n_lt hb hj] at q2
      exact ⟨j, by omega, by omega, rfl⟩
/-! ===== the THINGS and SAYINGS behind a change ===== -/
theorem RelT.mk' {μ' : Mem} {n : Nat} (g : Nat → Nat → Nat) (e1 : mI μ' 37 2 = nI n) (e2 : mI μ' 134 12 = nI n) (hn : n ≤ 10) (ec : ∀ c t, c < 9 → t < 10 → mI μ' (40 + t) c = nI (g c t) ∧ mI μ' (145 + c) t = nI (g c t) ∧ g c t ≤ tbd c) (h7 : ∀ t, t < 10 → g 7 t ≤ nw μ') (h8 : ∀ t, n ≤ t → t < 10 → g 8 t = 0) : RelT μ' := by
  have et : tn μ' = n := by
    unfold tn
    rw [e2, vN_nI (by omega)]
  have bd : ∀ c, c < 9 → tbd c ≤ 999 := by decide
  have ev : ∀ c t, c < 9 → t < 10 → tv μ' c t = g c t := fun c t hc ht => by
    obtain ⟨-, q, r⟩ := ec c t hc ht
    have := bd c hc
    unfold tv
    rw [q, vN_nI (by omega)]
  refine ⟨?_, fun c t hc ht => ?_, fun t ht => ?_, fun t q ht => ?_⟩
  · rw [et]
    exact ⟨e1, e2, hn⟩
  · rw [ev c t hc ht]
    exact ec c t hc ht
  · rw [ev 7 t (by decide) ht]
    exact h7 t ht
  · rw [et] at q
    rw [ev 8 t (by decide) ht]
    exact h8 t q ht
theorem RelS.mk' {μ' : Mem} {n : Nat} (g : Nat → Nat → Nat) (e1 : mI μ' 37 3 = nI n) (e2 : mI μ' 134 45 = nI n) (hn : n ≤ 40) (ec : ∀ c t, c < 5 → t < 40 → mI μ' (50 + t) c = nI (g c t) ∧ mI μ' (170 + c) t = nI (g c t) ∧ g c t ≤ sbd c) (h7 : ∀ t, t < 40 → g 3 t ≤ nw μ') (h8 : ∀ t, n ≤ t → t < 40 → g 4 t = 0) : RelS μ' := by
  have et : sc μ' = n := by
    unfold sc
    rw [e2, vN_nI (by omega)]
  have bd : ∀ c, c < 5 → sbd c ≤ 1023 := by decide
  have ev : ∀ c t, c < 5 → t < 40 → sv μ' c t = g c t := fun c t hc ht => by
    obtain ⟨-, q, r⟩ := ec c t hc ht
    have := bd c hc
    unfold sv
    rw [q, vN_nI (by omega)]
  refine ⟨?_, fun c t hc ht => ?_, fun t ht => ?_, fun t q ht => ?_⟩
  · rw [et]
    exact ⟨e1, e2, hn⟩
  · rw [ev c t hc ht]
    exact ec c t hc ht
  · rw [ev 3 t (by decide) ht]
    exact h7 t ht
  · rw [et] at q
    rw [ev 4 t (by decide) ht]
    exact h8 t q ht
/-- the other parts of the invariant, where only rows of THINGS are written -/
theorem Inv.setT {μ μ' : Mem} (h : Inv μ) (o : Ok μ') (eR : mR μ' 92 = mR μ 92) (e : ∀ a k, ¬ (40 ≤ a ∧ a < 50) → ¬ (145 ≤ a ∧ a < 154) → ¬ (a = 37 ∧ k = 2) → ¬ (a = 134 ∧ k = 12) → mI μ' a k = mI μ a k) (T : RelT μ') : Inv μ' := by
  obtain ⟨o0, ⟨w1, w2, w3, w4, w5, w6⟩, hC, hT, hS, hX, hL⟩ := h
  have er : ∀ a, ¬ (40 ≤ a ∧ a < 50) → ¬ (145 ≤ a ∧ a < 154) → a ≠ 37 → a ≠ 134 → mI μ' a = mI μ a := fun a q1 q2 q3 q4 => funext fun k => e a k q1 q2 (fun z => q3 z.1) (fun z => q4 z.1)
  exact ⟨o, ⟨w1.cg (fun q hq => er _ (by omega) (by omega) (by omega) (by omega)) (er _ (by omega) (by omega) (by omega) (by omega)), w2.cg (fun q hq => er _ (by omega) (by omega) (by omega) (by omega)) (er _ (by omega) (by omega) (by omega) (by omega)), w3.cg (er _ (by omega) (by omega) (by omega) (by omega)) (er _ (by omega) (by omega) (by omega) (by omega)), w4.cg (e _ _ (by omega) (by omega) (by omega) (by omega)) (e _ _ (by omega) (by omega) (by omega) (by omega)), w5.cg (fun q hq => er _ (by omega) (by omega) (by omega) (by omega)) (er _ (by omega) (by omega) (by omega) (by omega)), w6.cg (e _ _ (by omega) (by omega) (by omega) (by omega)) (e _ _ (by omega) (by omega) (by omega) (by omega))⟩, hC.cg (fun q hq => er _ (by omega) (by omega) (by omega) (by omega)) (er _ (by omega) (by omega) (by omega) (by omega)) (er _ (by omega) (by omega) (by omega) (by omega)) (er _ (by omega) (by omega) (by omega) (by omega)), T, hS.cg (e _ _ (by omega) (by omega) (by omega) (by omega)) (e _ _ (by omega) (by omega) (by omega) (by omega)) (fun q hq => er _ (by omega) (by omega) (by omega) (by omega)) (fun q hq => er _ (by omega) (by omega) (by omega) (by omega)) (nw_le (e _ _ (by omega) (by omega) (by omega) (by omega))), hX.cg (e _ _ (by omega) (by omega) (by omega) (by omega)) (e _ _ (by omega) (by omega) (by omega) (by omega)) (er _ (by omega) (by omega) (by omega) (by omega)) (er _ (by omega) (by omega) (by omega) (by omega)) (e _ _ (by omega) (by omega) (by omega) (by omega)) (e _ _ (by omega) (by omega) (by omega) (by omega)), hL.cg o0 eR (fun l c hl hc => er _ (by unfold isLw at hl; omega) (by unfold isLw at hl; omega) (by unfold isLw at hl; omega) (by unfold isLw at hl; omega)) (fun c hc => er _ (by omega) (by omega) (by omega) (by omega))⟩
theorem Inv.setS {μ μ' : Mem} (h : Inv μ) (o : Ok μ') (eR : mR μ' 92 = mR μ 92) (e : ∀ a k, ¬ (50 ≤ a ∧ a < 90) → ¬ (170 ≤ a ∧ a < 175) → ¬ (a = 37 ∧ k = 3) → ¬ (a = 134 ∧ k = 45) → mI μ' a k = mI μ a k) (S : RelS μ') : Inv μ' := by
  obtain ⟨o0, ⟨w1, w2, w3, w4, w5, w6⟩, hC, hT, hS, hX, hL⟩ := h
  have er : ∀ a, ¬ (50 ≤ a ∧ a < 90) → ¬ (170 ≤ a ∧ a < 175) → a ≠ 37 → a ≠ 134 → mI μ' a = mI μ a := fun a q1 q2 q3 q4 => funext fun k => e a k q1 q2 (fun z => q3 z.1) (fun z => q4 z.1)
  exact ⟨o, ⟨w1.cg (fun q hq => er _ (by omega) (by omega) (by omega) (by omega)) (er _ (by omega) (by omega) (by omega) (by omega)), w2.cg (fun q hq => er _ (by omega) (by omega) (by omega) (by omega)) (er _ (by omega) (by omega) (by omega) (by omega)), w3.cg (er _ (by omega) (by omega) (by omega) (by omega)) (er _ (by omega) (by omega) (by omega) (by omega)), w4.cg (e _ _ (by omega) (by omega) (by omega) (by omega)) (e _ _ (by omega) (by omega) (by omega) (by omega)), w5.cg (fun q hq => er _ (by omega) (by omega) (by omega) (by omega)) (er _ (by omega) (by omega) (by omega) (by omega)), w6.cg (e _ _ (by omega) (by omega) (by omega) (by omega)) (e _ _ (by omega) (by omega) (by omega) (by omega))⟩, hC.cg (fun q hq => er _ (by omega) (by omega) (by omega) (by omega)) (er _ (by omega) (by omega) (by omega) (by omega)) (er _ (by omega) (by omega) (by omega) (by omega)) (er _ (by omega) (by omega) (by omega) (by omega)), hT.cg (e _ _ (by omega) (by omega) (by omega) (by omega)) (e _ _ (by omega) (by omega) (by omega) (by omega)) (fun q hq => er _ (by omega) (by omega) (by omega) (by omega)) (fun q hq => er _ (by omega) (by omega) (by omega) (by omega)) (nw_le (e _ _ (by omega) (by omega) (by omega) (by omega))), S, hX.cg (e _ _ (by omega) (by omega) (by omega) (by omega)) (e _ _ (by omega) (by omega) (by omega) (by omega)) (er _ (by omega) (by omega) (by omega) (by omega)) (er _ (by omega) (by omega) (by omega) (by omega)) (e _ _ (by omega) (by omega) (by omega) (by omega)) (e _ _ (by omega) (by omega) (by omega) (by omega)), hL.cg o0 eR (fun l c hl hc => er _ (by unfold isLw at hl; omega) (by unfold isLw at hl; omega) (by unfold isLw at hl; omega) (by unfold isLw at hl; omega)) (fun c hc => er _ (by omega) (by omega) (by omega) (by omega))⟩
theorem p_dead (x1 : Int32) : Pair (X10_dead 0 x1) (X11_dead 134 x1) := by
  intro μ h
  have h0 := h
  obtain ⟨o, W, hC, hT, hS, hX, hL⟩ := h
  have hn := hT.1.2.2
  rcases gT o hT x1 with ⟨g1, k1⟩ | ⟨g1, k1, t, ht, rfl⟩
  · exact pairR h0 (r := -1001) (by unfold X10_dead; simp only [r_0_2 o, vo_37 o, Option.bind_some, g1, if_true]) (by unfold X11_dead; simp only [vo_134 o, Option.bind_some, k1, if_true])
  have t10 : t < 10 := by omega
  have f8 := (hT.2.1 8 t (by decide) t10).1
  have m8 := (hT.2.1 8 t (by decide) t10).2.1
  have b8 : tv μ 8 t ≤ 1 := (hT.2.1 8 t (by decide) t10).2.2
  have c8 : (nI (tv μ 8 t) = 0) = (tv μ 8 t = 0) := propext (nI_eq (b := 0) (by omega) (by decide))
  by_cases q : tv μ 8 t = 0
  · have o1 : Ok (wI μ (40 + t) 8 1) := o
    have o2 : Ok (wI (wI μ (40 + t) 8 1) 153 t 1) := o
    have S1 : RelS (wI μ (40 + t) 8 1) := hS.cg (by rw [fld_ne (by omega)]) (by rw [fld_ne (by omega)]) (fun q hq => row_ne (by omega)) (fun q hq => row_ne (by omega)) (by unfold nw; rw [row_ne (by omega)]; exact Nat.le_refl _)
    have S2 : RelS (wI (wI μ (40 + t) 8 1) 153 t 1) := S1.cg (by rw [fld_ne (by omega)]) (by rw [fld_ne (by omega)]) (fun q hq => row_ne (by omega)) (fun q hq => row_ne (by omega)) (nw_le (by rw [row_ne (by omega)]))
    have ec : cnS (wI (wI μ (40 + t) 8 1) 153 t 1) t = cnS (wI μ (40 + t) 8 1) t := by
      unfold cnS sc
      rw [row_ne (by omega)]
      exact itr_congr _ _ _ (fun j x _ _ => by unfold sv; rw [row_ne (by omega)])
    refine ⟨nI (cnS (wI μ (40 + t) 8 1) t), wI μ (40 + t) 8 1, wI (wI μ (40 + t) 8 1) 153 t 1, ?_, o, ?_, ?_⟩
    · unfold X10_dead
      simp only [r_0_2 o, vo_37 o, Option.bind_some, g1, show ((1 : Int32) = 0) = False from by decide, if_false, r_37_0 o, ar_things o t10, gi_T o t10, f8, c8, nI_0, q, if_true, pz_T o t10 (Or.inr rfl), r_0_2 o1, vo_37 o1, with_c o1 S1]
    · have k1a : X11_isThing 134 (nI t) (wI μ (40 + t) 8 1) = X11_isThing 134 (nI t) μ := by
        unfold X11_isThing
        rw [gi_134 o1, gi_134 o, row_ne (by omega)]
      unfold X11_dead
      simp only [vo_134 o1, Option.bind_some, k1a, k1, show ((1 : Int32) = 0) = False from by decide, if_false, r_134_21 o1, az_153 o1 t10, row_ne (μ := μ) (a := 40 + t) (b := 153) (k := 8) (v := 1) (by omega), show mI μ 153 t = _ from m8, c8, nI_0, q, if_true, sz_153 o1 t10 (Or.inr rfl), vo_134 o2, with_m o2 S2, ec]
    · refine h0.setT o rfl (fun a k q1 q2 q3 q4 => ?_) (RelT.mk' (n := tn μ) (fun c t' => if c = 8 ∧ t' = t then 1 else tv μ c t') ?_ ?_ hn (fun c t' hc ht' => ?_) (fun t' ht' => ?_) (fun t' q1 ht' => ?_))
      · rw [fld_ne (by omega), fld_ne (by omega)]
      · rw [row_ne (by omega), row_ne (by omega)]
        exact hT.1.1
      · rw [row_ne (by omega), row_ne (by omega)]
        exact hT.1.2.1
      · obtain ⟨z1, z2, z3⟩ := hT.2.1 c t' hc ht'
        by_cases z : c = 8 ∧ t' = t
        · obtain ⟨rfl, rfl⟩ := z
          simp only [and_self, if_true]
          rw [row_ne (by omega), fld_eq, fld_eq]
          exact ⟨rfl, rfl, Nat.le_refl _⟩
        · rw [if_neg z, row_ne (by omega), fld_ne (by omega), fld_ne (by omega), row_ne (by omega)]
          exact ⟨z1, z2, z3⟩
      · rw [if_neg (by omega)]
        unfold nw
        rw [row_ne (by omega), row_ne (by omega)]
        exact hT.2.2.1 t' ht'
      · rw [if_neg (by omega)]
        exact hT.2.2.2 t' q1 ht'
  · refine pairR h0 (r := -1003) ?_ ?_
    · unfold X10_dead
      simp only [r_0_2 o, vo_37 o, Option.bind_some, g1, show ((1 : Int32) = 0) = False from by decide, if_false, r_37_0 o, ar_things o t10, gi_T o t10, f8, c8, q]
    · unfold X11_dead
      simp only [vo_134 o, Option.bind_some, k1, show ((1 : Int32) = 0) = False from by decide, if_false, r_134_21 o, az_153 o t10, show mI μ 153 t = _ from m8, c8, q]
end
section
/-! ===== thing, came, saying ===== -/
theorem Ok_wI {μ : Mem} {a k : Nat} {v : Int32} : Ok (wI μ a k v) = Ok μ := rfl
theorem p_thing (x1 x2 x3 x4 x5 x6 x7 : Int32) : Pair (X10_thing 0 x1 x2 x3 x4 x5 x6 x7) (X11_thing 134 x1 x2 x3 x4 x5 x6 x7) := by
  intro μ h
  have h0 := h
  obtain ⟨o, W, hC, hT, hS, hX, hL⟩ := h
  have hn := hT.1.2.2
  have w6 := W.2.2.2.2.2
  have e0 : X11_in x1.toInt64 1 15 = X10_within x1 1 15 := in_eq x1 1 15
  by_cases g0 : X10_within x1 1 15 = 0
  · exact pairR h0 (r := -1001) (by unfold X10_thing; rw [if_pos g0]) (by unfold X11_thing; rw [e0, if_pos g0])
  have e1 : X11_in x2.toInt64 0 3 = X10_within x2 0 3 := in_eq x2 0 3
  by_cases g1 : X10_within x2 0 3 = 0
  · exact pairR h0 (r := -1002) (by unfold X10_thing; rw [if_neg g0, if_pos g1]) (by unfold X11_thing; rw [e0, if_neg g0, e1, if_pos g1])
  have e2 : X11_in x3.toInt64 0 5 = X10_within x3 0 5 := in_eq x3 0 5
  by_cases g2 : X10_within x3 0 5 = 0
  · exact pairR h0 (r := -1002) (by unfold X10_thing; rw [if_neg g0, if_neg g1, if_pos g2]) (by unfold X11_thing; rw [e0, if_neg g0, e1, if_neg g1, e2, if_pos g2])
  have e3 : X11_in x4.toInt64 0 9 = X10_within x4 0 9 := in_eq x4 0 9
  by_cases g3 : X10_within x4 0 9 = 0
  · exact pairR h0 (r := -1002) (by unfold X10_thing; rw [if_neg g0, if_neg g1, if_neg g2, if_pos g3]) (by unfold X11_thing; rw [e0, if_neg g0, e1, if_neg g1, e2, if_neg g2, e3, if_pos g3])
  have e4 : X11_in x5.toInt64 0 999 = X10_within x5 0 999 := in_eq x5 0 999
  by_cases g4 : X10_within x5 0 999 = 0
  · exact pairR h0 (r := -1002) (by unfold X10_thing; rw [if_neg g0, if_neg g1, if_neg g2, if_neg g3, if_pos g4]) (by unfold X11_thing; rw [e0, if_neg g0, e1, if_neg g1, e2, if_neg g2, e3, if_neg g3, e4, if_pos g4])
  have e5 : X11_in x6.toInt64 0 99 = X10_within x6 0 99 := in_eq x6 0 99
  by_cases g5 : X10_within x6 0 99 = 0
  · exact pairR h0 (r := -1002) (by unfold X10_thing; rw [if_neg g0, if_neg g1, if_neg g2, if_neg g3, if_neg g4, if_pos g5]) (by unfold X11_thing; rw [e0, if_neg g0, e1, if_neg g1, e2, if_neg g2, e3, if_neg g3, e4, if_neg g4, e5, if_pos g5])
  have e6 : X11_in x7.toInt64 (nI (nw μ)).toInt64 60 = X10_within x7 (nI (nw μ)) 60 := in_eq x7 (nI (nw μ)) 60
  by_cases g6 : X10_within x7 (nI (nw μ)) 60 = 0
  · exact pairR h0 (r := -1002) (by unfold X10_thing; rw [if_neg g0, if_neg g1, if_neg g2, if_neg g3, if_neg g4, if_neg g5, gi_0 o, w6.1, Option.bind_some, if_pos g6]) (by unfold X11_thing; rw [e0, if_neg g0, e1, if_neg g1, e2, if_neg g2, e3, if_neg g3, e4, if_neg g4, e5, if_neg g5, gi_134 o, w6.2.1, Option.bind_some, e6, if_pos g6])
  obtain ⟨y1, -, b1, rfl⟩ := win2 (a := 1) (b := 15) (by decide) (by decide) g0
  obtain ⟨y2, -, b2, rfl⟩ := win2 (a := 0) (b := 3) (by decide) (by decide) g1
  obtain ⟨y3, -, b3, rfl⟩ := win2 (a := 0) (b := 5) (by decide) (by decide) g2
  obtain ⟨y4, -, b4, rfl⟩ := win2 (a := 0) (b := 9) (by decide) (by decide) g3
  obtain ⟨y5, -, b5, rfl⟩ := win2 (a := 0) (b := 999) (by decide) (by decide) g4
  obtain ⟨y6, -, b6, rfl⟩ := win2 (a := 0) (b := 99) (by decide) (by decide) g5
  obtain ⟨y7, -, b7, rfl⟩ := win2 (a := nw μ) (b := 60) (by have := w6.2.2; omega) (by decide) g6
  by_cases q : tn μ = 10
  · refine pairR h0 (r := -1004) ?_ ?_
    · unfold X10_thing
      rw [if_neg g0, if_neg g1, if_neg g2, if_neg g3, if_neg g4, if_neg g5, gi_0 o, w6.1, Option.bind_some, if_neg g6, r_0_2 o, Option.bind_some, gi_37 o, hT.1.1, Option.bind_some, q, if_neg (by decide)]
    · unfold X11_thing
      rw [e0, if_neg g0, e1, if_neg g1, e2, if_neg g2, e3, if_neg g3, e4, if_neg g4, e5, if_neg g5, gi_134 o, w6.2.1, Option.bind_some, e6, if_neg g6, gi_134 o, hT.1.2.1, Option.bind_some, q, if_pos (by decide)]
  have hn2 : tn μ < 10 := by omega
  have c10 : nI (tn μ) < 10 := (nI_ltI (b := 10) (by omega) (by decide)).mpr hn2
  have d10 : ¬ nI (tn μ) = 10 := fun z => q ((nI_eq (b := 10) (by omega) (by decide)).mp z)
  have ⟨μ1, eμ⟩ : ∃ m, m = wI (wI (wI (wI (wI (wI (wI (wI (wI μ (40 + tn μ) 0 (nI y1)) (40 + tn μ) 1 (nI y2)) (40 + tn μ) 2 (nI y3)) (40 + tn μ) 3 (nI y4)) (40 + tn μ) 4 (nI y5)) (40 + tn μ) 5 (nI y6)) (40 + tn μ) 6 (nI y7)) (40 + tn μ) 7 (nI (nw μ))) 37 2 (nI (tn μ + 1)) := ⟨_, rfl⟩
  have o1 : Ok μ1 := by subst eμ; exact o
  have r134 : mI μ1 134 = mI μ 134 := by
    subst eμ
    rw [row_ne (by omega), row_ne (by omega), row_ne (by omega), row_ne (by omega), row_ne (by omega), row_ne (by omega), row_ne (by omega), row_ne (by omega), row_ne (by omega)]
  have t134 : mI μ1 134 12 = nI (tn μ) := by rw [r134]; exact hT.1.2.1
  have n134 : mI μ1 134 5 = nI (nw μ) := by rw [r134]; exact w6.2.1
  have ⟨μ2, eμ2⟩ : ∃ m, m = wI (wI (wI (wI (wI (wI (wI (wI (wI (wI μ1 145 (tn μ) (nI y1)) 146 (tn μ) (nI y2)) 147 (tn μ) (nI y3)) 148 (tn μ) (nI y4)) 149 (tn μ) (nI y5)) 150 (tn μ) (nI y6)) 151 (tn μ) (nI y7)) 152 (tn μ) (nI (nw μ))) 153 (tn μ) (0)) 134 12 (nI (tn μ + 1)) := ⟨_, rfl⟩
  refine ⟨nI (tn μ), μ1, μ2, ?_, o1, ?_, ?_⟩
  · subst eμ
    unfold X10_thing
    rw [if_neg g0, if_neg g1, if_neg g2, if_neg g3, if_neg g4, if_neg g5, gi_0 o, w6.1, Option.bind_some, if_neg g6, r_0_2 o, Option.bind_some, gi_37 o, hT.1.1, Option.bind_some, if_pos c10, Option.bind_some, r_37_0 o, Option.bind_some, Option.bind_some, gi_37 o, hT.1.1, Option.bind_some, ar_things o hn2, Option.bind_some]
    iterate 7 rw [pi_T (by exact o) hn2, Option.bind_some]
    rw [gi_0 (by exact o)]
    iterate 7 rw [row_ne (by omega)]
    rw [w6.1, Option.bind_some, pi_T (by exact o) hn2, Option.bind_some, r_0_2 (by exact o), Option.bind_some, gi_37 (by exact o)]
    iterate 8 rw [row_ne (b := 37) (by omega)]
    rw [hT.1.1, Option.bind_some, pi_37 (by exact o), Option.bind_some, r_0_2 (by exact o), Option.bind_some, gi_37 (by exact o), nI_add1, fld_eq, Option.bind_some, nI_pred]
  · subst eμ2
    unfold X11_thing
    rw [e0, if_neg g0, e1, if_neg g1, e2, if_neg g2, e3, if_neg g3, e4, if_neg g4, e5, if_neg g5, gi_134 o1, n134, Option.bind_some, e6, if_neg g6, gi_134 o1, t134, Option.bind_some, if_neg d10, r_134_13 o1, Option.bind_some, Option.bind_some, si_145 o1 hn2, Option.bind_some]
    rw [r_134_14 (by exact o1), Option.bind_some, gi_134 (by exact o1)]
    iterate 1 rw [row_ne (b := 134) (by omega)]
    rw [t134, Option.bind_some, si_146 (by exact o1) hn2, Option.bind_some]
    rw [r_134_15 (by exact o1), Option.bind_some, gi_134 (by exact o1)]
    iterate 2 rw [row_ne (b := 134) (by omega)]
    rw [t134, Option.bind_some, si_147 (by exact o1) hn2, Option.bind_some]
    rw [r_134_16 (by exact o1), Option.bind_some, gi_134 (by exact o1)]
    iterate 3 rw [row_ne (b := 134) (by omega)]
    rw [t134, Option.bind_some, si_148 (by exact o1) hn2, Option.bind_some]
    rw [r_134_17 (by exact o1), Option.bind_some, gi_134 (by exact o1)]
    iterate 4 rw [row_ne (b := 134) (by omega)]
    rw [t134, Option.bind_some, si_149 (by exact o1) hn2, Option.bind_some]
    rw [r_134_18 (by exact o1), Option.bind_some, gi_134 (by exact o1)]
    iterate 5 rw [row_ne (b := 134) (by omega)]
    rw [t134, Option.bind_some, si_150 (by exact o1) hn2, Option.bind_some]
    rw [r_134_19 (by exact o1), Option.bind_some, gi_134 (by exact o1)]
    iterate 6 rw [row_ne (b := 134) (by omega)]
    rw [t134, Option.bind_some, si_151 (by exact o1) hn2, Option.bind_some]
    rw [r_134_20 (by exact o1), Option.bind_some, gi_134 (by exact o1)]
    iterate 7 rw [row_ne (b := 134) (by omega)]
    rw [t134, Option.bind_some, gi_134 (by exact o1)]
    iterate 7 rw [row_ne (b := 134) (by omega)]
    rw [n134, Option.bind_some, si_152 (by exact o1) hn2, Option.bind_some]
    rw [r_134_21 (by exact o1), Option.bind_some, gi_134 (by exact o1)]
    iterate 8 rw [row_ne (b := 134) (by omega)]
    rw [t134, Option.bind_some, sz_153 (by exact o1) hn2 (Or.inl rfl), Option.bind_some, gi_134 (by exact o1)]
    iterate 9 rw [row_ne (b := 134) (by omega)]
    rw [t134, Option.bind_some, pi_134 (by exact o1), Option.bind_some, gi_134 (by exact o1), nI_add1, fld_eq, Option.bind_some, nI_pred]
  · have ez : tv μ 8 (tn μ) = 0 := hT.2.2.2 (tn μ) (Nat.le_refl _) hn2
    have z8 : mI μ (40 + tn μ) 8 = nI (tv μ 8 (tn μ)) := (hT.2.1 8 (tn μ) (by decide) hn2).1
    rw [ez] at z8
    have o2 : Ok μ2 := by
      subst eμ2
      simp only [Ok_wI]
      exact o1
    have eR2 : mR μ2 92 = mR μ 92 := by
      subst eμ2
      subst eμ
      simp only [mR_wI]
    refine h0.setT o2 eR2 (fun a k q1 q2 q3 q4 => ?_) (RelT.mk' (n := tn μ + 1) (fun c t' => if t' = tn μ then [y1, y2, y3, y4, y5, y6, y7, nw μ, 0].getD c 0 else tv μ c t') ?_ ?_ hn2 (fun c t' hc ht' => ?_) (fun t' ht' => ?_) (fun t' q1 ht' => ?_))
    · subst eμ2
      subst eμ
      iterate 19 rw [fld_ne (by omega)]
    · subst eμ2
      subst eμ
      iterate 10 rw [row_ne (by omega)]
      rw [fld_eq]
    · subst eμ2
      rw [fld_eq]
    · subst eμ2
      subst eμ
      obtain ⟨z1, z2, z3⟩ := hT.2.1 c t' hc ht'
      by_cases z : t' = tn μ
      · subst z
        rw [if_pos rfl]
        iterate 11 rw [row_ne (b := 40 + tn μ) (by omega)]
        rcases (show c = 0 ∨ c = 1 ∨ c = 2 ∨ c = 3 ∨ c = 4 ∨ c = 5 ∨ c = 6 ∨ c = 7 ∨ c = 8 by omega) with rfl | rfl | rfl | rfl | rfl | rfl | rfl | rfl | rfl
        all_goals simp (disch := omega) only [row_ne, fld_eq, fld_ne, z8]
        · exact ⟨rfl, rfl, b1⟩
        · exact ⟨rfl, rfl, b2⟩
        · exact ⟨rfl, rfl, b3⟩
        · exact ⟨rfl, rfl, b4⟩
        · exact ⟨rfl, rfl, b5⟩
        · exact ⟨rfl, rfl, b6⟩
        · exact ⟨rfl, rfl, b7⟩
        · exact ⟨rfl, rfl, w6.2.2⟩
        · exact ⟨rfl, rfl, Nat.zero_le _⟩
      · rw [if_neg z]
        simp (disch := omega) only [row_ne, fld_ne]
        exact ⟨z1, z2, z3⟩
    · have en : nw μ2 = nw μ := by
        subst eμ2
        unfold nw
        rw [fld_ne (by omega)]
        iterate 9 rw [row_ne (b := 134) (by omega)]
        rw [r134]
      rw [en]
      by_cases z : t' = tn μ
      · rw [if_pos z]
        exact Nat.le_refl _
      · rw [if_neg z]
        exact hT.2.2.1 t' ht'
    · rw [if_neg (by omega)]
      exact hT.2.2.2 t' (by omega) ht'
end
section
/-! ===== came, saying ===== -/
theorem one0 : ((1 : Int32) = 0) = False := by decide
theorem p_came (x1 x2 : Int32) : Pair (X10_came 0 x1 x2) (X11_came 134 x1 x2) := by
  intro μ h
  have h0 := h
  obtain ⟨o, W, hC, hT, hS, hX, hL⟩ := h
  have hn := hS.1.2.2
  rcases gS o hS x1 with ⟨g1, k1⟩ | ⟨g1, k1, t, ht, rfl⟩
  · exact pairR h0 (r := -1001) (by unfold X10_came; simp only [r_0_2 o, vo_37 o, Option.bind_some, g1, if_true]) (by unfold X11_came; simp only [vo_134 o, Option.bind_some, k1, if_true])
  have e2 : X11_in x2.toInt64 1 3 = X10_within x2 1 3 := in_eq x2 1 3
  by_cases g2 : X10_within x2 1 3 = 0
  · exact pairR h0 (r := -1002) (by unfold X10_came; simp only [r_0_2 o, vo_37 o, Option.bind_some, g1, one0, if_false, g2, if_true]) (by unfold X11_came; simp only [vo_134 o, Option.bind_some, k1, one0, if_false, e2, g2, if_true])
  obtain ⟨y, y1, y3, rfl⟩ := win2 (a := 1) (b := 3) (by decide) (by decide) g2
  have t40 : t < 40 := by omega
  have f4 := (hS.2.1 4 t (by decide) t40).1
  have m4 : mI μ 174 t = nI (sv μ 4 t) := (hS.2.1 4 t (by decide) t40).2.1
  have b4 : sv μ 4 t ≤ 3 := (hS.2.1 4 t (by decide) t40).2.2
  have c4 : (nI (sv μ 4 t) = 0) = (sv μ 4 t = 0) := propext (nI_eq (b := 0) (by omega) (by decide))
  have d4 : (nI (sv μ 4 t) ≤ 0) = (sv μ 4 t = 0) := nI_0le (by omega)
  by_cases q : sv μ 4 t = 0
  · have o1 : Ok (wI μ (50 + t) 4 (nI y)) := o
    have o2 : Ok (wI (wI μ (50 + t) 4 (nI y)) 174 t (nI y)) := o
    refine ⟨0, wI μ (50 + t) 4 (nI y), wI (wI μ (50 + t) 4 (nI y)) 174 t (nI y), ?_, o, ?_, ?_⟩
    · unfold X10_came
      simp only [r_0_2 o, vo_37 o, Option.bind_some, g1, one0, if_false, g2, r_37_1 o, ar_sayings o t40, gi_S o t40, f4, c4, nI_0, q, if_true, pi_S o t40]
    · have k1a : X11_isSaying 134 (nI t) (wI μ (50 + t) 4 (nI y)) = X11_isSaying 134 (nI t) μ := by
        unfold X11_isSaying
        rw [gi_134 o1, gi_134 o, row_ne (by omega)]
      have m4' : mI (wI μ (50 + t) 4 (nI y)) 174 t = 0 := by
        rw [row_ne (by omega), m4, q, nI_0]
      unfold X11_came
      simp only [vo_134 o1, Option.bind_some, k1a, k1, one0, if_false, e2, g2, r_134_50 o1, ai_174 o1 t40, m4', show ((0 : Int32) ≤ 0) = True from by decide, if_true, si_174 o1 t40]
    · refine h0.setS o rfl (fun a k q1 q2 q3 q4 => ?_) (RelS.mk' (n := sc μ) (fun c t' => if c = 4 ∧ t' = t then y else sv μ c t') ?_ ?_ hn (fun c t' hc ht' => ?_) (fun t' ht' => ?_) (fun t' q1 ht' => ?_))
      · rw [fld_ne (by omega), fld_ne (by omega)]
      · rw [row_ne (by omega), row_ne (by omega)]
        exact hS.1.1
      · rw [row_ne (by omega), row_ne (by omega)]
        exact hS.1.2.1
      · obtain ⟨z1, z2, z3⟩ := hS.2.1 c t' hc ht'
        by_cases z : c = 4 ∧ t' = t
        · obtain ⟨rfl, rfl⟩ := z
          simp only [and_self, if_true]
          rw [row_ne (by omega), fld_eq, fld_eq]
          exact ⟨rfl, rfl, y3⟩
        · rw [if_neg z, row_ne (by omega), fld_ne (by omega), fld_ne (by omega), row_ne (by omega)]
          exact ⟨z1, z2, z3⟩
      · rw [if_neg (by omega)]
        unfold nw
        rw [row_ne (by omega), row_ne (by omega)]
        exact hS.2.2.1 t' ht'
      · rw [if_neg (by omega)]
        exact hS.2.2.2 t' q1 ht'
  · refine pairR h0 (r := -1003) ?_ ?_
    · unfold X10_came
      simp only [r_0_2 o, vo_37 o, Option.bind_some, g1, one0, if_false, g2, r_37_1 o, ar_sayings o t40, gi_S o t40, f4, c4, q]
    · unfold X11_came
      simp only [vo_134 o, Option.bind_some, k1, one0, if_false, e2, g2, r_134_50 o, ai_174 o t40, m4, d4, q]
/-- the DEAD ones of the first n -/
def dS (μ : Mem) : Nat → Nat
  | 0 => 0
  | n + 1 => if tv μ 8 n = 0 then dS μ n else dS μ n ||| 2 ^ n
theorem dS_lt (μ : Mem) : ∀ n, dS μ n < 2 ^ n
  | 0 => Nat.zero_lt_one
  | n + 1 => by
    have h := dS_lt μ n
    unfold dS
    split
    · exact Nat.lt_trans h (Nat.pow_lt_pow_right (by decide) (by omega))
    · exact or_put_lt (Nat.lt_trans h (Nat.pow_lt_pow_right (by decide) (by omega))) (by omega)
theorem dS_sm {μ μ' : Mem} (s : Sm μ μ') : ∀ n, dS μ' n = dS μ n
  | 0 => rfl
  | n + 1 => by
    unfold dS
    rw [dS_sm s n, tv_sm s (by decide)]
theorem dead_c {μ : Mem} (h : Ok μ) (T : RelT μ) : X0_deadThings 37 μ = some (nI (dS μ (tn μ))) := by
  have hn := T.1.2.2
  obtain ⟨a, P, e⟩ := loopF (F := fun k (a : Nat) i => X0_deadThings_L4 37 μ k (nI a) (nI i)) (P := fun i a => a = dS μ i) (n := tn μ) (r := fun a => (nI a, nI (tn μ))) (by omega) (fun k a i hi P => by
    subst P
    have i10 : i < 10 := by omega
    have f8 := (T.2.1 8 i (by decide) i10).1
    have b8 : tv μ 8 i ≤ 1 := (T.2.1 8 i (by decide) i10).2.2
    have c8 : nI (tv μ 8 i) = 0 ↔ tv μ 8 i = 0 := nI_eq (b := 0) (by omega) (by decide)
    refine ⟨_, rfl, ?_⟩
    show X0_deadThings_L4 37 μ (k + 1) (nI (dS μ i)) (nI i) = X0_deadThings_L4 37 μ k (nI (dS μ (i + 1))) (nI (i + 1))
    rw [X0_deadThings_L4, gi_37 h, T.1.1, Option.bind_some, if_neg (nI_ge hi (by omega)), r_37_0 h, Option.bind_some, ar_things h i10, Option.bind_some, gi_T h i10, f8, Option.bind_some, Option.bind_some, nI_add1, or_put (by omega)]
    rw [dS]
    by_cases q : tv μ 8 i = 0
    · rw [if_pos (c8.mpr q), if_pos q]
    · rw [if_neg (fun z => q (c8.mp z)), if_neg q]) (fun k a P => by
    show X0_deadThings_L4 37 μ (k + 1) (nI a) (nI (tn μ)) = _
    rw [X0_deadThings_L4, gi_37 h, T.1.1, Option.bind_some, if_pos (nI_le (Nat.le_refl _) (by omega))]) 0 rfl
  subst P
  have e : X0_deadThings_L4 37 μ FU 0 0 = _ := e
  unfold X0_deadThings
  rw [e, Option.bind_some]
theorem dead_m {μ : Mem} (h : Ok μ) (T : RelT μ) (set : Nat) : X11_deadOf 134 (nI set) μ = some (nI (set &&& dS μ (tn μ))) := by
  have hn := T.1.2.2
  obtain ⟨a, P, e⟩ := loopF (F := fun k (a : Nat) i => X11_deadOf_L4 134 (nI set) μ k (nI a) (nI i)) (P := fun i a => a = set &&& dS μ i) (n := tn μ) (r := fun a => (nI a, nI (tn μ))) (by omega) (fun k a i hi P => by
    subst P
    have i10 : i < 10 := by omega
    have f8 : mI μ 153 i = nI (tv μ 8 i) := (T.2.1 8 i (by decide) i10).2.1
    have b8 : tv μ 8 i ≤ 1 := (T.2.1 8 i (by decide) i10).2.2
    have c8 : nI (tv μ 8 i) = 0 ↔ tv μ 8 i = 0 := nI_eq (b := 0) (by omega) (by decide)
    refine ⟨_, rfl, ?_⟩
    show X11_deadOf_L4 134 (nI set) μ (k + 1) (nI (set &&& dS μ i)) (nI i) = X11_deadOf_L4 134 (nI set) μ k (nI (set &&& dS μ (i + 1))) (nI (i + 1))
    rw [X11_deadOf_L4, gi_134 h, T.1.2.1, Option.bind_some, if_neg (nI_ge hi (by omega)), r_134_21 h, Option.bind_some, az_153 h i10, f8, Option.bind_some, Option.bind_some, Option.bind_some, nI_add1, sh31 i (by omega), fa_and]
    rw [dS]
    by_cases q : tv μ 8 i = 0
    · rw [if_pos (c8.mpr q), if_pos q, Int32.or_zero]
    · rw [if_neg (fun z => q (c8.mp z)), if_neg q, fa_or, Nat.and_or_distrib_left]) (fun k a P => by
    show X11_deadOf_L4 134 (nI set) μ (k + 1) (nI a) (nI (tn μ)) = _
    rw [X11_deadOf_L4, gi_134 h, T.1.2.1, Option.bind_some, if_pos (nI_le (Nat.le_refl _) (by omega))]) 0 (show 0 = set &&& 0 from (Nat.and_zero _).symm)
  subst P
  have e : X11_deadOf_L4 134 (nI set) μ FU 0 0 = _ := e
  unfold X11_deadOf
  rw [e, Option.bind_some]
theorem p_saying (x1 x2 : Int32) : PairV (X10_saying 0 x1 x2) (X11_saying 134 x1 x2) := by
  intro μ ⟨o, W, hC, hT, hS, hX, hL⟩
  have hn := hS.1.2.2
  unfold X10_saying X11_saying
  simp only [r_0_2 o, vo_37 o, vo_134 o, Option.bind_some]
  rcases gS o hS x1 with ⟨g1, k1⟩ | ⟨g1, k1, t, ht, rfl⟩
  · rw [g1, k1]
    exact ⟨_, rfl, rfl⟩
  · have t40 : t < 40 := by omega
    have f := fun c hc => (hS.2.1 c t hc t40).1
    have m0 := (hS.2.1 0 t (by decide) t40).2.1
    have m1 := (hS.2.1 1 t (by decide) t40).2.1
    have m2 := (hS.2.1 2 t (by decide) t40).2.1
    have m3 := (hS.2.1 3 t (by decide) t40).2.1
    have m4 := (hS.2.1 4 t (by decide) t40).2.1
    rw [g1, k1]
    simp only [r_37_1 o, ar_sayings o t40, gi_S o t40, r_134_46 o, r_134_47 o, r_134_48 o, r_134_49 o, r_134_50 o, ai_170 o t40, ai_171 o t40, ai_172 o t40, ai_173 o t40, ai_174 o t40, Option.bind_some, f 0 (by decide), f 1 (by decide), f 2 (by decide), f 3 (by decide), f 4 (by decide), m0, m1, m2, m3, m4, dead_c o hT, dead_m o hT, fa_and]
    repeat' split
    all_goals exact ⟨_, rfl, rfl⟩
end
section
/-! ===== LEARNT ===== -/
def cnO (μ : Mem) (w : Nat) : Nat → Nat
  | 0 => 0
  | n + 1 => if sv μ 2 n = w ∧ ¬ sv μ 4 n = 0 then cnO μ w n + 1 else cnO μ w n
def cnL (μ : Mem) (w : Nat) : Nat → Nat
  | 0 => 0
  | n + 1 => if sv μ 2 n = w ∧ sv μ 4 n = 1 then cnL μ w n + 1 else cnL μ w n
theorem cnO_le (μ : Mem) (w : Nat) : ∀ n, cnO μ w n ≤ n
  | 0 => Nat.le_refl _
  | n + 1 => by
    have := cnO_le μ w n
    rw [cnO]
    split <;> omega
theorem cnL_le (μ : Mem) (w : Nat) : ∀ n, cnL μ w n ≤ cnO μ w n
  | 0 => Nat.le_refl _
  | n + 1 => by
    have := cnL_le μ w n
    rw [cnO, cnL]
    by_cases q : sv μ 2 n = w ∧ sv μ 4 n = 1
    · rw [if_pos q, if_pos ⟨q.1, by omega⟩]
      omega
    · rw [if_neg q]
      split <;> omega
theorem outc_c {μ : Mem} (h : Ok μ) (S : RelS μ) {w : Nat} (hw : w < 4) : X0_outcomesBy 37 (nI w) μ = some (nI (cnO μ w (sc μ))) := by
  have hc := S.1.2.2
  obtain ⟨a, P, e⟩ := loopF (F := fun k (a : Nat) i => X0_outcomesBy_L4 37 (nI w) μ k (nI a) (nI i)) (P := fun i a => a = cnO μ w i) (n := sc μ) (r := fun a => (nI a, nI (sc μ))) (by omega) (fun k a i hi P => by
    subst P
    have i40 : i < 40 := by omega
    have f2 := (S.2.1 2 i (by decide) i40).1
    have f4 := (S.2.1 4 i (by decide) i40).1
    have b2 : sv μ 2 i ≤ 3 := (S.2.1 2 i (by decide) i40).2.2
    have b4 : sv μ 4 i ≤ 3 := (S.2.1 4 i (by decide) i40).2.2
    have c2 : (nI (sv μ 2 i) = nI w) = (sv μ 2 i = w) := n_eq (by omega) (by omega)
    have c4 : (nI (sv μ 4 i) = 0) = (sv μ 4 i = 0) := n_eq (b := 0) (by omega) (by decide)
    refine ⟨_, rfl, ?_⟩
    show X0_outcomesBy_L4 37 (nI w) μ (k + 1) (nI (cnO μ w i)) (nI i) = X0_outcomesBy_L4 37 (nI w) μ k (nI (cnO μ w (i + 1))) (nI (i + 1))
    rw [X0_outcomesBy_L4, gi_37 h, S.1.1, Option.bind_some, if_neg (nI_ge hi (by omega)), cnO]
    simp only [r_37_1 h, ar_sayings h i40, gi_S h i40, f2, f4, Option.bind_some, c2, c4, nI_add1]
    by_cases q : sv μ 2 i = w
    · by_cases q4 : sv μ 4 i = 0
      · rw [if_pos q, if_pos q4, if_neg (fun z => z.2 q4)]
        rfl
      · rw [if_pos q, if_neg q4, if_pos ⟨q, q4⟩]
        rfl
    · rw [if_neg q, if_neg (fun z => q z.1)]
      rfl) (fun k a P => by
    show X0_outcomesBy_L4 37 (nI w) μ (k + 1) (nI a) (nI (sc μ)) = _
    rw [X0_outcomesBy_L4, gi_37 h, S.1.1, Option.bind_some, if_pos (nI_le (Nat.le_refl _) (by omega))]) 0 rfl
  subst P
  have e : X0_outcomesBy_L4 37 (nI w) μ FU 0 0 = _ := e
  unfold X0_outcomesBy
  rw [e, Option.bind_some]
theorem look_c {μ : Mem} (h : Ok μ) (S : RelS μ) {w : Nat} (hw : w < 4) : X0_lookedAtBy 37 (nI w) μ = some (nI (cnL μ w (sc μ))) := by
  have hc := S.1.2.2
  obtain ⟨a, P, e⟩ := loopF (F := fun k (a : Nat) i => X0_lookedAtBy_L4 37 (nI w) μ k (nI a) (nI i)) (P := fun i a => a = cnL μ w i) (n := sc μ) (r := fun a => (nI a, nI (sc μ))) (by omega) (fun k a i hi P => by
    subst P
    have i40 : i < 40 := by omega
    have f2 := (S.2.1 2 i (by decide) i40).1
    have f4 := (S.2.1 4 i (by decide) i40).1
    have b2 : sv μ 2 i ≤ 3 := (S.2.1 2 i (by decide) i40).2.2
    have b4 : sv μ 4 i ≤ 3 := (S.2.1 4 i (by decide) i40).2.2
    have c2 : (nI (sv μ 2 i) = nI w) = (sv μ 2 i = w) := n_eq (by omega) (by omega)
    have c4 : (nI (sv μ 4 i) = 1) = (sv μ 4 i = 1) := n_eq (b := 1) (by omega) (by decide)
    refine ⟨_, rfl, ?_⟩
    show X0_lookedAtBy_L4 37 (nI w) μ (k + 1) (nI (cnL μ w i)) (nI i) = X0_lookedAtBy_L4 37 (nI w) μ k (nI (cnL μ w (i + 1))) (nI (i + 1))
    rw [X0_lookedAtBy_L4, gi_37 h, S.1.1, Option.bind_some, if_neg (nI_ge hi (by omega)), cnL]
    simp only [r_37_1 h, ar_sayings h i40, gi_S h i40, f2, f4, Option.bind_some, c2, c4, nI_add1]
    by_cases q : sv μ 2 i = w
    · by_cases q4 : sv μ 4 i = 1
      · rw [if_pos q, if_pos q4, if_pos ⟨q, q4⟩]
        rfl
      · rw [if_pos q, if_neg q4, if_neg (fun z => q4 z.2)]
        rfl
    · rw [if_neg q, if_neg (fun z => q z.1)]
      rfl) (fun k a P => by
    show X0_lookedAtBy_L4 37 (nI w) μ (k + 1) (nI a) (nI (sc μ)) = _
    rw [X0_lookedAtBy_L4, gi_37 h, S.1.1, Option.bind_some, if_pos (nI_le (Nat.le_refl _) (by omega))]) 0 rfl
  subst P
  have e : X0_lookedAtBy_L4 37 (nI w) μ FU 0 0 = _ := e
  unfold X0_lookedAtBy
  rw [e, Option.bind_some]
theorem cameO_m {μ : Mem} (h : Ok μ) (S : RelS μ) {w : Nat} (hw : w < 4) : X11_cameOf 134 (nI w) 0 μ = some (nI (cnO μ w (sc μ))) := by
  have hc := S.1.2.2
  obtain ⟨a, P, e⟩ := loopF (F := fun k (a : Nat) i => X11_cameOf_L5 134 (nI w) 0 μ k (nI a) (nI i)) (P := fun i a => a = cnO μ w i) (n := sc μ) (r := fun a => (nI a, nI (sc μ))) (by omega) (fun k a i hi P => by
    subst P
    have i40 : i < 40 := by omega
    have f2 : mI μ 172 i = _ := (S.2.1 2 i (by decide) i40).2.1
    have f4 : mI μ 174 i = _ := (S.2.1 4 i (by decide) i40).2.1
    have b2 : sv μ 2 i ≤ 3 := (S.2.1 2 i (by decide) i40).2.2
    have b4 : sv μ 4 i ≤ 3 := (S.2.1 4 i (by decide) i40).2.2
    have c2 : (nI (sv μ 2 i) = nI w) = (sv μ 2 i = w) := n_eq (by omega) (by omega)
    have c4 : (nI (sv μ 4 i) ≤ 0) = (sv μ 4 i = 0) := nI_0le (by omega)
    refine ⟨_, rfl, ?_⟩
    show X11_cameOf_L5 134 (nI w) 0 μ (k + 1) (nI (cnO μ w i)) (nI i) = X11_cameOf_L5 134 (nI w) 0 μ k (nI (cnO μ w (i + 1))) (nI (i + 1))
    rw [X11_cameOf_L5, gi_134 h, S.1.2.1, Option.bind_some, if_neg (nI_ge hi (by omega)), cnO]
    simp only [r_134_48 h, r_134_50 h, ai_172 h i40, ai_174 h i40, f2, f4, Option.bind_some, c2, c4, nI_add1, if_true]
    by_cases q : sv μ 2 i = w
    · by_cases q4 : sv μ 4 i = 0
      · rw [if_pos q, if_pos q4, if_neg (fun z => z.2 q4), Option.bind_some, Int32.add_zero]
      · rw [if_pos q, if_neg q4, if_pos ⟨q, q4⟩, Option.bind_some, nI_add1]
    · rw [if_neg q, if_neg (fun z => q z.1), Option.bind_some, Int32.add_zero]) (fun k a P => by
    show X11_cameOf_L5 134 (nI w) 0 μ (k + 1) (nI a) (nI (sc μ)) = _
    rw [X11_cameOf_L5, gi_134 h, S.1.2.1, Option.bind_some, if_pos (nI_le (Nat.le_refl _) (by omega))]) 0 rfl
  subst P
  have e : X11_cameOf_L5 134 (nI w) 0 μ FU 0 0 = _ := e
  unfold X11_cameOf
  rw [e, Option.bind_some]
theorem cameL_m {μ : Mem} (h : Ok μ) (S : RelS μ) {w : Nat} (hw : w < 4) : X11_cameOf 134 (nI w) 1 μ = some (nI (cnL μ w (sc μ))) := by
  have hc := S.1.2.2
  obtain ⟨a, P, e⟩ := loopF (F := fun k (a : Nat) i => X11_cameOf_L5 134 (nI w) 1 μ k (nI a) (nI i)) (P := fun i a => a = cnL μ w i) (n := sc μ) (r := fun a => (nI a, nI (sc μ))) (by omega) (fun k a i hi P => by
    subst P
    have i40 : i < 40 := by omega
    have f2 : mI μ 172 i = _ := (S.2.1 2 i (by decide) i40).2.1
    have f4 : mI μ 174 i = _ := (S.2.1 4 i (by decide) i40).2.1
    have b2 : sv μ 2 i ≤ 3 := (S.2.1 2 i (by decide) i40).2.2
    have b4 : sv μ 4 i ≤ 3 := (S.2.1 4 i (by decide) i40).2.2
    have c2 : (nI (sv μ 2 i) = nI w) = (sv μ 2 i = w) := n_eq (by omega) (by omega)
    have c4 : (nI (sv μ 4 i) = 1) = (sv μ 4 i = 1) := n_eq (b := 1) (by omega) (by decide)
    refine ⟨_, rfl, ?_⟩
    show X11_cameOf_L5 134 (nI w) 1 μ (k + 1) (nI (cnL μ w i)) (nI i) = X11_cameOf_L5 134 (nI w) 1 μ k (nI (cnL μ w (i + 1))) (nI (i + 1))
    rw [X11_cameOf_L5, gi_134 h, S.1.2.1, Option.bind_some, if_neg (nI_ge hi (by omega)), cnL]
    simp only [r_134_48 h, r_134_50 h, ai_172 h i40, ai_174 h i40, f2, f4, Option.bind_some, c2, c4, nI_add1, one0, if_false]
    by_cases q : sv μ 2 i = w
    · by_cases q4 : sv μ 4 i = 1
      · rw [if_pos q, if_pos q4, if_pos ⟨q, q4⟩, Option.bind_some, nI_add1]
      · rw [if_pos q, if_neg q4, if_neg (fun z => q4 z.2), Option.bind_some, Int32.add_zero]
    · rw [if_neg q, if_neg (fun z => q z.1), Option.bind_some, Int32.add_zero]) (fun k a P => by
    show X11_cameOf_L5 134 (nI w) 1 μ (k + 1) (nI a) (nI (sc μ)) = _
    rw [X11_cameOf_L5, gi_134 h, S.1.2.1, Option.bind_some, if_pos (nI_le (Nat.le_refl _) (by omega))]) 0 rfl
  subst P
  have e : X11_cameOf_L5 134 (nI w) 1 μ FU 0 0 = _ := e
  unfold X11_cameOf
  rw [e, Option.bind_some]
/-! how many ways to choose -/
def fC (n k : Nat) : Nat → Nat
  | 0 => 1
  | i + 1 => fC n k i * (n - k + (i + 1)) / (i + 1)
def fM (n : Nat) : Nat → Nat
  | 0 => 1
  | j + 1 => fM n j * (n - (j + 1) + 1) / (j + 1)
theorem fCM : ∀ n, n < 31 → ∀ k, k < 31 → k ≤ n → fC n k k = fM n k ∧ 0 < fM n k ∧ fM n k < 2 ^ 28 := by decide +kernel
theorem fCb : ∀ n, n < 31 → ∀ k, k < 31 → k ≤ n → ∀ i, i < 31 → i ≤ k → fC n k i < 2 ^ 28 := by decide +kernel
theorem ch_c {n k : Nat} (hn : n < 31) (hk : k ≤ n) (μ : Mem) : X10_choose (nI n) (nI k) μ = some (lN (fM n k)) := by
  obtain ⟨a, P, e⟩ := loopG (F := fun m (a : Nat) i => X10_choose_L16 (nI n) (nI k) μ m (lN a) (nI i)) (P := fun i a => a = fC n k (i - 1)) (i0 := 1) (n := k + 1) (r := fun a => (lN a, nI (k + 1))) (by omega) (by omega) (fun m a i h1 hi P => by
    subst P
    obtain ⟨j, rfl⟩ : ∃ j, i = j + 1 := ⟨i - 1, by omega⟩
    have b := fCb n hn k (by omega) hk j (by omega) (by omega)
    refine ⟨_, rfl, ?_⟩
    show X10_choose_L16 (nI n) (nI k) μ (m + 1) (lN (fC n k j)) (nI (j + 1)) = X10_choose_L16 (nI n) (nI k) μ m (lN (fC n k (j + 1))) (nI (j + 1 + 1))
    have b2 : fC n k j * (n - k + (j + 1)) ≤ 2 ^ 28 * 31 := Nat.mul_le_mul (by omega) (by omega)
    rw [X10_choose_L16, if_neg (nI_nlt (by omega) (by omega)), pk_sub hk, nI_add, nI_l (by omega), nI_l (by omega), lN_mul, dvJ_eq (by omega) (by omega) (by omega), Option.bind_some, nI_add1, fC]) (fun m a P => by
    show X10_choose_L16 (nI n) (nI k) μ (m + 1) (lN a) (nI (k + 1)) = _
    rw [X10_choose_L16, if_pos (nI_lt (by omega) (by omega))]) 1 rfl
  subst P
  have e : X10_choose_L16 (nI n) (nI k) μ FU 1 1 = _ := e
  unfold X10_choose
  rw [if_neg (nI_pos (by omega)), if_pos (nI_le hk (by omega)), e, Option.bind_some, show k + 1 - 1 = k from rfl, (fCM n hn k (by omega) hk).1]
theorem ch_m {n k : Nat} (hn : n < 31) (hk : k ≤ n) (μ : Mem) : X11_choose (nI n) (nI k) μ = some (lN (fM n k)) := by
  obtain ⟨a, P, e⟩ := loopG (F := fun m (a : Nat) i => X11_choose_L5 (nI n) (nI k) μ m (lN a) (nI i)) (P := fun i a => a = fM n (i - 1)) (i0 := 1) (n := k + 1) (r := fun a => (lN a, nI (k + 1))) (by omega) (by omega) (fun m a i h1 hi P => by
    subst P
    obtain ⟨j, rfl⟩ : ∃ j, i = j + 1 := ⟨i - 1, by omega⟩
    have b := (fCM n hn j (by omega) (by omega)).2.2
    refine ⟨_, rfl, ?_⟩
    show X11_choose_L5 (nI n) (nI k) μ (m + 1) (lN (fM n j)) (nI (j + 1)) = X11_choose_L5 (nI n) (nI k) μ m (lN (fM n (j + 1))) (nI (j + 1 + 1))
    have b2 : fM n j * (n - (j + 1) + 1) ≤ 2 ^ 28 * 31 := Nat.mul_le_mul (by omega) (by omega)
    rw [X11_choose_L5, if_neg (nI_nlt (by omega) (by omega)), pk_sub (by omega), nI_add1, nI_l (by omega), nI_l (by omega), lN_mul, dvJ_eq (by omega) (by omega) (by omega), Option.bind_some, nI_add1, fM]) (fun m a P => by
    show X11_choose_L5 (nI n) (nI k) μ (m + 1) (lN a) (nI (k + 1)) = _
    rw [X11_choose_L5, if_pos (nI_lt (by omega) (by omega))]) 1 rfl
  subst P
  have e : X11_choose_L5 (nI n) (nI k) μ FU 1 1 = _ := e
  unfold X11_choose
  rw [e, Option.bind_some, if_neg (nI_nlt hk (by omega)), if_pos (nI_pos' (by omega)), Option.bind_some]
  rfl
theorem ch_c0 {k : Int32} (n : Int32) (hk : k < 0) (μ : Mem) : X10_choose n k μ = some (lN 0) := by
  unfold X10_choose
  rw [if_pos hk]
  rfl
theorem ch_m0 {k : Int32} {n : Nat} (hn : n < 31) (hk : k < 0) (μ : Mem) : X11_choose (nI n) k μ = some (lN 0) := by
  have c1 : k < 1 := by
    rw [Int32.lt_iff_toInt_lt] at hk ⊢
    have e0 : (0 : Int32).toInt = 0 := rfl
    have e1 : (1 : Int32).toInt = 1 := rfl
    omega
  have c2 : ¬ nI n < k := by
    rw [Int32.lt_iff_toInt_lt] at hk ⊢
    have e0 : (0 : Int32).toInt = 0 := rfl
    rw [nI_toInt (by omega)]
    omega
  have c3 : ¬ 0 ≤ k := by
    rw [Int32.lt_iff_toInt_lt] at hk
    rw [Int32.le_iff_toInt_le]
    have e0 : (0 : Int32).toInt = 0 := rfl
    omega
  unfold X11_choose
  rw [show FU = 99999 + 1 from rfl, X11_choose_L5, if_pos c1, Option.bind_some, if_neg c2, if_neg c3, Option.bind_some]
  rfl
/-- one summand, the sum -/
def smT (m n s i : Nat) : Nat := fM m i * (if i ≤ s then fM n (s - i) else 0)
def smS (m n s x : Nat) : Nat → Nat
  | 0 => 0
  | d + 1 => smS m n s x d + smT m n s (x + d)
theorem smS_le {m n x y : Nat} (hm : m + n ≤ 30) (hx : x ≤ m) (hy : y ≤ n) : ∀ d, x + d ≤ m + 1 → smS m n (x + y) x d ≤ d * 2 ^ 56
  | 0, _ => Nat.zero_le _
  | d + 1, h => by
    have ih := smS_le hm hx hy d (by omega)
    have b1 := (fCM m (by omega) (x + d) (by omega) (by omega)).2.2
    have b2 : (if x + d ≤ x + y then fM n (x + y - (x + d)) else 0) < 2 ^ 28 := by
      split
      · exact (fCM n (by omega) _ (by omega) (by omega)).2.2
      · decide
    have b3 : smT m n (x + y) (x + d) ≤ 2 ^ 28 * 2 ^ 28 := Nat.mul_le_mul (by omega) (by omega)
    rw [smS]
    omega
theorem sum_c {m n x y : Nat} (hm : m + n ≤ 30) (hx : x ≤ m) (hy : y ≤ n) (x4 : Int32) (j5 : Int64) (μ : Mem) : X10_chance_L17 (nI x) (nI m) (nI y) (nI n) x4 j5 μ FU 0 (nI x) = some (lN (smS m n (x + y) x (m + 1 - x)), nI (m + 1)) := by
  obtain ⟨a, P, e⟩ := loopG (F := fun k (a : Nat) i => X10_chance_L17 (nI x) (nI m) (nI y) (nI n) x4 j5 μ k (lN a) (nI i)) (P := fun i a => a = smS m n (x + y) x (i - x)) (i0 := x) (n := m + 1) (r := fun a => (lN a, nI (m + 1))) (by omega) (by omega) (fun k a i h1 hi P => by
    subst P
    obtain ⟨d, rfl⟩ : ∃ d, i = x + d := ⟨i - x, by omega⟩
    refine ⟨_, rfl, ?_⟩
    show X10_chance_L17 (nI x) (nI m) (nI y) (nI n) x4 j5 μ (k + 1) (lN (smS m n (x + y) x (x + d - x))) (nI (x + d)) = X10_chance_L17 (nI x) (nI m) (nI y) (nI n) x4 j5 μ k (lN (smS m n (x + y) x (x + d + 1 - x))) (nI (x + d + 1))
    rw [show x + d - x = d by omega, show x + d + 1 - x = d + 1 by omega, smS]
    have e3 : X10_choose (nI n) (nI x + nI y - nI (x + d)) μ = some (lN (if x + d ≤ x + y then fM n (x + y - (x + d)) else 0)) := by
      rw [nI_add]
      by_cases q : x + d ≤ x + y
      · rw [if_pos q, pk_sub q, ch_c (by omega) (by omega)]
      · rw [if_neg q, ch_c0 _ (pk_sneg (by omega) (by omega))]
    rw [X10_chance_L17, if_neg (nI_nlt (by omega) (by omega)), ch_c (by omega) (by omega), Option.bind_some, e3, Option.bind_some, Option.bind_some, nI_add1, lN_mul, lN_add]
    rfl) (fun k a P => by
    show X10_chance_L17 (nI x) (nI m) (nI y) (nI n) x4 j5 μ (k + 1) (lN a) (nI (m + 1)) = _
    rw [X10_chance_L17, if_pos (nI_lt (by omega) (by omega))]) 0 (by rw [Nat.sub_self]; rfl)
  subst P
  exact e
theorem sum_m {m n x y : Nat} (hm : m + n ≤ 30) (hx : x ≤ m) (hy : y ≤ n) (x3 : Int32) (μ : Mem) : X11_learnt_L125 x3 (nI x) (nI m) (nI y) (nI n) μ FU 0 (nI x) = some (lN (smS m n (x + y) x (m + 1 - x)), nI (m + 1)) := by
  obtain ⟨a, P, e⟩ := loopG (F := fun k (a : Nat) i => X11_learnt_L125 x3 (nI x) (nI m) (nI y) (nI n) μ k (lN a) (nI i)) (P := fun i a => a = smS m n (x + y) x (i - x)) (i0 := x) (n := m + 1) (r := fun a => (lN a, nI (m + 1))) (by omega) (by omega) (fun k a i h1 hi P => by
    subst P
    obtain ⟨d, rfl⟩ : ∃ d, i = x + d := ⟨i - x, by omega⟩
    refine ⟨_, rfl, ?_⟩
    show X11_learnt_L125 x3 (nI x) (nI m) (nI y) (nI n) μ (k + 1) (lN (smS m n (x + y) x (x + d - x))) (nI (x + d)) = X11_learnt_L125 x3 (nI x) (nI m) (nI y) (nI n) μ k (lN (smS m n (x + y) x (x + d + 1 - x))) (nI (x + d + 1))
    rw [show x + d - x = d by omega, show x + d + 1 - x = d + 1 by omega, smS]
    have e3 : X11_choose (nI n) (nI x + nI y - nI (x + d)) μ = some (lN (if x + d ≤ x + y then fM n (x + y - (x + d)) else 0)) := by
      rw [nI_add]
      by_cases q : x + d ≤ x + y
      · rw [if_pos q, pk_sub q, ch_m (by omega) (by omega)]
      · rw [if_neg q, ch_m0 (by omega) (pk_sneg (by omega) (by omega))]
    rw [X11_learnt_L125, if_neg (nI_nlt (by omega) (by omega)), ch_m (by omega) (by omega), Option.bind_some, e3, Option.bind_some, Option.bind_some, nI_add1, lN_mul, lN_add]
    rfl) (fun k a P => by
    show X11_learnt_L125 x3 (nI x) (nI m) (nI y) (nI n) μ (k + 1) (lN a) (nI (m + 1)) = _
    rw [X11_learnt_L125, if_pos (nI_lt (by omega) (by omega))]) 0 (by rw [Nat.sub_self]; rfl)
  subst P
  exact e
/-! the common part -/
theorem rmJ_eq {a b : Nat} (ha : a < 2 ^ 63) (h0 : 0 < b) (hb : b < 2 ^ 63) : rmJ (lN a) (lN b) = some (lN (a % b)) := by
  unfold rmJ
  rw [if_neg (fun z => by have := (pk_lEQ (b := 0) hb (by decide)).mp z; omega), pk_lRem ha h0 hb]
theorem half {b r : Nat} (h0 : 0 < r) (h : r < b) : 2 * (b % r) < b := by
  by_cases q : 2 * r ≤ b
  · have := Nat.mod_lt b h0
    omega
  · have e : b % r = b - r := by
      rw [Nat.mod_eq_sub_mod (by omega), Nat.mod_eq_of_lt (by omega)]
    omega
theorem gcd_st (a b : Nat) : Nat.gcd b (a % b) = Nat.gcd a b := by
  rw [Nat.gcd_comm a b, Nat.gcd_rec b a, Nat.gcd_comm]
theorem gcd_m (μ : Mem) : ∀ k a b f, a < 2 ^ 63 → b < 2 ^ k → k ≤ 62 → X11_gcd_L6 μ (f + 2 * k + 1) (lN a) (lN b) = some (lN (Nat.gcd a b), lN 0)
  | 0, a, b, f, ha, hb, hk => by
    have e : b = 0 := by omega
    subst e
    show X11_gcd_L6 μ (f + 0 + 1) (lN a) (lN 0) = _
    rw [X11_gcd_L6, if_pos (by rw [lN_iz (by decide)]), Nat.gcd_zero_right]
  | k + 1, a, b, f, ha, hb, hk => by
    have hp : 2 ^ (k + 1) ≤ 2 ^ 62 := Nat.pow_le_pow_right (by decide) hk
    rw [show f + 2 * (k + 1) + 1 = f + 2 * k + 2 + 1 by omega, X11_gcd_L6]
    by_cases q : b = 0
    · subst q
      rw [if_pos (by rw [lN_iz (by decide)]), Nat.gcd_zero_right]
    · rw [if_neg (by rw [lN_iz (by omega)]; exact q), rmJ_eq ha (by omega) (by omega), Option.bind_some, ← gcd_st a b]
      have hr := Nat.mod_lt a (show 0 < b by omega)
      generalize a % b = r at hr ⊢
      rw [show f + 2 * k + 2 = f + 2 * k + 1 + 1 by omega, X11_gcd_L6]
      by_cases q2 : r = 0
      · subst q2
        rw [if_pos (by rw [lN_iz (by decide)]), Nat.gcd_zero_right]
      · have hh := half (show 0 < r by omega) hr
        have hp2 : 2 ^ (k + 1) = 2 * 2 ^ k := by rw [Nat.pow_succ]; omega
        rw [if_neg (by rw [lN_iz (by omega)]; exact q2), rmJ_eq (by omega) (by omega) (by omega), Option.bind_some, ← gcd_st b r]
        exact gcd_m μ k r (b % r) f (by omega) (by omega) (by omega)
theorem gcd_c (μ : Mem) : ∀ k a b f c, a < 2 ^ 63 → b < 2 ^ k → k ≤ 62 → c + 2 * k < 200 → ∃ x, X10_commonPart_L9 μ (f + 2 * k + 1) (lN a) (lN b) (nI c) = some (lN (Nat.gcd a b), lN 0, x)
  | 0, a, b, f, c, ha, hb, hk, hc => by
    have e : b = 0 := by omega
    subst e
    show ∃ x, X10_commonPart_L9 μ (f + 0 + 1) (lN a) (lN 0) (nI c) = _
    rw [X10_commonPart_L9, if_neg (show ¬ (200 : Int32) ≤ _ from nI_ge (b := 200) (by omega) (by decide)), if_pos (by rw [lN_iz (by decide)]), Nat.gcd_zero_right]
    exact ⟨_, rfl⟩
  | k + 1, a, b, f, c, ha, hb, hk, hc => by
    have hp : 2 ^ (k + 1) ≤ 2 ^ 62 := Nat.pow_le_pow_right (by decide) hk
    rw [show f + 2 * (k + 1) + 1 = f + 2 * k + 2 + 1 by omega, X10_commonPart_L9, if_neg (show ¬ (200 : Int32) ≤ _ from nI_ge (b := 200) (by omega) (by decide))]
    by_cases q : b = 0
    · subst q
      rw [if_pos (by rw [lN_iz (by decide)]), Nat.gcd_zero_right]
      exact ⟨_, rfl⟩
    · rw [if_neg (by rw [lN_iz (by omega)]; exact q), rmJ_eq ha (by omega) (by omega), Option.bind_some, ← gcd_st a b]
      have hr := Nat.mod_lt a (show 0 < b by omega)
      generalize a % b = r at hr ⊢
      rw [show f + 2 * k + 2 = f + 2 * k + 1 + 1 by omega, X10_commonPart_L9, nI_add1, if_neg (show ¬ (200 : Int32) ≤ _ from nI_ge (b := 200) (by omega) (by decide))]
      by_cases q2 : r = 0
      · subst q2
        rw [if_pos (by rw [lN_iz (by decide)]), Nat.gcd_zero_right]
        exact ⟨_, rfl⟩
      · have hh := half (show 0 < r by omega) hr
        have hp2 : 2 ^ (k + 1) = 2 * 2 ^ k := by rw [Nat.pow_succ]; omega
        rw [if_neg (by rw [lN_iz (by omega)]; exact q2), rmJ_eq (by omega) (by omega) (by omega), Option.bind_some, ← gcd_st b r, nI_add1]
        exact gcd_c μ k r (b % r) f (c + 1 + 1) (by omega) (by omega) (by omega) (by omega)
theorem p_learnt (x1 x2 x3 : Int32) : PairV (X10_learnt 0 x1 x2 x3) (X11_learnt 134 x1 x2 x3) := by
  intro μ ⟨o, W, hC, hT, hS, hX, hL⟩
  have hc := hS.1.2.2
  unfold X10_learnt X11_learnt
  rcases gd x1 3 (by decide) with ⟨g1, k1⟩ | ⟨g1, k1, a, ha, rfl⟩
  · rw [if_pos (show X10_isWay x1 = 0 from g1), if_pos (show X11_isWay x1 = 0 from k1)]
    exact ⟨_, rfl, rfl⟩
  rw [if_neg (show ¬ X10_isWay (nI a) = 0 from g1), if_neg (show ¬ X11_isWay (nI a) = 0 from k1)]
  rcases gd x2 3 (by decide) with ⟨g2, k2⟩ | ⟨g2, k2, b, hb, rfl⟩
  · rw [if_pos (show X10_isWay x2 = 0 from g2), if_pos (show X11_isWay x2 = 0 from k2)]
    exact ⟨_, rfl, rfl⟩
  rw [if_neg (show ¬ X10_isWay (nI b) = 0 from g2), if_neg (show ¬ X11_isWay (nI b) = 0 from k2)]
  by_cases qab : nI a = nI b
  · rw [if_pos qab, if_pos qab]
    exact ⟨_, rfl, rfl⟩
  rw [if_neg qab, if_neg qab]
  rcases gd x3 5 (by decide) with ⟨g3, k3⟩ | ⟨g3, k3, w, hw, rfl⟩
  · rw [if_pos (show X10_within x3 0 5 = 0 from g3), if_pos (show X11_in x3.toInt64 0 5 = 0 from k3)]
    exact ⟨_, rfl, rfl⟩
  rw [if_neg (show ¬ X10_within (nI w) 0 5 = 0 from g3), if_neg (show ¬ X11_in (nI w).toInt64 0 5 = 0 from k3)]
  simp only [r_0_2 o, vo_37 o, vo_134 o, Option.bind_some, outc_c o hS (show a < 4 by omega), outc_c o hS (show b < 4 by omega), look_c o hS (show a < 4 by omega), look_c o hS (show b < 4 by omega), cameO_m o hS (show a < 4 by omega), cameO_m o hS (show b < 4 by omega), cameL_m o hS (show a < 4 by omega), cameL_m o hS (show b < 4 by omega)]
  have hm := cnO_le μ a (sc μ)
  have hn := cnO_le μ b (sc μ)
  have hx := cnL_le μ a (sc μ)
  have hy := cnL_le μ b (sc μ)
  generalize cnO μ a (sc μ) = m at *
  generalize cnO μ b (sc μ) = n at *
  generalize cnL μ a (sc μ) = x at *
  generalize cnL μ b (sc μ) = y at *
  have big : ∀ z : Int32, ¬ nI m + nI n ≤ 30 ∨ (m + n ≤ 30 ∧ nI m + nI n ≤ 30) := fun _ => by
    rw [nI_add]
    by_cases q : m + n ≤ 30
    · exact Or.inr ⟨q, nI_le (b := 30) q (by decide)⟩
    · exact Or.inl (nI_ge (a := 30) (by omega) (by omega))
  have fin : m + n ≤ 30 → ∃ A S g : Nat, A = fM (m + n) (x + y) ∧ S = smS m n (x + y) x (m + 1 - x) ∧ g = Nat.gcd S A ∧ 0 < g ∧ g < 2 ^ 63 ∧ A < 2 ^ 63 ∧ S < 2 ^ 63 ∧ X10_choose (nI m + nI n) (nI x + nI y) μ = some (lN A) ∧ X11_choose (nI m + nI n) (nI x + nI y) μ = some (lN A) ∧ (∀ z, X10_chance_L17 (nI x) (nI m) (nI y) (nI n) z (lN A) μ FU 0 (nI x) = some (lN S, nI (m + 1))) ∧ (∀ z, X11_learnt_L125 z (nI x) (nI m) (nI y) (nI n) μ FU 0 (nI x) = some (lN S, nI (m + 1))) ∧ X10_commonPart (lN S) (lN A) μ = some (lN g) ∧ X11_gcd (lN S) (lN A) μ = some (lN g) := fun q => by
    have h1 := fCM (m + n) (by omega) (x + y) (by omega) (by omega)
    have h2 := smS_le q hx hy (m + 1 - x) (by omega)
    have h3 : (m + 1 - x) * 2 ^ 56 ≤ 31 * 2 ^ 56 := Nat.mul_le_mul (by omega) (Nat.le_refl _)
    have h4 : Nat.gcd (smS m n (x + y) x (m + 1 - x)) (fM (m + n) (x + y)) ≤ fM (m + n) (x + y) := Nat.gcd_le_right _ h1.2.1
    refine ⟨_, _, _, rfl, rfl, rfl, Nat.gcd_pos_of_pos_right _ h1.2.1, by omega, by omega, by omega, ?_, ?_, fun z => sum_c q hx hy z _ μ, fun z => sum_m q hx hy z μ, ?_, ?_⟩
    · rw [nI_add, nI_add, ch_c (by omega) (by omega)]
    · rw [nI_add, nI_add, ch_m (by omega) (by omega)]
    · unfold X10_commonPart
      obtain ⟨z, e⟩ := gcd_c μ 28 (smS m n (x + y) x (m + 1 - x)) (fM (m + n) (x + y)) (99999 - 56) 0 (by omega) h1.2.2 (by decide) (by decide)
      rw [show X10_commonPart_L9 μ FU (lN (smS m n (x + y) x (m + 1 - x))) (lN (fM (m + n) (x + y))) 0 = _ from e, Option.bind_some]
    · unfold X11_gcd
      have e := gcd_m μ 28 (smS m n (x + y) x (m + 1 - x)) (fM (m + n) (x + y)) (99999 - 56) (by omega) h1.2.2 (by decide)
      rw [show X11_gcd_L6 μ FU (lN (smS m n (x + y) x (m + 1 - x))) (lN (fM (m + n) (x + y))) = _ from e, Option.bind_some]
  have w4 : ∀ v, v = 4 ∨ v = 5 → w = v → ∃ r, ((((if nI m + nI n ≤ 30 then (some (if nI w = 4 then 1 else 0 : Int32)).bind fun v23 => (X10_chance (nI x) (nI m) (nI y) (nI n) v23 μ).bind fun v24 => some v24 else some (-1003)) : Option Int32)).bind fun z25 => some z25) = some r ∧ (if nI m + nI n ≤ 30 then (X11_learnt_L125 (nI w) (nI x) (nI m) (nI y) (nI n) μ FU 0 (nI x)).bind fun z15 => (X11_choose (nI m + nI n) (nI x + nI y) μ).bind fun v16 => (X11_gcd z15.1 v16 μ).bind fun v17 => (((if nI w = 4 then (dvJ z15.1 v17).bind fun v20 => some v20 else (dvJ v16 v17).bind fun v19 => some v19) : Option Int64)).bind fun z21 => some z21.toInt32 else some (-1003)) = some r := by
    intro v hv hwv
    rcases big 0 with q | ⟨q, q2⟩
    · rw [if_neg q, if_neg q]
      exact ⟨_, rfl, rfl⟩
    · obtain ⟨A, S, g, -, -, -, g0, gb, Ab, Sb, e1, e2, e3, e4, e5, e6⟩ := fin q
      rw [if_pos q2, if_pos q2, Option.bind_some, e4, Option.bind_some, e2, Option.bind_some, e6, Option.bind_some]
      unfold X10_chance
      rw [e1, Option.bind_some, e3, Option.bind_some, e5, Option.bind_some, if_pos (by rw [lN_pos gb]; exact g0), Option.bind_some]
      rcases hv with rfl | rfl
      · subst hwv
        rw [if_pos (show nI 4 = 4 from rfl), if_neg (by decide), if_pos (show nI 4 = 4 from rfl), dvJ_eq Sb g0 gb]
        exact ⟨_, rfl, rfl⟩
      · subst hwv
        rw [if_neg (show ¬ nI 5 = 4 by decide), if_pos rfl, if_neg (show ¬ nI 5 = 4 by decide), dvJ_eq Ab g0 gb]
        exact ⟨_, rfl, rfl⟩
  rcases (show w = 0 ∨ w = 1 ∨ w = 2 ∨ w = 3 ∨ w = 4 ∨ w = 5 by omega) with rfl | rfl | rfl | rfl | rfl | rfl
  · exact ⟨_, rfl, rfl⟩
  · exact ⟨_, rfl, rfl⟩
  · exact ⟨_, rfl, rfl⟩
  · exact ⟨_, rfl, rfl⟩
  · exact w4 4 (Or.inl rfl) rfl
  · exact w4 5 (Or.inr rfl) rfl
end
section
/-! ===== feed ===== -/
def byt (j : Int64) (i : Nat) : Int32 := (((j.toUInt64 >>> ((8 * nI i).toInt64.toUInt64 &&& Int64.toUInt64 63)).toInt64).toInt32) &&& 255
theorem hs1 : ∀ i, i < 8 → ((8 * nI i).toInt64.toUInt64 &&& Int64.toUInt64 63).toBitVec % 64 = BitVec.ofNat 64 (8 * i) := by decide +kernel
theorem hs2 : ∀ i, i < 8 → (((8 * nI i).toInt64 &&& 63).toBitVec.smod 64).toNat = 8 * i := by decide +kernel
theorem m32 : ∀ k, k < 32 → (255#32).getLsbD k = decide (k < 8) := by decide +kernel
theorem m64 : ∀ k, k < 32 → (255#64).getLsbD k = decide (k < 8) := by decide +kernel
theorem bytEq (j : Int64) {i : Nat} (hi : i < 8) : ((j >>> ((8 * nI i).toInt64 &&& 63)) &&& 255).toInt32 = byt j i := by
  apply Int32.toBitVec_inj.1
  apply BitVec.eq_of_getLsbD_eq
  intro k hk
  unfold byt
  have e1 : (((j.toUInt64 >>> ((8 * nI i).toInt64.toUInt64 &&& Int64.toUInt64 63)).toInt64).toInt32 &&& 255).toBitVec = ((j.toBitVec >>> (((8 * nI i).toInt64.toUInt64 &&& Int64.toUInt64 63).toBitVec % 64)).signExtend 32) &&& 255#32 := rfl
  have e2 : ((j >>> ((8 * nI i).toInt64 &&& 63)) &&& 255).toInt32.toBitVec = ((j.toBitVec.sshiftRight ((((8 * nI i).toInt64 &&& 63).toBitVec.smod 64).toNat)) &&& 255#64).signExtend 32 := rfl
  rw [e1, e2, hs1 i hi, hs2 i hi]
  rw [BitVec.getLsbD_signExtend, BitVec.getLsbD_and, BitVec.getLsbD_and, BitVec.getLsbD_signExtend, m32 k hk, m64 k hk, BitVec.getLsbD_sshiftRight]
  have e3 : (j.toBitVec >>> BitVec.ofNat 64 (8 * i)).getLsbD k = j.toBitVec.getLsbD (8 * i + k) := by
    have e4 : j.toBitVec >>> BitVec.ofNat 64 (8 * i) = j.toBitVec >>> (8 * i) := by
      show j.toBitVec >>> (BitVec.ofNat 64 (8 * i)).toNat = _
      rw [BitVec.toNat_ofNat, Nat.mod_eq_of_lt (by omega)]
    rw [e4, BitVec.getLsbD_ushiftRight]
  rw [e3]
  by_cases q : k < 8
  · have q1 : k < 64 := by omega
    have q2 : 8 * i + k < 64 := by omega
    have q3 : ¬ 64 ≤ k := by omega
    simp only [q, q1, q2, q3, hk, decide_true, decide_false, if_true, Bool.not_false, Bool.true_and, Bool.and_true]
  · simp only [q, decide_false, Bool.and_false, ite_self]
    by_cases q1 : k < 64
    · simp only [q1, if_true, Bool.and_false]
    · omega
theorem byt_le (j : Int64) (i : Nat) : ∃ b, b ≤ 255 ∧ byt j i = nI b := by
  unfold byt
  refine ⟨_, ?_, pk_and _ 8 (by decide)⟩
  have := Nat.mod_lt ((((j.toUInt64 >>> ((8 * nI i).toInt64.toUInt64 &&& Int64.toUInt64 63)).toInt64).toInt32).toBitVec.toNat) (show 0 < 2 ^ 8 by decide)
  omega
theorem feed_c (j : Int64) : ∀ r k μ L, Ok μ → mI μ 90 0 = nI L → L + r ≤ 160 → r ≤ 8 → ∃ μ', (Ok μ' ∧ mI μ' 90 0 = nI (L + r) ∧ (∀ i, i < r → mI μ' 91 (L + i) = byt j (r - 1 - i)) ∧ (∀ a k, ¬ (a = 91 ∧ L ≤ k ∧ k < L + r) → ¬ (a = 90 ∧ k = 0) → mI μ' a k = mI μ a k) ∧ mR μ' = mR μ) ∧ X10_feed_L38 0 j (k + r + 1) (nI r + (-1)) μ = some (-1, μ')
  | 0, k, μ, L, o, hL, hb, h8 => by
    refine ⟨μ, ⟨o, hL, fun i hi => absurd hi (by omega), fun _ _ _ _ => rfl, rfl⟩, ?_⟩
    rw [X10_feed_L38, if_pos (by decide)]
    rfl
  | r + 1, k, μ, L, o, hL, hb, h8 => by
    have o1 : Ok (wI (wI μ 91 L (byt j r)) 90 0 (nI (L + 1))) := o
    obtain ⟨μ', ⟨q1, q2, q3, q4, q5⟩, e⟩ := feed_c j r k (wI (wI μ 91 L (byt j r)) 90 0 (nI (L + 1))) (L + 1) o fld_eq (by omega) (by omega)
    have ha : X2_append 90 (byt j r) μ = some (wI (wI μ 91 L (byt j r)) 90 0 (nI (L + 1))) := by
      unfold X2_append
      rw [gi_90 o, hL, Option.bind_some, if_neg (show ¬ (160 : Int32) ≤ _ from nI_ge (b := 160) (by omega) (by decide)), r_90_3 o, Option.bind_some, Option.bind_some, si_91 o (by omega), Option.bind_some, gi_90 o.wI, row_ne (by omega), hL, Option.bind_some, pi_90 o.wI, Option.bind_some, Option.bind_some, nI_add1]
    refine ⟨μ', ⟨q1, by rw [q2, show L + 1 + r = L + (r + 1) by omega], fun i hi => ?_, fun a k2 h1 h2 => ?_, by rw [q5]; rfl⟩, ?_⟩
    · by_cases z : i = 0
      · subst z
        rw [q4 91 (L + 0) (by omega) (by omega), fld_ne (by omega)]
        exact fld_eq
      · rw [show L + i = L + 1 + (i - 1) by omega, q3 (i - 1) (by omega), show r - 1 - (i - 1) = r + 1 - 1 - i by omega]
    · rw [q4 a k2 (by omega) h2, fld_ne h2, fld_ne (by omega)]
    · rw [show k + (r + 1) + 1 = k + r + 1 + 1 by omega, X10_feed_L38, pk_m1, if_neg (nI_pos (by omega)), r_0_3 o, Option.bind_some, vo_90 o, Option.bind_some]
      rw [show X2_append 90 ((((j.toUInt64 >>> ((8 * nI r).toInt64.toUInt64 &&& Int64.toUInt64 63)).toInt64).toInt32) &&& 255) μ = _ from ha, Option.bind_some]
      exact e
theorem feed_m (j : Int64) : ∀ r k μ L, Ok μ → mI μ 134 34 = nI L → L + r ≤ 160 → r ≤ 8 → ∃ μ', (Ok μ' ∧ mI μ' 134 34 = nI (L + r) ∧ (∀ i, i < r → mI μ' 165 (L + i) = byt j (r - 1 - i)) ∧ (∀ a k, ¬ (a = 165 ∧ L ≤ k ∧ k < L + r) → ¬ (a = 134 ∧ k = 34) → mI μ' a k = mI μ a k) ∧ mR μ' = mR μ) ∧ X11_feed_L37 134 j (k + r + 1) (nI r + (-1)) μ = some (-1, μ')
  | 0, k, μ, L, o, hL, hb, h8 => by
    refine ⟨μ, ⟨o, hL, fun i hi => absurd hi (by omega), fun _ _ _ _ => rfl, rfl⟩, ?_⟩
    rw [X11_feed_L37, if_pos (by decide)]
    rfl
  | r + 1, k, μ, L, o, hL, hb, h8 => by
    obtain ⟨μ', ⟨q1, q2, q3, q4, q5⟩, e⟩ := feed_m j r k (wI (wI μ 165 L (byt j r)) 134 34 (nI (L + 1))) (L + 1) o fld_eq (by omega) (by omega)
    refine ⟨μ', ⟨q1, by rw [q2, show L + 1 + r = L + (r + 1) by omega], fun i hi => ?_, fun a k2 h1 h2 => ?_, by rw [q5]; rfl⟩, ?_⟩
    · by_cases z : i = 0
      · subst z
        rw [q4 165 (L + 0) (by omega) (by omega), fld_ne (by omega)]
        exact fld_eq
      · rw [show L + i = L + 1 + (i - 1) by omega, q3 (i - 1) (by omega), show r - 1 - (i - 1) = r + 1 - 1 - i by omega]
    · rw [q4 a k2 (by omega) h2, fld_ne h2, fld_ne (by omega)]
    · rw [show k + (r + 1) + 1 = k + r + 1 + 1 by omega, X11_feed_L37, pk_m1, if_neg (nI_pos (by omega)), r_134_33 o, Option.bind_some, gi_134 o, hL, Option.bind_some, bytEq j (by omega), si_165 o (by omega), Option.bind_some, gi_134 o.wI, row_ne (by omega), hL, Option.bind_some, pi_134 o.wI, Option.bind_some, nI_add1]
      exact e
/-- the other parts of the invariant, where only the text is written -/
theorem Inv.setX {μ μ' : Mem} (h : Inv μ) (o : Ok μ') (eR : mR μ' 92 = mR μ 92) (e : ∀ a k, a ≠ 91 → a ≠ 165 → ¬ (a = 90 ∧ k = 0) → ¬ (a = 134 ∧ k = 34) → mI μ' a k = mI μ a k) (X : RelX μ') : Inv μ' := by
  obtain ⟨o0, ⟨w1, w2, w3, w4, w5, w6⟩, hC, hT, hS, hX, hL⟩ := h
  have er : ∀ a, a ≠ 91 → a ≠ 165 → a ≠ 90 → a ≠ 134 → mI μ' a = mI μ a := fun a q1 q2 q3 q4 => funext fun k => e a k q1 q2 (fun z => q3 z.1) (fun z => q4 z.1)
  exact ⟨o, ⟨w1.cg (fun q hq => er _ (by omega) (by omega) (by omega) (by omega)) (er _ (by omega) (by omega) (by omega) (by omega)), w2.cg (fun q hq => er _ (by omega) (by omega) (by omega) (by omega)) (er _ (by omega) (by omega) (by omega) (by omega)), w3.cg (er _ (by omega) (by omega) (by omega) (by omega)) (er _ (by omega) (by omega) (by omega) (by omega)), w4.cg (e _ _ (by omega) (by omega) (by omega) (by omega)) (e _ _ (by omega) (by omega) (by omega) (by omega)), w5.cg (fun q hq => er _ (by omega) (by omega) (by omega) (by omega)) (er _ (by omega) (by omega) (by omega) (by omega)), w6.cg (e _ _ (by omega) (by omega) (by omega) (by omega)) (e _ _ (by omega) (by omega) (by omega) (by omega))⟩, hC.cg (fun q hq => er _ (by omega) (by omega) (by omega) (by omega)) (er _ (by omega) (by omega) (by omega) (by omega)) (er _ (by omega) (by omega) (by omega) (by omega)) (er _ (by omega) (by omega) (by omega) (by omega)), hT.cg (e _ _ (by omega) (by omega) (by omega) (by omega)) (e _ _ (by omega) (by omega) (by omega) (by omega)) (fun q hq => er _ (by omega) (by omega) (by omega) (by omega)) (fun q hq => er _ (by omega) (by omega) (by omega) (by omega)) (nw_le (e _ _ (by omega) (by omega) (by omega) (by omega))), hS.cg (e _ _ (by omega) (by omega) (by omega) (by omega)) (e _ _ (by omega) (by omega) (by omega) (by omega)) (fun q hq => er _ (by omega) (by omega) (by omega) (by omega)) (fun q hq => er _ (by omega) (by omega) (by omega) (by omega)) (nw_le (e _ _ (by omega) (by omega) (by omega) (by omega))), X, hL.cg o0 eR (fun l c hl hc => er _ (by unfold isLw at hl; omega) (by unfold isLw at hl; omega) (by unfold isLw at hl; omega) (by unfold isLw at hl; omega)) (fun c hc => er _ (by omega) (by omega) (by omega) (by omega))⟩
theorem p_feed (x1 : Int32) (j : Int64) : Pair (X10_feed 0 x1 j) (X11_feed 134 x1 j) := by
  intro μ h
  have h0 := h
  obtain ⟨o, W, hC, hT, hS, hX, hL⟩ := h
  have hl := hX.1.2.2
  have e0 : X11_in x1.toInt64 1 8 = X10_within x1 1 8 := in_eq x1 1 8
  by_cases g0 : X10_within x1 1 8 = 0
  · exact pairR h0 (r := -1002) (by unfold X10_feed; rw [if_pos g0]) (by unfold X11_feed; rw [e0, if_pos g0])
  obtain ⟨n, n1, n8, rfl⟩ := win2 (a := 1) (b := 8) (by decide) (by decide) g0
  by_cases q : tl μ + n ≤ 160
  · have c : nI (tl μ) + nI n ≤ 160 := by
      rw [nI_add]
      exact nI_le (b := 160) q (by decide)
    have en : nI n - 1 = nI n + (-1) := Int32.sub_eq_add_neg ..
    obtain ⟨μ1, ⟨o1, a1, b1, c1, d1⟩, e1⟩ := feed_c j n (99999 - n) μ (tl μ) o hX.1.1 q n8
    have t1 : mI μ1 134 34 = nI (tl μ) := by
      rw [c1 _ _ (by omega) (by omega)]
      exact hX.1.2.1
    obtain ⟨μ2, ⟨o2, a2, b2, c2, d2⟩, e2⟩ := feed_m j n (99999 - n) μ1 (tl μ) o1 t1 q n8
    rw [show 99999 - n + n + 1 = FU by unfold FU; omega] at e1 e2
    refine ⟨nI (tl μ + n), μ1, μ2, ?_, o1, ?_, ?_⟩
    · unfold X10_feed
      rw [if_neg g0, r_0_3 o, Option.bind_some, gi_90 o, hX.1.1, Option.bind_some, if_pos c, Option.bind_some, en, e1, Option.bind_some, r_0_3 o1, Option.bind_some, gi_90 o1, a1, Option.bind_some]
    · unfold X11_feed
      rw [e0, if_neg g0, gi_134 o1, t1, Option.bind_some, if_pos c, Option.bind_some, en, e2, Option.bind_some, gi_134 o2, a2, Option.bind_some]
    · have et : tl μ2 = tl μ + n := by
        unfold tl
        rw [a2, vN_nI]
        · rfl
        · show tl μ + n < 2 ^ 31
          omega
      refine h0.setX o2 (by rw [d2, d1]) (fun a k q1 q2 q3 q4 => by rw [c2 a k (by omega) q4, c1 a k (by omega) q3]) ⟨?_, fun k hk => ?_, ?_⟩
      · rw [et]
        exact ⟨(c2 90 0 (by omega) (by omega)).trans a1, a2, q⟩
      · by_cases z : tl μ ≤ k ∧ k < tl μ + n
        · obtain ⟨i, rfl⟩ : ∃ i, k = tl μ + i := ⟨k - tl μ, by omega⟩
          obtain ⟨b, hb, eb⟩ := byt_le j (n - 1 - i)
          have x1 := b1 i (by omega)
          have x2 := b2 i (by omega)
          have ex : tx μ2 (tl μ + i) = b := by
            unfold tx
            rw [x2, eb, vN_nI (by omega)]
          rw [ex, c2 91 _ (by omega) (by omega), x1, x2]
          exact ⟨eb, eb, hb⟩
        · have ex : tx μ2 k = tx μ k := by
            unfold tx
            rw [c2 165 k (by omega) (by omega), c1 165 k (by omega) (by omega)]
          rw [ex, c2 91 k (by omega) (by omega), c1 91 k (by omega) (by omega), c2 165 k (by omega) (by omega), c1 165 k (by omega) (by omega)]
          exact hX.2.1 k hk
      · rw [c2 90 2 (by omega) (by omega), c1 90 2 (by omega) (by omega), c2 134 35 (by omega) (by omega), c1 134 35 (by omega) (by omega)]
        exact hX.2.2
  · have c : ¬ nI (tl μ) + nI n ≤ 160 := by
      rw [nI_add]
      exact nI_ge (a := 160) (by omega) (by omega)
    exact pairR h0 (r := -1004) (by unfold X10_feed; rw [if_neg g0, r_0_3 o, Option.bind_some, gi_90 o, hX.1.1, Option.bind_some, if_neg c]) (by unfold X11_feed; rw [e0, if_neg g0, gi_134 o, hX.1.2.1, Option.bind_some, if_neg c])
end
section
/-! ===== who ===== -/
def hP (μ : Mem) (t : Nat) : Nat → Nat
  | 0 => 0
  | n + 1 => if bt (nI (sv μ 1 n)) t = 0 then hP μ t n else hP μ t n ||| 2 ^ sv μ 0 n
theorem hP_lt {μ : Mem} (S : RelS μ) (t : Nat) : ∀ n, n ≤ 40 → hP μ t n < 16
  | 0, _ => (by decide : (0 : Nat) < 16)
  | n + 1, h => by
    have ih := hP_lt S t n (by omega)
    have b0 : sv μ 0 n ≤ 3 := (S.2.1 0 n (by decide) (by omega)).2.2
    rw [hP]
    split
    · exact ih
    · exact (or16 _ ih _ (by omega)).2
theorem hP_sm {μ μ' : Mem} (s : Sm μ μ') (t : Nat) : ∀ n, hP μ' t n = hP μ t n
  | 0 => rfl
  | n + 1 => by rw [hP, hP, hP_sm s t n, sv_sm s (by decide), sv_sm s (by decide)]
theorem had_c {μ : Mem} (h : Ok μ) (S : RelS μ) (t : Nat) : X0_personsWith 37 (nI t) μ = some (nI (hP μ t (sc μ))) := by
  have hc := S.1.2.2
  obtain ⟨a, P, e⟩ := loopF (F := fun k (a : Nat) i => X0_personsWith_L4 37 (nI t) μ k (nI a) (nI i)) (P := fun i a => a = hP μ t i) (n := sc μ) (r := fun a => (nI a, nI (sc μ))) (by omega) (fun k a i hi P => by
    subst P
    have i40 : i < 40 := by omega
    have f1 := (S.2.1 1 i (by decide) i40).1
    have f0 := (S.2.1 0 i (by decide) i40).1
    have b0 : sv μ 0 i ≤ 3 := (S.2.1 0 i (by decide) i40).2.2
    refine ⟨_, rfl, ?_⟩
    show X0_personsWith_L4 37 (nI t) μ (k + 1) (nI (hP μ t i)) (nI i) = X0_personsWith_L4 37 (nI t) μ k (nI (hP μ t (i + 1))) (nI (i + 1))
    rw [X0_personsWith_L4, gi_37 h, S.1.1, Option.bind_some, if_neg (nI_ge hi (by omega)), hP]
    simp only [r_37_1 h, ar_sayings h i40, gi_S h i40, f0, f1, Option.bind_some, nI_add1, has_z, (or16 _ (hP_lt S t i (by omega)) _ (show sv μ 0 i < 4 by omega)).1]
    by_cases q : bt (nI (sv μ 1 i)) t = 0
    · rw [if_pos q, if_pos q]
      rfl
    · rw [if_neg q, if_neg q]
      rfl) (fun k a P => by
    show X0_personsWith_L4 37 (nI t) μ (k + 1) (nI a) (nI (sc μ)) = _
    rw [X0_personsWith_L4, gi_37 h, S.1.1, Option.bind_some, if_pos (nI_le (Nat.le_refl _) (by omega))]) 0 rfl
  subst P
  have e : X0_personsWith_L4 37 (nI t) μ FU 0 0 = _ := e
  unfold X0_personsWith
  rw [e, Option.bind_some]
theorem had_m {μ : Mem} (h : Ok μ) (S : RelS μ) (t : Nat) (x2 : Int32) : X11_who_L31 134 (nI t) x2 μ FU 0 0 = some (nI (hP μ t (sc μ)), nI (sc μ)) := by
  have hc := S.1.2.2
  obtain ⟨a, P, e⟩ := loopF (F := fun k (a : Nat) i => X11_who_L31 134 (nI t) x2 μ k (nI a) (nI i)) (P := fun i a => a = hP μ t i) (n := sc μ) (r := fun a => (nI a, nI (sc μ))) (by omega) (fun k a i hi P => by
    subst P
    have i40 : i < 40 := by omega
    have f1 : mI μ 171 i = _ := (S.2.1 1 i (by decide) i40).2.1
    have f0 : mI μ 170 i = _ := (S.2.1 0 i (by decide) i40).2.1
    have b0 : sv μ 0 i ≤ 3 := (S.2.1 0 i (by decide) i40).2.2
    refine ⟨_, rfl, ?_⟩
    show X11_who_L31 134 (nI t) x2 μ (k + 1) (nI (hP μ t i)) (nI i) = X11_who_L31 134 (nI t) x2 μ k (nI (hP μ t (i + 1))) (nI (i + 1))
    rw [X11_who_L31, gi_134 h, S.1.2.1, Option.bind_some, if_neg (nI_ge hi (by omega)), hP]
    simp only [r_134_47 h, r_134_46 h, ai_171 h i40, ai_170 h i40, f0, f1, Option.bind_some, nI_add1, bt_1]
    by_cases q : bt (nI (sv μ 1 i)) t = 0
    · rw [if_neg (by omega), if_pos q, Option.bind_some, Int32.or_zero]
    · rw [if_pos (by have := bt_le (nI (sv μ 1 i)) t; omega), if_neg q, Option.bind_some, (or16 _ (hP_lt S t i (by omega)) _ (show sv μ 0 i < 4 by omega)).1]) (fun k a P => by
    show X11_who_L31 134 (nI t) x2 μ (k + 1) (nI a) (nI (sc μ)) = _
    rw [X11_who_L31, gi_134 h, S.1.2.1, Option.bind_some, if_pos (nI_le (Nat.le_refl _) (by omega))]) 0 rfl
  subst P
  exact e
def wF (μ : Mem) (can : Int32) (p : Nat) (a : Int32 × Int32) : Int32 × Int32 := if bt can p = 0 then a else if nI (sS μ (odd μ p (nw μ) 0)) ≤ a.2 then a else (nI p, nI (sS μ (odd μ p (nw μ) 0)))
def wA (μ : Mem) (can : Int32) : Nat → Int32 × Int32
  | 0 => (-1, -1)
  | n + 1 => wF μ can n (wA μ can n)
theorem sS_odd_sm {μ μ' : Mem} (s : Sm μ μ') (p t k : Nat) : sS μ' (odd μ' p t k) = sS μ (odd μ p t k) := by rw [sS_sm s, show odd μ' p t k = odd μ p t k from funext (odd_sm s p t k)]
theorem wA_sm {μ μ' : Mem} (s : Sm μ μ') (can : Int32) : ∀ n, wA μ' can n = wA μ can n
  | 0 => rfl
  | n + 1 => by
    rw [wA, wA, wA_sm s can n]
    unfold wF
    rw [nw_sm s, sS_odd_sm s]
theorem wA_ge (μ : Mem) (can : Int32) : ∀ n, -1 ≤ (wA μ can n).2
  | 0 => (by decide : (-1 : Int32) ≤ -1)
  | n + 1 => by
    have ih := wA_ge μ can n
    rw [wA]
    unfold wF
    split
    · exact ih
    · split
      · exact ih
      · show -1 ≤ nI (sS μ (odd μ n (nw μ) 0))
        have b : sS μ (odd μ n (nw μ) 0) ≤ 1000000 := sS_le
        rw [Int32.le_iff_toInt_le, nI_toInt (by omega)]
        have : (-1 : Int32).toInt = -1 := rfl
        omega
theorem who_c {μ : Mem} (h : Ok μ) (W : RelW μ) (can : Int32) : ∃ μ', Sm μ μ' ∧ X10_who_L68 0 can FU (-1) (-1) 0 μ = some ((wA μ can 4).1, (wA μ can 4).2, nI 4, μ') := by
  obtain ⟨a, ⟨P1, P2⟩, e⟩ := loopF (F := fun k (a : (Int32 × Int32) × Mem) i => X10_who_L68 0 can k a.1.1 a.1.2 (nI i) a.2) (P := fun i a => a.1 = wA μ can i ∧ Sm μ a.2) (n := 4) (r := fun a => (a.1.1, a.1.2, nI 4, a.2)) (by decide) (fun k a i hi P => by
    obtain ⟨b, μa⟩ := a
    obtain ⟨rfl, s⟩ : b = wA μ can i ∧ Sm μ μa := P
    have oa := s.1
    have wa := (W.sm s).2.2.2.2.2
    have wn : nw μa = nw μ := nw_sm s
    have hn := wa.2.2
    show ∃ a', _ ∧ X10_who_L68 0 can (k + 1) (wA μ can i).1 (wA μ can i).2 (nI i) μa = _
    rw [X10_who_L68, if_neg (ge4 hi)]
    by_cases q : bt can i = 0
    · refine ⟨(wA μ can (i + 1), μa), ⟨rfl, s⟩, ?_⟩
      rw [if_pos (by rw [has_z]; exact q), Option.bind_some, nI_add1]
      show _ = X10_who_L68 0 can k (wA μ can (i + 1)).1 (wA μ can (i + 1)).2 (nI (i + 1)) μa
      rw [wA]
      unfold wF
      rw [if_pos q]
    · obtain ⟨c, ⟨sc', hc⟩, ec⟩ := look_ok oa (W.sm s) (p := i) (t := nw μa) (k := 0) (by omega) (by omega) (by omega)
      have se := seam_c sc'.1 ((W.sm s).sm sc') (s := 0) (by decide) (hc 0 (Nat.le_refl _))
      rw [sS_sm sc', sS_odd_sm s, wn] at se
      refine ⟨(wA μ can (i + 1), c), ⟨rfl, s.tr sc'⟩, ?_⟩
      rw [if_neg (by rw [has_z]; exact q), r_0_0 oa, Option.bind_some, gi_0 oa, wa.1, Option.bind_some, vo_1 oa, Option.bind_some, show (0 : Int32) = nI 0 from rfl, ec, Option.bind_some, r_0_0 sc'.1, Option.bind_some, vo_1 sc'.1, Option.bind_some, se, Option.bind_some, Option.bind_some, vo_1 sc'.1, Option.bind_some, se, Option.bind_some, nI_add1]
      show _ = X10_who_L68 0 can k (wA μ can (i + 1)).1 (wA μ can (i + 1)).2 (nI (i + 1)) c
      rw [wA]
      unfold wF
      rw [if_neg q]
      by_cases q2 : nI (sS μ (odd μ i (nw μ) 0)) ≤ (wA μ can i).2
      · rw [if_pos q2, if_pos q2, Option.bind_some]
      · rw [if_neg q2, if_neg q2, Option.bind_some]) (fun k a P => by
    show X10_who_L68 0 can (k + 1) a.1.1 a.1.2 (nI 4) a.2 = _
    rw [X10_who_L68, if_pos (by decide)]) ((-1, -1), μ) ⟨rfl, Sm.rf h⟩
  refine ⟨a.2, P2, ?_⟩
  rw [← P1]
  exact e
theorem who_m {μ : Mem} (h : Ok μ) (W : RelW μ) (can : Int32) : ∃ μ', Sm μ μ' ∧ X11_who_L111 134 can FU (-1) (-1) 0 μ = some ((wA μ can 4).1, (wA μ can 4).2, nI 4, μ') := by
  obtain ⟨a, ⟨P1, P2⟩, e⟩ := loopF (F := fun k (a : (Int32 × Int32) × Mem) i => X11_who_L111 134 can k a.1.1 a.1.2 (nI i) a.2) (P := fun i a => a.1 = wA μ can i ∧ Sm μ a.2) (n := 4) (r := fun a => (a.1.1, a.1.2, nI 4, a.2)) (by decide) (fun k a i hi P => by
    obtain ⟨b, μa⟩ := a
    obtain ⟨rfl, s⟩ : b = wA μ can i ∧ Sm μ μa := P
    have oa := s.1
    have wa := (W.sm s).2.2.2.2.2
    have wn : nw μa = nw μ := nw_sm s
    have hn := wa.2.2
    show ∃ a', _ ∧ X11_who_L111 134 can (k + 1) (wA μ can i).1 (wA μ can i).2 (nI i) μa = _
    rw [X11_who_L111, if_neg (ge4 hi)]
    by_cases q : bt can i = 0
    · refine ⟨(wA μ can (i + 1), μa), ⟨rfl, s⟩, ?_⟩
      rw [if_neg (by rw [bt_1]; omega), Option.bind_some, Option.bind_some, Option.bind_some, nI_add1, if_pos (wA_ge μ can i), if_pos (wA_ge μ can i)]
      show _ = X11_who_L111 134 can k (wA μ can (i + 1)).1 (wA μ can (i + 1)).2 (nI (i + 1)) μa
      rw [wA]
      unfold wF
      rw [if_pos q]
    · obtain ⟨c, ⟨sc', hc⟩, ec⟩ := mseam_ok oa (W.sm s) (p := i) (t := nw μa) (k := 0) (by omega) (by omega) (by omega)
      rw [sS_odd_sm s, wn] at ec
      refine ⟨(wA μ can (i + 1), c), ⟨rfl, s.tr sc'⟩, ?_⟩
      rw [if_pos (by rw [bt_1]; have := bt_le can i; omega), gi_134 oa, wa.2.1, wn, Option.bind_some, vo_134 oa, Option.bind_some, show (0 : Int32) = nI 0 from rfl, ec, Option.bind_some, Option.bind_some, Option.bind_some, Option.bind_some, nI_add1]
      show _ = X11_who_L111 134 can k (wA μ can (i + 1)).1 (wA μ can (i + 1)).2 (nI (i + 1)) c
      rw [wA]
      unfold wF
      rw [if_neg q]
      by_cases q2 : nI (sS μ (odd μ i (nw μ) 0)) ≤ (wA μ can i).2
      · rw [if_pos q2, if_pos q2, if_pos q2]
      · rw [if_neg q2, if_neg q2, if_neg q2]) (fun k a P => by
    show X11_who_L111 134 can (k + 1) a.1.1 a.1.2 (nI 4) a.2 = _
    rw [X11_who_L111, if_pos (by decide)]) ((-1, -1), μ) ⟨rfl, Sm.rf h⟩
  refine ⟨a.2, P2, ?_⟩
  rw [← P1]
  exact e
theorem isT_sm {μ μ' : Mem} (o : Ok μ) (s : Sm μ μ') (x : Int32) : X11_isThing 134 x μ' = X11_isThing 134 x μ := by
  unfold X11_isThing
  rw [gi_134 s.1, gi_134 o, s.fld (a := 134) (k := 12) rfl]
theorem p_who (x1 x2 : Int32) : Pair (X10_who 0 x1 x2) (X11_who 134 x1 x2) := by
  intro μ h
  have h0 := h
  obtain ⟨o, W, hC, hT, hS, hX, hL⟩ := h
  have hn := hT.1.2.2
  rcases gT o hT x1 with ⟨g1, k1⟩ | ⟨g1, k1, t, ht, rfl⟩
  · exact pairR h0 (r := -1001) (by unfold X10_who; simp only [r_0_2 o, vo_37 o, Option.bind_some, g1, if_true]) (by unfold X11_who; simp only [vo_134 o, Option.bind_some, k1, if_true])
  have t10 : t < 10 := by omega
  have e2 : X11_in x2.toInt64 0 1 = X10_within x2 0 1 := in_eq x2 0 1
  by_cases g2 : X10_within x2 0 1 = 0
  · exact pairR h0 (r := -1002) (by unfold X10_who; simp only [r_0_2 o, vo_37 o, Option.bind_some, g1, one0, if_false, g2, if_true]) (by unfold X11_who; simp only [vo_134 o, Option.bind_some, k1, one0, if_false, e2, g2, if_true])
  obtain ⟨w, -, hw, rfl⟩ := win2 (a := 0) (b := 1) (by decide) (by decide) g2
  have f0 := (hT.2.1 0 t (by decide) t10).1
  have main : ∀ can : Int32, ((((if nI w = 1 then (gR 10 2 0 μ).bind fun v11 => (vO 0 v11 μ).bind fun g12 => (X0_personsWith v11 (nI t) μ).bind fun v13 => some (nI (tv μ 0 t) &&& (v13 ^^^ (-1))) else some (nI (tv μ 0 t))) : Option Int32)) = some can) → (∀ μ', Sm μ μ' → ((((if nI w = 0 then (gR 11 13 134 μ').bind fun v9 => (aI v9 (nI t) μ').bind fun v10 => some v10 else (gR 11 13 134 μ').bind fun v7 => (aI v7 (nI t) μ').bind fun v8 => some (v8 &&& (nI (hP μ t (sc μ)) ^^^ (-1)))) : Option Int32)) = some can)) → ∃ r μ1 μ2, X10_who 0 (nI t) (nI w) μ = some (r, μ1) ∧ Ok μ1 ∧ X11_who 134 (nI t) (nI w) μ1 = some (r, μ2) ∧ Inv μ2 := by
    intro can c1 c2
    obtain ⟨a, sa, ea⟩ := who_c o W can
    have Ia := h0.sm sa
    obtain ⟨b, sb, eb⟩ := who_m sa.1 (W.sm sa) can
    refine pairS h0 (r := (wA μ can 4).1) (μ1 := a) (μ2 := b) ?_ sa ?_ sb
    · unfold X10_who
      rw [r_0_2 o, Option.bind_some, vo_37 o, Option.bind_some, g1, Option.bind_some, if_neg (by decide), if_neg g2, Option.bind_some, r_37_0 o, Option.bind_some, ar_things o t10, Option.bind_some, gi_T o t10, f0, Option.bind_some]
      rw [r_0_2 o] at c1
      rw [c1, Option.bind_some, ea, Option.bind_some]
    · unfold X11_who
      rw [vo_134 sa.1, Option.bind_some, isT_sm o sa, k1, Option.bind_some, if_neg (by decide), e2, if_neg g2, had_m sa.1 Ia.2.2.2.2.1, Option.bind_some, hP_sm sa, sc_sm sa, c2 a sa, Option.bind_some, eb, Option.bind_some, wA_sm sa]
  have f0m : ∀ μ', Sm μ μ' → aI 145 (nI t) μ' = some (nI (tv μ 0 t)) := fun μ' s => by
    rw [ai_145 s.1 t10, s.row (a := 145) rfl]
    exact congrArg some (hT.2.1 0 t (by decide) t10).2.1
  rcases (show w = 0 ∨ w = 1 by omega) with rfl | rfl
  · refine main (nI (tv μ 0 t)) (if_neg (by decide)) (fun μ' s => ?_)
    rw [if_pos (by rfl), r_134_13 s.1, Option.bind_some, f0m μ' s, Option.bind_some]
  · refine main (nI (tv μ 0 t) &&& (nI (hP μ t (sc μ)) ^^^ (-1))) ?_ (fun μ' s => ?_)
    · rw [if_pos (by rfl), r_0_2 o, Option.bind_some, vo_37 o, Option.bind_some, had_c o hS, Option.bind_some]
    · rw [if_neg (by decide), r_134_13 s.1, Option.bind_some, f0m μ' s, Option.bind_some]
end
section
/-! ===== what the odds leave alone ===== -/
def FRm (μ μ' : Mem) : Prop := Ok μ' ∧ ∀ a, ¬ (141 ≤ a ∧ a ≤ 144) → mI μ' a = mI μ a
theorem FRm.rf {μ : Mem} (h : Ok μ) : FRm μ μ := ⟨h, fun _ _ => rfl⟩
theorem FRm.tr {μ μ' μ'' : Mem} (h : FRm μ μ') (h2 : FRm μ' μ'') : FRm μ μ'' := ⟨h2.1, fun a q => (h2.2 a q).trans (h.2 a q)⟩
theorem sI_so {a : Nat} {i x : Int32} {μ μ' : Mem} (e : sI a i x μ = some μ') : μ' = wI μ a i.toNatClampNeg x := by
  unfold sI at e
  split at e
  · exact (inj1 e).symm
  · cases e
theorem sJ_so {a : Nat} {i : Int32} {x : Int64} {μ μ' : Mem} (e : sJ a i x μ = some μ') : μ' = wJ μ a i.toNatClampNeg x := by
  unfold sJ at e
  split at e
  · exact (inj1 e).symm
  · cases e
theorem pR_so {c k a x : Nat} {μ μ' : Mem} (e : pR c k a x μ = some μ') : μ' = wR μ a k x := by
  unfold pR at e
  split at e
  · exact (inj1 e).symm
  · cases e
theorem FRm.sI {a : Nat} {i x : Int32} {μ μ' : Mem} (h : Ok μ) (ha : 141 ≤ a ∧ a ≤ 144) (e : sI a i x μ = some μ') : FRm μ μ' := by
  rw [sI_so e]
  exact ⟨h, fun b q => row_ne (fun z => q (z ▸ ha))⟩
theorem FRm.sJ {a : Nat} {i : Int32} {x : Int64} {μ μ' : Mem} (h : Ok μ) (e : sJ a i x μ = some μ') : FRm μ μ' := by
  rw [sJ_so e]
  exact ⟨h, fun b q => rfl⟩
def FR0 (μ μ' : Mem) : Prop := mI μ' = mI μ
theorem FR0.rf {μ : Mem} : FR0 μ μ := rfl
theorem FR0.tr {μ μ' μ'' : Mem} (h : FR0 μ μ') (h2 : FR0 μ' μ'') : FR0 μ μ'' := Eq.trans h2 h
theorem FR0.sJ {a : Nat} {i : Int32} {x : Int64} {μ μ' : Mem} (e : sJ a i x μ = some μ') : FR0 μ μ' := by
  rw [sJ_so e]
  rfl
theorem FR0.pR {c k a x : Nat} {μ μ' : Mem} (e : pR c k a x μ = some μ') : FR0 μ μ' := by
  rw [pR_so e]
  rfl
theorem fr_X11_findRows_L18 (x1 : Int32) (x2 : Int32) (x3 : Int32) : ∀ (n : Nat) (x4 : Int32) (μ : Mem) r, X11_findRows_L18 134 x1 x2 x3 n x4 μ = some r → Ok μ → FRm μ r.2 := by
  intro n
  induction n with
  | zero => intro _ _ _ h; cases h
  | succ n ih =>
    intro x4 μ r h o
    rw [X11_findRows_L18] at h
    have f : FRm μ μ := FRm.rf o
    split at h
    · cases h; exact f
    obtain ⟨v2, e, h⟩ := bindE h
    rw [r_134_6 f.1] at e; cases e
    obtain ⟨v3, e, h⟩ := bindE h
    rw [r_134_2 f.1] at e; cases e
    obtain ⟨v4, e, h⟩ := bindE h
    obtain ⟨g5, e, h⟩ := bindE h
    obtain ⟨v6, e, h⟩ := bindE h
    obtain ⟨μ7, e, h⟩ := bindE h
    replace f := f.tr (FRm.sJ f.1 e)
    obtain ⟨v8, e, h⟩ := bindE h
    rw [r_134_8 f.1] at e; cases e
    obtain ⟨v9, e, h⟩ := bindE h
    rw [r_134_6 f.1] at e; cases e
    obtain ⟨v10, e, h⟩ := bindE h
    obtain ⟨v12, e, h⟩ := bindE h
    obtain ⟨μ13, e, h⟩ := bindE h
    replace f := f.tr (FRm.sI f.1 (by decide) e)
    exact f.tr (ih _ _ _ h f.1)
theorem fr_X11_findRows_L118 (x1 : Int32) (x2 : Int32) (x4 : Int32) (x5 : Int32) : ∀ (n : Nat) (x6 : Int32) (μ : Mem) r, X11_findRows_L118 134 x1 x2 x4 x5 n x6 μ = some r → Ok μ → FRm μ r.2 := by
  intro n
  induction n with
  | zero => intro _ _ _ h; cases h
  | succ n ih =>
    intro x6 μ r h o
    rw [X11_findRows_L118] at h
    have f : FRm μ μ := FRm.rf o
    split at h
    · cases h; exact f
    obtain ⟨v2, e, h⟩ := bindE h
    rw [r_134_0 f.1] at e; cases e
    obtain ⟨v3, e, h⟩ := bindE h
    obtain ⟨g4, e, h⟩ := bindE h
    obtain ⟨v5, e, h⟩ := bindE h
    obtain ⟨v6, e, h⟩ := bindE h
    obtain ⟨v7, e, h⟩ := bindE h
    rw [r_134_7 f.1] at e; cases e
    obtain ⟨v8, e, h⟩ := bindE h
    obtain ⟨v9, e, h⟩ := bindE h
    rw [r_134_6 f.1] at e; cases e
    obtain ⟨v10, e, h⟩ := bindE h
    obtain ⟨μ11, e, h⟩ := bindE h
    replace f := f.tr (FRm.sJ f.1 e)
    obtain ⟨v12, e, h⟩ := bindE h
    rw [r_134_9 f.1] at e; cases e
    obtain ⟨v13, e, h⟩ := bindE h
    obtain ⟨z17, e, h⟩ := bindE h
    obtain ⟨μ18, e, h⟩ := bindE h
    replace f := f.tr (FRm.sI f.1 (by decide) e)
    exact f.tr (ih _ _ _ h f.1)
theorem fr_X11_findRows_L93 (x1 : Int32) (x2 : Int32) (x4 : Int32) : ∀ (n : Nat) (x5 : Int32) (μ : Mem) r, X11_findRows_L93 134 x1 x2 x4 n x5 μ = some r → Ok μ → FRm μ r.2 := by
  intro n
  induction n with
  | zero => intro _ _ _ h; cases h
  | succ n ih =>
    intro x5 μ r h o
    rw [X11_findRows_L93] at h
    have f : FRm μ μ := FRm.rf o
    split at h
    · cases h; exact f
    obtain ⟨v2, e, h⟩ := bindE h
    rw [r_134_7 f.1] at e; cases e
    obtain ⟨μ3, e, h⟩ := bindE h
    replace f := f.tr (FRm.sJ f.1 e)
    obtain ⟨v4, e, h⟩ := bindE h
    rw [r_134_9 f.1] at e; cases e
    obtain ⟨μ5, e, h⟩ := bindE h
    replace f := f.tr (FRm.sI f.1 (by decide) e)
    obtain ⟨z6, e, h⟩ := bindE h
    replace f := f.tr (fr_X11_findRows_L118 _ _ _ _ _ _ _ _ e f.1)
    exact f.tr (ih _ _ _ h f.1)
theorem fr_X11_findRows_L210 (x1 : Int32) (x2 : Int32) (x4 : Int32) : ∀ (n : Nat) (x5 : Int32) (μ : Mem) r, X11_findRows_L210 134 x1 x2 x4 n x5 μ = some r → Ok μ → FRm μ r.2 := by
  intro n
  induction n with
  | zero => intro _ _ _ h; cases h
  | succ n ih =>
    intro x5 μ r h o
    rw [X11_findRows_L210] at h
    have f : FRm μ μ := FRm.rf o
    split at h
    · cases h; exact f
    obtain ⟨v2, e, h⟩ := bindE h
    rw [r_134_6 f.1] at e; cases e
    obtain ⟨v3, e, h⟩ := bindE h
    rw [r_134_7 f.1] at e; cases e
    obtain ⟨v4, e, h⟩ := bindE h
    obtain ⟨μ5, e, h⟩ := bindE h
    replace f := f.tr (FRm.sJ f.1 e)
    obtain ⟨v6, e, h⟩ := bindE h
    rw [r_134_8 f.1] at e; cases e
    obtain ⟨v7, e, h⟩ := bindE h
    rw [r_134_9 f.1] at e; cases e
    obtain ⟨v8, e, h⟩ := bindE h
    obtain ⟨μ9, e, h⟩ := bindE h
    replace f := f.tr (FRm.sI f.1 (by decide) e)
    exact f.tr (ih _ _ _ h f.1)
theorem fr_X11_findRows_L84 (x1 : Int32) (x2 : Int32) : ∀ (n : Nat) (x4 : Int32) (μ : Mem) r, X11_findRows_L84 134 x1 x2 n x4 μ = some r → Ok μ → FRm μ r.2 := by
  intro n
  induction n with
  | zero => intro _ _ _ h; cases h
  | succ n ih =>
    intro x4 μ r h o
    rw [X11_findRows_L84] at h
    have f : FRm μ μ := FRm.rf o
    split at h
    · cases h; exact f
    obtain ⟨z2, e, h⟩ := bindE h
    replace f := f.tr (fr_X11_findRows_L93 _ _ _ _ _ _ _ e f.1)
    obtain ⟨z3, e, h⟩ := bindE h
    replace f := f.tr (fr_X11_findRows_L210 _ _ _ _ _ _ _ e f.1)
    exact f.tr (ih _ _ _ h f.1)
theorem fr_X11_findRows (x1 : Int32) (x2 : Int32) (μ r : Mem) : X11_findRows 134 x1 x2 μ = some r → Ok μ → FRm μ r := by
  intro h o
  unfold X11_findRows at h
  have f : FRm μ μ := FRm.rf o
  obtain ⟨v2, e, h⟩ := bindE h
  obtain ⟨z3, e, h⟩ := bindE h
  replace f := f.tr (fr_X11_findRows_L18 _ _ _ _ _ _ _ e f.1)
  obtain ⟨v4, e, h⟩ := bindE h
  obtain ⟨z5, e, h⟩ := bindE h
  replace f := f.tr (fr_X11_findRows_L84 _ _ _ _ _ _ e f.1)
  cases h; exact f
theorem fr_X11_findOdds_L38 (x3 : Int32) (j4 : Int64) : ∀ (n : Nat) (x6 : Int32) (μ : Mem) r, X11_findOdds_L38 134 x3 j4 n x6 μ = some r → Ok μ → FRm μ r.2 := by
  intro n
  induction n with
  | zero => intro _ _ _ h; cases h
  | succ n ih =>
    intro x6 μ r h o
    rw [X11_findOdds_L38] at h
    have f : FRm μ μ := FRm.rf o
    split at h
    · cases h; exact f
    obtain ⟨v2, e, h⟩ := bindE h
    rw [r_134_10 f.1] at e; cases e
    obtain ⟨z7, e, h⟩ := bindE h
    obtain ⟨μ8, e, h⟩ := bindE h
    replace f := f.tr (FRm.sI f.1 (by decide) e)
    exact f.tr (ih _ _ _ h f.1)
theorem fr_X11_findOdds_L112 (x3 : Int32) (x6 : Int32) (x7 : Int32) : ∀ (n : Nat) (x8 : Int32) (μ : Mem) r, X11_findOdds_L112 134 x3 x6 x7 n x8 μ = some r → Ok μ → FRm μ r.2 := by
  intro n
  induction n with
  | zero => intro _ _ _ h; cases h
  | succ n ih =>
    intro x8 μ r h o
    rw [X11_findOdds_L112] at h
    have f : FRm μ μ := FRm.rf o
    split at h
    · cases h; exact f
    obtain ⟨v2, e, h⟩ := bindE h
    rw [r_134_0 f.1] at e; cases e
    obtain ⟨v3, e, h⟩ := bindE h
    obtain ⟨v4, e, h⟩ := bindE h
    rw [r_134_0 f.1] at e; cases e
    obtain ⟨v5, e, h⟩ := bindE h
    obtain ⟨v6, e, h⟩ := bindE h
    rw [r_134_0 f.1] at e; cases e
    obtain ⟨v7, e, h⟩ := bindE h
    obtain ⟨v8, e, h⟩ := bindE h
    rw [r_134_0 f.1] at e; cases e
    obtain ⟨v9, e, h⟩ := bindE h
    obtain ⟨v10, e, h⟩ := bindE h
    obtain ⟨v11, e, h⟩ := bindE h
    rw [r_134_11 f.1] at e; cases e
    obtain ⟨v12, e, h⟩ := bindE h
    obtain ⟨z19, e, h⟩ := bindE h
    obtain ⟨μ20, e, h⟩ := bindE h
    replace f := f.tr (FRm.sI f.1 (by decide) e)
    exact f.tr (ih _ _ _ h f.1)
theorem fr_X11_findOdds_L95 (x3 : Int32) (x6 : Int32) : ∀ (n : Nat) (x7 : Int32) (μ : Mem) r, X11_findOdds_L95 134 x3 x6 n x7 μ = some r → Ok μ → FRm μ r.2 := by
  intro n
  induction n with
  | zero => intro _ _ _ h; cases h
  | succ n ih =>
    intro x7 μ r h o
    rw [X11_findOdds_L95] at h
    have f : FRm μ μ := FRm.rf o
    split at h
    · cases h; exact f
    obtain ⟨v2, e, h⟩ := bindE h
    rw [r_134_11 f.1] at e; cases e
    obtain ⟨μ3, e, h⟩ := bindE h
    replace f := f.tr (FRm.sI f.1 (by decide) e)
    obtain ⟨z4, e, h⟩ := bindE h
    replace f := f.tr (fr_X11_findOdds_L112 _ _ _ _ _ _ _ e f.1)
    exact f.tr (ih _ _ _ h f.1)
theorem fr_X11_findOdds_L222 (x3 : Int32) (x6 : Int32) : ∀ (n : Nat) (x7 : Int32) (μ : Mem) r, X11_findOdds_L222 134 x3 x6 n x7 μ = some r → Ok μ → FRm μ r.2 := by
  intro n
  induction n with
  | zero => intro _ _ _ h; cases h
  | succ n ih =>
    intro x7 μ r h o
    rw [X11_findOdds_L222] at h
    have f : FRm μ μ := FRm.rf o
    split at h
    · cases h; exact f
    obtain ⟨v2, e, h⟩ := bindE h
    rw [r_134_10 f.1] at e; cases e
    obtain ⟨v3, e, h⟩ := bindE h
    rw [r_134_11 f.1] at e; cases e
    obtain ⟨v4, e, h⟩ := bindE h
    obtain ⟨μ5, e, h⟩ := bindE h
    replace f := f.tr (FRm.sI f.1 (by decide) e)
    exact f.tr (ih _ _ _ h f.1)
theorem fr_X11_findOdds_L86 (x3 : Int32) : ∀ (n : Nat) (x6 : Int32) (μ : Mem) r, X11_findOdds_L86 134 x3 n x6 μ = some r → Ok μ → FRm μ r.2 := by
  intro n
  induction n with
  | zero => intro _ _ _ h; cases h
  | succ n ih =>
    intro x6 μ r h o
    rw [X11_findOdds_L86] at h
    have f : FRm μ μ := FRm.rf o
    split at h
    · cases h; exact f
    obtain ⟨z2, e, h⟩ := bindE h
    replace f := f.tr (fr_X11_findOdds_L95 _ _ _ _ _ _ e f.1)
    obtain ⟨z3, e, h⟩ := bindE h
    replace f := f.tr (fr_X11_findOdds_L222 _ _ _ _ _ _ e f.1)
    exact f.tr (ih _ _ _ h f.1)
theorem fr_X11_findOdds (x1 : Int32) (x2 : Int32) (x3 : Int32) (μ r : Mem) : X11_findOdds 134 x1 x2 x3 μ = some r → Ok μ → FRm μ r := by
  intro h o
  unfold X11_findOdds at h
  have f : FRm μ μ := FRm.rf o
  obtain ⟨g1, e, h⟩ := bindE h
  obtain ⟨μ2, e, h⟩ := bindE h
  replace f := f.tr (fr_X11_findRows _ _ _ _ e f.1)
  obtain ⟨v3, e, h⟩ := bindE h
  rw [r_134_6 f.1] at e; cases e
  obtain ⟨v4, e, h⟩ := bindE h
  obtain ⟨v5, e, h⟩ := bindE h
  rw [r_134_6 f.1] at e; cases e
  obtain ⟨v6, e, h⟩ := bindE h
  obtain ⟨v7, e, h⟩ := bindE h
  rw [r_134_6 f.1] at e; cases e
  obtain ⟨v8, e, h⟩ := bindE h
  obtain ⟨v9, e, h⟩ := bindE h
  rw [r_134_6 f.1] at e; cases e
  obtain ⟨v10, e, h⟩ := bindE h
  obtain ⟨v11, e, h⟩ := bindE h
  obtain ⟨z12, e, h⟩ := bindE h
  replace f := f.tr (fr_X11_findOdds_L38 _ _ _ _ _ _ e f.1)
  obtain ⟨z13, e, h⟩ := bindE h
  replace f := f.tr (fr_X11_findOdds_L86 _ _ _ _ _ e f.1)
  cases h; exact f
theorem fr_X9_weigh_L19 (x1 : Int32) (x2 : Int32) (x3 : Int32) (x4 : Int32) : ∀ (n : Nat) (x5 : Int32) (μ : Mem) r, X9_weigh_L19 1 x1 x2 x3 x4 n x5 μ = some r → FR0 μ r.2 := by
  intro n
  induction n with
  | zero => intro _ _ _ h; cases h
  | succ n ih =>
    intro x5 μ r h
    rw [X9_weigh_L19] at h
    have f : FR0 μ μ := FR0.rf
    split at h
    · cases h; exact f
    obtain ⟨v2, e, h⟩ := bindE h
    obtain ⟨v3, e, h⟩ := bindE h
    obtain ⟨v4, e, h⟩ := bindE h
    obtain ⟨v5, e, h⟩ := bindE h
    obtain ⟨v6, e, h⟩ := bindE h
    obtain ⟨v7, e, h⟩ := bindE h
    obtain ⟨g8, e, h⟩ := bindE h
    obtain ⟨v9, e, h⟩ := bindE h
    obtain ⟨μ10, e, h⟩ := bindE h
    replace f := f.tr (FR0.sJ e)
    exact f.tr (ih _ _ _ h)
theorem fr_X9_weigh_L81 (x1 : Int32) (x2 : Int32) (x3 : Int32) (x5 : Int32) : ∀ (n : Nat) (x6 : Int32) (μ : Mem) r, X9_weigh_L81 1 x1 x2 x3 x5 n x6 μ = some r → FR0 μ r.2 := by
  intro n
  induction n with
  | zero => intro _ _ _ h; cases h
  | succ n ih =>
    intro x6 μ r h
    rw [X9_weigh_L81] at h
    have f : FR0 μ μ := FR0.rf
    split at h
    · cases h; exact f
    obtain ⟨z2, e, h⟩ := bindE h
    obtain ⟨v3, e, h⟩ := bindE h
    obtain ⟨v4, e, h⟩ := bindE h
    obtain ⟨v5, e, h⟩ := bindE h
    obtain ⟨v6, e, h⟩ := bindE h
    obtain ⟨g7, e, h⟩ := bindE h
    obtain ⟨v8, e, h⟩ := bindE h
    obtain ⟨μ9, e, h⟩ := bindE h
    replace f := f.tr (FR0.sJ e)
    exact f.tr (ih _ _ _ h)
theorem fr_X9_weigh_L72 (x1 : Int32) (x2 : Int32) (x3 : Int32) : ∀ (n : Nat) (x5 : Int32) (μ : Mem) r, X9_weigh_L72 1 x1 x2 x3 n x5 μ = some r → FR0 μ r.2 := by
  intro n
  induction n with
  | zero => intro _ _ _ h; cases h
  | succ n ih =>
    intro x5 μ r h
    rw [X9_weigh_L72] at h
    have f : FR0 μ μ := FR0.rf
    split at h
    · cases h; exact f
    obtain ⟨z2, e, h⟩ := bindE h
    replace f := f.tr (fr_X9_weigh_L81 _ _ _ _ _ _ _ _ e)
    obtain ⟨v3, e, h⟩ := bindE h
    obtain ⟨v4, e, h⟩ := bindE h
    obtain ⟨μ5, e, h⟩ := bindE h
    replace f := f.tr (FR0.pR e)
    obtain ⟨μ6, e, h⟩ := bindE h
    replace f := f.tr (FR0.pR e)
    exact f.tr (ih _ _ _ h)
theorem fr_X9_weigh (x1 : Int32) (x2 : Int32) (x3 : Int32) (μ r : Mem) : X9_weigh 1 x1 x2 x3 μ = some r → FR0 μ r := by
  intro h
  unfold X9_weigh at h
  have f : FR0 μ μ := FR0.rf
  obtain ⟨v2, e, h⟩ := bindE h
  obtain ⟨z3, e, h⟩ := bindE h
  replace f := f.tr (fr_X9_weigh_L19 _ _ _ _ _ _ _ _ e)
  obtain ⟨v4, e, h⟩ := bindE h
  obtain ⟨z5, e, h⟩ := bindE h
  replace f := f.tr (fr_X9_weigh_L72 _ _ _ _ _ _ _ e)
  cases h; exact f
theorem look66f {μ : Mem} (h : Ok μ) (R : RelW μ) {p t k : Nat} (hk : k ≤ 8) (h0 : HI μ 19 4 (odd μ p t 0)) (m : Nat) : ∃ μ', (Sm μ μ' ∧ (∀ a, ¬ (19 ≤ a ∧ a ≤ 27) → mI μ' a = mI μ a) ∧ ∀ s, s ≤ k → HI μ' (19 + s) 4 (odd μ p t s)) ∧ X9_lookAhead_L66 1 (nI k) (m + 1 + k) 1 μ = some (nI (k + 1), μ') := by
  have key := loopP (F := fun m (a : Mem) d => X9_lookAhead_L66 1 (nI k) m (nI (d + 1)) a) (P := fun d a => Sm μ a ∧ (∀ c, ¬ (19 ≤ c ∧ c ≤ 27) → mI a c = mI μ c) ∧ ∀ s, s ≤ d → HI a (19 + s) 4 (odd μ p t s)) (n := k) (fun m a d hd P => by
    obtain ⟨s, fr, hh⟩ := P
    have ha := s.1
    have Ra := R.sm s
    obtain ⟨b, ⟨ob, gb⟩, eb⟩ := move_ok (r1 := 19 + d) (r2 := 19 + (d + 1)) ha Ra (by omega) (by omega) (s_ahead (by omega)) (s_ahead (by omega)) (by omega) (cor_ahead (by omega)) (hh d (Nat.le_refl d)) (fun i hi => odd_le hi)
    refine ⟨b, ⟨s.tr (ob.sm (cor_ahead (by omega))), fun c hc => (ob.2.2.2 c (by omega)).trans (fr c hc), fun q hq => ?_⟩, ?_⟩
    · by_cases e : q = d + 1
      · subst e
        intro j hj
        rw [gb j hj]
        have emv := mv_sm s
        have etot : tot a = tot μ := funext fun i => by unfold tot; rw [emv]
        show nI _ = nI (mvS μ (odd μ p t d) 0 j + mvS μ (odd μ p t d) 1 j + mvS μ (odd μ p t d) 2 j + mvS μ (odd μ p t d) 3 j)
        unfold mvS
        rw [emv, etot]
      · exact (hh q (by omega)).oth ob (by omega)
    · show X9_lookAhead_L66 1 (nI k) (m + 1) (nI (d + 1)) a = _
      rw [X9_lookAhead_L66, if_neg (by rw [n_lt (by omega) (by omega)]; omega), if_neg (by rw [show (8 : Int32) = nI 8 from rfl, n_lt (by decide) (by omega)]; omega), r_1_4 ha, Option.bind_some, nI_pred, ar_ahead ha (by omega), Option.bind_some, Option.bind_some, ar_ahead ha (by omega), Option.bind_some, vO_eq (c := 9) (a := 1) ha (by decide) rfl, Option.bind_some, eb, Option.bind_some, nI_add1]) k (m + 1) μ 0 (by omega) ⟨Sm.rf h, fun _ _ => rfl, fun q hq => by
      have : q = 0 := by omega
      subst this
      exact h0⟩
  obtain ⟨μ', P, e⟩ := key
  refine ⟨μ', P, ?_⟩
  refine e.trans ?_
  show X9_lookAhead_L66 1 (nI k) (m + 1) (nI (k + 1)) μ' = _
  rw [X9_lookAhead_L66, if_pos (by rw [n_lt (by omega) (by omega)]; omega)]
theorem look_fr {μ : Mem} (h : Ok μ) (R : RelW μ) {p t k : Nat} (hp : p < 4) (ht : t < 61) (hk : k ≤ 8) : ∃ μ', (Sm μ μ' ∧ (∀ a, ¬ (19 ≤ a ∧ a ≤ 27) → mI μ' a = mI μ a) ∧ ∀ s, s ≤ k → HI μ' (19 + s) 4 (odd μ p t s)) ∧ X9_lookAhead 1 (nI p) (nI t) (nI k) μ = some μ' := by
  obtain ⟨a, ⟨sa, hj⟩, ea⟩ := weigh_ok h R hp ht false
  have ew : allW μ false p t = wgt μ false p t 0 + wgt μ false p t 1 + wgt μ false p t 2 + wgt μ false p t 3 := rfl
  obtain ⟨b, ⟨ob, gb⟩, eb⟩ := look16 sa.1 hj (fun i hi => wgt_le R hp ht hi) (nI k) 99995
  have sb := sa.tr (ob.sm (cor_ahead (s := 0) (by decide)))
  obtain ⟨d, ⟨sd, fd, gd⟩, ed⟩ := look66f sb.1 (R.sm sb) (p := p) (t := t) hk (by
    intro i hi
    rw [gb i hi, odd_sm sb]
    rfl) (99999 - k)
  have fa : mI a = mI μ := fr_X9_weigh _ _ _ _ _ ea
  refine ⟨d, ⟨sb.tr sd, fun c hc => (fd c hc).trans ((ob.2.2.2 c (by omega)).trans (by rw [fa])), fun s hs i hi => ?_⟩, ?_⟩
  · rw [gd s hs i hi, odd_sm sb]
  · rw [show 99995 + 1 + 4 = FU from rfl] at eb
    rw [show 99999 - k + 1 + k = FU by unfold FU; omega] at ed
    unfold X9_lookAhead
    rw [show (0 : Int32) = cI false from rfl, vO_eq (c := 9) (a := 1) h (by decide) rfl, Option.bind_some, ea, Option.bind_some, vO_eq (c := 9) (a := 1) sa.1 (by decide) rfl, Option.bind_some, allW_eq sa.1 hj, Option.bind_some, show cI false = (0 : Int32) from rfl, eb, Option.bind_some, ed, Option.bind_some]
theorem modds_fr {μ : Mem} {p t : Nat} (h : Ok μ) (R : RelW μ) {k : Nat} (hp : p < 4) (ht : t < 61) (hk : k ≤ 8) : ∃ μ', (Sm μ μ' ∧ (∀ a, ¬ (141 ≤ a ∧ a ≤ 144) → mI μ' a = mI μ a) ∧ HI μ' 143 4 (odd μ p t k)) ∧ X11_findOdds 134 (nI p) (nI t) (nI k) μ = some μ' := by
  obtain ⟨a, ⟨sa, ha⟩, ea⟩ := modds_ok h R hp ht hk
  exact ⟨a, ⟨sa, (fr_X11_findOdds _ _ _ _ _ ea h).2, ha⟩, ea⟩
end
section
/-! ===== tried ===== -/
def muV (μ : Mem) (t : Nat) : Nat := if tv μ 1 t = 0 then 1 else if tv μ 1 t = 3 then 1 else 0
theorem muV_sm {μ μ' : Mem} (s : Sm μ μ') (t : Nat) : muV μ' t = muV μ t := by
  unfold muV
  rw [tv_sm s (by decide)]
theorem must_c {μ : Mem} (h : Ok μ) (T : RelT μ) {t : Nat} (ht : t < 10) : X6_isMust (40 + t) μ = some (nI (muV μ t)) := by
  have f1 := (T.2.1 1 t (by decide) ht).1
  have b1 : tv μ 1 t ≤ 3 := (T.2.1 1 t (by decide) ht).2.2
  have c0 : (nI (tv μ 1 t) = 0) = (tv μ 1 t = 0) := n_eq (b := 0) (by omega) (by decide)
  have c3 : (nI (tv μ 1 t) = 3) = (tv μ 1 t = 3) := n_eq (b := 3) (by omega) (by decide)
  unfold X6_isMust muV
  simp only [gi_T h ht, f1, Option.bind_some, c0, c3]
  by_cases q : tv μ 1 t = 0
  · rw [if_pos q, if_pos q]
    rfl
  · rw [if_neg q, if_neg q]
    by_cases q3 : tv μ 1 t = 3
    · rw [if_pos q3, if_pos q3]
      rfl
    · rw [if_neg q3, if_neg q3]
      rfl
theorem must_m {μ : Mem} (h : Ok μ) (T : RelT μ) {t : Nat} (ht : t < 10) : X11_isMust 134 (nI t) μ = some (nI (muV μ t)) := by
  have f1 : mI μ 146 t = _ := (T.2.1 1 t (by decide) ht).2.1
  have b1 : tv μ 1 t ≤ 3 := (T.2.1 1 t (by decide) ht).2.2
  have c0 : (nI (tv μ 1 t) = 0) = (tv μ 1 t = 0) := n_eq (b := 0) (by omega) (by decide)
  have c3 : (nI (tv μ 1 t) = 3) = (tv μ 1 t = 3) := n_eq (b := 3) (by omega) (by decide)
  unfold X11_isMust muV
  simp only [r_134_14 h, ai_146 h ht, f1, Option.bind_some, c0, c3]
  by_cases q : tv μ 1 t = 0
  · rw [if_pos q, if_pos q]
    rfl
  · rw [if_neg q, if_neg q]
    by_cases q3 : tv μ 1 t = 3
    · rw [if_pos q3, if_pos q3]
      rfl
    · rw [if_neg q3, if_neg q3]
      rfl
theorem muV_le (μ : Mem) (t : Nat) : muV μ t ≤ 1 := by
  unfold muV
  split
  · exact Nat.le_refl _
  · split <;> omega
/-- done, late, waited, said -/
abbrev TS : Type := Nat × Nat × Int32 × Nat
def goB (μ : Mem) (p u g t done : Nat) : Prop := (bt (nI (tv μ 0 t)) p = 1 ∧ bt (nI done) t = 0) ∧ tv μ 7 t ≤ u ∧ (g = 1 ∨ (muV μ t = 1 ∧ tv μ 6 t = u))
noncomputable def tS (μ : Mem) (p u g t : Nat) (a : TS) : TS := @ite TS (goB μ p u g t a.1) (Classical.propDecidable _) (a.1 ||| 2 ^ t, a.2.1 + (if u ≤ tv μ 6 t then 0 else 1), a.2.2.1 + (nI u - nI (tv μ 7 t)), a.2.2.2 + 1) a
noncomputable def tA (μ : Mem) (p u g : Nat) (a : TS) : Nat → TS
  | 0 => a
  | n + 1 => tS μ p u g n (tA μ p u g a n)
theorem tS_pos {μ : Mem} {p u g t : Nat} {a : TS} (h : goB μ p u g t a.1) : tS μ p u g t a = (a.1 ||| 2 ^ t, a.2.1 + (if u ≤ tv μ 6 t then 0 else 1), a.2.2.1 + (nI u - nI (tv μ 7 t)), a.2.2.2 + 1) := if_pos h
theorem tS_neg {μ : Mem} {p u g t : Nat} {a : TS} (h : ¬ goB μ p u g t a.1) : tS μ p u g t a = a := if_neg h
theorem tA_bd (μ : Mem) (p u g : Nat) (a : TS) (h : a.1 < 2 ^ 10) : ∀ n, n ≤ 10 → (tA μ p u g a n).1 < 2 ^ 10 ∧ a.2.2.2 ≤ (tA μ p u g a n).2.2.2 ∧ (tA μ p u g a n).2.2.2 ≤ a.2.2.2 + n
  | 0, _ => ⟨h, Nat.le_refl _, Nat.le_refl _⟩
  | n + 1, hn => by
    obtain ⟨h1, h2, h3⟩ := tA_bd μ p u g a h n (by omega)
    rw [tA]
    by_cases q : goB μ p u g n (tA μ p u g a n).1
    · rw [tS_pos q]
      exact ⟨or_put_lt h1 (by omega), (by omega : a.2.2.2 ≤ (tA μ p u g a n).2.2.2 + 1), (by omega : (tA μ p u g a n).2.2.2 + 1 ≤ a.2.2.2 + (n + 1))⟩
    · rw [tS_neg q]
      exact ⟨h1, h2, by omega⟩
theorem goB_sm {μ μ' : Mem} (s : Sm μ μ') (p u g t d : Nat) : goB μ' p u g t d = goB μ p u g t d := by
  unfold goB
  rw [tv_sm s (by decide), tv_sm s (by decide), tv_sm s (by decide), muV_sm s]
theorem tA_sm {μ μ' : Mem} (s : Sm μ μ') (p u g : Nat) (a : TS) : ∀ n, tA μ' p u g a n = tA μ p u g a n
  | 0 => rfl
  | n + 1 => by
    rw [tA, tA, tA_sm s p u g a n]
    by_cases q : goB μ p u g n (tA μ p u g a n).1
    · rw [tS_pos q, tS_pos (by rw [goB_sm s]; exact q), tv_sm s (by decide), tv_sm s (by decide)]
    · rw [tS_neg q, tS_neg (by rw [goB_sm s]; exact q)]
/-- the trial's cell holds these -/
def R7 (μ : Mem) (a : TS) (pd : Int32) : Prop := mI μ 107 7 = nI a.1 ∧ mI μ 107 0 = nI a.2.1 ∧ mI μ 107 1 = a.2.2.1 ∧ mI μ 107 3 = nI a.2.2.2 ∧ mI μ 107 2 = pd
theorem left_c {μ : Mem} (h : Ok μ) (T : RelT μ) {t d : Nat} (ht : t < 10) (p : Nat) (hd : mI μ 107 7 = nI d) : X7_isLeft 107 (nI t) (nI p) μ = some (if bt (nI (tv μ 0 t)) p = 0 then 0 else if bt (nI d) t = 0 then 1 else 0) := by
  have f0 := (T.2.1 0 t (by decide) ht).1
  unfold X7_isLeft
  simp only [r_107_6 h, r_37_0 h, ar_things h ht, gi_T h ht, gi_107 h, f0, hd, Option.bind_some, has_z]
  by_cases q : bt (nI (tv μ 0 t)) p = 0
  · rw [if_pos q, if_pos q]
    rfl
  · rw [if_neg q, if_neg q]
    by_cases q2 : bt (nI d) t = 0
    · rw [if_pos q2, if_pos q2]
      rfl
    · rw [if_neg q2, if_neg q2]
      rfl
theorem sayW {μ : Mem} (h : Ok μ) (T : RelT μ) {t u : Nat} (ht : t < 10) (hu : u < 100) {a : TS} {pd : Int32} (r : R7 μ a pd) : ∃ μ', (Onl 107 μ μ' ∧ R7 μ' (a.1 ||| 2 ^ t, a.2.1 + (if u ≤ tv μ 6 t then 0 else 1), a.2.2.1 + (nI u - nI (tv μ 7 t)), a.2.2.2 + 1) pd) ∧ ((gI 7 7 107 μ).bind fun v19 =>
      (pI 7 7 107 (v19 ||| (1 <<< (nI t &&& 31))) μ).bind fun μ20 =>
      (gI 7 3 107 μ20).bind fun v21 =>
      (pI 7 3 107 (v21 + 1) μ20).bind fun μ22 =>
      (gI 7 1 107 μ22).bind fun v23 =>
      (gI 6 7 (40 + t) μ22).bind fun v24 =>
      (pI 7 1 107 (v23 + (nI u - v24)) μ22).bind fun μ25 =>
      (gI 6 6 (40 + t) μ25).bind fun v26 =>
      if nI u ≤ v26 then
      some μ25
      else
      (gI 7 0 107 μ25).bind fun v28 =>
      (pI 7 0 107 (v28 + 1) μ25).bind fun μ29 =>
      some μ29) = some μ' := by
  obtain ⟨r7, r0, r1, r3, r2⟩ := r
  have f7 := (T.2.1 7 t (by decide) ht).1
  have f6 := (T.2.1 6 t (by decide) ht).1
  have b6 : tv μ 6 t ≤ 60 := (T.2.1 6 t (by decide) ht).2.2
  have c6 : (nI u ≤ nI (tv μ 6 t)) = (u ≤ tv μ 6 t) := n_le (by omega) (by omega)
  rw [gi_107 h, r7, Option.bind_some, or_put (by omega), pi_107 h, Option.bind_some, gi_107 h.wI, fld_ne (by omega), r3, Option.bind_some, nI_add1, pi_107 h.wI, Option.bind_some, gi_107 h.wI.wI, fld_ne (by omega), fld_ne (by omega), r1, Option.bind_some, gi_T h.wI.wI ht, row_ne (by omega), row_ne (by omega), f7, Option.bind_some, pi_107 h.wI.wI, Option.bind_some, gi_T h.wI.wI.wI ht, row_ne (by omega), row_ne (by omega), row_ne (by omega), f6, Option.bind_some]
  simp only [c6]
  have on : Onl 107 μ (wI (wI (wI μ 107 7 (nI (a.1 ||| 2 ^ t))) 107 3 (nI (a.2.2.2 + 1))) 107 1 (a.2.2.1 + (nI u - nI (tv μ 7 t)))) := (((Onl.rf h).wI).wI).wI
  by_cases q : u ≤ tv μ 6 t
  · rw [if_pos q, if_pos q]
    refine ⟨_, ⟨on, ?_⟩, rfl⟩
    unfold R7
    simp (disch := omega) only [fld_ne, fld_eq, r0, r2]
    refine ⟨?_, ?_, ?_, ?_, ?_⟩
    all_goals first | rfl | trivial
  · rw [if_neg q, if_neg q, gi_107 h.wI.wI.wI, fld_ne (by omega), fld_ne (by omega), fld_ne (by omega), r0, Option.bind_some, nI_add1, pi_107 h.wI.wI.wI, Option.bind_some]
    refine ⟨_, ⟨on.wI, ?_⟩, rfl⟩
    unfold R7
    simp (disch := omega) only [fld_ne, fld_eq, r2]
    refine ⟨?_, ?_, ?_, ?_, ?_⟩
    all_goals first | rfl | trivial
theorem Onl.T {μ μ' : Mem} (s : Sm μ μ') (T : RelT μ) : RelT μ' := T.cg (s.fld (a := 37) (k := 2) rfl) (s.fld (a := 134) (k := 12) rfl) (fun q hq => s.row (coA_o (by omega))) (fun q hq => s.row (coA_t (by omega))) (nw_le (s.fld (a := 134) (k := 5) rfl))
theorem cor107 (k : Nat) : cor 107 k = false := rfl
theorem say3 {μ : Mem} (h : Ok μ) (T : RelT μ) {p u g : Nat} (hu : u < 100) (hg : g ≤ 1) {a : TS} {pd : Int32} (ha : a.1 < 2 ^ 10) (r : R7 μ a pd) : ∃ μ', (Onl 107 μ μ' ∧ R7 μ' (tA μ p u g a (tn μ)) pd) ∧ X7_sayIn 107 (nI u) (nI p) (nI g) μ = some μ' := by
  have hn := T.1.2.2
  obtain ⟨μ', ⟨P1, P2⟩, e⟩ := loopF (F := fun k (μ' : Mem) i => X7_sayIn_L3 107 (nI u) (nI p) (nI g) k (nI i) μ') (P := fun i μ' => Onl 107 μ μ' ∧ R7 μ' (tA μ p u g a i) pd) (n := tn μ) (r := fun μ' => (nI (tn μ), μ')) (by omega) (fun k μ' i hi P => by
    obtain ⟨on, r⟩ := P
    have s := on.sm cor107
    have o' := on.1
    have T' := Onl.T s T
    have i10 : i < 10 := by omega
    have bd := (tA_bd μ p u g a ha i (by omega)).1
    have f6 := (T'.2.1 6 i (by decide) i10).1
    have f7 := (T'.2.1 7 i (by decide) i10).1
    rw [tv_sm s (by decide)] at f6 f7
    have b6 : tv μ 6 i ≤ 60 := (T.2.1 6 i (by decide) i10).2.2
    have b7 : tv μ 7 i ≤ 60 := (T.2.1 7 i (by decide) i10).2.2
    have c7 : (nI u < nI (tv μ 7 i)) = (u < tv μ 7 i) := n_lt (by omega) (by omega)
    have c6 : (nI u = nI (tv μ 6 i)) = (u = tv μ 6 i) := n_eq (by omega) (by omega)
    have cg : (nI g = 0) = (g = 0) := n_eq (b := 0) (by omega) (by decide)
    have ml := muV_le μ i
    have cm : (nI (muV μ i) = 0) = (muV μ i = 0) := n_eq (b := 0) (by omega) (by decide)
    have ct : mI μ' 37 2 = nI (tn μ) := (s.fld (a := 37) (k := 2) rfl).trans T.1.1
    obtain ⟨μ2, ⟨on2, r2⟩, e2⟩ := sayW o' T' i10 hu r
    rw [tv_sm s (by decide), tv_sm s (by decide)] at r2
    have lf := left_c o' T' i10 p r.1
    rw [tv_sm s (by decide)] at lf
    have mu := must_c o' T' i10
    rw [muV_sm s] at mu
    have bl1 := bt_le (nI (tv μ 0 i)) p
    have bl2 := bt_le (nI (tA μ p u g a i).1) i
    show ∃ a', _ ∧ X7_sayIn_L3 107 (nI u) (nI p) (nI g) (k + 1) (nI i) μ' = _
    rw [X7_sayIn_L3, r_107_6 o', Option.bind_some, gi_37 o', ct, Option.bind_some, if_neg (nI_ge hi (by omega)), Option.bind_some, r_37_0 o', Option.bind_some, ar_things o' i10, Option.bind_some, vo_T o' i10, Option.bind_some, mu, Option.bind_some]
    have ez : ((if nI (muV μ i) = 0 then some 0 else (gI 6 6 (40 + i) μ').bind fun v10 => if nI u = v10 then some 1 else some 0 : Option Int32)) = some (if muV μ i = 1 ∧ tv μ 6 i = u then 1 else 0) := by
      rw [gi_T o' i10, f6, Option.bind_some]
      simp only [c6, cm]
      by_cases m0 : muV μ i = 0
      · rw [if_pos m0, if_neg (by omega)]
      · rw [if_neg m0]
        by_cases m1 : u = tv μ 6 i
        · rw [if_pos m1, if_pos ⟨by omega, m1.symm⟩]
        · rw [if_neg m1, if_neg (fun z => m1 z.2.symm)]
    rw [ez, Option.bind_some, vo_107 o', Option.bind_some, lf, Option.bind_some]
    by_cases gb : goB μ p u g i (tA μ p u g a i).1
    · refine ⟨μ2, ⟨on.tr on2, by rw [tA, tS_pos gb]; exact r2⟩, ?_⟩
      obtain ⟨⟨q1, q2⟩, q3, q4⟩ := gb
      rw [if_neg (show ¬ bt (nI (tv μ 0 i)) p = 0 by omega), if_pos q2, if_neg (by decide), gi_T o' i10, f7, Option.bind_some]
      simp only [c7, cg]
      rw [if_neg (by omega)]
      by_cases g0 : g = 0
      · have qq : muV μ i = 1 ∧ tv μ 6 i = u := by omega
        rw [if_pos g0, if_pos qq, if_neg (by decide), e2, Option.bind_some, nI_add1]
      · rw [if_neg g0, e2, Option.bind_some, nI_add1]
    · refine ⟨μ', ⟨on, by rw [tA, tS_neg gb]; exact r⟩, ?_⟩
      by_cases q1 : bt (nI (tv μ 0 i)) p = 0
      · rw [if_pos q1, if_pos rfl, Option.bind_some, nI_add1]
      · rw [if_neg q1]
        by_cases q2 : bt (nI (tA μ p u g a i).1) i = 0
        · rw [if_pos q2, if_neg (by decide), gi_T o' i10, f7, Option.bind_some]
          simp only [c7, cg]
          by_cases q3 : u < tv μ 7 i
          · rw [if_pos q3, Option.bind_some, nI_add1]
          · rw [if_neg q3]
            by_cases g0 : g = 0
            · by_cases q4 : muV μ i = 1 ∧ tv μ 6 i = u
              · exact absurd ⟨⟨by omega, q2⟩, by omega, Or.inr q4⟩ gb
              · rw [if_pos g0, if_neg q4, if_pos rfl, Option.bind_some, nI_add1]
            · exact absurd ⟨⟨by omega, q2⟩, by omega, Or.inl (by omega)⟩ gb
        · rw [if_neg q2, if_pos rfl, Option.bind_some, nI_add1]) (fun k μ' P => by
    obtain ⟨on, r⟩ := P
    have ct : mI μ' 37 2 = nI (tn μ) := ((on.sm cor107).fld (a := 37) (k := 2) rfl).trans T.1.1
    show X7_sayIn_L3 107 (nI u) (nI p) (nI g) (k + 1) (nI (tn μ)) μ' = _
    rw [X7_sayIn_L3, r_107_6 on.1, Option.bind_some, gi_37 on.1, ct, Option.bind_some, if_pos (nI_le (Nat.le_refl _) (by omega))]) μ ⟨Onl.rf h, r⟩
  have e : X7_sayIn_L3 107 (nI u) (nI p) (nI g) FU 0 μ = _ := e
  refine ⟨μ', ⟨P1, P2⟩, ?_⟩
  unfold X7_sayIn
  rw [e, Option.bind_some]
/-! one tick, all ticks, of the class -/
def gV (μ : Mem) (p u h : Nat) : Nat := if sS μ (odd μ p u 0) < h then 0 else 1
theorem gV_le (μ : Mem) (p u h : Nat) : gV μ p u h ≤ 1 := by
  unfold gV
  split <;> omega
theorem gV_sm {μ μ' : Mem} (s : Sm μ μ') (p u h : Nat) : gV μ' p u h = gV μ p u h := by
  unfold gV
  rw [sS_odd_sm s]
noncomputable def kA (μ : Mem) (p h w : Nat) : Nat → TS × Int32
  | 0 => ((0, 0, 0, 0), 0)
  | u + 1 => (tA μ p u (gV μ p u h) (kA μ p h w u).1 (tn μ), if (tA μ p u (gV μ p u h) (kA μ p h w u).1 (tn μ)).2.2.2 = (kA μ p h w u).1.2.2.2 then (kA μ p h w u).2 else (kA μ p h w u).2 + nI (lsS μ w (odd μ p u 0)))
theorem kA_bd {μ : Mem} (T : RelT μ) (p h w : Nat) : ∀ u, (kA μ p h w u).1.1 < 2 ^ 10 ∧ (kA μ p h w u).1.2.2.2 ≤ 10 * u
  | 0 => ⟨(by decide : (0 : Nat) < 2 ^ 10), Nat.le_refl _⟩
  | u + 1 => by
    obtain ⟨h1, h2⟩ := kA_bd T p h w u
    obtain ⟨q1, q2, q3⟩ := tA_bd μ p u (gV μ p u h) (kA μ p h w u).1 h1 (tn μ) T.1.2.2
    have := T.1.2.2
    rw [kA]
    refine ⟨q1, ?_⟩
    show (tA μ p u (gV μ p u h) (kA μ p h w u).1 (tn μ)).2.2.2 ≤ _
    omega
theorem kA_sm {μ μ' : Mem} (s : Sm μ μ') (p h w : Nat) : ∀ u, kA μ' p h w u = kA μ p h w u
  | 0 => rfl
  | u + 1 => by rw [kA, kA, kA_sm s p h w u, tA_sm s, gV_sm s, tn_sm s, lsS_sm s, show odd μ' p u 0 = odd μ p u 0 from funext (odd_sm s p u 0)]
theorem run28 {μ : Mem} (I : Inv μ) {p h w : Nat} (hp : p < 4) (hh : h ≤ 1000000) (hw : w < 4) (r : R7 μ (0, 0, 0, 0) 0) : ∃ μ', (Sm μ μ' ∧ R7 μ' (kA μ p h w (nw μ)).1 (kA μ p h w (nw μ)).2) ∧ X7_run_L28 107 (nI p) (nI h) (nI w) (nI (nw μ)) FU 0 μ = some (nI (nw μ), μ') := by
  obtain ⟨o, W, C, T, -⟩ := I
  have hn := W.2.2.2.2.2.2.2
  obtain ⟨μ', P, e⟩ := loopF (F := fun k (μ' : Mem) i => X7_run_L28 107 (nI p) (nI h) (nI w) (nI (nw μ)) k (nI i) μ') (P := fun i μ' => Sm μ μ' ∧ R7 μ' (kA μ p h w i).1 (kA μ p h w i).2) (n := nw μ) (r := fun μ' => (nI (nw μ), μ')) (by omega) (fun k μ' i hi P => by
    obtain ⟨s, r⟩ := P
    have o' := s.1
    have W' := W.sm s
    obtain ⟨b1, b2⟩ := kA_bd T p h w i
    obtain ⟨m4, ⟨s4, f4, h4⟩, e4⟩ := look_fr o' W' (p := p) (t := i) (k := 0) hp (by omega) (by omega)
    have s04 := s.tr s4
    have T4 := Onl.T s04 T
    have se := seam_c s4.1 (W'.sm s4) (s := 0) (by decide) (h4 0 (Nat.le_refl _))
    rw [sS_sm s4, sS_odd_sm s] at se
    have r4 : R7 m4 (kA μ p h w i).1 (kA μ p h w i).2 := by
      unfold R7
      rw [f4 107 (by omega)]
      exact r
    obtain ⟨m5, ⟨on5, r5⟩, e5⟩ := say3 s4.1 T4 (p := p) (u := i) (g := gV μ p i h) (by omega) (gV_le μ p i h) b1 r4
    rw [tA_sm s04, tn_sm s04] at r5
    have s5 := on5.sm cor107
    have s05 := s04.tr s5
    have C5 : RelC m5 := by
      refine C.cg (fun q hq => s05.row (coA_4 (by omega) hq)) (s05.row rfl) (s05.row rfl) (s05.row rfl)
    obtain ⟨q1, q2, q3⟩ := tA_bd μ p i (gV μ p i h) (kA μ p h w i).1 b1 (tn μ) T.1.2.2
    have hT := T.1.2.2
    have hs1 : sS μ (odd μ p i 0) ≤ 1000000 := sS_le
    have ls := loss_c s5.1 C5 (w := w) (r := 19) hw (by decide) rfl (f := odd μ p i 0) ((fun q hq => by rw [on5.2.2.2 19 (by decide), h4 0 (Nat.le_refl _) q hq, odd_sm s])) (fun q hq => odd_le hq)
    rw [lsS_sm s05] at ls
    show ∃ a', _ ∧ X7_run_L28 107 (nI p) (nI h) (nI w) (nI (nw μ)) (k + 1) (nI i) μ' = _
    have cg : (if nI (sS μ (odd μ p i 0)) < nI h then (0 : Int32) else 1) = nI (gV μ p i h) := by
      unfold gV
      simp only [n_lt (show sS μ (odd μ p i 0) < 2 ^ 31 by omega) (show h < 2 ^ 31 by omega)]
      split <;> rfl
    rw [X7_run_L28, if_neg (nI_ge hi (by omega)), r_107_4 o', Option.bind_some, vo_1 o', Option.bind_some, show (0 : Int32) = nI 0 from rfl, e4, Option.bind_some, gi_107 s4.1, r4.2.2.2.1, Option.bind_some, r_107_4 s4.1, Option.bind_some, vo_1 s4.1, Option.bind_some, se, Option.bind_some, show nI 0 = (0 : Int32) from rfl, cg, Option.bind_some, vo_107 s4.1, Option.bind_some, e5, Option.bind_some, gi_107 s5.1, r5.2.2.2.1, Option.bind_some]
    by_cases q : (tA μ p i (gV μ p i h) (kA μ p h w i).1 (tn μ)).2.2.2 = (kA μ p h w i).1.2.2.2
    · refine ⟨m5, ⟨s05, ?_⟩, ?_⟩
      · rw [kA, if_pos q]
        exact r5
      · rw [if_pos (nI_le (by omega) (by omega)), Option.bind_some, nI_add1]
    · refine ⟨wI m5 107 2 ((kA μ p h w i).2 + nI (lsS μ w (odd μ p i 0))), ⟨s05.wI rfl, ?_⟩, ?_⟩
      · rw [kA, if_neg q]
        obtain ⟨z1, z2, z3, z4, z5⟩ := r5
        exact ⟨(fld_ne (by omega)).trans z1, (fld_ne (by omega)).trans z2, (fld_ne (by omega)).trans z3, (fld_ne (by omega)).trans z4, fld_eq⟩
      · rw [if_neg (nI_ge (by omega) (by omega)), gi_107 s5.1, r5.2.2.2.2, Option.bind_some, r_107_5 s5.1, Option.bind_some, r_107_4 s5.1, Option.bind_some, r_1_4 s5.1, Option.bind_some, show (0 : Int32) = nI 0 from rfl, ar_ahead s5.1 (by decide), Option.bind_some, vo_30 s5.1, Option.bind_some, ls, Option.bind_some, pi_107 s5.1, Option.bind_some, Option.bind_some, nI_add1]) (fun k μ' P => by
    show X7_run_L28 107 (nI p) (nI h) (nI w) (nI (nw μ)) (k + 1) (nI (nw μ)) μ' = _
    rw [X7_run_L28, if_pos (nI_le (Nat.le_refl _) (by omega))]) μ ⟨Sm.rf o, r⟩
  exact ⟨μ', P, e⟩
/-- LATE ones that were never said -/
def ltB (μ : Mem) (p d t : Nat) : Prop := (bt (nI (tv μ 0 t)) p = 1 ∧ bt (nI d) t = 0) ∧ tv μ 6 t < nw μ
noncomputable def ltA (μ : Mem) (p d l : Nat) : Nat → Nat
  | 0 => l
  | n + 1 => @ite Nat (ltB μ p d n) (Classical.propDecidable _) (ltA μ p d l n + 1) (ltA μ p d l n)
theorem ltA_pos {μ : Mem} {p d l n : Nat} (h : ltB μ p d n) : ltA μ p d l (n + 1) = ltA μ p d l n + 1 := if_pos h
theorem ltA_neg {μ : Mem} {p d l n : Nat} (h : ¬ ltB μ p d n) : ltA μ p d l (n + 1) = ltA μ p d l n := if_neg h
theorem ltA_sm {μ μ' : Mem} (s : Sm μ μ') (p d l : Nat) : ∀ n, ltA μ' p d l n = ltA μ p d l n
  | 0 => rfl
  | n + 1 => by
    have e : ltB μ' p d n = ltB μ p d n := by
      unfold ltB
      rw [tv_sm s (by decide), tv_sm s (by decide), nw_sm s]
    by_cases q : ltB μ p d n
    · rw [ltA_pos q, ltA_pos (by rw [e]; exact q), ltA_sm s p d l n]
    · rw [ltA_neg q, ltA_neg (by rw [e]; exact q), ltA_sm s p d l n]
theorem run120 {μ : Mem} (I : Inv μ) {p : Nat} {a : TS} {pd : Int32} (ha : a.1 < 2 ^ 10) (r : R7 μ a pd) : ∃ μ', (Sm μ μ' ∧ R7 μ' (a.1, ltA μ p a.1 a.2.1 (tn μ), a.2.2) pd) ∧ X7_run_L120 107 (nI p) (nI (nw μ)) FU 0 μ = some (nI (tn μ), μ') := by
  obtain ⟨o, W, C, T, -⟩ := I
  have hn := W.2.2.2.2.2.2.2
  have hT := T.1.2.2
  obtain ⟨μ', P, e⟩ := loopF (F := fun k (μ' : Mem) i => X7_run_L120 107 (nI p) (nI (nw μ)) k (nI i) μ') (P := fun i μ' => Sm μ μ' ∧ R7 μ' (a.1, ltA μ p a.1 a.2.1 i, a.2.2) pd) (n := tn μ) (r := fun μ' => (nI (tn μ), μ')) (by omega) (fun k μ' i hi P => by
    obtain ⟨s, r⟩ := P
    have o' := s.1
    have T' := Onl.T s T
    have i10 : i < 10 := by omega
    have f6 := (T'.2.1 6 i (by decide) i10).1
    rw [tv_sm s (by decide)] at f6
    have b6 : tv μ 6 i ≤ 60 := (T.2.1 6 i (by decide) i10).2.2
    have c6 : (nI (nw μ) ≤ nI (tv μ 6 i)) = (nw μ ≤ tv μ 6 i) := n_le (by omega) (by omega)
    have ct : mI μ' 37 2 = nI (tn μ) := (s.fld (a := 37) (k := 2) rfl).trans T.1.1
    have lf := left_c o' T' i10 p r.1
    rw [tv_sm s (by decide)] at lf
    have bl1 := bt_le (nI (tv μ 0 i)) p
    show ∃ a', _ ∧ X7_run_L120 107 (nI p) (nI (nw μ)) (k + 1) (nI i) μ' = _
    rw [X7_run_L120, r_107_6 o', Option.bind_some, gi_37 o', ct, Option.bind_some, if_neg (nI_ge hi (by omega)), vo_107 o', Option.bind_some, lf, Option.bind_some]
    by_cases gb : ltB μ p a.1 i
    · refine ⟨wI μ' 107 0 (nI (ltA μ p a.1 a.2.1 i + 1)), ⟨s.wI rfl, ?_⟩, ?_⟩
      · rw [ltA_pos gb]
        obtain ⟨z1, z2, z3, z4, z5⟩ := r
        exact ⟨(fld_ne (by omega)).trans z1, fld_eq, (fld_ne (by omega)).trans z3, (fld_ne (by omega)).trans z4, (fld_ne (by omega)).trans z5⟩
      · obtain ⟨⟨q1, q2⟩, q3⟩ := gb
        rw [if_neg (show ¬ bt (nI (tv μ 0 i)) p = 0 by omega), if_pos (show bt (nI (a.1, ltA μ p a.1 a.2.1 i, a.2.2).1) i = 0 from q2), if_neg (by decide), Option.bind_some, r_37_0 o', Option.bind_some, ar_things o' i10, Option.bind_some, gi_T o' i10, f6, Option.bind_some]
        simp only [c6]
        rw [if_neg (by omega), gi_107 o', r.2.1, Option.bind_some, nI_add1, pi_107 o', Option.bind_some, Option.bind_some, nI_add1]
    · refine ⟨μ', ⟨s, by rw [ltA_neg gb]; exact r⟩, ?_⟩
      by_cases q1 : bt (nI (tv μ 0 i)) p = 0
      · rw [if_pos q1, if_pos rfl, Option.bind_some, nI_add1]
      · rw [if_neg q1]
        by_cases q2 : bt (nI (a.1, ltA μ p a.1 a.2.1 i, a.2.2).1) i = 0
        · rw [if_pos q2, if_neg (by decide), Option.bind_some, r_37_0 o', Option.bind_some, ar_things o' i10, Option.bind_some, gi_T o' i10, f6, Option.bind_some]
          simp only [c6]
          by_cases q3 : nw μ ≤ tv μ 6 i
          · rw [if_pos q3, Option.bind_some, nI_add1]
          · exact absurd ⟨⟨by omega, q2⟩, by omega⟩ gb
        · rw [if_neg q2, if_pos rfl, Option.bind_some, nI_add1]) (fun k μ' P => by
    obtain ⟨s, r⟩ := P
    have ct : mI μ' 37 2 = nI (tn μ) := (s.fld (a := 37) (k := 2) rfl).trans T.1.1
    show X7_run_L120 107 (nI p) (nI (nw μ)) (k + 1) (nI (tn μ)) μ' = _
    rw [X7_run_L120, r_107_6 s.1, Option.bind_some, gi_37 s.1, ct, Option.bind_some, if_pos (nI_le (Nat.le_refl _) (by omega))]) μ ⟨Sm.rf o, r⟩
  exact ⟨μ', P, e⟩
end
section
/-! ===== tried, of the reference ===== -/
theorem tried99 {μ : Mem} (o : Ok μ) (T : RelT μ) {p u g : Nat} (hu : u < 100) (hg : g ≤ 1) {a : TS} (ha : a.1 < 2 ^ 10) (x2 x3 x4 x8 : Int32) : X11_tried_L99 134 (nI p) x2 x3 x4 x8 (nI u) (nI g) μ FU (nI a.1) (nI a.2.1) a.2.2.1 (nI a.2.2.2) 0 0 = some (nI (tA μ p u g a (tn μ)).1, nI (tA μ p u g a (tn μ)).2.1, (tA μ p u g a (tn μ)).2.2.1, nI (tA μ p u g a (tn μ)).2.2.2, if (tA μ p u g a (tn μ)).2.2.2 = a.2.2.2 then 0 else 1, nI (tn μ)) := by
  have hn := T.1.2.2
  obtain ⟨b, P, e⟩ := loopF (F := fun k (b : TS) i => X11_tried_L99 134 (nI p) x2 x3 x4 x8 (nI u) (nI g) μ k (nI b.1) (nI b.2.1) b.2.2.1 (nI b.2.2.2) (if b.2.2.2 = a.2.2.2 then 0 else 1) (nI i)) (P := fun i b => b = tA μ p u g a i) (n := tn μ) (r := fun b => (nI b.1, nI b.2.1, b.2.2.1, nI b.2.2.2, if b.2.2.2 = a.2.2.2 then 0 else 1, nI (tn μ))) (by omega) (fun k b i hi P => by
    subst P
    have i10 : i < 10 := by omega
    obtain ⟨bd, bm, -⟩ := tA_bd μ p u g a ha i (by omega)
    have f0 : mI μ 145 i = _ := (T.2.1 0 i (by decide) i10).2.1
    have f6 : mI μ 151 i = _ := (T.2.1 6 i (by decide) i10).2.1
    have f7 : mI μ 152 i = _ := (T.2.1 7 i (by decide) i10).2.1
    have b6 : tv μ 6 i ≤ 60 := (T.2.1 6 i (by decide) i10).2.2
    have b7 : tv μ 7 i ≤ 60 := (T.2.1 7 i (by decide) i10).2.2
    have c7 : (nI u < nI (tv μ 7 i)) = (u < tv μ 7 i) := n_lt (by omega) (by omega)
    have c6 : (nI (tv μ 6 i) = nI u) = (tv μ 6 i = u) := n_eq (by omega) (by omega)
    have d6 : (nI u ≤ nI (tv μ 6 i)) = (u ≤ tv μ 6 i) := n_le (by omega) (by omega)
    have cg : (nI g = 0) = (g = 0) := n_eq (b := 0) (by omega) (by decide)
    have ml := muV_le μ i
    have cm : (nI (muV μ i) = 0) = (muV μ i = 0) := n_eq (b := 0) (by omega) (by decide)
    have bl1 := bt_le (nI (tv μ 0 i)) p
    have bl2 := bt_le (nI (tA μ p u g a i).1) i
    have lt : ∀ l : Nat, nI l + (if u ≤ tv μ 6 i then 0 else 1 : Int32) = nI (l + if u ≤ tv μ 6 i then 0 else 1) := fun l => by
      split
      · rw [Int32.add_zero, Nat.add_zero]
      · rw [nI_add1]
    refine ⟨tA μ p u g a (i + 1), rfl, ?_⟩
    show X11_tried_L99 134 (nI p) x2 x3 x4 x8 (nI u) (nI g) μ (k + 1) (nI (tA μ p u g a i).1) (nI (tA μ p u g a i).2.1) (tA μ p u g a i).2.2.1 (nI (tA μ p u g a i).2.2.2) (if (tA μ p u g a i).2.2.2 = a.2.2.2 then 0 else 1) (nI i) = X11_tried_L99 134 (nI p) x2 x3 x4 x8 (nI u) (nI g) μ k (nI (tA μ p u g a (i + 1)).1) (nI (tA μ p u g a (i + 1)).2.1) (tA μ p u g a (i + 1)).2.2.1 (nI (tA μ p u g a (i + 1)).2.2.2) (if (tA μ p u g a (i + 1)).2.2.2 = a.2.2.2 then 0 else 1) (nI (i + 1))
    rw [X11_tried_L99, gi_134 o, T.1.2.1, Option.bind_some, if_neg (nI_ge hi (by omega)), tA]
    simp only [r_134_13 o, r_134_19 o, r_134_20 o, ai_145 o i10, ai_151 o i10, ai_152 o i10, f0, f6, f7, Option.bind_some, nI_add1, bt_1, bt_z, c7, c6, d6, cg, vo_134 o, must_m o T i10, cm, lt, or_put (m := (tA μ p u g a i).1) (show i < 31 by omega)]
    by_cases gb : goB μ p u g i (tA μ p u g a i).1
    · rw [tS_pos gb]
      obtain ⟨⟨q1, q2⟩, q3, q4⟩ := gb
      have q5 : ¬ u < tv μ 7 i := by omega
      have q6 : ¬ (tA μ p u g a i).2.2.2 + 1 = a.2.2.2 := by omega
      simp only [q1, q2, q5, q6, if_true, if_false, Option.bind_some, one0]
      by_cases g0 : g = 0
      · have qq : muV μ i = 1 ∧ tv μ 6 i = u := by omega
        have qm : ¬ muV μ i = 0 := by omega
        simp only [g0, qm, qq.2, if_true, if_false, Option.bind_some]
      · simp only [g0, if_false, Option.bind_some]
    · rw [tS_neg gb]
      by_cases q1 : bt (nI (tv μ 0 i)) p = 1
      · by_cases q2 : bt (nI (tA μ p u g a i).1) i = 0
        · by_cases q3 : u < tv μ 7 i
          · simp only [q1, q2, q3, if_true, Option.bind_some]
          · by_cases g0 : g = 0
            · by_cases q4 : muV μ i = 0
              · simp only [q1, q2, q3, if_true, if_false, Option.bind_some, one0]
                rw [if_pos g0, if_pos q4, Option.bind_some]
              · by_cases q5 : tv μ 6 i = u
                · exact absurd ⟨⟨q1, q2⟩, by omega, Or.inr ⟨by omega, q5⟩⟩ gb
                · simp only [q1, q2, q3, if_true, if_false, Option.bind_some, one0]
                  rw [if_pos g0, if_neg q4, if_neg q5, Option.bind_some]
            · exact absurd ⟨⟨q1, q2⟩, by omega, Or.inl (by omega)⟩ gb
        · simp only [q1, q2, if_true, if_false, Option.bind_some]
      · simp only [q1, if_true, if_false, Option.bind_some]) (fun k b P => by
    show X11_tried_L99 134 (nI p) x2 x3 x4 x8 (nI u) (nI g) μ (k + 1) (nI b.1) (nI b.2.1) b.2.2.1 (nI b.2.2.2) (if b.2.2.2 = a.2.2.2 then 0 else 1) (nI (tn μ)) = _
    rw [X11_tried_L99, gi_134 o, T.1.2.1, Option.bind_some, if_pos (nI_le (Nat.le_refl _) (by omega))]) a rfl
  subst P
  have e : X11_tried_L99 134 (nI p) x2 x3 x4 x8 (nI u) (nI g) μ FU (nI a.1) (nI a.2.1) a.2.2.1 (nI a.2.2.2) (if a.2.2.2 = a.2.2.2 then 0 else 1) (nI 0) = _ := e
  rw [if_pos rfl] at e
  exact e
theorem tried65 {μ : Mem} (I : Inv μ) {p h w : Nat} (hp : p < 4) (hh : h ≤ 1000000) (hw : w < 4) (x4 : Int32) : ∃ μ', Sm μ μ' ∧ X11_tried_L65 134 (nI p) (nI h) (nI w) x4 FU 0 0 0 0 0 0 μ = some (nI (kA μ p h w (nw μ)).1.1, nI (kA μ p h w (nw μ)).1.2.1, (kA μ p h w (nw μ)).1.2.2.1, (kA μ p h w (nw μ)).2, nI (kA μ p h w (nw μ)).1.2.2.2, nI (nw μ), μ') := by
  obtain ⟨o, W, C, T, -⟩ := I
  have hn := W.2.2.2.2.2.2.2
  obtain ⟨c, ⟨P1, P2⟩, e⟩ := loopF (F := fun k (c : (TS × Int32) × Mem) i => X11_tried_L65 134 (nI p) (nI h) (nI w) x4 k (nI c.1.1.1) (nI c.1.1.2.1) c.1.1.2.2.1 c.1.2 (nI c.1.1.2.2.2) (nI i) c.2) (P := fun i c => c.1 = kA μ p h w i ∧ Sm μ c.2) (n := nw μ) (r := fun c => (nI c.1.1.1, nI c.1.1.2.1, c.1.1.2.2.1, c.1.2, nI c.1.1.2.2.2, nI (nw μ), c.2)) (by omega) (fun k c i hi P => by
    obtain ⟨b, μ'⟩ := c
    obtain ⟨rfl, s⟩ : b = kA μ p h w i ∧ Sm μ μ' := P
    have o' := s.1
    have W' := W.sm s
    have hw5 : mI μ' 134 5 = nI (nw μ) := (s.fld (a := 134) (k := 5) rfl).trans W.2.2.2.2.2.2.1
    obtain ⟨b1, b2⟩ := kA_bd T p h w i
    obtain ⟨m4, ⟨s4, -⟩, e4⟩ := mseam_ok o' W' (p := p) (t := i) (k := 0) hp (by omega) (by omega)
    rw [sS_odd_sm s] at e4
    have s04 := s.tr s4
    have T4 := Onl.T s04 T
    have C4 : RelC m4 := C.cg (fun q hq => s04.row (coA_4 (by omega) hq)) (s04.row rfl) (s04.row rfl) (s04.row rfl)
    have hs1 : sS μ (odd μ p i 0) ≤ 1000000 := sS_le
    have cg : (if nI (sS μ (odd μ p i 0)) < nI h then (0 : Int32) else 1) = nI (gV μ p i h) := by
      unfold gV
      simp only [n_lt (show sS μ (odd μ p i 0) < 2 ^ 31 by omega) (show h < 2 ^ 31 by omega)]
      split <;> rfl
    have e9 := tried99 s4.1 T4 (p := p) (u := i) (g := gV μ p i h) (by omega) (gV_le μ p i h) b1 (nI h) (nI w) x4 (kA μ p h w i).2
    rw [tA_sm s04, tn_sm s04] at e9
    show ∃ a', _ ∧ X11_tried_L65 134 (nI p) (nI h) (nI w) x4 (k + 1) (nI (kA μ p h w i).1.1) (nI (kA μ p h w i).1.2.1) (kA μ p h w i).1.2.2.1 (kA μ p h w i).2 (nI (kA μ p h w i).1.2.2.2) (nI i) μ' = _
    rw [X11_tried_L65, gi_134 o', hw5, Option.bind_some, if_neg (nI_ge hi (by omega)), vo_134 o', Option.bind_some]
    rw [show X11_seamOdds 134 (nI p) (nI i) 0 μ' = _ from e4, Option.bind_some, cg, Option.bind_some, e9, Option.bind_some]
    by_cases q : (tA μ p i (gV μ p i h) (kA μ p h w i).1 (tn μ)).2.2.2 = (kA μ p h w i).1.2.2.2
    · refine ⟨(kA μ p h w (i + 1), m4), ⟨rfl, s04⟩, ?_⟩
      rw [if_pos q, if_pos rfl, Option.bind_some, Option.bind_some, nI_add1]
      show _ = X11_tried_L65 134 (nI p) (nI h) (nI w) x4 k (nI (kA μ p h w (i + 1)).1.1) (nI (kA μ p h w (i + 1)).1.2.1) (kA μ p h w (i + 1)).1.2.2.1 (kA μ p h w (i + 1)).2 (nI (kA μ p h w (i + 1)).1.2.2.2) (nI (i + 1)) m4
      rw [kA, if_pos q, Int32.add_zero]
    · obtain ⟨m5, s5, e5⟩ := loss_m s4.1 (W'.sm s4) C4 (p := p) (t := i) (k := 0) (w := w) hp (by omega) (by omega) hw
      rw [lsS_sm s04, show odd m4 p i 0 = odd μ p i 0 from funext (odd_sm s04 p i 0)] at e5
      refine ⟨(kA μ p h w (i + 1), m5), ⟨rfl, s04.tr s5⟩, ?_⟩
      rw [if_neg q, if_neg (show ¬ (1 : Int32) = 0 by decide), vo_134 s4.1, Option.bind_some]
      rw [show X11_lossOf 134 (nI p) (nI w) (nI i) 0 m4 = _ from e5, Option.bind_some, Option.bind_some, Option.bind_some, nI_add1]
      show _ = X11_tried_L65 134 (nI p) (nI h) (nI w) x4 k (nI (kA μ p h w (i + 1)).1.1) (nI (kA μ p h w (i + 1)).1.2.1) (kA μ p h w (i + 1)).1.2.2.1 (kA μ p h w (i + 1)).2 (nI (kA μ p h w (i + 1)).1.2.2.2) (nI (i + 1)) m5
      rw [kA, if_neg q]) (fun k c P => by
    have hw5 : mI c.2 134 5 = nI (nw μ) := (P.2.fld (a := 134) (k := 5) rfl).trans W.2.2.2.2.2.2.1
    show X11_tried_L65 134 (nI p) (nI h) (nI w) x4 (k + 1) (nI c.1.1.1) (nI c.1.1.2.1) c.1.1.2.2.1 c.1.2 (nI c.1.1.2.2.2) (nI (nw μ)) c.2 = _
    rw [X11_tried_L65, gi_134 P.2.1, hw5, Option.bind_some, if_pos (nI_le (Nat.le_refl _) (by omega))]) (((0, 0, 0, 0), 0), μ) ⟨rfl, Sm.rf o⟩
  refine ⟨c.2, P2, ?_⟩
  rw [← P1]
  exact e
theorem tried273 {μ : Mem} (I : Inv μ) {p : Nat} {a : TS} (ha : a.1 < 2 ^ 10) (x4 x7 x8 x9 : Int32) : X11_tried_L273 134 (nI p) x4 (nI a.1) x7 x8 x9 μ FU (nI a.2.1) 0 = some (nI (ltA μ p a.1 a.2.1 (tn μ)), nI (tn μ)) := by
  obtain ⟨o, W, C, T, -⟩ := I
  have hn := W.2.2.2.2.2.2.2
  have hw5 := W.2.2.2.2.2.2.1
  have hT := T.1.2.2
  obtain ⟨b, P, e⟩ := loopF (F := fun k (b : Nat) i => X11_tried_L273 134 (nI p) x4 (nI a.1) x7 x8 x9 μ k (nI b) (nI i)) (P := fun i b => b = ltA μ p a.1 a.2.1 i) (n := tn μ) (r := fun b => (nI b, nI (tn μ))) (by omega) (fun k b i hi P => by
    subst P
    have i10 : i < 10 := by omega
    have f0 : mI μ 145 i = _ := (T.2.1 0 i (by decide) i10).2.1
    have f6 : mI μ 151 i = _ := (T.2.1 6 i (by decide) i10).2.1
    have b6 : tv μ 6 i ≤ 60 := (T.2.1 6 i (by decide) i10).2.2
    have c6 : (nI (nw μ) ≤ nI (tv μ 6 i)) = (nw μ ≤ tv μ 6 i) := n_le (by omega) (by omega)
    have bl1 := bt_le (nI (tv μ 0 i)) p
    refine ⟨_, rfl, ?_⟩
    show X11_tried_L273 134 (nI p) x4 (nI a.1) x7 x8 x9 μ (k + 1) (nI (ltA μ p a.1 a.2.1 i)) (nI i) = X11_tried_L273 134 (nI p) x4 (nI a.1) x7 x8 x9 μ k (nI (ltA μ p a.1 a.2.1 (i + 1))) (nI (i + 1))
    rw [X11_tried_L273, gi_134 o, T.1.2.1, Option.bind_some, if_neg (nI_ge hi (by omega))]
    simp only [r_134_13 o, r_134_19 o, ai_145 o i10, ai_151 o i10, gi_134 o, hw5, f0, f6, Option.bind_some, nI_add1, bt_1, bt_z, c6]
    by_cases gb : ltB μ p a.1 i
    · rw [ltA_pos gb]
      obtain ⟨⟨q1, q2⟩, q3⟩ := gb
      have q4 : ¬ nw μ ≤ tv μ 6 i := by omega
      simp only [q1, q2, q4, if_true, if_false, one0, Option.bind_some, nI_add1]
    · rw [ltA_neg gb]
      by_cases q1 : bt (nI (tv μ 0 i)) p = 1
      · by_cases q2 : bt (nI a.1) i = 0
        · by_cases q3 : nw μ ≤ tv μ 6 i
          · simp only [q1, q2, q3, if_true, if_false, one0, Option.bind_some, Int32.add_zero]
          · exact absurd ⟨⟨q1, q2⟩, by omega⟩ gb
        · simp only [q1, q2, if_true, if_false, Option.bind_some, Int32.add_zero]
      · simp only [q1, if_true, if_false, Option.bind_some, Int32.add_zero]) (fun k b P => by
    show X11_tried_L273 134 (nI p) x4 (nI a.1) x7 x8 x9 μ (k + 1) (nI b) (nI (tn μ)) = _
    rw [X11_tried_L273, gi_134 o, T.1.2.1, Option.bind_some, if_pos (nI_le (Nat.le_refl _) (by omega))]) a.2.1 rfl
  subst P
  exact e
theorem p_tried (x1 x2 x3 x4 : Int32) : Pair (X10_tried 0 x1 x2 x3 x4) (X11_tried 134 x1 x2 x3 x4) := by
  intro μ I
  have I0 := I
  obtain ⟨o, W, hC, hT, hS, hX, hL⟩ := I
  have hn := W.2.2.2.2.2.2.2
  have w6 := W.2.2.2.2.2
  rcases gd x1 3 (by decide) with ⟨g1, k1⟩ | ⟨g1, k1, p, hp, rfl⟩
  · exact pairR I0 (by unfold X10_tried; rw [if_pos (show X10_isPerson x1 = 0 from g1)]) (by unfold X11_tried; rw [if_pos (show X11_isPerson x1 = 0 from k1)])
  rcases gd x2 1000000 (by decide) with ⟨g2, k2⟩ | ⟨g2, k2, h, hh, rfl⟩
  · exact pairR I0 (by unfold X10_tried; rw [if_neg (show ¬ X10_isPerson (nI p) = 0 from g1), if_pos (show X10_within x2 0 1000000 = 0 from g2)]) (by unfold X11_tried; rw [if_neg (show ¬ X11_isPerson (nI p) = 0 from k1), if_pos (show X11_in x2.toInt64 0 1000000 = 0 from k2)])
  rcases gd x3 3 (by decide) with ⟨g3, k3⟩ | ⟨g3, k3, w, hw, rfl⟩
  · exact pairR I0 (by unfold X10_tried; rw [if_neg (show ¬ X10_isPerson (nI p) = 0 from g1), if_neg (show ¬ X10_within (nI h) 0 1000000 = 0 from g2), if_pos (show X10_isWay x3 = 0 from g3)]) (by unfold X11_tried; rw [if_neg (show ¬ X11_isPerson (nI p) = 0 from k1), if_neg (show ¬ X11_in (nI h).toInt64 0 1000000 = 0 from k2), if_pos (show X11_isWay x3 = 0 from k3)])
  rcases gd x4 3 (by decide) with ⟨g4, k4⟩ | ⟨g4, k4, v, hv, rfl⟩
  · exact pairR I0 (by unfold X10_tried; rw [if_neg (show ¬ X10_isPerson (nI p) = 0 from g1), if_neg (show ¬ X10_within (nI h) 0 1000000 = 0 from g2), if_neg (show ¬ X10_isWay (nI w) = 0 from g3), if_pos (show X10_within x4 0 3 = 0 from g4)]) (by unfold X11_tried; rw [if_neg (show ¬ X11_isPerson (nI p) = 0 from k1), if_neg (show ¬ X11_in (nI h).toInt64 0 1000000 = 0 from k2), if_neg (show ¬ X11_isWay (nI w) = 0 from k3), if_pos (show X11_in x4.toInt64 0 3 = 0 from k4)])
  have ⟨m0, em0⟩ : ∃ m, m = wI (wI (wI (wI (wI μ 107 0 0) 107 1 0) 107 2 0) 107 3 0) 107 7 0 := ⟨_, rfl⟩
  have s0 : Sm μ m0 := by
    rw [em0]
    exact (((((Sm.rf o).wI rfl).wI rfl).wI rfl).wI rfl).wI rfl
  have r0 : R7 m0 (0, 0, 0, 0) 0 := by
    rw [em0]
    unfold R7
    simp (disch := omega) only [fld_ne, fld_eq]
    exact ⟨rfl, rfl, trivial, rfl, trivial⟩
  have I1 := I0.sm s0
  obtain ⟨m1, ⟨s1, r1⟩, e1⟩ := run28 I1 (p := p) (h := h) (w := w) (by omega) hh (by omega) r0
  have I2 := I1.sm s1
  rw [kA_sm s0, nw_sm s0] at r1
  rw [nw_sm s0] at e1
  obtain ⟨bd, -⟩ := kA_bd hT p h w (nw μ)
  obtain ⟨m2, ⟨s2, r2⟩, e2⟩ := run120 I2 (p := p) bd r1
  have s01 := s0.tr s1
  rw [nw_sm s01, tn_sm s01] at e2
  rw [tn_sm s01, ltA_sm s01] at r2
  have s02 := s01.tr s2
  have I3 := I0.sm s02
  obtain ⟨m3, s3, e3⟩ := tried65 I3 (p := p) (h := h) (w := w) (by omega) hh (by omega) (nI v)
  rw [kA_sm s02, nw_sm s02] at e3
  have I4 := I3.sm s3
  have e4 := tried273 I4 (p := p) bd (nI v) (kA μ p h w (nw μ)).1.2.2.1 (kA μ p h w (nw μ)).2 (nI (kA μ p h w (nw μ)).1.2.2.2)
  rw [tn_sm (s02.tr s3), ltA_sm (s02.tr s3)] at e4
  have rC : X7_run 107 (nI p) (nI h) (nI w) (nI (nw μ)) μ = some m2 := by
    unfold X7_run
    rw [pi_107 o, Option.bind_some, pi_107 o.wI, Option.bind_some, pi_107 o.wI.wI, Option.bind_some, pi_107 o.wI.wI.wI, Option.bind_some, pi_107 o.wI.wI.wI.wI, Option.bind_some, ← em0, e1, Option.bind_some, e2, Option.bind_some]
  obtain ⟨z7, z0, z1, z3, z2⟩ := r2
  have main : ∀ x : Int32, (if nI v = Int32.ofNat 0 then nI (ltA μ p (kA μ p h w (nw μ)).1.1 (kA μ p h w (nw μ)).1.2.1 (tn μ)) else if nI v = Int32.ofNat 1 then (kA μ p h w (nw μ)).1.2.2.1 else if nI v = Int32.ofNat 2 then (kA μ p h w (nw μ)).2 else nI (kA μ p h w (nw μ)).1.2.2.2) = x → ∃ r μ1 μ2, X10_tried 0 (nI p) (nI h) (nI w) (nI v) μ = some (r, μ1) ∧ Ok μ1 ∧ X11_tried 134 (nI p) (nI h) (nI w) (nI v) μ1 = some (r, μ2) ∧ Inv μ2 := by
    intro x ex
    refine pairS I0 (r := x) (μ1 := m2) (μ2 := m3) ?_ s02 ?_ s3
    · unfold X10_tried
      rw [if_neg (show ¬ X10_isPerson (nI p) = 0 from g1), if_neg (show ¬ X10_within (nI h) 0 1000000 = 0 from g2), if_neg (show ¬ X10_isWay (nI w) = 0 from g3), if_neg (show ¬ X10_within (nI v) 0 3 = 0 from g4), r_0_7 o, Option.bind_some, gi_0 o, w6.1, Option.bind_some, vo_107 o, Option.bind_some, rC, Option.bind_some]
      simp only [r_0_7 s02.1, gi_107 s02.1, Option.bind_some, z0, z1, z2, z3]
      rw [← ex]
      split
      · rfl
      · split
        · rfl
        · split <;> rfl
    · unfold X11_tried
      rw [if_neg (show ¬ X11_isPerson (nI p) = 0 from k1), if_neg (show ¬ X11_in (nI h).toInt64 0 1000000 = 0 from k2), if_neg (show ¬ X11_isWay (nI w) = 0 from k3), if_neg (show ¬ X11_in (nI v).toInt64 0 3 = 0 from k4), e3, Option.bind_some]
      rw [e4, Option.bind_some]
      rw [← ex]
      rfl
  exact main _ rfl
end
section
/-! ===== LAWS as sets ===== -/
def aF (μ : Mem) (p : Nat) : Nat → Nat
  | 0 => 0
  | k + 1 => if lv μ 0 p k = 4 then aF μ p k ||| 2 ^ lv μ 1 p k else aF μ p k
def bK (μ : Mem) (p u : Nat) : Nat → Nat
  | 0 => 0
  | k + 1 => if lv μ 0 p k = 2 ∧ lv μ 2 p k < u then bK μ p u k ||| 2 ^ lv μ 1 p k else bK μ p u k
def bWc (μ : Mem) (p : Nat) (od : Nat → Nat) (k : Nat) : Prop := lv μ 0 p k = 0 ∨ (lv μ 0 p k = 1 ∧ lv μ 3 p k * 1000000 ≤ od (lv μ 2 p k) * 100)
theorem bWd (μ : Mem) (p : Nat) (od : Nat → Nat) (k : Nat) : bWc μ p od k ∨ ¬ bWc μ p od k := Classical.em _
noncomputable def bW (μ : Mem) (p : Nat) (od : Nat → Nat) : Nat → Nat
  | 0 => 0
  | k + 1 => @ite Nat (bWc μ p od k) (Classical.propDecidable _) (bW μ p od k ||| 2 ^ lv μ 1 p k) (bW μ p od k)
theorem bW_pos {μ : Mem} {p : Nat} {od : Nat → Nat} {k : Nat} (h : bWc μ p od k) : bW μ p od (k + 1) = bW μ p od k ||| 2 ^ lv μ 1 p k := if_pos h
theorem bW_neg {μ : Mem} {p : Nat} {od : Nat → Nat} {k : Nat} (h : ¬ bWc μ p od k) : bW μ p od (k + 1) = bW μ p od k := if_neg h
section LW
variable {μ : Mem} {p : Nat}
theorem lw_is (o : Ok μ) (hp : p < 4) : isLw (lwA μ p) := (o.2.2.2.2.1 p hp).2
theorem aF_lt (L : RelL μ) (hp : p < 4) : ∀ n, n ≤ lc μ p → aF μ p n < 2 ^ 10
  | 0, _ => (by decide : (0 : Nat) < 2 ^ 10)
  | n + 1, h => by
    have ih := aF_lt L hp n (by omega)
    have b := ((L p hp).2 n (by omega)).2.1.2.2.1
    rw [aF]
    split
    · exact or_put_lt ih (by omega)
    · exact ih
theorem bK_lt (L : RelL μ) (hp : p < 4) (u : Nat) : ∀ n, n ≤ lc μ p → bK μ p u n < 2 ^ 10
  | 0, _ => (by decide : (0 : Nat) < 2 ^ 10)
  | n + 1, h => by
    have ih := bK_lt L hp u n (by omega)
    have b := ((L p hp).2 n (by omega)).2.1.2.2.1
    rw [bK]
    split
    · exact or_put_lt ih (by omega)
    · exact ih
theorem bW_lt (L : RelL μ) (hp : p < 4) (od : Nat → Nat) : ∀ n, n ≤ lc μ p → bW μ p od n < 2 ^ 10
  | 0, _ => (by decide : (0 : Nat) < 2 ^ 10)
  | n + 1, h => by
    have ih := bW_lt L hp od n (by omega)
    have b := ((L p hp).2 n (by omega)).2.1.2.2.1
    rcases bWd μ p od n with q | q
    · rw [bW_pos q]
      exact or_put_lt ih (by omega)
    · rw [bW_neg q]
      exact ih
theorem always_c (o : Ok μ) (L : RelL μ) (hp : p < 4) : X3_alwaysFrom (lwA μ p) μ = some (nI (aF μ p (lc μ p))) := by
  have il := lw_is o hp
  obtain ⟨⟨l0, -, l8⟩, hk⟩ := L p hp
  obtain ⟨a, P, e⟩ := loopF (F := fun k (a : Nat) i => X3_alwaysFrom_L4 (lwA μ p) μ k (nI a) (nI i)) (P := fun i a => a = aF μ p i) (n := lc μ p) (r := fun a => (nI a, nI (lc μ p))) (by omega) (fun k a i hi P => by
    subst P
    have i8 : i < 8 := by omega
    obtain ⟨A0, A1, -, -⟩ := hk i hi
    have c4 : (nI (lv μ 0 p i) = 4) = (lv μ 0 p i = 4) := n_eq (b := 4) (by omega) (by decide)
    refine ⟨_, rfl, ?_⟩
    show X3_alwaysFrom_L4 (lwA μ p) μ (k + 1) (nI (aF μ p i)) (nI i) = X3_alwaysFrom_L4 (lwA μ p) μ k (nI (aF μ p (i + 1))) (nI (i + 1))
    rw [X3_alwaysFrom_L4, gi_l o il, l0, Option.bind_some, if_neg (nI_ge hi (by omega)), aF]
    simp only [rl_1 o il, rl_2 o il, al_1 o il i8, al_2 o il i8, A0.1, A1.1, Option.bind_some, c4, nI_add1, or_put (show lv μ 1 p i < 31 by omega)]
    by_cases q : lv μ 0 p i = 4
    · rw [if_pos q, if_pos q]
      rfl
    · rw [if_neg q, if_neg q]
      rfl) (fun k a P => by
    show X3_alwaysFrom_L4 (lwA μ p) μ (k + 1) (nI a) (nI (lc μ p)) = _
    rw [X3_alwaysFrom_L4, gi_l o il, l0, Option.bind_some, if_pos (nI_le (Nat.le_refl _) (by omega))]) 0 rfl
  subst P
  have e : X3_alwaysFrom_L4 (lwA μ p) μ FU 0 0 = _ := e
  unfold X3_alwaysFrom
  rw [e, Option.bind_some]
theorem kinds_c (o : Ok μ) (L : RelL μ) (hp : p < 4) {u : Nat} (hu : u < 1000) : X3_barredKinds (lwA μ p) (nI u) μ = some (nI (bK μ p u (lc μ p))) := by
  have il := lw_is o hp
  obtain ⟨⟨l0, -, l8⟩, hk⟩ := L p hp
  obtain ⟨a, P, e⟩ := loopF (F := fun k (a : Nat) i => X3_barredKinds_L4 (lwA μ p) (nI u) μ k (nI a) (nI i)) (P := fun i a => a = bK μ p u i) (n := lc μ p) (r := fun a => (nI a, nI (lc μ p))) (by omega) (fun k a i hi P => by
    subst P
    have i8 : i < 8 := by omega
    obtain ⟨A0, A1, A2, -⟩ := hk i hi
    have c2 : (nI (lv μ 0 p i) = 2) = (lv μ 0 p i = 2) := n_eq (b := 2) (by omega) (by decide)
    refine ⟨_, rfl, ?_⟩
    show X3_barredKinds_L4 (lwA μ p) (nI u) μ (k + 1) (nI (bK μ p u i)) (nI i) = X3_barredKinds_L4 (lwA μ p) (nI u) μ k (nI (bK μ p u (i + 1))) (nI (i + 1))
    rw [X3_barredKinds_L4, gi_l o il, l0, Option.bind_some, if_neg (nI_ge hi (by omega)), bK]
    simp only [rl_1 o il, rl_2 o il, rl_3 o il, al_1 o il i8, al_2 o il i8, al_3 o il i8, A0.1, A1.1, Option.bind_some, c2, nI_add1, or_put (show lv μ 1 p i < 31 by omega)]
    by_cases q : lv μ 0 p i = 2
    · obtain ⟨z1, -, z3, -⟩ := A2 (by omega) (by omega)
      rw [if_pos q, z1]
      simp only [n_le (show u < 2 ^ 31 by omega) (show lv μ 2 p i < 2 ^ 31 by omega)]
      by_cases q2 : u ≤ lv μ 2 p i
      · rw [if_pos q2, if_neg (by omega)]
        rfl
      · rw [if_neg q2, if_pos ⟨q, by omega⟩]
        rfl
    · rw [if_neg q, if_neg (fun z => q z.1)]
      rfl) (fun k a P => by
    show X3_barredKinds_L4 (lwA μ p) (nI u) μ (k + 1) (nI a) (nI (lc μ p)) = _
    rw [X3_barredKinds_L4, gi_l o il, l0, Option.bind_some, if_pos (nI_le (Nat.le_refl _) (by omega))]) 0 rfl
  subst P
  have e : X3_barredKinds_L4 (lwA μ p) (nI u) μ FU 0 0 = _ := e
  unfold X3_barredKinds
  rw [e, Option.bind_some]
theorem lg_nlt {a b : Nat} (ha : a < 2 ^ 63) (hb : b < 2 ^ 63) : (lg_cmp (lN a) (lN b) < 0) = (a < b) := propext ((lg_cmp_lt _ _).trans (pk_lLT ha hb))
theorem likely_c (o : Ok μ) (L : RelL μ) (hp : p < 4) {i r : Nat} (hi : i < lc μ p) (h1 : lv μ 0 p i = 1) (hr : r < 175) (sr : S0 r = (1, 4)) {od : Nat → Nat} (hd : HI μ r 4 od) (ob : ∀ j, j < 4 → od j ≤ 1000000) : X3_isLikely (lwA μ p) (nI i) r μ = some (if lv μ 3 p i * 1000000 ≤ od (lv μ 2 p i) * 100 then 1 else 0) := by
  have il := lw_is o hp
  obtain ⟨⟨l0, -, l8⟩, hk⟩ := L p hp
  have i8 : i < 8 := by omega
  obtain ⟨A0, A1, A2, A3⟩ := hk i hi
  obtain ⟨z1, -, z3, z4⟩ := A2 (by omega) (by omega)
  obtain ⟨y1, -, y3⟩ := A3 h1
  have z5 := z4 h1
  have b := ob (lv μ 2 p i) (by omega)
  unfold X3_isLikely
  rw [rl_3 o il, Option.bind_some, al_3 o il i8, z1, Option.bind_some, if_neg (nI_pos (by omega)), aL_eq o hr sr (by decide) (by decide), Option.bind_some, if_neg (nI_ge (by omega) (by decide)), aI_eq o hr sr (by omega) (by decide), hd _ (by omega), Option.bind_some, rl_4 o il, Option.bind_some, al_4 o il i8, y1, Option.bind_some, nI_l (by omega), nI_l (by omega), show (100 : Int64) = lN 100 from rfl, show (1000000 : Int64) = lN 1000000 from rfl, lN_mul, lN_mul]
  simp only [lg_nlt (show od (lv μ 2 p i) * 100 < 2 ^ 63 by omega) (show lv μ 3 p i * 1000000 < 2 ^ 63 by omega)]
  by_cases q : lv μ 3 p i * 1000000 ≤ od (lv μ 2 p i) * 100
  · rw [if_neg (by omega), if_pos q]
    rfl
  · rw [if_pos (by omega), if_neg q]
    rfl
theorem ways_c (o : Ok μ) (L : RelL μ) (hp : p < 4) {r : Nat} (hr : r < 175) (sr : S0 r = (1, 4)) {od : Nat → Nat} (hd : HI μ r 4 od) (ob : ∀ j, j < 4 → od j ≤ 1000000) : X3_barredWays (lwA μ p) r μ = some (nI (bW μ p od (lc μ p))) := by
  have il := lw_is o hp
  have L0 := L
  obtain ⟨⟨l0, -, l8⟩, hk⟩ := L p hp
  obtain ⟨a, P, e⟩ := loopF (F := fun k (a : Nat) i => X3_barredWays_L4 (lwA μ p) r μ k (nI a) (nI i)) (P := fun i a => a = bW μ p od i) (n := lc μ p) (r := fun a => (nI a, nI (lc μ p))) (by omega) (fun k a i hi P => by
    subst P
    have i8 : i < 8 := by omega
    obtain ⟨A0, A1, A2, -⟩ := hk i hi
    have c0 : (nI (lv μ 0 p i) = 0) = (lv μ 0 p i = 0) := n_eq (b := 0) (by omega) (by decide)
    have c1 : (nI (lv μ 0 p i) = 1) = (lv μ 0 p i = 1) := n_eq (b := 1) (by omega) (by decide)
    refine ⟨_, rfl, ?_⟩
    show X3_barredWays_L4 (lwA μ p) r μ (k + 1) (nI (bW μ p od i)) (nI i) = X3_barredWays_L4 (lwA μ p) r μ k (nI (bW μ p od (i + 1))) (nI (i + 1))
    rw [X3_barredWays_L4, gi_l o il, l0, Option.bind_some, if_neg (nI_ge hi (by omega))]
    simp only [rl_1 o il, rl_2 o il, al_1 o il i8, al_2 o il i8, vo_l o il, A0.1, A1.1, Option.bind_some, c0, c1, nI_add1, or_put (show lv μ 1 p i < 31 by omega)]
    by_cases q : lv μ 0 p i = 0
    · rw [if_pos q, bW_pos (Or.inl q)]
      rfl
    · rw [if_neg q]
      by_cases q1 : lv μ 0 p i = 1
      · rw [if_pos q1, likely_c o L0 hp hi q1 hr sr hd ob, Option.bind_some]
        by_cases q2 : lv μ 3 p i * 1000000 ≤ od (lv μ 2 p i) * 100
        · rw [if_pos q2, if_neg (by decide), bW_pos (Or.inr ⟨q1, q2⟩)]
          rfl
        · rw [if_neg q2, if_pos rfl, bW_neg (fun z => z.elim q (fun w => q2 w.2))]
          rfl
      · rw [if_neg q1, bW_neg (fun z => z.elim q (fun w => q1 w.1))]
        rfl) (fun k a P => by
    show X3_barredWays_L4 (lwA μ p) r μ (k + 1) (nI a) (nI (lc μ p)) = _
    rw [X3_barredWays_L4, gi_l o il, l0, Option.bind_some, if_pos (nI_le (Nat.le_refl _) (by omega))]) 0 rfl
  subst P
  have e : X3_barredWays_L4 (lwA μ p) r μ FU 0 0 = _ := e
  unfold X3_barredWays
  rw [e, Option.bind_some]
/-! the gate -/
def alT (μ : Mem) (p t : Nat) : Bool := (aF μ p (lc μ p)).testBit (tv μ 3 t)
def aT (μ : Mem) (p : Nat) : Nat → Nat
  | 0 => 0
  | t + 1 => if alT μ p t = true then aT μ p t ||| 2 ^ t else aT μ p t
def kdT (μ : Mem) (p u t : Nat) : Bool := !(alT μ p t) && (bK μ p u (lc μ p)).testBit (tv μ 1 t)
def kT (μ : Mem) (p u : Nat) : Nat → Nat
  | 0 => 0
  | t + 1 => if kdT μ p u t = true then kT μ p u t ||| 2 ^ t else kT μ p u t
theorem aT_bit (μ : Mem) (p i : Nat) : ∀ n, (aT μ p n).testBit i = (decide (i < n) && alT μ p i)
  | 0 => by rw [aT, Nat.zero_testBit]; rfl
  | n + 1 => by
    rw [aT]
    by_cases q : alT μ p n = true
    · rw [if_pos q, or_put_bit, aT_bit μ p i n]
      by_cases e : n = i
      · subst e
        simp [q]
      · have : (i < n + 1) = (i < n) := propext ⟨fun _ => by omega, fun _ => by omega⟩
        simp [e, this]
    · rw [if_neg q, aT_bit μ p i n]
      by_cases e : n = i
      · subst e
        simp [q]
      · have : (i < n + 1) = (i < n) := propext ⟨fun _ => by omega, fun _ => by omega⟩
        simp [this]
theorem kT_bit (μ : Mem) (p u i : Nat) : ∀ n, (kT μ p u n).testBit i = (decide (i < n) && kdT μ p u i)
  | 0 => by rw [kT, Nat.zero_testBit]; rfl
  | n + 1 => by
    rw [kT]
    by_cases q : kdT μ p u n = true
    · rw [if_pos q, or_put_bit, kT_bit μ p u i n]
      by_cases e : n = i
      · subst e
        simp [q]
      · have : (i < n + 1) = (i < n) := propext ⟨fun _ => by omega, fun _ => by omega⟩
        simp [e, this]
    · rw [if_neg q, kT_bit μ p u i n]
      by_cases e : n = i
      · subst e
        simp [q]
      · have : (i < n + 1) = (i < n) := propext ⟨fun _ => by omega, fun _ => by omega⟩
        simp [this]
theorem aT_lt (μ : Mem) (p : Nat) (n : Nat) : aT μ p n < 2 ^ n := Nat.lt_pow_two_of_testBit _ (fun i hi => by rw [aT_bit, show decide (i < n) = false from decide_eq_false (by omega)]; rfl)
theorem kT_lt (μ : Mem) (p u : Nat) (n : Nat) : kT μ p u n < 2 ^ n := Nat.lt_pow_two_of_testBit _ (fun i hi => by rw [kT_bit, show decide (i < n) = false from decide_eq_false (by omega)]; rfl)
end LW
theorem aF_sm {μ μ' : Mem} (s : Sm μ μ') (p : Nat) : ∀ n, aF μ' p n = aF μ p n
  | 0 => rfl
  | n + 1 => by rw [aF, aF, aF_sm s p n, lv_sm s (by decide), lv_sm s (by decide)]
theorem bK_sm {μ μ' : Mem} (s : Sm μ μ') (p u : Nat) : ∀ n, bK μ' p u n = bK μ p u n
  | 0 => rfl
  | n + 1 => by rw [bK, bK, bK_sm s p u n, lv_sm s (by decide), lv_sm s (by decide), lv_sm s (by decide)]
theorem bW_sm {μ μ' : Mem} (s : Sm μ μ') (p : Nat) (od : Nat → Nat) : ∀ n, bW μ' p od n = bW μ p od n
  | 0 => rfl
  | n + 1 => by
    have e : bWc μ' p od n = bWc μ p od n := by
      unfold bWc
      rw [lv_sm s (by decide), lv_sm s (by decide), lv_sm s (by decide)]
    rcases bWd μ p od n with q | q
    · rw [bW_pos q, bW_pos (by rw [e]; exact q), bW_sm s p od n, lv_sm s (by decide)]
    · rw [bW_neg q, bW_neg (by rw [e]; exact q), bW_sm s p od n]
theorem alT_sm {μ μ' : Mem} (s : Sm μ μ') (p t : Nat) : alT μ' p t = alT μ p t := by
  unfold alT
  rw [aF_sm s, lc_sm s, tv_sm s (by decide)]
theorem kdT_sm {μ μ' : Mem} (s : Sm μ μ') (p u t : Nat) : kdT μ' p u t = kdT μ p u t := by
  unfold kdT
  rw [alT_sm s, bK_sm s, lc_sm s, tv_sm s (by decide)]
theorem aT_sm {μ μ' : Mem} (s : Sm μ μ') (p n : Nat) : aT μ' p n = aT μ p n := Nat.eq_of_testBit_eq (fun i => by rw [aT_bit, aT_bit, alT_sm s])
theorem kT_sm {μ μ' : Mem} (s : Sm μ μ') (p u n : Nat) : kT μ' p u n = kT μ p u n := Nat.eq_of_testBit_eq (fun i => by rw [kT_bit, kT_bit, kdT_sm s])
theorem isGt {G : Nat} (h : G = 93 ∨ G = 97) : S0 G = (0, 1) ∧ G < 175 ∧ ∀ k, cor G k = false := by
  rcases h with rfl | rfl
  · exact ⟨rfl, by decide, fun _ => rfl⟩
  · exact ⟨rfl, by decide, fun _ => rfl⟩
/-- the gate holds what the LAWS bar in a TICK -/
def Gt (μ : Mem) (G : Nat) (p u : Nat) (od : Nat → Nat) (ν : Mem) : Prop := mI ν G 0 = nI (aT μ p (tn μ)) ∧ mI ν G 1 = nI (kT μ p u (tn μ)) ∧ mI ν G 2 = nI (bW μ p od (lc μ p))
theorem open_c {μ : Mem} (I : Inv μ) {G p u r : Nat} (hG : G = 93 ∨ G = 97) (hp : p < 4) (hu : u < 1000) (hr : r < 175) (sr : S0 r = (1, 4)) {od : Nat → Nat} (hd : HI μ r 4 od) (ob : ∀ j, j < 4 → od j ≤ 1000000) : ∃ ν, (Onl G μ ν ∧ Gt μ G p u od ν) ∧ X1_open G (lwA μ p) 37 (nI u) r μ = some ν := by
  obtain ⟨o, W, C, T, S, X, L⟩ := I
  have il := lw_is o hp
  have hn := T.1.2.2
  obtain ⟨sG, hG2, cG⟩ := isGt hG
  have a10 := aF_lt L hp (lc μ p) (Nat.le_refl _)
  have k10 := bK_lt L hp u (lc μ p) (Nat.le_refl _)
  have hm0 : Onl G μ (wI (wI (wI μ G 2 (nI (bW μ p od (lc μ p)))) G 0 0) G 1 0) := ((Onl.rf o).wI.wI).wI
  have hz : mI (wI (wI (wI μ G 2 (nI (bW μ p od (lc μ p)))) G 0 0) G 1 0) G 0 = nI (aT μ p 0) ∧ mI (wI (wI (wI μ G 2 (nI (bW μ p od (lc μ p)))) G 0 0) G 1 0) G 1 = nI (kT μ p u 0) ∧ mI (wI (wI (wI μ G 2 (nI (bW μ p od (lc μ p)))) G 0 0) G 1 0) G 2 = nI (bW μ p od (lc μ p)) := ⟨(fld_ne (by omega)).trans fld_eq, fld_eq, (fld_ne (by omega)).trans ((fld_ne (by omega)).trans fld_eq)⟩
  obtain ⟨ν, ⟨P1, P2⟩, e⟩ := loopF (F := fun k (ν : Mem) i => X1_open_L36 G 37 (nI (aF μ p (lc μ p))) (nI (bK μ p u (lc μ p))) k (nI i) ν) (P := fun i ν => Onl G μ ν ∧ mI ν G 0 = nI (aT μ p i) ∧ mI ν G 1 = nI (kT μ p u i) ∧ mI ν G 2 = nI (bW μ p od (lc μ p))) (n := tn μ) (r := fun ν => (nI (tn μ), ν)) (by omega) (fun k ν i hi P => by
    obtain ⟨on, g0, g1, g2⟩ := P
    have s := on.sm cG
    have oν := on.1
    have i10 : i < 10 := by omega
    have Tν := Onl.T s T
    have ct : mI ν 37 2 = nI (tn μ) := (s.fld (a := 37) (k := 2) rfl).trans T.1.1
    have f3 := (Tν.2.1 3 i (by decide) i10).1
    have f1 := (Tν.2.1 1 i (by decide) i10).1
    rw [tv_sm s (by decide)] at f3 f1
    have b3 : tv μ 3 i ≤ 9 := (T.2.1 3 i (by decide) i10).2.2
    have b1 : tv μ 1 i ≤ 3 := (T.2.1 1 i (by decide) i10).2.2
    have gG : ∀ k ν', Ok ν' → gI 1 k G ν' = some (mI ν' G k) := fun k ν' o' => gI_eq o' hG2 sG
    have pG : ∀ k x ν', Ok ν' → pI 1 k G x ν' = some (wI ν' G k x) := fun k x ν' o' => pI_eq o' hG2 sG
    show ∃ a', _ ∧ X1_open_L36 G 37 (nI (aF μ p (lc μ p))) (nI (bK μ p u (lc μ p))) (k + 1) (nI i) ν = _
    rw [X1_open_L36, gi_37 oν, ct, Option.bind_some, if_neg (nI_ge hi (by omega))]
    simp only [r_37_0 oν, ar_things oν i10, gi_T oν i10, f3, f1, Option.bind_some, gG _ ν oν, pG _ _ ν oν, g0, g1, or_put (show i < 31 by omega), has_t (show aF μ p (lc μ p) < 2 ^ 31 by omega) (show tv μ 3 i < 31 by omega), has_t (show bK μ p u (lc μ p) < 2 ^ 31 by omega) (show tv μ 1 i < 31 by omega), nI_add1]
    by_cases q : alT μ p i = true
    · have q' : ¬ (aF μ p (lc μ p)).testBit (tv μ 3 i) = false := by rw [show (aF μ p (lc μ p)).testBit (tv μ 3 i) = true from q]; decide
      refine ⟨wI ν G 0 (nI (aT μ p i ||| 2 ^ i)), ⟨on.wI, ?_, ?_, ?_⟩, ?_⟩
      · rw [fld_eq, aT, if_pos q]
      · rw [fld_ne (by omega), g1, kT, if_neg (by unfold kdT; rw [q, Bool.not_true, Bool.false_and]; decide)]
      · rw [fld_ne (by omega), g2]
      · rw [if_neg q', Option.bind_some]
    · have q0 : alT μ p i = false := by cases h : alT μ p i; rfl; exact absurd h q
      have q' : (aF μ p (lc μ p)).testBit (tv μ 3 i) = false := q0
      rw [if_pos q']
      by_cases q2 : (bK μ p u (lc μ p)).testBit (tv μ 1 i) = false
      · refine ⟨ν, ⟨on, ?_, ?_, g2⟩, ?_⟩
        · rw [aT, if_neg q, g0]
        · rw [kT, if_neg (by unfold kdT; rw [q2, Bool.and_false]; decide), g1]
        · rw [if_pos q2, Option.bind_some]
      · have q2t : (bK μ p u (lc μ p)).testBit (tv μ 1 i) = true := by cases h : (bK μ p u (lc μ p)).testBit (tv μ 1 i); exact absurd h q2; rfl
        refine ⟨wI ν G 1 (nI (kT μ p u i ||| 2 ^ i)), ⟨on.wI, ?_, ?_, ?_⟩, ?_⟩
        · rw [fld_ne (by omega), aT, if_neg q, g0]
        · rw [fld_eq, kT, if_pos (by unfold kdT; rw [q0, q2t]; rfl)]
        · rw [fld_ne (by omega), g2]
        · rw [if_neg q2, Option.bind_some]) (fun k ν P => by
    have ct : mI ν 37 2 = nI (tn μ) := ((P.1.sm cG).fld (a := 37) (k := 2) rfl).trans T.1.1
    show X1_open_L36 G 37 (nI (aF μ p (lc μ p))) (nI (bK μ p u (lc μ p))) (k + 1) (nI (tn μ)) ν = _
    rw [X1_open_L36, gi_37 P.1.1, ct, Option.bind_some, if_pos (nI_le (Nat.le_refl _) (by omega))]) (wI (wI (wI μ G 2 (nI (bW μ p od (lc μ p)))) G 0 0) G 1 0) ⟨hm0, hz⟩
  have e : X1_open_L36 G 37 (nI (aF μ p (lc μ p))) (nI (bK μ p u (lc μ p))) FU 0 (wI (wI (wI μ G 2 (nI (bW μ p od (lc μ p)))) G 0 0) G 1 0) = _ := e
  refine ⟨ν, ⟨P1, P2⟩, ?_⟩
  unfold X1_open
  rw [vo_l o il, Option.bind_some, always_c o L hp, Option.bind_some, Option.bind_some, kinds_c o L hp hu, Option.bind_some, Option.bind_some, ways_c o L hp hr sr hd ob, Option.bind_some, pI_eq o hG2 sG, Option.bind_some, pI_eq o.wI hG2 sG, Option.bind_some, pI_eq o.wI.wI hG2 sG, Option.bind_some, e, Option.bind_some]
/-- 0: LET; 1 the WAY, 2 a KIND, 3 most -/
noncomputable def barV (μ : Mem) (p u : Nat) (od : Nat → Nat) (set way m : Nat) : Nat := if nd set (aT μ p (tn μ)) = 0 then (if set &&& kT μ p u (tn μ) = 0 then 0 else 2) else if (bW μ p od (lc μ p)).testBit way = true then 1 else if set &&& kT μ p u (tn μ) = 0 then (if m = 0 then 0 else 3) else 2
theorem bar_c {μ ν : Mem} (I : Inv μ) {G p u : Nat} {od : Nat → Nat} (hG : G = 93 ∨ G = 97) (hp : p < 4) (o : Ok ν) (g : Gt μ G p u od ν) {set way m : Nat} (hs : set < 2 ^ 10) (hw : way < 4) (hm : m ≤ 1) : X1_bar G (nI set) (nI way) (nI m) ν = some (nI (barV μ p u od set way m)) := by
  obtain ⟨o0, W, C, T, S, X, L⟩ := I
  obtain ⟨sG, hG2, cG⟩ := isGt hG
  obtain ⟨g0, g1, g2⟩ := g
  have w10 := bW_lt L hp od (lc μ p) (Nat.le_refl _)
  have nb := nd_le set (aT μ p (tn μ))
  have kb : set &&& kT μ p u (tn μ) ≤ set := Nat.and_le_left
  have gG : ∀ k, gI 1 k G ν = some (mI ν G k) := fun k => gI_eq o hG2 sG
  have c1 : (nI (nd set (aT μ p (tn μ))) = 0) = (nd set (aT μ p (tn μ)) = 0) := n_eq (b := 0) (by omega) (by decide)
  have c2 : (nI (set &&& kT μ p u (tn μ)) = 0) = (set &&& kT μ p u (tn μ) = 0) := n_eq (b := 0) (by omega) (by decide)
  have cm : (nI m = 0) = (m = 0) := n_eq (b := 0) (by omega) (by decide)
  unfold X1_bar X1_isAlways barV
  simp only [vO_eq o hG2 sG, gG, g0, g1, g2, Option.bind_some, nd_eq (show set < 2 ^ 31 by omega), fa_and, c1, c2, cm, has_t (show bW μ p od (lc μ p) < 2 ^ 31 by omega) (show way < 31 by omega)]
  by_cases q : nd set (aT μ p (tn μ)) = 0
  · simp only [q, if_true, zz1, Option.bind_some, one0, if_false]
    by_cases q2 : set &&& kT μ p u (tn μ) = 0
    · simp only [q2, if_true]
      rfl
    · simp only [q2, if_false]
      rfl
  · simp only [q, if_false, zz0, Option.bind_some, if_true]
    by_cases q3 : (bW μ p od (lc μ p)).testBit way = true
    · simp only [q3, if_true, show ((true : Bool) = false) = False from by decide, if_false]
      rfl
    · have q3' : (bW μ p od (lc μ p)).testBit way = false := by cases h : (bW μ p od (lc μ p)).testBit way; rfl; exact absurd h q3
      simp only [q3', if_true, show ((false : Bool) = true) = False from by decide, if_false]
      by_cases q2 : set &&& kT μ p u (tn μ) = 0
      · simp only [q2, if_true]
        by_cases q4 : m = 0
        · simp only [q4, if_true]
          rfl
        · simp only [q4, if_false]
          rfl
      · simp only [q2, if_false]
        rfl
end
section
/-! ===== how many were said ===== -/
def ct (μ : Mem) (p u : Nat) : Nat → Nat
  | 0 => 0
  | n + 1 => if sv μ 0 n = p ∧ sv μ 3 n = u then ct μ p u n + 1 else ct μ p u n
theorem ct_le (μ : Mem) (p u : Nat) : ∀ n, ct μ p u n ≤ n
  | 0 => Nat.le_refl _
  | n + 1 => by
    have := ct_le μ p u n
    rw [ct]
    split <;> omega
theorem ct_sm {μ μ' : Mem} (s : Sm μ μ') (p u : Nat) : ∀ n, ct μ' p u n = ct μ p u n
  | 0 => rfl
  | n + 1 => by rw [ct, ct, ct_sm s p u n, sv_sm s (by decide), sv_sm s (by decide)]
theorem Onl.S {μ μ' : Mem} (s : Sm μ μ') (S : RelS μ) : RelS μ' := S.cg (s.fld (a := 37) (k := 3) rfl) (s.fld (a := 134) (k := 45) rfl) (fun q hq => by rw [show 50 + q = 40 + (10 + q) by omega]; exact s.row (coA_o (by omega))) (fun q hq => s.row (coA_s hq)) (nw_le (s.fld (a := 134) (k := 5) rfl))
theorem isRow {r : Nat} (h : r = 106 ∨ r = 108) : S0 r = (1, 66) ∧ r < 175 ∧ ∀ k, cor r k = false := by
  rcases h with rfl | rfl
  · exact ⟨rfl, by decide, fun _ => rfl⟩
  · exact ⟨rfl, by decide, fun _ => rfl⟩
theorem HI.up {μ : Mem} {a n k : Nat} {f g : Nat → Nat} {v : Int32} (h : HI μ a n f) (hv : v = nI (g k)) (hg : ∀ i, i ≠ k → g i = f i) : HI (wI μ a k v) a n g := by
  intro i hi
  by_cases q : i = k
  · subst q
    rw [fld_eq, hv]
  · rw [fld_ne (by omega), h i hi, hg i q]
theorem said_c {μ : Mem} (o : Ok μ) (S : RelS μ) {r p : Nat} (hr : r = 106 ∨ r = 108) (hp : p < 4) : ∃ ν, (Onl r μ ν ∧ HI ν r 66 (fun u => ct μ p u (sc μ))) ∧ X0_countSaid 37 (nI p) r μ = some ν := by
  obtain ⟨sr, hr2, cr⟩ := isRow hr
  have hc := S.1.2.2
  obtain ⟨ν, ⟨P1, P2⟩, e⟩ := loopF (F := fun k (ν : Mem) i => X0_countSaid_L2 37 (nI p) r k (nI i) ν) (P := fun i ν => Onl r μ ν ∧ HI ν r i (fun _ => 0)) (n := 66) (r := fun ν => (nI 66, ν)) (by decide) (fun k ν i hi P => by
    refine ⟨wI ν r i 0, ⟨P.1.wI, P.2.put rfl⟩, ?_⟩
    show X0_countSaid_L2 37 (nI p) r (k + 1) (nI i) ν = _
    rw [X0_countSaid_L2, aL_eq P.1.1 hr2 sr (by decide) (by decide), Option.bind_some, if_neg (nI_ge hi (by decide)), sI_eq P.1.1 hr2 sr hi (by decide), Option.bind_some, nI_add1]) (fun k ν P => by
    show X0_countSaid_L2 37 (nI p) r (k + 1) (nI 66) ν = _
    rw [X0_countSaid_L2, aL_eq P.1.1 hr2 sr (by decide) (by decide), Option.bind_some, if_pos (nI_le (Nat.le_refl _) (by decide))]) μ ⟨Onl.rf o, fun i hi => absurd hi (by omega)⟩
  have e : X0_countSaid_L2 37 (nI p) r FU 0 μ = _ := e
  obtain ⟨η, ⟨Q1, Q2⟩, e2⟩ := loopF (F := fun k (ν : Mem) i => X0_countSaid_L20 37 (nI p) r k (nI i) ν) (P := fun i ν => Onl r μ ν ∧ HI ν r 66 (fun u => ct μ p u i)) (n := sc μ) (r := fun ν => (nI (sc μ), ν)) (by omega) (fun k ν i hi P => by
    obtain ⟨on, hh⟩ := P
    have s := on.sm cr
    have oν := on.1
    have Sν := Onl.S s S
    have i40 : i < 40 := by omega
    have cs' : mI ν 37 3 = nI (sc μ) := (s.fld (a := 37) (k := 3) rfl).trans S.1.1
    have f3 := (Sν.2.1 3 i (by decide) i40).1
    have f0 := (Sν.2.1 0 i (by decide) i40).1
    rw [sv_sm s (by decide)] at f3 f0
    have b3 : sv μ 3 i ≤ 60 := (S.2.1 3 i (by decide) i40).2.2
    have b0 : sv μ 0 i ≤ 3 := (S.2.1 0 i (by decide) i40).2.2
    have c0 : (nI (sv μ 0 i) = nI p) = (sv μ 0 i = p) := n_eq (by omega) (by omega)
    show ∃ a', _ ∧ X0_countSaid_L20 37 (nI p) r (k + 1) (nI i) ν = _
    rw [X0_countSaid_L20, gi_37 oν, cs', Option.bind_some, if_neg (nI_ge hi (by omega))]
    simp only [r_37_1 oν, ar_sayings oν i40, gi_S oν i40, f3, f0, Option.bind_some, c0]
    by_cases q : sv μ 0 i = p
    · refine ⟨wI ν r (sv μ 3 i) (nI (ct μ p (sv μ 3 i) i) + 1), ⟨on.wI, hh.up ?_ (fun u hu => ?_)⟩, ?_⟩
      · rw [nI_add1, ct, if_pos ⟨q, rfl⟩]
      · rw [ct, if_neg (fun z => hu z.2.symm)]
      · rw [if_pos q, if_neg (nI_pos (by omega)), aL_eq oν hr2 sr (by decide) (by decide), Option.bind_some, if_neg (nI_ge (by omega) (by decide)), aI_eq oν hr2 sr (by omega) (by decide), hh _ (by omega), Option.bind_some, sI_eq oν hr2 sr (by omega) (by decide), Option.bind_some, Option.bind_some, nI_add1]
    · refine ⟨ν, ⟨on, fun u hu => ?_⟩, ?_⟩
      · show mI ν r u = nI (ct μ p u (i + 1))
        rw [hh u hu, ct, if_neg (fun z => q z.1)]
      · rw [if_neg q, Option.bind_some, nI_add1]) (fun k ν P => by
    have cs' : mI ν 37 3 = nI (sc μ) := ((P.1.sm cr).fld (a := 37) (k := 3) rfl).trans S.1.1
    show X0_countSaid_L20 37 (nI p) r (k + 1) (nI (sc μ)) ν = _
    rw [X0_countSaid_L20, gi_37 P.1.1, cs', Option.bind_some, if_pos (nI_le (Nat.le_refl _) (by omega))]) ν ⟨P1, P2⟩
  have e2 : X0_countSaid_L20 37 (nI p) r FU 0 ν = _ := e2
  refine ⟨η, ⟨Q1, Q2⟩, ?_⟩
  unfold X0_countSaid
  rw [e, Option.bind_some, e2, Option.bind_some]
/-- the sum of a row, d numbers from lo on -/
def sumR (f : Nat → Nat) (lo : Nat) : Nat → Nat
  | 0 => 0
  | d + 1 => sumR f lo d + f (lo + d)
/-- the sum of what a row has in the last b TICKS up to u -/
def wnd (f : Nat → Nat) (u b : Nat) : Nat := sumR f (u + 1 - b) (u + 1 - (u + 1 - b))
theorem sumR_le {f : Nat → Nat} {c : Nat} (lo : Nat) (h : ∀ i, f i ≤ c) : ∀ d, sumR f lo d ≤ d * c
  | 0 => Nat.zero_le _
  | d + 1 => by
    have h1 := sumR_le lo h d
    have h2 := h (lo + d)
    rw [sumR, Nat.succ_mul]
    omega
theorem within_c {μ : Mem} (o : Ok μ) {r u b : Nat} (hr : r = 106 ∨ r = 108) (hu : u < 66) (hb : b ≤ 60) {f : Nat → Nat} (hf : ∀ i, i ≤ u → mI μ r i = nI (f i)) : X3_saidWithin r (nI u - nI b + 1) (nI u) μ = some (nI (wnd f u b)) := by
  obtain ⟨sr, hr2, cr⟩ := isRow hr
  have e0 : (if (0 : Int32) < nI u - nI b + 1 then nI u - nI b + 1 else 0) = nI (u + 1 - b) := by
    by_cases q : b ≤ u
    · rw [pk_sub q, nI_add1, if_pos (show (0 : Int32) < _ from nI_lt (a := 0) (by omega) (by omega)), show u - b + 1 = u + 1 - b by omega]
    · obtain ⟨d, hd⟩ : ∃ d, b = u + 1 + d := ⟨b - (u + 1), by omega⟩
      have e2 : nI u - nI b + 1 = nI 0 - nI d := by
        have xy : ∀ x y : Int32, x - (x + y) = 0 - y := fun x y => by rw [Int32.sub_eq_add_neg, Int32.neg_add, Int32.sub_eq_add_neg, ← Int32.add_assoc, Int32.add_right_neg, Int32.sub_eq_add_neg]
        rw [hd, Int32.sub_eq_add_neg, Int32.add_assoc, Int32.add_comm _ 1, ← Int32.add_assoc, nI_add1, ← Int32.sub_eq_add_neg, ← nI_add (u + 1) d, xy, nI_0]
      rw [e2, if_neg (by rw [Int32.lt_iff_toInt_lt, pk_sub_toInt (by decide) (by omega)]; have : (0 : Int32).toInt = 0 := rfl; omega), show u + 1 - b = 0 by omega]
      rfl
  obtain ⟨a, P, e⟩ := loopG (F := fun k (a : Nat) i => X3_saidWithin_L9 r (nI u) μ k (nI a) (nI i)) (P := fun i a => a = sumR f (u + 1 - b) (i - (u + 1 - b))) (i0 := u + 1 - b) (n := u + 1) (r := fun a => (nI a, nI (u + 1))) (by omega) (by omega) (fun k a i h1 hi P => by
    subst P
    refine ⟨_, rfl, ?_⟩
    show X3_saidWithin_L9 r (nI u) μ (k + 1) (nI (sumR f (u + 1 - b) (i - (u + 1 - b)))) (nI i) = X3_saidWithin_L9 r (nI u) μ k (nI (sumR f (u + 1 - b) (i + 1 - (u + 1 - b)))) (nI (i + 1))
    rw [X3_saidWithin_L9, if_neg (nI_nlt (by omega) (by omega)), aL_eq o hr2 sr (by decide) (by decide), Option.bind_some, if_neg (nI_ge (by omega) (by decide)), aI_eq o hr2 sr (by omega) (by decide), hf i (by omega), Option.bind_some, Option.bind_some, nI_add, nI_add1, show i + 1 - (u + 1 - b) = i - (u + 1 - b) + 1 by omega, sumR, show u + 1 - b + (i - (u + 1 - b)) = i by omega]) (fun k a P => by
    show X3_saidWithin_L9 r (nI u) μ (k + 1) (nI a) (nI (u + 1)) = _
    rw [X3_saidWithin_L9, if_pos (nI_lt (by omega) (by omega))]) 0 (by rw [Nat.sub_self]; rfl)
  subst P
  have e : X3_saidWithin_L9 r (nI u) μ FU 0 (nI (u + 1 - b)) = _ := e
  unfold X3_saidWithin
  rw [e0, Option.bind_some, e, Option.bind_some]
  rfl
/-- a clause 'most' among the first n bars, by what its window holds -/
def mB (μ : Mem) (p : Nat) (g : Nat → Nat) : Nat → Nat
  | 0 => 0
  | k + 1 => if mB μ p g k = 1 then 1 else if lv μ 0 p k = 3 ∧ lv μ 1 p k ≤ g (lv μ 2 p k) then 1 else 0
theorem mB_le (μ : Mem) (p : Nat) (g : Nat → Nat) : ∀ n, mB μ p g n ≤ 1
  | 0 => by rw [mB]; omega
  | n + 1 => by
    rw [mB]
    split
    · omega
    · split <;> omega
theorem mB_mono {μ : Mem} {p : Nat} {g : Nat → Nat} {k : Nat} (h : mB μ p g k = 1) : ∀ d, mB μ p g (k + d) = 1
  | 0 => h
  | d + 1 => by rw [show k + (d + 1) = k + d + 1 by omega, mB, if_pos (mB_mono h d)]
theorem mB_sm {μ μ' : Mem} (s : Sm μ μ') (p : Nat) (g : Nat → Nat) : ∀ n, mB μ' p g n = mB μ p g n
  | 0 => rfl
  | n + 1 => by rw [mB, mB, mB_sm s p g n, lv_sm s (by decide), lv_sm s (by decide), lv_sm s (by decide)]
theorem mB_cg {μ : Mem} {p : Nat} {g g' : Nat → Nat} : ∀ n, (∀ k, k < n → lv μ 0 p k = 3 → g (lv μ 2 p k) = g' (lv μ 2 p k)) → mB μ p g n = mB μ p g' n
  | 0, _ => rfl
  | n + 1, h => by
    rw [mB, mB, mB_cg n (fun k hk => h k (by omega))]
    by_cases q : lv μ 0 p n = 3
    · rw [h n (by omega) q]
    · rw [if_neg (show ¬ (lv μ 0 p n = 3 ∧ _) from fun z => q z.1), if_neg (show ¬ (lv μ 0 p n = 3 ∧ _) from fun z => q z.1)]
theorem most_c {μ : Mem} (o : Ok μ) (L : RelL μ) {r u p : Nat} (hp : p < 4) (hr : r = 106 ∨ r = 108) (hu : u < 66) {f : Nat → Nat} (hf : ∀ i, i ≤ u → mI μ r i = nI (f i)) (fb : ∀ i, f i ≤ 1000) : X3_mostBars (lwA μ p) r (nI u) μ = some (nI (mB μ p (wnd f u) (lc μ p))) := by
  have il := lw_is o hp
  obtain ⟨⟨l0, -, l8⟩, hk⟩ := L p hp
  obtain ⟨b, Q, e⟩ := loopE (F := fun k (_ : Unit) i => X3_mostBars_L2 (lwA μ p) r (nI u) μ k (nI i)) (P := fun i _ => mB μ p (wnd f u) i = 0) (Q := fun b => b = nI (mB μ p (wnd f u) (lc μ p))) (n := lc μ p) (by omega) (fun k _ i hi P => by
    have i8 : i < 8 := by omega
    obtain ⟨A0, A1, A2, -⟩ := hk i hi
    have c3 : (nI (lv μ 0 p i) = 3) = (lv μ 0 p i = 3) := n_eq (b := 3) (by omega) (by decide)
    have fin : mB μ p (wnd f u) (i + 1) = 1 → mB μ p (wnd f u) (lc μ p) = 1 := fun h => by
      have := mB_mono h (lc μ p - (i + 1))
      rwa [show i + 1 + (lc μ p - (i + 1)) = lc μ p by omega] at this
    show (∃ a', mB μ p (wnd f u) (i + 1) = 0 ∧ X3_mostBars_L2 (lwA μ p) r (nI u) μ (k + 1) (nI i) = _) ∨ ∃ b, _ ∧ X3_mostBars_L2 (lwA μ p) r (nI u) μ (k + 1) (nI i) = some b
    rw [X3_mostBars_L2, gi_l o il, l0, Option.bind_some, if_neg (nI_ge hi (by omega))]
    simp only [rl_1 o il, rl_2 o il, rl_3 o il, al_1 o il i8, al_2 o il i8, al_3 o il i8, A0.1, A1.1, Option.bind_some, c3, nI_add1]
    by_cases q : lv μ 0 p i = 3
    · obtain ⟨z1, -, z3, -⟩ := A2 (by omega) (by omega)
      have wb : wnd f u (lv μ 2 p i) ≤ 66 * 1000 := Nat.le_trans (sumR_le _ fb _) (Nat.mul_le_mul (by omega) (Nat.le_refl _))
      rw [if_pos q, z1, within_c o hr hu z3 hf, Option.bind_some]
      simp only [n_lt (show wnd f u (lv μ 2 p i) < 2 ^ 31 by omega) (show lv μ 1 p i < 2 ^ 31 by omega)]
      by_cases q2 : wnd f u (lv μ 2 p i) < lv μ 1 p i
      · refine Or.inl ⟨(), ?_, ?_⟩
        · rw [mB, if_neg (by omega), if_neg (by omega)]
        · rw [if_pos q2]
      · refine Or.inr ⟨1, ?_, ?_⟩
        · rw [fin (by rw [mB, if_neg (by omega), if_pos ⟨q, by omega⟩])]
          rfl
        · rw [if_neg q2]
    · refine Or.inl ⟨(), ?_, ?_⟩
      · rw [mB, if_neg (by omega), if_neg (fun z => q z.1)]
      · rw [if_neg q]) (fun k _ P => by
    refine ⟨0, ?_, ?_⟩
    · rw [P]
      rfl
    · show X3_mostBars_L2 (lwA μ p) r (nI u) μ (k + 1) (nI (lc μ p)) = _
      rw [X3_mostBars_L2, gi_l o il, l0, Option.bind_some, if_pos (nI_le (Nat.le_refl _) (by omega))]) () rfl
  subst Q
  exact e
end
section
/-! ===== what the reference alone rests on ===== -/
def RelSM (μ : Mem) : Prop := (True ∧ mI μ 134 45 = nI (sc μ) ∧ sc μ ≤ 40) ∧ (∀ c s, c < 5 → s < 40 → True ∧ mI μ (170 + c) s = nI (sv μ c s) ∧ sv μ c s ≤ sbd c)
def InvM (μ : Mem) : Prop := Ok μ ∧ RelW μ ∧ RelC μ ∧ RelT μ ∧ RelSM μ ∧ RelX μ ∧ RelL μ
theorem Inv.m {μ : Mem} (h : Inv μ) : InvM μ := by
  obtain ⟨o, W, C, T, S, X, L⟩ := h
  exact ⟨o, W, C, T, ⟨⟨trivial, S.1.2⟩, fun c s hc hs => ⟨trivial, (S.2.1 c s hc hs).2⟩⟩, X, L⟩
theorem RelSM.cg {μ μ' : Mem} (h : RelSM μ) (e2 : mI μ' 134 45 = mI μ 134 45) (e4 : ∀ c, c < 5 → mI μ' (170 + c) = mI μ (170 + c)) : RelSM μ' := by
  have ea : sc μ' = sc μ := by
    unfold sc
    rw [e2]
  have eb : ∀ c t, c < 5 → sv μ' c t = sv μ c t := fun c t hc => by
    unfold sv
    rw [e4 c hc]
  refine ⟨⟨trivial, ?_⟩, fun c t hc ht => ⟨trivial, ?_⟩⟩
  · rw [e2, ea]
    exact h.1.2
  · rw [e4 c hc, eb c t hc]
    exact (h.2 c t hc ht).2
theorem InvM.sm {μ μ' : Mem} (h : InvM μ) (s : Sm μ μ') : InvM μ' := by
  obtain ⟨o, W, C, T, S, X, L⟩ := h
  refine ⟨s.1, W.sm s, C.cg (fun q hq => s.row (coA_4 (by omega) hq)) (s.row rfl) (s.row rfl) (s.row rfl), Onl.T s T, S.cg (s.fld (a := 134) (k := 45) rfl) (fun c hc => s.row (coA_s hc)), X.cg (s.fld (a := 90) (k := 0) rfl) (s.fld (a := 134) (k := 34) rfl) (s.row rfl) (s.row rfl) (s.fld (a := 90) (k := 2) rfl) (s.fld (a := 134) (k := 35) rfl), RelL.cg o L s.2.2.1 (fun l c hl hc => s.row (hl.co hc)) (fun c hc => ?_)⟩
  rw [show 156 + c = 145 + (11 + c) by omega]
  exact s.row (coA_t (by omega))
/-! ===== LAWS, of the reference ===== -/
def b01 (b : Bool) : Int32 := if b = true then 1 else 0
theorem b01_z (b : Bool) : (b01 b = 0) = (b = false) := by cases b <;> decide
theorem zz_b (b : Bool) : zz (b01 b) = some (b01 b) := by cases b <;> rfl
theorem isAl_m {μ : Mem} (o : Ok μ) (T : RelT μ) (L : RelL μ) {p t : Nat} (hp : p < 4) (ht : t < 10) : X11_isAlways 134 (nI p) (nI t) μ = some (b01 (alT μ p t)) := by
  obtain ⟨⟨-, l1, l8⟩, hk⟩ := L p hp
  have f3 : mI μ 148 t = _ := (T.2.1 3 t (by decide) ht).2.1
  have b3 : tv μ 3 t ≤ 9 := (T.2.1 3 t (by decide) ht).2.2
  obtain ⟨a, P, e⟩ := loopF (F := fun k (a : Bool) i => X11_isAlways_L5 134 (nI p) (nI t) μ k (b01 a) (nI i)) (P := fun i a => a = (aF μ p i).testBit (tv μ 3 t)) (n := lc μ p) (r := fun a => (b01 a, nI (lc μ p))) (by omega) (fun k a i hi P => by
    subst P
    obtain ⟨A0, A1, -, -⟩ := hk i hi
    have c4 : (nI (lv μ 0 p i) = 4) = (lv μ 0 p i = 4) := n_eq (b := 4) (by omega) (by decide)
    have cf : (nI (lv μ 1 p i) = nI (tv μ 3 t)) = (lv μ 1 p i = tv μ 3 t) := n_eq (by omega) (by omega)
    refine ⟨_, rfl, ?_⟩
    show X11_isAlways_L5 134 (nI p) (nI t) μ (k + 1) (b01 ((aF μ p i).testBit (tv μ 3 t))) (nI i) = X11_isAlways_L5 134 (nI p) (nI t) μ k (b01 ((aF μ p (i + 1)).testBit (tv μ 3 t))) (nI (i + 1))
    rw [X11_isAlways_L5, r_134_24 o, Option.bind_some, ai_156 o hp, l1, Option.bind_some, if_neg (nI_ge hi (by omega)), aF]
    simp only [L8, pk_mul, nI_add, r_134_25 o, r_134_26 o, r_134_16 o, ai_157 o (show 8 * p + i < 32 by omega), ai_158 o (show 8 * p + i < 32 by omega), ai_148 o ht, f3, A0.2.1, A1.2.1, Option.bind_some, c4, cf, nI_add1, b01_z]
    cases q0 : (aF μ p i).testBit (tv μ 3 t)
    · rw [if_pos rfl]
      by_cases q : lv μ 0 p i = 4
      · rw [if_pos q, if_pos q, or_put_bit, q0, Bool.false_or]
        by_cases q2 : lv μ 1 p i = tv μ 3 t
        · rw [if_pos q2, decide_eq_true q2]
          rfl
        · rw [if_neg q2, decide_eq_false q2]
          rfl
      · rw [if_neg q, if_neg q, q0]
        rfl
    · rw [if_neg (by decide)]
      have : (if lv μ 0 p i = 4 then aF μ p i ||| 2 ^ lv μ 1 p i else aF μ p i).testBit (tv μ 3 t) = true := by
        split
        · rw [or_put_bit, q0, Bool.true_or]
        · exact q0
      rw [this]
      rfl) (fun k a P => by
    show X11_isAlways_L5 134 (nI p) (nI t) μ (k + 1) (b01 a) (nI (lc μ p)) = _
    rw [X11_isAlways_L5, r_134_24 o, Option.bind_some, ai_156 o hp, l1, Option.bind_some, if_pos (nI_le (Nat.le_refl _) (by omega))]) false (by rw [aF, Nat.zero_testBit])
  subst P
  have e : X11_isAlways_L5 134 (nI p) (nI t) μ FU 0 0 = _ := e
  unfold X11_isAlways
  rw [e, Option.bind_some, zz_b, Option.bind_some]
  rfl
/-- all THINGS of a SET among the first n are from one of always -/
def arB (μ : Mem) (p set : Nat) : Nat → Bool
  | 0 => true
  | t + 1 => arB μ p set t && (!set.testBit t || alT μ p t)
theorem arB_iff (μ : Mem) (p set : Nat) : ∀ n, arB μ p set n = true ↔ ∀ t, t < n → set.testBit t = true → alT μ p t = true
  | 0 => by simp [arB]
  | n + 1 => by
    rw [arB, Bool.and_eq_true, arB_iff μ p set n, Bool.or_eq_true]
    constructor
    · intro ⟨h1, h2⟩ t ht hs
      by_cases e : t = n
      · subst e
        rcases h2 with h2 | h2
        · rw [hs] at h2
          exact absurd h2 (by decide)
        · exact h2
      · exact h1 t (by omega) hs
    · intro h
      refine ⟨fun t ht hs => h t (by omega) hs, ?_⟩
      cases hs : set.testBit n
      · exact Or.inl rfl
      · exact Or.inr (h n (by omega) hs)
theorem nd_zero {a b n : Nat} (ha : a < 2 ^ n) (hn : n ≤ 31) : nd a b = 0 ↔ ∀ t, t < n → a.testBit t = true → b.testBit t = true := by
  constructor
  · intro h t ht hs
    have h1 : (nd a b).testBit t = false := by rw [h, Nat.zero_testBit]
    rw [nd_bit (by omega), hs] at h1
    cases hb : b.testBit t
    · rw [hb] at h1
      exact absurd h1 (by decide)
    · rfl
  · intro h
    apply Nat.eq_of_testBit_eq
    intro i
    rw [Nat.zero_testBit]
    by_cases q : i < n
    · rw [nd_bit (by omega)]
      cases hs : a.testBit i
      · rfl
      · rw [h i q hs]
        rfl
    · have : a.testBit i = false := Nat.testBit_lt_two_pow (Nat.lt_of_lt_of_le ha (Nat.pow_le_pow_right (by decide) (by omega)))
      unfold nd
      rw [Nat.testBit_and, this, Bool.false_and]
theorem arB_nd {μ : Mem} {p set n : Nat} (hs : set < 2 ^ n) (hn : n ≤ 31) : arB μ p set n = decide (nd set (aT μ p n) = 0) := by
  have h : arB μ p set n = true ↔ nd set (aT μ p n) = 0 := by
    rw [arB_iff, nd_zero hs hn]
    constructor
    · intro h t ht hb
      rw [aT_bit, h t ht hb, decide_eq_true ht]
      rfl
    · intro h t ht hb
      have := h t ht hb
      rw [aT_bit, decide_eq_true ht, Bool.true_and] at this
      exact this
  cases hb : arB μ p set n
  · rw [hb] at h
    exact (decide_eq_false (fun z => absurd (h.mpr z) (by decide))).symm
  · rw [hb] at h
    exact (decide_eq_true (h.mp rfl)).symm
theorem areAl_m {μ : Mem} (o : Ok μ) (T : RelT μ) (L : RelL μ) {p set : Nat} (hp : p < 4) (hs : set < 2 ^ tn μ) : X11_areAlways 134 (nI p) (nI set) μ = some (b01 (decide (nd set (aT μ p (tn μ)) = 0))) := by
  have hn := T.1.2.2
  have hs2 : set < 2 ^ 31 := Nat.lt_of_lt_of_le hs (Nat.pow_le_pow_right (by decide) (by omega))
  obtain ⟨a, P, e⟩ := loopF (F := fun k (a : Bool) i => X11_areAlways_L5 134 (nI p) (nI set) μ k (b01 a) (nI i)) (P := fun i a => a = arB μ p set i) (n := tn μ) (r := fun a => (b01 a, nI (tn μ))) (by omega) (fun k a i hi P => by
    subst P
    refine ⟨_, rfl, ?_⟩
    show X11_areAlways_L5 134 (nI p) (nI set) μ (k + 1) (b01 (arB μ p set i)) (nI i) = X11_areAlways_L5 134 (nI p) (nI set) μ k (b01 (arB μ p set (i + 1))) (nI (i + 1))
    rw [X11_areAlways_L5, gi_134 o, T.1.2.1, Option.bind_some, if_neg (nI_ge hi (by omega)), arB]
    simp only [vo_134 o, isAl_m o T L hp (show i < 10 by omega), Option.bind_some, b01_z, bt_z, bt_t hs2 (show i < 31 by omega), nI_add1]
    cases q0 : arB μ p set i
    · rw [if_pos rfl]
      rfl
    · rw [if_neg (by decide)]
      cases q1 : set.testBit i
      · rw [if_pos rfl]
        rfl
      · rw [if_neg (by decide)]
        cases q2 : alT μ p i
        · rw [if_pos rfl]
          rfl
        · rw [if_neg (by decide)]
          rfl) (fun k a P => by
    show X11_areAlways_L5 134 (nI p) (nI set) μ (k + 1) (b01 a) (nI (tn μ)) = _
    rw [X11_areAlways_L5, gi_134 o, T.1.2.1, Option.bind_some, if_pos (nI_le (Nat.le_refl _) (by omega))]) true rfl
  subst P
  have e : X11_areAlways_L5 134 (nI p) (nI set) μ FU 1 0 = _ := e
  unfold X11_areAlways
  rw [e, Option.bind_some, zz_b, Option.bind_some, arB_nd hs (by omega)]
theorem wayB_m {μ : Mem} (I : InvM μ) {p way k : Nat} (hp : p < 4) (hw : way < 4) (hk : k ≤ 8) : ∃ ν, (Sm μ ν ∧ (∀ a, ¬ (141 ≤ a ∧ a ≤ 144) → mI ν a = mI μ a)) ∧ X11_isWayBarred 134 (nI p) (nI way) (nI k) μ = some (b01 ((bW μ p (odd μ p (nw μ) k) (lc μ p)).testBit way), ν) := by
  obtain ⟨o, W, C, T, S, X, L⟩ := I
  have hn := W.2.2.2.2.2.2.2
  obtain ⟨ν, ⟨s, fr, hd⟩, e0⟩ := modds_fr o W hp (t := nw μ) (k := k) (by omega) hk
  have oν := s.1
  obtain ⟨⟨-, l1, l8⟩, hkk⟩ := L p hp
  have l1' : mI ν 156 p = nI (lc μ p) := by
    rw [s.row (a := 156) rfl]
    exact l1
  obtain ⟨a, P, e⟩ := loopG (F := fun m (a : Bool) i => X11_isWayBarred_L19 134 (nI p) (nI way) ν m (b01 a) (nI i)) (P := fun i a => a = (bW μ p (odd μ p (nw μ) k) (i - 8 * p)).testBit way) (i0 := 8 * p) (n := 8 * p + lc μ p) (r := fun a => (b01 a, nI (8 * p + lc μ p))) (by omega) (by omega) (fun m a i h1 hi P => by
    subst P
    obtain ⟨j, rfl⟩ : ∃ j, i = 8 * p + j := ⟨i - 8 * p, by omega⟩
    have hj : j < lc μ p := by omega
    obtain ⟨A0, A1, A2, A3⟩ := hkk j hj
    have f0 : mI ν 157 (8 * p + j) = nI (lv μ 0 p j) := by rw [s.row (a := 157) rfl]; exact A0.2.1
    have f1 : mI ν 158 (8 * p + j) = nI (lv μ 1 p j) := by rw [s.row (a := 158) rfl]; exact A1.2.1
    have c2 : (nI 2 ≤ nI (lv μ 0 p j)) = (2 ≤ lv μ 0 p j) := n_le (by decide) (by omega)
    have c0 : (nI (lv μ 0 p j) = nI 0) = (lv μ 0 p j = 0) := n_eq (by omega) (by decide)
    have cw : (nI (lv μ 1 p j) = nI way) = (lv μ 1 p j = way) := n_eq (by omega) (by omega)
    refine ⟨_, rfl, ?_⟩
    show X11_isWayBarred_L19 134 (nI p) (nI way) ν (m + 1) (b01 ((bW μ p (odd μ p (nw μ) k) (8 * p + j - 8 * p)).testBit way)) (nI (8 * p + j)) = X11_isWayBarred_L19 134 (nI p) (nI way) ν m (b01 ((bW μ p (odd μ p (nw μ) k) (8 * p + j + 1 - 8 * p)).testBit way)) (nI (8 * p + j + 1))
    rw [show 8 * p + j - 8 * p = j by omega, show 8 * p + j + 1 - 8 * p = j + 1 by omega, X11_isWayBarred_L19, r_134_24 oν, Option.bind_some, ai_156 oν hp, l1', Option.bind_some, show (8 : Int32) = nI 8 from rfl, pk_mul, nI_add, if_neg (nI_ge (by omega) (by omega))]
    have or1 : ∀ b : Bool, b01 b = b01 b := fun _ => rfl
    rw [r_134_25 oν, Option.bind_some, ai_157 oν (by omega), f0, Option.bind_some]
    have z10 : ((if (2 : Int32) ≤ nI (lv μ 0 p j) then some 0 else (gR 11 26 134 ν).bind fun v7 => (aI v7 (nI (8 * p + j)) ν).bind fun v8 => if v8 = nI way then some 1 else some 0 : Option Int32)) = some (b01 (decide (lv μ 0 p j < 2 ∧ lv μ 1 p j = way))) := by
      rw [r_134_26 oν, Option.bind_some, ai_158 oν (by omega), f1, Option.bind_some, L2]
      simp only [c2, cw]
      by_cases q : 2 ≤ lv μ 0 p j
      · rw [if_pos q, decide_eq_false (by omega)]
        rfl
      · rw [if_neg q]
        by_cases q1 : lv μ 1 p j = way
        · rw [if_pos q1, decide_eq_true ⟨by omega, q1⟩]
          rfl
        · rw [if_neg q1, decide_eq_false (fun z => q1 z.2)]
          rfl
    rw [z10, Option.bind_some]
    simp only [b01_z]
    cases q0 : (bW μ p (odd μ p (nw μ) k) j).testBit way
    · rw [if_pos rfl]
      by_cases qw : lv μ 0 p j < 2 ∧ lv μ 1 p j = way
      · rw [if_neg (by rw [decide_eq_true qw]; decide), Option.bind_some, ai_157 oν (by omega), f0, Option.bind_some, L0]
        simp only [c0]
        by_cases q : lv μ 0 p j = 0
        · rw [if_pos q, Option.bind_some, bW_pos (Or.inl q), or_put_bit, q0, decide_eq_true qw.2, nI_add1]
          rfl
        · have q1 : lv μ 0 p j = 1 := by omega
          obtain ⟨-, z2, z3, z4⟩ := A2 (by omega) (by omega)
          obtain ⟨-, y2, y3⟩ := A3 q1
          have z5 := z4 q1
          have ob : odd μ p (nw μ) k (lv μ 2 p j) ≤ 1000000 := odd_le (by omega)
          have f2 : mI ν 159 (8 * p + j) = nI (lv μ 2 p j) := by rw [s.row (a := 159) rfl]; exact z2
          have f3 : mI ν 160 (8 * p + j) = nI (lv μ 3 p j) := by rw [s.row (a := 160) rfl]; exact y2
          rw [if_neg q, r_134_10 oν, Option.bind_some, r_134_27 oν, Option.bind_some, ai_159 oν (by omega), f2, Option.bind_some, ai_143 oν (by omega), hd _ (by omega), Option.bind_some, r_134_28 oν, Option.bind_some, ai_160 oν (by omega), f3, Option.bind_some, nI_l (by omega), nI_l (by omega), show (100 : Int64) = lN 100 from rfl, show (1000000 : Int64) = lN 1000000 from rfl, lN_mul, lN_mul]
          rw [← L0]
          simp only [lg_nlt (show 100 * odd μ p (nw μ) k (lv μ 2 p j) < 2 ^ 63 by omega) (show 1000000 * lv μ 3 p j < 2 ^ 63 by omega)]
          by_cases q2 : lv μ 3 p j * 1000000 ≤ odd μ p (nw μ) k (lv μ 2 p j) * 100
          · rw [if_neg (by omega), Option.bind_some, bW_pos (Or.inr ⟨q1, q2⟩), or_put_bit, q0, decide_eq_true qw.2, nI_add1]
            rfl
          · rw [if_pos (by omega), Option.bind_some, bW_neg (fun z => z.elim q (fun w => q2 w.2)), q0, nI_add1]
            rfl
      · rw [if_pos (decide_eq_false qw), Option.bind_some, nI_add1]
        have : (bW μ p (odd μ p (nw μ) k) (j + 1)).testBit way = false := by
          rcases bWd μ p (odd μ p (nw μ) k) j with z | z
          · have z01 : lv μ 0 p j < 2 := by
              rcases z with z | ⟨z, -⟩ <;> omega
            rw [bW_pos z, or_put_bit, q0, decide_eq_false (fun w => qw ⟨z01, w⟩)]
            rfl
          · rw [bW_neg z, q0]
        rw [this]
        rfl
    · rw [if_neg (by decide), Option.bind_some, nI_add1]
      have : (bW μ p (odd μ p (nw μ) k) (j + 1)).testBit way = true := by
        rcases bWd μ p (odd μ p (nw μ) k) j with z | z
        · rw [bW_pos z, or_put_bit, q0]
          rfl
        · rw [bW_neg z, q0]
      rw [this]
      rfl) (fun m a P => by
    show X11_isWayBarred_L19 134 (nI p) (nI way) ν (m + 1) (b01 a) (nI (8 * p + lc μ p)) = _
    rw [X11_isWayBarred_L19, r_134_24 oν, Option.bind_some, ai_156 oν hp, l1', Option.bind_some, show (8 : Int32) = nI 8 from rfl, pk_mul, nI_add, if_pos (nI_le (Nat.le_refl _) (by omega))]) false (by rw [Nat.sub_self, bW, Nat.zero_testBit])
  subst P
  have e : X11_isWayBarred_L19 134 (nI p) (nI way) ν FU 0 (nI (8 * p)) = _ := e
  refine ⟨ν, ⟨s, fr⟩, ?_⟩
  unfold X11_isWayBarred
  rw [gi_134 o, W.2.2.2.2.2.2.1, Option.bind_some, vo_134 o, Option.bind_some, e0, Option.bind_some, show (8 : Int32) = nI 8 from rfl, pk_mul, Option.bind_some, e, Option.bind_some, zz_b, Option.bind_some, show 8 * p + lc μ p - 8 * p = lc μ p by omega]
end
section
/-! ===== KINDS barred, of the reference ===== -/
theorem kT_zero (μ : Mem) (p u set n : Nat) : (set &&& kT μ p u (n + 1) = 0) ↔ (set &&& kT μ p u n = 0) ∧ (set.testBit n && kdT μ p u n) = false := by
  have bz : ∀ x : Nat, x = 0 ↔ ∀ i, x.testBit i = false := fun x => ⟨fun h i => by rw [h, Nat.zero_testBit], fun h => Nat.eq_of_testBit_eq (fun i => by rw [h i, Nat.zero_testBit])⟩
  rw [bz, bz]
  constructor
  · intro h
    refine ⟨fun i => ?_, ?_⟩
    · have := h i
      rw [Nat.testBit_and, kT_bit] at this ⊢
      by_cases q : i < n
      · rw [decide_eq_true (show i < n + 1 by omega)] at this
        rw [decide_eq_true q]
        exact this
      · rw [decide_eq_false q, Bool.false_and, Bool.and_false]
    · have := h n
      rw [Nat.testBit_and, kT_bit, decide_eq_true (show n < n + 1 by omega), Bool.true_and] at this
      exact this
  · intro ⟨h1, h2⟩ i
    rw [Nat.testBit_and, kT_bit]
    by_cases q : i = n
    · subst q
      rw [decide_eq_true (show i < i + 1 by omega), Bool.true_and]
      exact h2
    · have := h1 i
      rw [Nat.testBit_and, kT_bit] at this
      by_cases q2 : i < n
      · rw [decide_eq_true q2] at this
        rw [decide_eq_true (show i < n + 1 by omega)]
        exact this
      · rw [decide_eq_false (by omega), Bool.false_and, Bool.and_false]
theorem kind48 {μ : Mem} (I : InvM μ) {p t k : Nat} (hp : p < 4) (ht : t < 10) (hk : k ≤ 8) (x2 : Int32) (b : Bool) : ∃ x, X11_isKindBarred_L48 134 (nI p) x2 (nI k) (nI t) 1 μ FU (b01 b) (nI (8 * p)) = some (b01 (b || (bK μ p (nw μ + k) (lc μ p)).testBit (tv μ 1 t)), x) := by
  obtain ⟨o, W, C, T, S, X, L⟩ := I
  have hn := W.2.2.2.2.2.2.2
  have hw := W.2.2.2.2.2.2.1
  obtain ⟨⟨-, l1, l8⟩, hkk⟩ := L p hp
  have f1 : mI μ 146 t = _ := (T.2.1 1 t (by decide) ht).2.1
  have b1 : tv μ 1 t ≤ 3 := (T.2.1 1 t (by decide) ht).2.2
  obtain ⟨a, P, e⟩ := loopG (F := fun m (a : Bool) i => X11_isKindBarred_L48 134 (nI p) x2 (nI k) (nI t) 1 μ m (b01 a) (nI i)) (P := fun i a => a = (b || (bK μ p (nw μ + k) (i - 8 * p)).testBit (tv μ 1 t))) (i0 := 8 * p) (n := 8 * p + lc μ p) (r := fun a => (b01 a, nI (8 * p + lc μ p))) (by omega) (by omega) (fun m a i h1 hi P => by
    subst P
    obtain ⟨j, rfl⟩ : ∃ j, i = 8 * p + j := ⟨i - 8 * p, by omega⟩
    have hj : j < lc μ p := by omega
    obtain ⟨A0, A1, A2, A3⟩ := hkk j hj
    have c2 : (nI (lv μ 0 p j) = 2) = (lv μ 0 p j = 2) := n_eq (b := 2) (by omega) (by decide)
    have cw : (nI (lv μ 1 p j) = nI (tv μ 1 t)) = (lv μ 1 p j = tv μ 1 t) := n_eq (by omega) (by omega)
    refine ⟨_, rfl, ?_⟩
    show X11_isKindBarred_L48 134 (nI p) x2 (nI k) (nI t) 1 μ (m + 1) (b01 (b || (bK μ p (nw μ + k) (8 * p + j - 8 * p)).testBit (tv μ 1 t))) (nI (8 * p + j)) = X11_isKindBarred_L48 134 (nI p) x2 (nI k) (nI t) 1 μ m (b01 (b || (bK μ p (nw μ + k) (8 * p + j + 1 - 8 * p)).testBit (tv μ 1 t))) (nI (8 * p + j + 1))
    rw [show 8 * p + j - 8 * p = j by omega, show 8 * p + j + 1 - 8 * p = j + 1 by omega, X11_isKindBarred_L48, r_134_24 o, Option.bind_some, ai_156 o hp, l1, Option.bind_some, show (8 : Int32) = nI 8 from rfl, pk_mul, nI_add, if_neg (nI_ge (by omega) (by omega)), if_neg (by decide)]
    simp only [r_134_25 o, r_134_26 o, r_134_14 o, r_134_27 o, ai_157 o (show 8 * p + j < 32 by omega), ai_158 o (show 8 * p + j < 32 by omega), ai_159 o (show 8 * p + j < 32 by omega), ai_146 o ht, gi_134 o, hw, f1, A0.2.1, A1.2.1, Option.bind_some, c2, cw, nI_add1, nI_add, b01_z]
    cases q0 : (b || (bK μ p (nw μ + k) j).testBit (tv μ 1 t))
    · obtain ⟨qb, qk⟩ : b = false ∧ (bK μ p (nw μ + k) j).testBit (tv μ 1 t) = false := by
        cases b
        · exact ⟨rfl, q0⟩
        · exact absurd q0 (by simp)
      rw [if_pos rfl, qb, Bool.false_or, bK]
      by_cases q : lv μ 0 p j = 2
      · obtain ⟨-, z2, z3, -⟩ := A2 (by omega) (by omega)
        rw [if_pos q, show mI μ 159 (8 * p + j) = _ from z2]
        simp only [n_le (show nw μ + k < 2 ^ 31 by omega) (show lv μ 2 p j < 2 ^ 31 by omega)]
        by_cases q1 : lv μ 1 p j = tv μ 1 t
        · rw [if_pos q1]
          by_cases q2 : nw μ + k ≤ lv μ 2 p j
          · rw [if_pos q2, Option.bind_some, if_neg (by omega), qk]
            rfl
          · rw [if_neg q2, Option.bind_some, if_pos ⟨q, by omega⟩, or_put_bit, decide_eq_true q1, Bool.or_true]
            rfl
        · rw [if_neg q1, Option.bind_some]
          by_cases q2 : lv μ 0 p j = 2 ∧ lv μ 2 p j < nw μ + k
          · rw [if_pos q2, or_put_bit, decide_eq_false q1, qk]
            rfl
          · rw [if_neg q2, qk]
            rfl
      · rw [if_neg q, Option.bind_some, if_neg (fun z => q z.1), qk]
        rfl
    · rw [if_neg (by decide), Option.bind_some, bK]
      have : (b || (if lv μ 0 p j = 2 ∧ lv μ 2 p j < nw μ + k then bK μ p (nw μ + k) j ||| 2 ^ lv μ 1 p j else bK μ p (nw μ + k) j).testBit (tv μ 1 t)) = true := by
        split
        · rw [or_put_bit, ← Bool.or_assoc, q0, Bool.true_or]
        · exact q0
      rw [this]
      rfl) (fun m a P => by
    show X11_isKindBarred_L48 134 (nI p) x2 (nI k) (nI t) 1 μ (m + 1) (b01 a) (nI (8 * p + lc μ p)) = _
    rw [X11_isKindBarred_L48, r_134_24 o, Option.bind_some, ai_156 o hp, l1, Option.bind_some, show (8 : Int32) = nI 8 from rfl, pk_mul, nI_add, if_pos (nI_le (Nat.le_refl _) (by omega))]) b (by rw [Nat.sub_self, bK, Nat.zero_testBit, Bool.or_false])
  subst P
  rw [show 8 * p + lc μ p - 8 * p = lc μ p by omega] at e
  exact ⟨_, e⟩
theorem kind48n {μ : Mem} (I : InvM μ) {p : Nat} (hp : p < 4) (x2 x3 x5 x4 : Int32) : ∃ x, X11_isKindBarred_L48 134 (nI p) x2 x3 x5 0 μ FU x4 (nI (8 * p)) = some (x4, x) := by
  obtain ⟨o, W, C, T, S, X, L⟩ := I
  obtain ⟨⟨-, l1, l8⟩, hkk⟩ := L p hp
  rw [show FU = 99999 + 1 from rfl, X11_isKindBarred_L48, r_134_24 o, Option.bind_some, ai_156 o hp, l1, Option.bind_some, show (8 : Int32) = nI 8 from rfl, pk_mul, nI_add, if_pos (show (0 : Int32) = 0 from rfl)]
  split
  · exact ⟨_, rfl⟩
  · exact ⟨_, rfl⟩
theorem kindB_m {μ : Mem} (I : InvM μ) {p set k : Nat} (hp : p < 4) (hk : k ≤ 8) (hs : set < 2 ^ 10) : X11_isKindBarred 134 (nI p) (nI set) (nI k) μ = some (b01 (decide (¬ set &&& kT μ p (nw μ + k) (tn μ) = 0))) := by
  have I0 := I
  obtain ⟨o, W, C, T, S, X, L⟩ := I
  have hn := T.1.2.2
  obtain ⟨a, P, e⟩ := loopF (F := fun m (a : Bool) i => X11_isKindBarred_L6 134 (nI p) (nI set) (nI k) μ m (b01 a) (nI i)) (P := fun i a => a = decide (¬ set &&& kT μ p (nw μ + k) i = 0)) (n := tn μ) (r := fun a => (b01 a, nI (tn μ))) (by omega) (fun m a i hi P => by
    subst P
    have i10 : i < 10 := by omega
    refine ⟨_, rfl, ?_⟩
    show X11_isKindBarred_L6 134 (nI p) (nI set) (nI k) μ (m + 1) (b01 (decide (¬ set &&& kT μ p (nw μ + k) i = 0))) (nI i) = X11_isKindBarred_L6 134 (nI p) (nI set) (nI k) μ m (b01 (decide (¬ set &&& kT μ p (nw μ + k) (i + 1) = 0))) (nI (i + 1))
    rw [X11_isKindBarred_L6, gi_134 o, T.1.2.1, Option.bind_some, if_neg (nI_ge hi (by omega))]
    simp only [vo_134 o, isAl_m o T L hp i10, Option.bind_some, b01_z, bt_1, bt_t1 (show set < 2 ^ 31 by omega) (show i < 31 by omega), nI_add1, L8, pk_mul]
    have kz := kT_zero μ p (nw μ + k) set i
    by_cases q : set.testBit i = true ∧ alT μ p i = false
    · rw [if_pos q.1, if_pos q.2, Option.bind_some]
      obtain ⟨x, ex⟩ := kind48 I0 (p := p) (t := i) (k := k) hp i10 hk (nI set) (decide (¬ set &&& kT μ p (nw μ + k) i = 0))
      rw [ex, Option.bind_some]
      have : (decide (¬ set &&& kT μ p (nw μ + k) i = 0) || (bK μ p (nw μ + k) (lc μ p)).testBit (tv μ 1 i)) = decide (¬ set &&& kT μ p (nw μ + k) (i + 1) = 0) := by
        have kd : kdT μ p (nw μ + k) i = (bK μ p (nw μ + k) (lc μ p)).testBit (tv μ 1 i) := by
          unfold kdT
          rw [q.2]
          rfl
        rw [kd, q.1, Bool.true_and] at kz
        by_cases z : set &&& kT μ p (nw μ + k) i = 0
        · rw [decide_eq_false (fun w => w z), Bool.false_or]
          cases zb : (bK μ p (nw μ + k) (lc μ p)).testBit (tv μ 1 i)
          · exact (decide_eq_false (fun w => w (kz.mpr ⟨z, zb⟩))).symm
          · exact (decide_eq_true (p := ¬ set &&& kT μ p (nw μ + k) (i + 1) = 0) (fun w => by have := (kz.mp w).2; rw [zb] at this; cases this)).symm
        · rw [decide_eq_true z, Bool.true_or]
          exact (decide_eq_true (p := ¬ set &&& kT μ p (nw μ + k) (i + 1) = 0) (fun w => z (kz.mp w).1)).symm
      rw [this]
    · have z10 : ((if set.testBit i = true then (if alT μ p i = false then some 1 else some 0) else some 0 : Option Int32)) = some 0 := by
        by_cases q1 : set.testBit i = true
        · rw [if_pos q1, if_neg (fun z => q ⟨q1, z⟩)]
        · rw [if_neg q1]
      rw [z10, Option.bind_some]
      obtain ⟨x, ex⟩ := kind48n I0 (p := p) hp (nI set) (nI k) (nI i) (b01 (decide (¬ set &&& kT μ p (nw μ + k) i = 0)))
      rw [ex, Option.bind_some]
      have z : (set.testBit i && kdT μ p (nw μ + k) i) = false := by
        cases q1 : set.testBit i
        · rfl
        · have : alT μ p i = true := by
            cases q2 : alT μ p i
            · exact absurd ⟨q1, q2⟩ q
            · rfl
          unfold kdT
          rw [this]
          rfl
      have e2 : (¬ set &&& kT μ p (nw μ + k) i = 0) = (¬ set &&& kT μ p (nw μ + k) (i + 1) = 0) := propext ⟨fun w v => w (kz.mp v).1, fun w v => w (kz.mpr ⟨v, z⟩)⟩
      have e3 : decide (¬ set &&& kT μ p (nw μ + k) i = 0) = decide (¬ set &&& kT μ p (nw μ + k) (i + 1) = 0) := by
        by_cases w : set &&& kT μ p (nw μ + k) i = 0
        · rw [decide_eq_false (fun v => v w), decide_eq_false (fun v => (e2 ▸ v : ¬ set &&& kT μ p (nw μ + k) i = 0) w)]
        · rw [decide_eq_true w, decide_eq_true (e2 ▸ w : ¬ set &&& kT μ p (nw μ + k) (i + 1) = 0)]
      rw [e3]) (fun m a P => by
    show X11_isKindBarred_L6 134 (nI p) (nI set) (nI k) μ (m + 1) (b01 a) (nI (tn μ)) = _
    rw [X11_isKindBarred_L6, gi_134 o, T.1.2.1, Option.bind_some, if_pos (nI_le (Nat.le_refl _) (by omega))]) false (by rw [kT, Nat.and_zero]; rfl)
  subst P
  have e : X11_isKindBarred_L6 134 (nI p) (nI set) (nI k) μ FU 0 0 = _ := e
  unfold X11_isKindBarred
  rw [e, Option.bind_some, zz_b, Option.bind_some]
/-! ===== most, of the reference ===== -/
def cR (μ : Mem) (p lo hi : Nat) : Nat → Nat
  | 0 => 0
  | n + 1 => if sv μ 0 n = p ∧ lo ≤ sv μ 3 n ∧ sv μ 3 n ≤ hi then cR μ p lo hi n + 1 else cR μ p lo hi n
def plC (pb now lo : Nat) : Nat → Nat
  | 0 => 0
  | j + 1 => if pb.testBit j = true ∧ lo ≤ now + j then plC pb now lo j + 1 else plC pb now lo j
def gM (μ : Mem) (p pb step b : Nat) : Nat := cR μ p (nw μ + step + 1 - b) (nw μ + step) (sc μ) + plC pb (nw μ) (nw μ + step + 1 - b) step
theorem cR_le (μ : Mem) (p lo hi : Nat) : ∀ n, cR μ p lo hi n ≤ n
  | 0 => Nat.le_refl _
  | n + 1 => by
    have := cR_le μ p lo hi n
    rw [cR]
    split <;> omega
theorem plC_le (pb now lo : Nat) : ∀ n, plC pb now lo n ≤ n
  | 0 => Nat.le_refl _
  | n + 1 => by
    have := plC_le pb now lo n
    rw [plC]
    split <;> omega
theorem cR_sm {μ μ' : Mem} (s : Sm μ μ') (p lo hi : Nat) : ∀ n, cR μ' p lo hi n = cR μ p lo hi n
  | 0 => rfl
  | n + 1 => by rw [cR, cR, cR_sm s p lo hi n, sv_sm s (by decide), sv_sm s (by decide)]
theorem gM_sm {μ μ' : Mem} (s : Sm μ μ') : gM μ' = gM μ := by
  funext p pb step b
  unfold gM
  rw [nw_sm s, sc_sm s, cR_sm s]
theorem low_lt {t u b : Nat} (ht : t < 2 ^ 20) (hu : u < 2 ^ 20) (hb : b < 2 ^ 20) : (nI t < nI u - nI b + 1) = (t < u + 1 - b) := by
  by_cases q : b ≤ u
  · rw [pk_sub q, nI_add1, n_lt (by omega) (by omega), show u - b + 1 = u + 1 - b by omega]
  · obtain ⟨d, hd⟩ : ∃ d, b = u + 1 + d := ⟨b - (u + 1), by omega⟩
    have e2 : nI u - nI b + 1 = nI 0 - nI d := by
      have xy : ∀ x y : Int32, x - (x + y) = 0 - y := fun x y => by rw [Int32.sub_eq_add_neg, Int32.neg_add, Int32.sub_eq_add_neg, ← Int32.add_assoc, Int32.add_right_neg, Int32.sub_eq_add_neg]
      rw [hd, Int32.sub_eq_add_neg, Int32.add_assoc, Int32.add_comm _ 1, ← Int32.add_assoc, nI_add1, ← Int32.sub_eq_add_neg, ← nI_add (u + 1) d, xy, nI_0]
    rw [e2]
    refine propext ⟨fun z => ?_, fun z => by omega⟩
    rw [Int32.lt_iff_toInt_lt, pk_sub_toInt (by decide) (by omega), nI_toInt (by omega)] at z
    omega
theorem low_le {t u b : Nat} (ht : t < 2 ^ 20) (hu : u < 2 ^ 20) (hb : b < 2 ^ 20) : (nI t ≤ nI u - nI b) = ¬ (u + 1 - b ≤ t) := by
  refine propext ?_
  rw [Int32.le_iff_toInt_le, pk_sub_toInt (by omega) (by omega), nI_toInt (by omega)]
  omega
theorem most50 {μ : Mem} (I : InvM μ) {p u j : Nat} (hp : p < 4) (hj : j < lc μ p) (h3 : lv μ 0 p j = 3) (hu : u < 1000) (x2 x3 x4 : Int32) : X11_areMost_L50 134 (nI p) x2 x3 x4 (nI u) (nI (8 * p + j)) μ FU 0 0 = some (nI (cR μ p (u + 1 - lv μ 2 p j) u (sc μ)), nI (sc μ)) := by
  obtain ⟨o, W, C, T, S, X, L⟩ := I
  have hc := S.1.2.2
  have l8 := (L p hp).1.2.2
  obtain ⟨-, -, A2, -⟩ := (L p hp).2 j hj
  obtain ⟨-, z2, z3, -⟩ := A2 (by omega) (by omega)
  have z2 : mI μ 159 (8 * p + j) = _ := z2
  obtain ⟨a, P, e⟩ := loopF (F := fun m (a : Nat) i => X11_areMost_L50 134 (nI p) x2 x3 x4 (nI u) (nI (8 * p + j)) μ m (nI a) (nI i)) (P := fun i a => a = cR μ p (u + 1 - lv μ 2 p j) u i) (n := sc μ) (r := fun a => (nI a, nI (sc μ))) (by omega) (fun m a i hi P => by
    subst P
    have i40 : i < 40 := by omega
    have f0 : mI μ 170 i = _ := (S.2 0 i (by decide) i40).2.1
    have f3 : mI μ 173 i = _ := (S.2 3 i (by decide) i40).2.1
    have b0 : sv μ 0 i ≤ 3 := (S.2 0 i (by decide) i40).2.2
    have b3 : sv μ 3 i ≤ 60 := (S.2 3 i (by decide) i40).2.2
    have c0 : (nI (sv μ 0 i) = nI p) = (sv μ 0 i = p) := n_eq (by omega) (by omega)
    have ew : X11_in (nI (sv μ 3 i)).toInt64 (nI u - nI (lv μ 2 p j) + 1).toInt64 (nI u).toInt64 = if u + 1 - lv μ 2 p j ≤ sv μ 3 i ∧ sv μ 3 i ≤ u then 1 else 0 := by
      rw [in_eq]
      unfold X10_within
      simp only [low_lt (show sv μ 3 i < 2 ^ 20 by omega) (show u < 2 ^ 20 by omega) (show lv μ 2 p j < 2 ^ 20 by omega), n_lt (show u < 2 ^ 31 by omega) (show sv μ 3 i < 2 ^ 31 by omega)]
      by_cases q1 : sv μ 3 i < u + 1 - lv μ 2 p j
      · rw [if_pos q1, if_neg (by omega)]
      · rw [if_neg q1]
        by_cases q2 : u < sv μ 3 i
        · rw [if_pos q2, if_neg (by omega)]
        · rw [if_neg q2, if_pos (by omega)]
    refine ⟨_, rfl, ?_⟩
    show X11_areMost_L50 134 (nI p) x2 x3 x4 (nI u) (nI (8 * p + j)) μ (m + 1) (nI (cR μ p (u + 1 - lv μ 2 p j) u i)) (nI i) = X11_areMost_L50 134 (nI p) x2 x3 x4 (nI u) (nI (8 * p + j)) μ m (nI (cR μ p (u + 1 - lv μ 2 p j) u (i + 1))) (nI (i + 1))
    rw [X11_areMost_L50, gi_134 o, S.1.2.1, Option.bind_some, if_neg (nI_ge hi (by omega)), cR]
    simp only [r_134_46 o, r_134_49 o, r_134_27 o, ai_170 o i40, ai_173 o i40, ai_159 o (show 8 * p + j < 32 by omega), f0, f3, z2, Option.bind_some, c0, nI_add1, ew]
    by_cases q : sv μ 0 i = p
    · rw [if_pos q]
      by_cases q2 : u + 1 - lv μ 2 p j ≤ sv μ 3 i ∧ sv μ 3 i ≤ u
      · rw [if_pos q2, if_neg (by decide), Option.bind_some, if_pos ⟨q, q2⟩, nI_add1]
      · rw [if_neg q2, if_pos rfl, Option.bind_some, if_neg (fun z => q2 z.2), Int32.add_zero]
    · rw [if_neg q, Option.bind_some, if_neg (fun z => q z.1), Int32.add_zero]) (fun m a P => by
    show X11_areMost_L50 134 (nI p) x2 x3 x4 (nI u) (nI (8 * p + j)) μ (m + 1) (nI a) (nI (sc μ)) = _
    rw [X11_areMost_L50, gi_134 o, S.1.2.1, Option.bind_some, if_pos (nI_le (Nat.le_refl _) (by omega))]) 0 rfl
  subst P
  exact e
theorem most119 {μ : Mem} (I : InvM μ) {p j step pb c : Nat} (hp : p < 4) (hj : j < lc μ p) (h3 : lv μ 0 p j = 3) (hs : step < 31) (hpb : pb < 2 ^ 31) (x4 : Int32) : X11_areMost_L119 134 (nI p) (nI step) (nI pb) x4 (nI (nw μ + step)) (nI (8 * p + j)) μ FU (nI c) 0 = some (nI (c + plC pb (nw μ) (nw μ + step + 1 - lv μ 2 p j) step), nI step) := by
  obtain ⟨o, W, C, T, S, X, L⟩ := I
  have hn := W.2.2.2.2.2.2.2
  have hw := W.2.2.2.2.2.2.1
  have l8 := (L p hp).1.2.2
  obtain ⟨-, -, A2, -⟩ := (L p hp).2 j hj
  obtain ⟨-, z2, z3, -⟩ := A2 (by omega) (by omega)
  have z2 : mI μ 159 (8 * p + j) = _ := z2
  obtain ⟨a, P, e⟩ := loopF (F := fun m (a : Nat) i => X11_areMost_L119 134 (nI p) (nI step) (nI pb) x4 (nI (nw μ + step)) (nI (8 * p + j)) μ m (nI (c + a)) (nI i)) (P := fun i a => a = plC pb (nw μ) (nw μ + step + 1 - lv μ 2 p j) i) (n := step) (r := fun a => (nI (c + a), nI step)) (by omega) (fun m a i hi P => by
    subst P
    refine ⟨_, rfl, ?_⟩
    show X11_areMost_L119 134 (nI p) (nI step) (nI pb) x4 (nI (nw μ + step)) (nI (8 * p + j)) μ (m + 1) (nI (c + plC pb (nw μ) (nw μ + step + 1 - lv μ 2 p j) i)) (nI i) = X11_areMost_L119 134 (nI p) (nI step) (nI pb) x4 (nI (nw μ + step)) (nI (8 * p + j)) μ m (nI (c + plC pb (nw μ) (nw μ + step + 1 - lv μ 2 p j) (i + 1))) (nI (i + 1))
    rw [X11_areMost_L119, if_neg (nI_ge hi (by omega)), plC]
    simp only [gi_134 o, hw, r_134_27 o, ai_159 o (show 8 * p + j < 32 by omega), z2, Option.bind_some, nI_add1, nI_add, bt_1, bt_t1 hpb (show i < 31 by omega), low_le (show nw μ + i < 2 ^ 20 by omega) (show nw μ + step < 2 ^ 20 by omega) (show lv μ 2 p j < 2 ^ 20 by omega)]
    by_cases q : pb.testBit i = true
    · rw [if_pos q]
      by_cases q2 : nw μ + step + 1 - lv μ 2 p j ≤ nw μ + i
      · rw [if_neg (fun z => z q2), Option.bind_some, if_pos ⟨q, q2⟩, nI_add1]
        rfl
      · rw [if_pos q2, Option.bind_some, if_neg (fun z => q2 z.2), Int32.add_zero]
    · rw [if_neg q, Option.bind_some, if_neg (fun z => q z.1), Int32.add_zero]) (fun m a P => by
    show X11_areMost_L119 134 (nI p) (nI step) (nI pb) x4 (nI (nw μ + step)) (nI (8 * p + j)) μ (m + 1) (nI (c + a)) (nI step) = _
    rw [X11_areMost_L119, if_pos (nI_le (Nat.le_refl _) (by omega))]) 0 rfl
  subst P
  exact e
theorem areM_m {μ : Mem} (I : InvM μ) {p step pb : Nat} (hp : p < 4) (hs : step < 31) (hpb : pb < 2 ^ 31) : X11_areMost 134 (nI p) (nI step) (nI pb) μ = some (nI (mB μ p (gM μ p pb step) (lc μ p))) := by
  have I0 := I
  obtain ⟨o, W, C, T, S, X, L⟩ := I
  have hn := W.2.2.2.2.2.2.2
  have hw := W.2.2.2.2.2.2.1
  have hc := S.1.2.2
  obtain ⟨⟨-, l1, l8⟩, hkk⟩ := L p hp
  obtain ⟨a, P, e⟩ := loopG (F := fun m (a : Nat) i => X11_areMost_L17 134 (nI p) (nI step) (nI pb) (nI (nw μ + step)) μ m (nI a) (nI i)) (P := fun i a => a = mB μ p (gM μ p pb step) (i - 8 * p)) (i0 := 8 * p) (n := 8 * p + lc μ p) (r := fun a => (nI a, nI (8 * p + lc μ p))) (by omega) (by omega) (fun m a i h1 hi P => by
    subst P
    obtain ⟨j, rfl⟩ : ∃ j, i = 8 * p + j := ⟨i - 8 * p, by omega⟩
    have hj : j < lc μ p := by omega
    obtain ⟨A0, A1, A2, A3⟩ := hkk j hj
    have c3 : (nI (lv μ 0 p j) = 3) = (lv μ 0 p j = 3) := n_eq (b := 3) (by omega) (by decide)
    have ml := mB_le μ p (gM μ p pb step) j
    have cm : (nI (mB μ p (gM μ p pb step) j) = 0) = (mB μ p (gM μ p pb step) j = 0) := n_eq (b := 0) (by omega) (by decide)
    have gb : gM μ p pb step (lv μ 2 p j) ≤ 40 + 31 := by
      have g1 := cR_le μ p (nw μ + step + 1 - lv μ 2 p j) (nw μ + step) (sc μ)
      have g2 := plC_le pb (nw μ) (nw μ + step + 1 - lv μ 2 p j) step
      unfold gM
      omega
    refine ⟨_, rfl, ?_⟩
    show X11_areMost_L17 134 (nI p) (nI step) (nI pb) (nI (nw μ + step)) μ (m + 1) (nI (mB μ p (gM μ p pb step) (8 * p + j - 8 * p))) (nI (8 * p + j)) = X11_areMost_L17 134 (nI p) (nI step) (nI pb) (nI (nw μ + step)) μ m (nI (mB μ p (gM μ p pb step) (8 * p + j + 1 - 8 * p))) (nI (8 * p + j + 1))
    rw [show 8 * p + j - 8 * p = j by omega, show 8 * p + j + 1 - 8 * p = j + 1 by omega, X11_areMost_L17, r_134_24 o, Option.bind_some, ai_156 o hp, l1, Option.bind_some, show (8 : Int32) = nI 8 from rfl, pk_mul, nI_add, if_neg (nI_ge (by omega) (by omega)), r_134_25 o, Option.bind_some, ai_157 o (by omega), A0.2.1, Option.bind_some, mB]
    simp only [c3]
    by_cases q : lv μ 0 p j = 3
    · rw [if_pos q, most50 I0 hp hj q (by omega), Option.bind_some, most119 I0 hp hj q hs hpb, Option.bind_some]
      simp only [cm, r_134_26 o, ai_158 o (show 8 * p + j < 32 by omega), A1.2.1, Option.bind_some]
      by_cases q0 : mB μ p (gM μ p pb step) j = 0
      · rw [if_pos q0, if_neg (show ¬ mB μ p (gM μ p pb step) j = 1 by omega)]
        simp only [n_lt (show cR μ p (nw μ + step + 1 - lv μ 2 p j) (nw μ + step) (sc μ) + plC pb (nw μ) (nw μ + step + 1 - lv μ 2 p j) step < 2 ^ 31 from Nat.lt_of_le_of_lt gb (by decide)) (show lv μ 1 p j < 2 ^ 31 by omega)]
        by_cases q2 : gM μ p pb step (lv μ 2 p j) < lv μ 1 p j
        · rw [if_pos (show cR μ p (nw μ + step + 1 - lv μ 2 p j) (nw μ + step) (sc μ) + plC pb (nw μ) (nw μ + step + 1 - lv μ 2 p j) step < lv μ 1 p j from q2), Option.bind_some, Option.bind_some, if_neg (by omega), nI_add1]
          rfl
        · rw [if_neg (show ¬ cR μ p (nw μ + step + 1 - lv μ 2 p j) (nw μ + step) (sc μ) + plC pb (nw μ) (nw μ + step + 1 - lv μ 2 p j) step < lv μ 1 p j from q2), Option.bind_some, Option.bind_some, if_pos ⟨q, by omega⟩, nI_add1]
          rfl
      · rw [if_neg q0, if_pos (show mB μ p (gM μ p pb step) j = 1 by omega), Option.bind_some, Option.bind_some, nI_add1]
        rfl
    · rw [if_neg q, Option.bind_some, nI_add1, if_neg (show ¬ (lv μ 0 p j = 3 ∧ _) from fun z => q z.1)]
      by_cases q0 : mB μ p (gM μ p pb step) j = 1
      · rw [if_pos q0, q0]
      · rw [if_neg q0, show mB μ p (gM μ p pb step) j = 0 by omega]) (fun m a P => by
    show X11_areMost_L17 134 (nI p) (nI step) (nI pb) (nI (nw μ + step)) μ (m + 1) (nI a) (nI (8 * p + lc μ p)) = _
    rw [X11_areMost_L17, r_134_24 o, Option.bind_some, ai_156 o hp, l1, Option.bind_some, show (8 : Int32) = nI 8 from rfl, pk_mul, nI_add, if_pos (nI_le (Nat.le_refl _) (by omega))]) 0 (by rw [Nat.sub_self]; rfl)
  subst P
  have e : X11_areMost_L17 134 (nI p) (nI step) (nI pb) (nI (nw μ + step)) μ FU 0 (nI (8 * p)) = _ := e
  rw [show 8 * p + lc μ p - 8 * p = lc μ p by omega] at e
  unfold X11_areMost
  rw [gi_134 o, hw, Option.bind_some, nI_add, Option.bind_some, show (8 : Int32) = nI 8 from rfl, pk_mul, Option.bind_some, e, Option.bind_some]
  have ml := mB_le μ p (gM μ p pb step) (lc μ p)
  rcases (show mB μ p (gM μ p pb step) (lc μ p) = 0 ∨ mB μ p (gM μ p pb step) (lc μ p) = 1 by omega) with q | q
  · rw [q]
    rfl
  · rw [q]
    rfl
end
section
/-! ===== windows: rows of TICKS and SAYINGS one by one ===== -/
theorem sumR_cg {f g : Nat → Nat} (lo : Nat) (h : ∀ i, f i = g i) : ∀ d, sumR f lo d = sumR g lo d
  | 0 => rfl
  | d + 1 => by rw [sumR, sumR, sumR_cg lo h d, h]
theorem sumR_add (f g : Nat → Nat) (lo : Nat) : ∀ d, sumR (fun i => f i + g i) lo d = sumR f lo d + sumR g lo d
  | 0 => rfl
  | d + 1 => by
    rw [sumR, sumR, sumR, sumR_add f g lo d]
    omega
theorem sumR_zero (lo : Nat) : ∀ d, sumR (fun _ => 0) lo d = 0
  | 0 => rfl
  | d + 1 => by rw [sumR, sumR_zero lo d]
theorem sumR_one (t lo : Nat) : ∀ d, sumR (fun i => if i = t then 1 else 0) lo d = if lo ≤ t ∧ t < lo + d then 1 else 0
  | 0 => by rw [sumR, if_neg (by omega)]
  | d + 1 => by
    rw [sumR, sumR_one t lo d]
    by_cases q : lo + d = t
    · rw [if_neg (by omega), if_pos q, if_pos (by omega)]
    · by_cases q2 : lo ≤ t ∧ t < lo + d
      · rw [if_pos q2, if_neg q, if_pos (by omega)]
      · rw [if_neg q2, if_neg q, if_neg (by omega)]
theorem sum_ct (μ : Mem) (p lo hi d : Nat) (h : lo + d = hi + 1) : ∀ n, sumR (fun u => ct μ p u n) lo d = cR μ p lo hi n
  | 0 => sumR_zero lo d
  | n + 1 => by
    rw [cR, ← sum_ct μ p lo hi d h n]
    by_cases q : sv μ 0 n = p
    · have e : ∀ u, ct μ p u (n + 1) = ct μ p u n + (if u = sv μ 3 n then 1 else 0) := fun u => by
        rw [ct]
        by_cases q2 : sv μ 3 n = u
        · rw [if_pos ⟨q, q2⟩, if_pos q2.symm]
        · rw [if_neg (fun z => q2 z.2), if_neg (fun z => q2 z.symm), Nat.add_zero]
      rw [sumR_cg lo e d, sumR_add, sumR_one]
      by_cases q3 : lo ≤ sv μ 3 n ∧ sv μ 3 n ≤ hi
      · rw [if_pos (by omega), if_pos ⟨q, q3⟩]
      · rw [if_neg (by omega), if_neg (fun z => q3 z.2), Nat.add_zero]
    · rw [if_neg (fun z => q z.1)]
      exact sumR_cg lo (fun u => by rw [ct, if_neg (fun z => q z.1)]) d
def plf (pb now : Nat) : Nat → Nat → Nat
  | 0, _ => 0
  | j + 1, u => plf pb now j u + (if pb.testBit j = true ∧ u = now + j then 1 else 0)
theorem sum_pl (pb now lo d : Nat) : ∀ n, now + n ≤ lo + d → sumR (plf pb now n) lo d = plC pb now lo n
  | 0, _ => sumR_zero lo d
  | n + 1, h => by
    rw [plC, ← sum_pl pb now lo d n (by omega)]
    by_cases q : pb.testBit n = true
    · have e : ∀ u, plf pb now (n + 1) u = plf pb now n u + (if u = now + n then 1 else 0) := fun u => by
        rw [plf]
        by_cases q2 : u = now + n
        · rw [if_pos ⟨q, q2⟩, if_pos q2]
        · rw [if_neg (fun z => q2 z.2), if_neg q2]
      rw [sumR_cg lo e d, sumR_add, sumR_one]
      by_cases q3 : lo ≤ now + n
      · rw [if_pos (by omega), if_pos ⟨q, q3⟩]
      · rw [if_neg (by omega), if_neg (fun z => q3 z.2), Nat.add_zero]
    · rw [if_neg (fun z => q z.1)]
      exact sumR_cg lo (fun u => by rw [plf, if_neg (fun z => q z.1), Nat.add_zero]) d
theorem wnd_eq (μ : Mem) (p pb step b : Nat) : wnd (fun u => ct μ p u (sc μ) + plf pb (nw μ) step u) (nw μ + step) b = gM μ p pb step b := by
  unfold wnd gM
  rw [sumR_add, sum_ct μ p _ (nw μ + step) _ (by omega), sum_pl pb (nw μ) _ _ step (by omega)]
theorem wnd_eq0 (μ : Mem) (p b : Nat) : wnd (fun u => ct μ p u (sc μ)) (nw μ) b = gM μ p 0 0 b := by
  unfold wnd gM
  rw [sum_ct μ p _ (nw μ) _ (by omega)]
  rfl
theorem barring_m {μ : Mem} (I : InvM μ) {p set way k pb : Nat} (hp : p < 4) (hs : set < 2 ^ tn μ) (hw : way < 4) (hk : k ≤ 8) (hpb : pb < 2 ^ 31) : ∃ ν, Sm μ ν ∧ X11_barring 134 (nI p) (nI set) (nI way) (nI k) (nI pb) μ = some (nI (barV μ p (nw μ + k) (odd μ p (nw μ) k) set way (mB μ p (gM μ p pb k) (lc μ p))), ν) := by
  have I0 := I
  obtain ⟨o, W, C, T, S, X, L⟩ := I
  have hn := T.1.2.2
  have hs10 : set < 2 ^ 10 := Nat.lt_of_lt_of_le hs (Nat.pow_le_pow_right (by decide) hn)
  have al := areAl_m o T L hp hs
  unfold X11_barring barV
  rw [vo_134 o, Option.bind_some, al, Option.bind_some]
  simp only [b01_z, decide_eq_false_iff_not]
  by_cases q : nd set (aT μ p (tn μ)) = 0
  · refine ⟨μ, Sm.rf o, ?_⟩
    rw [if_neg (fun z => z q), if_pos q, Option.bind_some, kindB_m I0 hp hk hs10, Option.bind_some]
    simp only [b01_z, decide_eq_false_iff_not, Decidable.not_not]
    by_cases q2 : set &&& kT μ p (nw μ + k) (tn μ) = 0
    · rw [if_pos q2, if_pos q2, if_neg (fun z => z q), Option.bind_some]
      rfl
    · rw [if_neg q2, if_neg q2]
      rfl
  · obtain ⟨ν, ⟨s, -⟩, ew⟩ := wayB_m I0 (p := p) (way := way) (k := k) hp hw hk
    have Iν := I0.sm s
    refine ⟨ν, s, ?_⟩
    have kb := kindB_m Iν (p := p) (set := set) (k := k) hp hk hs10
    rw [nw_sm s, tn_sm s, kT_sm s] at kb
    have am := areM_m Iν (p := p) (step := k) (pb := pb) hp (by omega) hpb
    rw [lc_sm s, gM_sm s, mB_sm s] at am
    have ml := mB_le μ p (gM μ p pb k) (lc μ p)
    have cm : (nI (mB μ p (gM μ p pb k) (lc μ p)) = 0) = (mB μ p (gM μ p pb k) (lc μ p) = 0) := n_eq (b := 0) (by omega) (by decide)
    rw [if_pos q, if_neg q, Option.bind_some, ew, Option.bind_some]
    simp only [b01_z]
    by_cases q3 : (bW μ p (odd μ p (nw μ) k) (lc μ p)).testBit way = true
    · have q3' : ¬ (bW μ p (odd μ p (nw μ) k) (lc μ p)).testBit way = false := by rw [q3]; decide
      rw [if_neg q3', if_pos q3]
      rfl
    · have q3' : (bW μ p (odd μ p (nw μ) k) (lc μ p)).testBit way = false := by
        cases z : (bW μ p (odd μ p (nw μ) k) (lc μ p)).testBit way
        · rfl
        · exact absurd z q3
      rw [if_pos q3', if_neg q3, vo_134 s.1, Option.bind_some, kb, Option.bind_some]
      simp only [b01_z, decide_eq_false_iff_not, Decidable.not_not]
      by_cases q2 : set &&& kT μ p (nw μ + k) (tn μ) = 0
      · rw [if_pos q2, if_pos q2, if_pos q, Option.bind_some, am, Option.bind_some]
        simp only [cm]
        by_cases q4 : mB μ p (gM μ p pb k) (lc μ p) = 0
        · rw [if_pos q4, if_pos q4]
          rfl
        · rw [if_neg q4, if_neg q4]
          rfl
      · rw [if_neg q2, if_neg q2]
        rfl
theorem gTs {μ : Mem} (h : Ok μ) (T : RelT μ) (x : Int32) : (X0_hasThings 37 x μ = some 0 ∧ X11_areThings 134 x μ = some 0) ∨ (X0_hasThings 37 x μ = some 1 ∧ X11_areThings 134 x μ = some 1 ∧ ∃ set, 0 < set ∧ set < 2 ^ tn μ ∧ x = nI set) := by
  have hn := T.1.2.2
  have hp : 2 ^ tn μ ≤ 2 ^ 10 := Nat.pow_le_pow_right (by decide) hn
  have hp0 : 0 < 2 ^ tn μ := Nat.two_pow_pos _
  have e : X11_in x.toInt64 1 ((((1 : Int32) <<< (nI (tn μ) &&& 31)) - 1).toInt64) = X10_within x 1 (nI (2 ^ tn μ - 1)) := by
    rw [sh31 _ (by omega), show nI (2 ^ tn μ) - 1 = nI (2 ^ tn μ - 1) from pk_sub (b := 1) hp0]
    exact in_eq x 1 _
  unfold X0_hasThings X11_areThings
  rw [gi_37 h, T.1.1, gi_134 h, T.1.2.1, Option.bind_some, Option.bind_some, e, sh31 _ (by omega)]
  by_cases q0 : x < 0
  · left
    have z1 : x ≤ 0 := by
      rw [Int32.lt_iff_toInt_lt] at q0
      rw [Int32.le_iff_toInt_le]
      omega
    have z2 : x < 1 := by
      rw [Int32.lt_iff_toInt_lt] at q0 ⊢
      have : (0 : Int32).toInt = 0 := rfl
      have : (1 : Int32).toInt = 1 := rfl
      omega
    unfold X10_within
    rw [if_pos z1, if_pos z2]
    exact ⟨rfl, rfl⟩
  · obtain ⟨j, hj, rfl⟩ := nI_of q0
    unfold X10_within
    have c1 : (nI j < 1) = (j < 1) := n_lt (b := 1) hj (by decide)
    have c2 : (nI (2 ^ tn μ - 1) < nI j) = (2 ^ tn μ - 1 < j) := n_lt (by omega) hj
    have c3 : (nI (2 ^ tn μ) ≤ nI j) = (2 ^ tn μ ≤ j) := n_le (by omega) hj
    simp only [nI_0le hj, c1, c2, c3]
    by_cases q1 : j = 0
    · left
      rw [if_pos q1, if_pos (show j < 1 by omega)]
      exact ⟨rfl, rfl⟩
    · rw [if_neg q1, if_neg (show ¬ j < 1 by omega)]
      by_cases q2 : 2 ^ tn μ ≤ j
      · left
        rw [if_pos q2, if_pos (show 2 ^ tn μ - 1 < j by omega)]
        exact ⟨rfl, rfl⟩
      · right
        rw [if_neg q2, if_neg (show ¬ 2 ^ tn μ - 1 < j by omega)]
        exact ⟨rfl, rfl, j, by omega, by omega, rfl⟩
theorem barNow_c {μ : Mem} (I : Inv μ) {p set way : Nat} (hp : p < 4) (hs : set < 2 ^ tn μ) (hw : way < 4) : ∃ ν, Sm μ ν ∧ X10_barNow 0 (nI p) (nI set) (nI way) μ = some (nI (barV μ p (nw μ) (odd μ p (nw μ) 0) set way (mB μ p (gM μ p 0 0) (lc μ p))), ν) := by
  have I0 := I
  obtain ⟨o, W, C, T, S, X, L⟩ := I
  have hn := W.2.2.2.2.2.2.2
  have w6 := W.2.2.2.2.2
  have hc := S.1.2.2
  have hT := T.1.2.2
  have hs10 : set < 2 ^ 10 := Nat.lt_of_lt_of_le hs (Nat.pow_le_pow_right (by decide) hT)
  obtain ⟨a, ⟨sa, ha⟩, ea⟩ := look_ok o W (p := p) (t := nw μ) (k := 0) hp (by omega) (by decide)
  have Ia := I0.sm sa
  obtain ⟨b, ⟨ob, gb⟩, eb⟩ := open_c Ia (G := 93) (p := p) (u := nw μ) (r := 19) (Or.inl rfl) hp (by omega) (by decide) rfl (ha 0 (Nat.le_refl _)) (fun j hj => odd_le hj)
  have sb := ob.sm (isGt (Or.inl rfl)).2.2
  have Ib := Ia.sm sb
  obtain ⟨c, ⟨oc, hcc⟩, ec⟩ := said_c sb.1 Ib.2.2.2.2.1 (r := 108) (p := p) (Or.inr rfl) hp
  have sc' := oc.sm (isRow (Or.inr rfl)).2.2
  have Ic := Ib.sm sc'
  have s3 := (sa.tr sb).tr sc'
  have gc : Gt a 93 p (nw μ) (odd μ p (nw μ) 0) c := by
    unfold Gt
    rw [oc.2.2.2 93 (by decide)]
    exact gb
  have mo := most_c sc'.1 Ic.2.2.2.2.2.2 (r := 108) (u := nw μ) (p := p) hp (Or.inr rfl) (by omega) (f := fun u => ct μ p u (sc μ)) (fun i hi => by rw [hcc i (by omega), sc_sm (sa.tr sb)]; exact congrArg nI (ct_sm (sa.tr sb) p i _)) (fun i => by have := ct_le μ p i (sc μ); omega)
  have ew : wnd (fun u => ct μ p u (sc μ)) (nw μ) = gM μ p 0 0 := funext (wnd_eq0 μ p)
  rw [ew, lc_sm s3, mB_sm s3] at mo
  have br := bar_c Ia (G := 93) (p := p) (u := nw μ) (Or.inl rfl) hp sc'.1 gc (set := set) (way := way) (m := mB μ p (gM μ p 0 0) (lc μ p)) hs10 hw (mB_le _ _ _ _)
  have ebv : barV a p (nw μ) (odd μ p (nw μ) 0) set way (mB μ p (gM μ p 0 0) (lc μ p)) = barV μ p (nw μ) (odd μ p (nw μ) 0) set way (mB μ p (gM μ p 0 0) (lc μ p)) := by
    unfold barV
    rw [aT_sm sa, kT_sm sa, bW_sm sa, lc_sm sa, tn_sm sa]
  rw [ebv] at br
  have na : mI a 0 10 = nI (nw μ) := (sa.fld (a := 0) (k := 10) rfl).trans w6.1
  have nc : mI c 0 10 = nI (nw μ) := (s3.fld (a := 0) (k := 10) rfl).trans w6.1
  refine ⟨c, s3, ?_⟩
  unfold X10_barNow
  have lc' : aR 4 92 (nI p) c = some (lwA c p) := ar_laws sc'.1 hp
  rw [r_0_0 o, Option.bind_some, gi_0 o, w6.1, Option.bind_some, vo_1 o, Option.bind_some, show (0 : Int32) = nI 0 from rfl, ea, Option.bind_some, r_0_5 sa.1, Option.bind_some, r_0_4 sa.1, Option.bind_some, ar_laws sa.1 hp, Option.bind_some, r_0_2 sa.1, Option.bind_some, gi_0 sa.1, na, Option.bind_some, r_0_0 sa.1, Option.bind_some, r_1_4 sa.1, Option.bind_some, ar_ahead sa.1 (by decide), Option.bind_some, vo_93 sa.1, Option.bind_some, eb, Option.bind_some, r_0_2 sb.1, Option.bind_some, r_0_8 sb.1, Option.bind_some, vo_37 sb.1, Option.bind_some, ec, Option.bind_some, r_0_5 sc'.1, Option.bind_some, r_0_4 sc'.1, Option.bind_some, lc', Option.bind_some, r_0_8 sc'.1, Option.bind_some, gi_0 sc'.1, nc, Option.bind_some, vo_l sc'.1 (lw_is sc'.1 hp), Option.bind_some, mo, Option.bind_some, vo_93 sc'.1, Option.bind_some, br, Option.bind_some]
theorem p_barred (x1 x2 x3 : Int32) : Pair (X10_barred 0 x1 x2 x3) (X11_barred 134 x1 x2 x3) := by
  intro μ I
  have I0 := I
  obtain ⟨o, W, C, T, S, X, L⟩ := I
  rcases gd x1 3 (by decide) with ⟨g1, k1⟩ | ⟨g1, k1, p, hp, rfl⟩
  · exact pairR I0 (by unfold X10_barred; rw [if_pos (show X10_isPerson x1 = 0 from g1)]) (by unfold X11_barred; rw [if_pos (show X11_isPerson x1 = 0 from k1)])
  rcases gTs o T x2 with ⟨g2, k2⟩ | ⟨g2, k2, set, hs0, hs, rfl⟩
  · exact pairR I0 (r := -1001) (by unfold X10_barred; rw [if_neg (show ¬ X10_isPerson (nI p) = 0 from g1), r_0_2 o, Option.bind_some, vo_37 o, Option.bind_some, g2, Option.bind_some, if_pos rfl]) (by unfold X11_barred; rw [if_neg (show ¬ X11_isPerson (nI p) = 0 from k1), vo_134 o, Option.bind_some, k2, Option.bind_some, if_pos rfl])
  rcases gd x3 3 (by decide) with ⟨g3, k3⟩ | ⟨g3, k3, w, hw, rfl⟩
  · exact pairR I0 (r := -1002) (by unfold X10_barred; rw [if_neg (show ¬ X10_isPerson (nI p) = 0 from g1), r_0_2 o, Option.bind_some, vo_37 o, Option.bind_some, g2, Option.bind_some, if_neg (by decide), if_pos (show X10_isWay x3 = 0 from g3)]) (by unfold X11_barred; rw [if_neg (show ¬ X11_isPerson (nI p) = 0 from k1), vo_134 o, Option.bind_some, k2, Option.bind_some, if_neg (by decide), if_pos (show X11_isWay x3 = 0 from k3), Option.bind_some])
  obtain ⟨a, sa, ea⟩ := barNow_c I0 (p := p) (set := set) (way := w) (by omega) hs (by omega)
  have Ia := I0.sm sa
  obtain ⟨b, sb, eb⟩ := barring_m Ia.m (p := p) (set := set) (way := w) (k := 0) (pb := 0) (by omega) (by rw [tn_sm sa]; exact hs) (by omega) (by decide) (by decide)
  have ebv : barV a p (nw a + 0) (odd a p (nw a) 0) set w (mB a p (gM a p 0 0) (lc a p)) = barV μ p (nw μ) (odd μ p (nw μ) 0) set w (mB μ p (gM μ p 0 0) (lc μ p)) := by
    unfold barV
    rw [aT_sm sa, kT_sm sa, bW_sm sa, lc_sm sa, tn_sm sa, nw_sm sa, mB_sm sa, gM_sm sa, show odd a p (nw μ) 0 = odd μ p (nw μ) 0 from funext (odd_sm sa p (nw μ) 0), Nat.add_zero]
  rw [ebv] at eb
  have k2a : X11_areThings 134 (nI set) a = some 1 := by
    rw [← k2]
    unfold X11_areThings
    rw [gi_134 sa.1, gi_134 o, sa.fld (a := 134) (k := 12) rfl]
  refine pairS I0 (r := nI (barV μ p (nw μ) (odd μ p (nw μ) 0) set w (mB μ p (gM μ p 0 0) (lc μ p)))) (μ1 := a) (μ2 := b) ?_ sa ?_ sb
  · unfold X10_barred
    rw [if_neg (show ¬ X10_isPerson (nI p) = 0 from g1), r_0_2 o, Option.bind_some, vo_37 o, Option.bind_some, g2, Option.bind_some, if_neg (by decide), if_neg (show ¬ X10_isWay (nI w) = 0 from g3), vo_0 o, Option.bind_some, ea, Option.bind_some]
  · unfold X11_barred
    rw [if_neg (show ¬ X11_isPerson (nI p) = 0 from k1), vo_134 sa.1, Option.bind_some, k2a, Option.bind_some, if_neg (by decide), if_neg (show ¬ X11_isWay (nI w) = 0 from k3), Option.bind_some]
    rw [show X11_barring 134 (nI p) (nI set) (nI w) 0 0 a = _ from eb, Option.bind_some, Option.bind_some]
end
section
/-! ===== say ===== -/
/-- the MATTER of the latest THING of a SET among the first n, or NONE; all of one MATTER; all for a PERSON -/
def lm (μ : Mem) (set : Nat) : Nat → Int32
  | 0 => -1
  | t + 1 => if set.testBit t = true then nI (tv μ 2 t) else lm μ set t
def isM (μ : Mem) (set : Nat) : Nat → Bool
  | 0 => true
  | t + 1 => if set.testBit t = true then isM μ set t && (decide (lm μ set t = -1) || decide (lm μ set t = nI (tv μ 2 t))) else isM μ set t
def frB (μ : Mem) (p set : Nat) : Nat → Bool
  | 0 => true
  | t + 1 => frB μ p set t && (!set.testBit t || (tv μ 0 t).testBit p)
def cbs (μ : Mem) (p set : Nat) : Nat → Bool
  | 0 => true
  | t + 1 => if set.testBit t = true then cbs μ p set t && (decide (tv μ 8 t = 0) && ((tv μ 0 t).testBit p && (decide (lm μ set t = -1) || decide (lm μ set t = nI (tv μ 2 t))))) else cbs μ p set t
theorem cbs_mono {μ : Mem} {p set k : Nat} (h : cbs μ p set k = false) : ∀ d, cbs μ p set (k + d) = false
  | 0 => h
  | d + 1 => by
    rw [show k + (d + 1) = k + d + 1 by omega, cbs, cbs_mono h d]
    split <;> rfl
theorem cbs_eq (μ : Mem) (p set : Nat) : ∀ n, cbs μ p set n = (decide (set &&& dS μ n = 0) && (frB μ p set n && isM μ set n))
  | 0 => by rw [cbs, dS, frB, isM, Nat.and_zero]; rfl
  | n + 1 => by
    have bz : ∀ x : Nat, x = 0 ↔ ∀ i, x.testBit i = false := fun x => ⟨fun h i => by rw [h, Nat.zero_testBit], fun h => Nat.eq_of_testBit_eq (fun i => by rw [h i, Nat.zero_testBit])⟩
    have e2 : set &&& 2 ^ n = 0 ↔ set.testBit n = false := by
      rw [bz]
      constructor
      · intro h
        have := h n
        rw [Nat.testBit_and, Nat.testBit_two_pow_self, Bool.and_true] at this
        exact this
      · intro h i
        rw [Nat.testBit_and, Nat.testBit_two_pow]
        by_cases q : n = i
        · subst q
          rw [h, Bool.false_and]
        · rw [decide_eq_false q, Bool.and_false]
    have e1 : decide (set &&& dS μ (n + 1) = 0) = (decide (set &&& dS μ n = 0) && (!set.testBit n || decide (tv μ 8 n = 0))) := by
      rw [dS]
      by_cases q : tv μ 8 n = 0
      · rw [if_pos q, decide_eq_true q, Bool.or_true, Bool.and_true]
      · have e3 : set &&& (dS μ n ||| 2 ^ n) = 0 ↔ set &&& dS μ n = 0 ∧ set.testBit n = false := by
          rw [Nat.and_or_distrib_left, ← e2]
          constructor
          · intro h
            have hb : ∀ i, ((set &&& dS μ n).testBit i || (set &&& 2 ^ n).testBit i) = false := fun i => by rw [← Nat.testBit_or, h, Nat.zero_testBit]
            exact ⟨(bz _).mpr (fun i => (Bool.or_eq_false_iff.mp (hb i)).1), (bz _).mpr (fun i => (Bool.or_eq_false_iff.mp (hb i)).2)⟩
          · intro ⟨h1, h2⟩
            rw [h1, h2]
            rfl
        rw [if_neg q, decide_eq_false q, Bool.or_false]
        by_cases q1 : set &&& dS μ n = 0
        · rw [decide_eq_true q1, Bool.true_and]
          cases q2 : set.testBit n
          · exact decide_eq_true (e3.mpr ⟨q1, q2⟩)
          · exact decide_eq_false (fun z => by have := (e3.mp z).2; rw [q2] at this; cases this)
        · rw [decide_eq_false q1, Bool.false_and]
          exact decide_eq_false (fun z => q1 (e3.mp z).1)
    rw [cbs, e1, frB, isM, cbs_eq μ p set n]
    cases set.testBit n
    · simp
    · simp only [if_true, Bool.not_true, Bool.false_or]
      cases decide (set &&& dS μ n = 0) <;> cases frB μ p set n <;> cases isM μ set n <;> cases decide (tv μ 8 n = 0) <;> cases (tv μ 0 n).testBit p <;> rfl
section SAY
variable {μ : Mem} {p set : Nat}
theorem lm_sm {μ' : Mem} (s : Sm μ μ') (set : Nat) : ∀ n, lm μ' set n = lm μ set n
  | 0 => rfl
  | n + 1 => by rw [lm, lm, lm_sm s set n, tv_sm s (by decide)]
theorem isM_sm {μ' : Mem} (s : Sm μ μ') (set : Nat) : ∀ n, isM μ' set n = isM μ set n
  | 0 => rfl
  | n + 1 => by rw [isM, isM, isM_sm s set n, lm_sm s, tv_sm s (by decide)]
theorem frB_sm {μ' : Mem} (s : Sm μ μ') (p set : Nat) : ∀ n, frB μ' p set n = frB μ p set n
  | 0 => rfl
  | n + 1 => by rw [frB, frB, frB_sm s p set n, tv_sm s (by decide)]
theorem canS_c (o : Ok μ) (T : RelT μ) (hp : p < 4) (hs : set < 2 ^ 10) : X0_canBeSaid 37 (nI set) (nI p) μ = some (b01 (cbs μ p set (tn μ))) := by
  have hn := T.1.2.2
  obtain ⟨b, Q, e⟩ := loopE (F := fun k (a : Int32) i => X0_canBeSaid_L5 37 (nI set) (nI p) μ k a (nI i)) (P := fun i a => a = lm μ set i ∧ cbs μ p set i = true) (Q := fun b => b = b01 (cbs μ p set (tn μ))) (n := tn μ) (by omega) (fun k a i hi P => by
    obtain ⟨rfl, hc⟩ := P
    have i10 : i < 10 := by omega
    have f8 := (T.2.1 8 i (by decide) i10).1
    have f0 := (T.2.1 0 i (by decide) i10).1
    have f2 := (T.2.1 2 i (by decide) i10).1
    have b8 : tv μ 8 i ≤ 1 := (T.2.1 8 i (by decide) i10).2.2
    have b0 : tv μ 0 i ≤ 15 := (T.2.1 0 i (by decide) i10).2.2
    have c8 : (nI (tv μ 8 i) = 0) = (tv μ 8 i = 0) := n_eq (b := 0) (by omega) (by decide)
    have fin : cbs μ p set (i + 1) = false → cbs μ p set (tn μ) = false := fun h => by
      have := cbs_mono h (tn μ - (i + 1))
      rwa [show i + 1 + (tn μ - (i + 1)) = tn μ by omega] at this
    show (∃ a', _ ∧ X0_canBeSaid_L5 37 (nI set) (nI p) μ (k + 1) (lm μ set i) (nI i) = X0_canBeSaid_L5 37 (nI set) (nI p) μ k a' (nI (i + 1))) ∨ ∃ b, _ ∧ X0_canBeSaid_L5 37 (nI set) (nI p) μ (k + 1) (lm μ set i) (nI i) = some b
    rw [X0_canBeSaid_L5, gi_37 o, T.1.1, Option.bind_some, if_neg (nI_ge hi (by omega))]
    simp only [r_37_0 o, ar_things o i10, gi_T o i10, f8, f0, f2, Option.bind_some, c8, has_t (show set < 2 ^ 31 by omega) (show i < 31 by omega), has_t (show tv μ 0 i < 2 ^ 31 by omega) (show p < 31 by omega), nI_add1]
    by_cases qs : set.testBit i = true
    · have qs' : ¬ set.testBit i = false := by rw [qs]; decide
      rw [if_neg qs']
      by_cases q8 : tv μ 8 i = 0
      · rw [if_pos q8]
        cases qp : (tv μ 0 i).testBit p
        · refine Or.inr ⟨0, ?_, by rw [if_pos rfl]⟩
          rw [fin (by rw [cbs, if_pos qs, qp, Bool.false_and, Bool.and_false, Bool.and_false])]
          rfl
        · rw [if_neg (by decide)]
          have go : (decide (lm μ set i = -1) || decide (lm μ set i = nI (tv μ 2 i))) = true → nI (tv μ 2 i) = lm μ set (i + 1) ∧ cbs μ p set (i + 1) = true := fun h => by
            rw [lm, cbs, if_pos qs, if_pos qs, hc, qp, h, decide_eq_true q8]
            exact ⟨rfl, rfl⟩
          by_cases q1 : lm μ set i = -1
          · refine Or.inl ⟨nI (tv μ 2 i), go (by rw [decide_eq_true q1, Bool.true_or]), by rw [if_pos q1]⟩
          · rw [if_neg q1]
            by_cases q2 : lm μ set i = nI (tv μ 2 i)
            · refine Or.inl ⟨nI (tv μ 2 i), go (by rw [decide_eq_true q2, Bool.or_true]), by rw [if_pos q2]⟩
            · refine Or.inr ⟨0, ?_, by rw [if_neg q2]⟩
              rw [fin (by rw [cbs, if_pos qs, decide_eq_false q1, decide_eq_false q2, Bool.or_false, Bool.and_false, Bool.and_false, Bool.and_false])]
              rfl
      · refine Or.inr ⟨0, ?_, by rw [if_neg q8]⟩
        rw [fin (by rw [cbs, if_pos qs, decide_eq_false q8, Bool.false_and, Bool.and_false])]
        rfl
    · have qs' : set.testBit i = false := by
        cases z : set.testBit i
        · rfl
        · exact absurd z qs
      refine Or.inl ⟨lm μ set i, ⟨?_, ?_⟩, by rw [if_pos qs']⟩
      · rw [lm, if_neg qs]
      · rw [cbs, if_neg qs]
        exact hc) (fun k a P => by
    obtain ⟨rfl, hc⟩ := P
    refine ⟨1, ?_, ?_⟩
    · rw [hc]
      rfl
    · show X0_canBeSaid_L5 37 (nI set) (nI p) μ (k + 1) (lm μ set (tn μ)) (nI (tn μ)) = _
      rw [X0_canBeSaid_L5, gi_37 o, T.1.1, Option.bind_some, if_pos (nI_le (Nat.le_refl _) (by omega))]) (-1) ⟨rfl, rfl⟩
  subst Q
  exact e
theorem areF_m (o : Ok μ) (T : RelT μ) (hp : p < 4) (hs : set < 2 ^ 10) : X11_areFor 134 (nI p) (nI set) μ = some (b01 (frB μ p set (tn μ))) := by
  have hn := T.1.2.2
  obtain ⟨a, P, e⟩ := loopF (F := fun k (a : Bool) i => X11_areFor_L5 134 (nI p) (nI set) μ k (b01 a) (nI i)) (P := fun i a => a = frB μ p set i) (n := tn μ) (r := fun a => (b01 a, nI (tn μ))) (by omega) (fun k a i hi P => by
    subst P
    have i10 : i < 10 := by omega
    have f0 : mI μ 145 i = _ := (T.2.1 0 i (by decide) i10).2.1
    have b0 : tv μ 0 i ≤ 15 := (T.2.1 0 i (by decide) i10).2.2
    refine ⟨_, rfl, ?_⟩
    show X11_areFor_L5 134 (nI p) (nI set) μ (k + 1) (b01 (frB μ p set i)) (nI i) = X11_areFor_L5 134 (nI p) (nI set) μ k (b01 (frB μ p set (i + 1))) (nI (i + 1))
    rw [X11_areFor_L5, gi_134 o, T.1.2.1, Option.bind_some, if_neg (nI_ge hi (by omega)), frB]
    simp only [r_134_13 o, ai_145 o i10, f0, Option.bind_some, b01_z, bt_z, bt_1, bt_t (show set < 2 ^ 31 by omega) (show i < 31 by omega), bt_t1 (show tv μ 0 i < 2 ^ 31 by omega) (show p < 31 by omega), nI_add1]
    cases frB μ p set i
    · rw [if_pos rfl]
      rfl
    · rw [if_neg (by decide)]
      cases set.testBit i
      · rw [if_pos rfl]
        rfl
      · rw [if_neg (by decide)]
        cases (tv μ 0 i).testBit p
        · rw [if_neg (by decide)]
          rfl
        · rw [if_pos rfl]
          rfl) (fun k a P => by
    show X11_areFor_L5 134 (nI p) (nI set) μ (k + 1) (b01 a) (nI (tn μ)) = _
    rw [X11_areFor_L5, gi_134 o, T.1.2.1, Option.bind_some, if_pos (nI_le (Nat.le_refl _) (by omega))]) true rfl
  subst P
  have e : X11_areFor_L5 134 (nI p) (nI set) μ FU 1 0 = _ := e
  unfold X11_areFor
  rw [e, Option.bind_some, zz_b, Option.bind_some]
theorem lm_lt (T : RelT μ) (set : Nat) : ∀ n, n ≤ 10 → (lm μ set n < 0) = (lm μ set n = -1)
  | 0, _ => by rw [lm]; decide
  | n + 1, h => by
    have b2 : tv μ 2 n ≤ 5 := (T.2.1 2 n (by decide) (by omega)).2.2
    rw [lm]
    split
    · rw [nI_lt0 (by omega)]
      refine propext ⟨False.elim, fun z => ?_⟩
      have := congrArg Int32.toInt z
      rw [nI_toInt (by omega)] at this
      have : (-1 : Int32).toInt = -1 := rfl
      omega
    · exact lm_lt T set n (by omega)
theorem oneM_m (o : Ok μ) (T : RelT μ) (hs : set < 2 ^ 10) : X11_isOneMatter 134 (nI set) μ = some (b01 (isM μ set (tn μ))) := by
  have hn := T.1.2.2
  obtain ⟨a, P, e⟩ := loopF (F := fun k (a : Int32 × Bool) i => X11_isOneMatter_L7 134 (nI set) μ k a.1 (b01 a.2) (nI i)) (P := fun i a => a = (lm μ set i, isM μ set i)) (n := tn μ) (r := fun a => (a.1, b01 a.2, nI (tn μ))) (by omega) (fun k a i hi P => by
    subst P
    have i10 : i < 10 := by omega
    have f2 : mI μ 147 i = _ := (T.2.1 2 i (by decide) i10).2.1
    refine ⟨_, rfl, ?_⟩
    show X11_isOneMatter_L7 134 (nI set) μ (k + 1) (lm μ set i) (b01 (isM μ set i)) (nI i) = X11_isOneMatter_L7 134 (nI set) μ k (lm μ set (i + 1)) (b01 (isM μ set (i + 1))) (nI (i + 1))
    rw [X11_isOneMatter_L7, gi_134 o, T.1.2.1, Option.bind_some, if_neg (nI_ge hi (by omega)), lm, isM]
    simp only [r_134_15 o, ai_147 o i10, f2, Option.bind_some, b01_z, bt_1, bt_t1 (show set < 2 ^ 31 by omega) (show i < 31 by omega), nI_add1, lm_lt T set i (by omega)]
    by_cases qs : set.testBit i = true
    · rw [if_pos qs, if_pos qs, if_pos qs]
      cases isM μ set i
      · rw [if_pos rfl]
        rfl
      · rw [if_neg (by decide)]
        by_cases q1 : lm μ set i = -1
        · rw [if_pos q1, decide_eq_true q1]
          rfl
        · rw [if_neg q1, decide_eq_false q1, Bool.false_or, Bool.true_and]
          by_cases q2 : lm μ set i = nI (tv μ 2 i)
          · rw [if_pos q2.symm, decide_eq_true q2]
            rfl
          · rw [if_neg (fun z => q2 z.symm), decide_eq_false q2]
            rfl
    · rw [if_neg qs, if_neg qs, if_neg qs]
      rfl) (fun k a P => by
    show X11_isOneMatter_L7 134 (nI set) μ (k + 1) a.1 (b01 a.2) (nI (tn μ)) = _
    rw [X11_isOneMatter_L7, gi_134 o, T.1.2.1, Option.bind_some, if_pos (nI_le (Nat.le_refl _) (by omega))]) (-1, true) rfl
  subst P
  have e : X11_isOneMatter_L7 134 (nI set) μ FU (-1) 1 0 = _ := e
  unfold X11_isOneMatter
  rw [e, Option.bind_some, zz_b, Option.bind_some]
end SAY
end
section
theorem InvM.wS {μ μ' : Mem} (h : InvM μ) (o : Ok μ') (eR : mR μ' 92 = mR μ 92) (e : ∀ a k, ¬ (50 ≤ a ∧ a < 90) → ¬ (a = 37 ∧ k = 3) → mI μ' a k = mI μ a k) : InvM μ' := by
  obtain ⟨o0, ⟨w1, w2, w3, w4, w5, w6⟩, hC, hT, hS, hX, hL⟩ := h
  have er : ∀ a, ¬ (50 ≤ a ∧ a < 90) → a ≠ 37 → mI μ' a = mI μ a := fun a q1 q3 => funext fun k => e a k q1 (fun z => q3 z.1)
  exact ⟨o, ⟨w1.cg (fun q hq => er _ (by omega) (by omega)) (er _ (by omega) (by omega)), w2.cg (fun q hq => er _ (by omega) (by omega)) (er _ (by omega) (by omega)), w3.cg (er _ (by omega) (by omega)) (er _ (by omega) (by omega)), w4.cg (e _ _ (by omega) (by omega)) (e _ _ (by omega) (by omega)), w5.cg (fun q hq => er _ (by omega) (by omega)) (er _ (by omega) (by omega)), w6.cg (e _ _ (by omega) (by omega)) (e _ _ (by omega) (by omega))⟩, hC.cg (fun q hq => er _ (by omega) (by omega)) (er _ (by omega) (by omega)) (er _ (by omega) (by omega)) (er _ (by omega) (by omega)), hT.cg (e _ _ (by omega) (by omega)) (e _ _ (by omega) (by omega)) (fun q hq => er _ (by omega) (by omega)) (fun q hq => er _ (by omega) (by omega)) (nw_le (e _ _ (by omega) (by omega))), hS.cg (e _ _ (by omega) (by omega)) (fun q hq => er _ (by omega) (by omega)), hX.cg (e _ _ (by omega) (by omega)) (e _ _ (by omega) (by omega)) (er _ (by omega) (by omega)) (er _ (by omega) (by omega)) (e _ _ (by omega) (by omega)) (e _ _ (by omega) (by omega)), hL.cg o0 eR (fun l c hl hc => er _ (by unfold isLw at hl; omega) (by unfold isLw at hl; omega)) (fun c hc => er _ (by omega) (by omega))⟩
/-- the spec of a refusal of say -/
noncomputable def sayB (μ : Mem) (p set w : Nat) : Nat := barV μ p (nw μ) (odd μ p (nw μ) 0) set w (mB μ p (gM μ p 0 0) (lc μ p))
theorem barV_le (μ : Mem) (p u : Nat) (od : Nat → Nat) (set w m : Nat) : barV μ p u od set w m ≤ 3 := by
  unfold barV
  split
  · split <;> omega
  · split
    · omega
    · split
      · split <;> omega
      · omega
theorem sayB_c {μ a : Mem} (p set w : Nat) (e : ∀ b k, 134 ≤ b → mI a b k = mI μ b k) : sayB a p set w = sayB μ p set w := by
  have eA : ∀ b, 134 ≤ b → mI a b = mI μ b := fun b hb => funext fun k => e b k hb
  have e1 : nw a = nw μ := by unfold nw; rw [eA 134 (by decide)]
  have e2 : tn a = tn μ := by unfold tn; rw [eA 134 (by decide)]
  have e3 : sc a = sc μ := by unfold sc; rw [eA 134 (by decide)]
  have e4 : lc a = lc μ := by funext p; unfold lc; rw [eA 156 (by decide)]
  have e5 : lv a = lv μ := by funext c p k; unfold lv; rw [eA (157 + c) (by omega)]
  have e6 : tv a = tv μ := by funext c t; unfold tv; rw [eA (145 + c) (by omega)]
  have e7 : sv a = sv μ := by funext c t; unfold sv; rw [eA (170 + c) (by omega)]
  have e8 : mv a = mv μ := by funext c t; unfold mv; rw [eA 135 (by decide)]
  have e9 : sw a = sw μ := by funext c t; unfold sw; rw [eA 136 (by decide)]
  have e10 : bg a = bg μ := by funext c; unfold bg; rw [eA 137 (by decide)]
  have e11 : sg a = sg μ := by funext c t; unfold sg; rw [eA 138 (by decide)]
  have f1 : psi a = psi μ := by funext c i s; unfold psi; rw [e9]
  have f2 : ∀ c p st d i, wN a c p st d i = wN μ c p st d i := fun c p st d => by
    induction d with
    | zero => intro i; rw [wN, wN, f1, e10, e11]
    | succ d ih => intro i; rw [wN, wN, f1, e8, e11, ih, ih, ih, ih]
  have f3 : wgt a = wgt μ := by funext c p t i; unfold wgt; rw [f2]
  have f4 : ∀ p t k i, odd a p t k i = odd μ p t k i := fun p t k => by
    induction k with
    | zero => intro i; rw [odd, odd, f3]; unfold allW; rw [f3]
    | succ k ih =>
      intro i
      have g1 : odd a p t k = odd μ p t k := funext ih
      have g2 : tot a = tot μ := by funext i; unfold tot; rw [e8]
      rw [odd, odd, g1]
      unfold mvS
      rw [g2, e8]
  have h1 : ∀ p n, aF a p n = aF μ p n := fun p n => by
    induction n with
    | zero => rfl
    | succ n ih => rw [aF, aF, ih, e5]
  have h2 : ∀ p u n, bK a p u n = bK μ p u n := fun p u n => by
    induction n with
    | zero => rfl
    | succ n ih => rw [bK, bK, ih, e5]
  have h3 : ∀ p od n, bW a p od n = bW μ p od n := fun p od n => by
    have g : ∀ k, bWc a p od k = bWc μ p od k := fun k => by unfold bWc; rw [e5]
    induction n with
    | zero => rfl
    | succ n ih =>
      rcases bWd μ p od n with q | q
      · rw [bW_pos q, bW_pos (by rw [g]; exact q), ih, e5]
      · rw [bW_neg q, bW_neg (by rw [g]; exact q), ih]
  have h4 : alT a = alT μ := by funext p t; unfold alT; rw [h1, e4, e6]
  have h5 : kdT a = kdT μ := by funext p u t; unfold kdT; rw [h4, h2, e4, e6]
  have h6 : ∀ p n, aT a p n = aT μ p n := fun p n => Nat.eq_of_testBit_eq (fun i => by rw [aT_bit, aT_bit, h4])
  have h7 : ∀ p u n, kT a p u n = kT μ p u n := fun p u n => Nat.eq_of_testBit_eq (fun i => by rw [kT_bit, kT_bit, h5])
  have h8 : ∀ p lo hi n, cR a p lo hi n = cR μ p lo hi n := fun p lo hi n => by
    induction n with
    | zero => rfl
    | succ n ih => rw [cR, cR, ih, e7]
  have h9 : gM a = gM μ := by funext p pb st b; unfold gM; rw [e1, e3, h8]
  have h10 : ∀ p g n, mB a p g n = mB μ p g n := fun p g n => by
    induction n with
    | zero => rfl
    | succ n ih => rw [mB, mB, ih, e5]
  unfold sayB barV
  rw [e1, e2, e4, h6, h7, h3, h9, h10, show odd a p (nw μ) 0 = odd μ p (nw μ) 0 from funext (f4 p (nw μ) 0)]
theorem p_say (x1 x2 x3 : Int32) : Pair (X10_say 0 x1 x2 x3) (X11_say 134 x1 x2 x3) := by
  intro μ I
  have I0 := I
  obtain ⟨o, W, C, T, S, X, L⟩ := I
  have w6 := W.2.2.2.2.2
  have hn := w6.2.2
  have hT := T.1.2.2
  have hc := S.1.2.2
  rcases gd x1 3 (by decide) with ⟨g1, k1⟩ | ⟨g1, k1, p, hp, rfl⟩
  · exact pairR I0 (by unfold X10_say; rw [if_pos (show X10_isPerson x1 = 0 from g1)]) (by unfold X11_say; rw [if_pos (show X11_isPerson x1 = 0 from k1)])
  rcases gTs o T x2 with ⟨g2, k2⟩ | ⟨g2, k2, set, hs0, hs, rfl⟩
  · exact pairR I0 (r := -1001) (by unfold X10_say; rw [if_neg (show ¬ X10_isPerson (nI p) = 0 from g1), r_0_2 o, Option.bind_some, vo_37 o, Option.bind_some, g2, Option.bind_some, if_pos rfl]) (by unfold X11_say; rw [if_neg (show ¬ X11_isPerson (nI p) = 0 from k1), vo_134 o, Option.bind_some, k2, Option.bind_some, if_pos rfl])
  rcases gd x3 3 (by decide) with ⟨g3, k3⟩ | ⟨g3, k3, w, hw, rfl⟩
  · exact pairR I0 (r := -1002) (by unfold X10_say; rw [if_neg (show ¬ X10_isPerson (nI p) = 0 from g1), r_0_2 o, Option.bind_some, vo_37 o, Option.bind_some, g2, Option.bind_some, if_neg (by decide), if_pos (show X10_isWay x3 = 0 from g3)]) (by unfold X11_say; rw [if_neg (show ¬ X11_isPerson (nI p) = 0 from k1), vo_134 o, Option.bind_some, k2, Option.bind_some, if_neg (by decide), if_pos (show X11_isWay x3 = 0 from k3)])
  have hs10 : set < 2 ^ 10 := Nat.lt_of_lt_of_le hs (Nat.pow_le_pow_right (by decide) hT)
  have headC : X10_say 0 (nI p) (nI set) (nI w) μ = (X10_barNow 0 (nI p) (nI set) (nI w) μ).bind fun z8 => if z8.1 = 0 then (gR 10 2 0 z8.2).bind fun v10 => (vO 0 v10 z8.2).bind fun g11 => (X0_canBeSaid v10 (nI set) (nI p) z8.2).bind fun v12 => if v12 = 0 then some ((-1003), z8.2) else (gR 10 2 0 z8.2).bind fun v14 => (gI 0 3 v14 z8.2).bind fun v15 => if v15 < 40 then (gR 10 2 0 z8.2).bind fun v17 => (gR 0 1 v17 z8.2).bind fun v18 => (gR 10 2 0 z8.2).bind fun v19 => (gI 0 3 v19 z8.2).bind fun v20 => (aR 5 v18 v20 z8.2).bind fun v21 => (pI 5 0 v21 (nI p) z8.2).bind fun μ22 => (pI 5 1 v21 (nI set) μ22).bind fun μ23 => (pI 5 2 v21 (nI w) μ23).bind fun μ24 => (gI 10 10 0 μ24).bind fun v25 => (pI 5 3 v21 v25 μ24).bind fun μ26 => (gR 10 2 0 μ26).bind fun v27 => (gI 0 3 v27 μ26).bind fun v28 => (pI 0 3 v27 (v28 + 1) μ26).bind fun μ29 => (gR 10 2 0 μ29).bind fun v30 => (gI 0 3 v30 μ29).bind fun v31 => some (v31 - 1, μ29) else some ((-1004), z8.2) else some ((-1003), z8.2) := by
    unfold X10_say
    rw [if_neg (show ¬ X10_isPerson (nI p) = 0 from g1), r_0_2 o, Option.bind_some, vo_37 o, Option.bind_some, g2, Option.bind_some, if_neg (by decide), if_neg (show ¬ X10_isWay (nI w) = 0 from g3), vo_0 o, Option.bind_some]
  obtain ⟨a, sa, ea⟩ := barNow_c I0 (p := p) (set := set) (way := w) (by omega) hs (by omega)
  have Ia := I0.sm sa
  have Ta := Ia.2.2.2.1
  have Sa := Ia.2.2.2.2.1
  have ea : X10_barNow 0 (nI p) (nI set) (nI w) μ = some (nI (sayB μ p set w), a) := ea
  have bl : sayB μ p set w ≤ 3 := barV_le _ _ _ _ _ _ _
  have cb : (nI (sayB μ p set w) = 0) = (sayB μ p set w = 0) := n_eq (b := 0) (by omega) (by decide)
  have cs0 : X0_canBeSaid 37 (nI set) (nI p) a = some (b01 (cbs μ p set (tn μ))) := by
    rw [canS_c sa.1 Ta (by omega) hs10, cbs_eq, cbs_eq, dS_sm sa, frB_sm sa, isM_sm sa, tn_sm sa]
  -- the reference, on a memory that differs in the class's SAYINGS alone
  have ref : ∀ m, Ok m → mR m 92 = mR a 92 → (∀ b k, ¬ (50 ≤ b ∧ b < 90) → ¬ (b = 37 ∧ k = 3) → mI m b k = mI a b k) → ∃ b, Sm m b ∧ X11_say 134 (nI p) (nI set) (nI w) m = if ¬ sayB μ p set w = 0 then some ((-1003), b) else if cbs μ p set (tn μ) = false then some ((-1003), b) else (gI 11 45 134 b).bind fun v18 => if v18 = 40 then some ((-1004), b) else (gR 11 46 134 b).bind fun v20 => (gI 11 45 134 b).bind fun v21 => (sI v20 v21 (nI p) b).bind fun μ22 => (gR 11 47 134 μ22).bind fun v23 => (gI 11 45 134 μ22).bind fun v24 => (sI v23 v24 (nI set) μ22).bind fun μ25 => (gR 11 48 134 μ25).bind fun v26 => (gI 11 45 134 μ25).bind fun v27 => (sI v26 v27 (nI w) μ25).bind fun μ28 => (gR 11 49 134 μ28).bind fun v29 => (gI 11 45 134 μ28).bind fun v30 => (gI 11 5 134 μ28).bind fun v31 => (sI v29 v30 v31 μ28).bind fun μ32 => (gR 11 50 134 μ32).bind fun v33 => (gI 11 45 134 μ32).bind fun v34 => (sI v33 v34 0 μ32).bind fun μ35 => (gI 11 45 134 μ35).bind fun v36 => (pI 11 45 134 (v36 + 1) μ35).bind fun μ37 => (gI 11 45 134 μ37).bind fun v38 => some (v38 - 1, μ37) := by
    intro m om eR em
    have IM : InvM m := Ia.m.wS om eR em
    have emA : ∀ b, ¬ (50 ≤ b ∧ b < 90) → b ≠ 37 → mI m b = mI a b := fun b q1 q2 => funext fun k => em b k q1 (fun z => q2 z.1)
    have tnm : tn m = tn μ := by
      unfold tn
      rw [emA 134 (by omega) (by omega)]
      exact tn_sm sa
    have tvm : ∀ c t, c < 9 → tv m c t = tv μ c t := fun c t hc => by
      unfold tv
      rw [emA (145 + c) (by omega) (by omega)]
      exact tv_sm sa hc
    obtain ⟨b, sb, eb⟩ := barring_m IM (p := p) (set := set) (way := w) (k := 0) (pb := 0) (by omega) (by rw [tnm]; exact hs) (by omega) (by decide) (by decide)
    have eb : X11_barring 134 (nI p) (nI set) (nI w) 0 0 m = some (nI (sayB μ p set w), b) := by
      have e1 : sayB m p set w = sayB a p set w := sayB_c p set w (fun b k hb => em b k (by omega) (by omega))
      have e2 : sayB a p set w = sayB μ p set w := by
        unfold sayB barV
        rw [aT_sm sa, kT_sm sa, bW_sm sa, lc_sm sa, tn_sm sa, nw_sm sa, mB_sm sa, gM_sm sa, show odd a p (nw μ) 0 = odd μ p (nw μ) 0 from funext (odd_sm sa p (nw μ) 0)]
      rw [← e2, ← e1]
      exact eb
    refine ⟨b, sb, ?_⟩
    have Tb := Onl.T sb IM.2.2.2.1
    have k2m : X11_areThings 134 (nI set) m = some 1 := by
      rw [← k2]
      unfold X11_areThings
      rw [gi_134 om, gi_134 o, emA 134 (by omega) (by omega), sa.fld (a := 134) (k := 12) rfl]
    have dSb : ∀ n, n ≤ 10 → dS b n = dS μ n := fun n => by
      induction n with
      | zero => intro _; rfl
      | succ n ih => intro h; rw [dS, dS, ih (by omega), tv_sm sb (by decide), tvm 8 n (by decide)]
    have frb : ∀ n, frB b p set n = frB μ p set n := fun n => by
      induction n with
      | zero => rfl
      | succ n ih => rw [frB, frB, ih, tv_sm sb (by decide), tvm 0 n (by decide)]
    have lmb : ∀ n, lm b set n = lm μ set n := fun n => by
      induction n with
      | zero => rfl
      | succ n ih => rw [lm, lm, ih, tv_sm sb (by decide), tvm 2 n (by decide)]
    have isb : ∀ n, isM b set n = isM μ set n := fun n => by
      induction n with
      | zero => rfl
      | succ n ih => rw [isM, isM, ih, lmb, tv_sm sb (by decide), tvm 2 n (by decide)]
    have tb : tn b = tn μ := (tn_sm sb).trans tnm
    have db := dead_m sb.1 Tb set
    rw [tb, dSb _ hT] at db
    have fb := areF_m (p := p) (set := set) sb.1 Tb (by omega) hs10
    rw [tb, frb] at fb
    have ob := oneM_m (set := set) sb.1 Tb hs10
    rw [tb, isb] at ob
    have dle : set &&& dS μ (tn μ) ≤ set := Nat.and_le_left
    have cd : (nI (set &&& dS μ (tn μ)) = 0) = (set &&& dS μ (tn μ) = 0) := n_eq (b := 0) (by omega) (by decide)
    have cl : ((0 : Int32) < nI (sayB μ p set w)) = ¬ sayB μ p set w = 0 := by
      rw [show ((0 : Int32) < nI (sayB μ p set w)) = (0 < sayB μ p set w) from n_lt (a := 0) (by decide) (by omega)]
      exact propext ⟨fun z => by omega, fun z => by omega⟩
    unfold X11_say
    rw [if_neg (show ¬ X11_isPerson (nI p) = 0 from k1), vo_134 om, Option.bind_some, k2m, Option.bind_some, if_neg (by decide), if_neg (show ¬ X11_isWay (nI w) = 0 from k3), Option.bind_some, eb, Option.bind_some]
    simp only [cl]
    by_cases q : sayB μ p set w = 0
    · rw [if_neg (fun z => z q), if_neg (fun z => z q), vo_134 sb.1, Option.bind_some, db, Option.bind_some, cbs_eq]
      simp only [cd]
      by_cases q1 : set &&& dS μ (tn μ) = 0
      · rw [if_pos q1, decide_eq_true q1, Bool.true_and, Option.bind_some, fb, Option.bind_some]
        simp only [b01_z]
        cases q2 : frB μ p set (tn μ)
        · rw [if_pos rfl, Bool.false_and, if_pos rfl]
        · rw [if_neg (by decide), Option.bind_some, ob, Option.bind_some, Bool.true_and]
          simp only [b01_z]
      · rw [if_neg q1, decide_eq_false q1, Bool.false_and, if_pos rfl]
    · rw [if_pos q, if_pos q]
  have refA := ref a sa.1 rfl (fun _ _ _ _ => rfl)
  by_cases qB : sayB μ p set w = 0
  · cases qC : cbs μ p set (tn μ)
    · obtain ⟨b, sb, eb⟩ := refA
      rw [if_neg (fun z => z qB), if_pos qC] at eb
      refine pairS I0 (r := -1003) (μ1 := a) (μ2 := b) ?_ sa eb sb
      rw [headC, ea, Option.bind_some]
      simp only [cb]
      rw [if_pos qB, r_0_2 sa.1, Option.bind_some, vo_37 sa.1, Option.bind_some, cs0, Option.bind_some, qC, if_pos (by rfl)]
    · have sca : mI a 37 3 = nI (sc μ) := (sa.fld (a := 37) (k := 3) rfl).trans S.1.1
      have now : mI a 0 10 = nI (nw μ) := (sa.fld (a := 0) (k := 10) rfl).trans w6.1
      by_cases qF : sc μ = 40
      · obtain ⟨b, sb, eb⟩ := refA
        have scb : mI b 134 45 = nI (sc μ) := ((sa.tr sb).fld (a := 134) (k := 45) rfl).trans S.1.2.1
        rw [if_neg (fun z => z qB), if_neg (by rw [qC]; decide), gi_134 sb.1, scb, Option.bind_some, qF, if_pos (by decide)] at eb
        refine pairS I0 (r := -1004) (μ1 := a) (μ2 := b) ?_ sa eb sb
        rw [headC, ea, Option.bind_some]
        simp only [cb]
        rw [if_pos qB, r_0_2 sa.1, Option.bind_some, vo_37 sa.1, Option.bind_some, cs0, Option.bind_some, qC, if_neg (by decide), Option.bind_some, gi_37 sa.1, sca, Option.bind_some, qF, if_neg (by decide)]
      · have n40 : sc μ < 40 := by omega
        have c40 : nI (sc μ) < 40 := (nI_ltI (b := 40) (by omega) (by decide)).mpr n40
        have d40 : ¬ nI (sc μ) = 40 := fun z => qF ((nI_eq (b := 40) (by omega) (by decide)).mp z)
        have ⟨m, em⟩ : ∃ m, m = wI (wI (wI (wI (wI a (50 + sc μ) 0 (nI p)) (50 + sc μ) 1 (nI set)) (50 + sc μ) 2 (nI w)) (50 + sc μ) 3 (nI (nw μ))) 37 3 (nI (sc μ + 1)) := ⟨_, rfl⟩
        have om : Ok m := by rw [em]; exact sa.1
        have mfr : ∀ b k, ¬ (b = 50 + sc μ ∧ k < 4) → ¬ (b = 37 ∧ k = 3) → mI m b k = mI a b k := fun b k q1 q2 => by
          rw [em, fld_ne q2, fld_ne (by omega), fld_ne (by omega), fld_ne (by omega), fld_ne (by omega)]
        obtain ⟨b, sb, eb⟩ := ref m om (by rw [em]; rfl) (fun b k q1 q2 => mfr b k (by omega) q2)
        have scb : mI b 134 45 = nI (sc μ) := by
          rw [sb.fld (a := 134) (k := 45) rfl, mfr 134 45 (by omega) (by omega), sa.fld (a := 134) (k := 45) rfl]
          exact S.1.2.1
        have nwb : mI b 134 5 = nI (nw μ) := by
          rw [sb.fld (a := 134) (k := 5) rfl, mfr 134 5 (by omega) (by omega), sa.fld (a := 134) (k := 5) rfl]
          exact w6.2.1
        have ⟨m2, em2⟩ : ∃ m2, m2 = wI (wI (wI (wI (wI (wI b 170 (sc μ) (nI p)) 171 (sc μ) (nI set)) 172 (sc μ) (nI w)) 173 (sc μ) (nI (nw μ))) 174 (sc μ) 0) 134 45 (nI (sc μ + 1)) := ⟨_, rfl⟩
        have ob := sb.1
        refine ⟨nI (sc μ), m, m2, ?_, om, ?_, ?_⟩
        · rw [headC, ea, Option.bind_some]
          simp only [cb]
          have oa := sa.1
          rw [if_pos qB, r_0_2 sa.1, Option.bind_some, vo_37 sa.1, Option.bind_some, cs0, Option.bind_some, qC, if_neg (by decide), Option.bind_some, gi_37 sa.1, sca, Option.bind_some, if_pos c40, Option.bind_some, r_37_1 oa, Option.bind_some, Option.bind_some, gi_37 oa, sca, Option.bind_some, ar_sayings oa n40, Option.bind_some, pi_S oa n40, Option.bind_some, pi_S oa.wI n40, Option.bind_some, pi_S oa.wI.wI n40, Option.bind_some, gi_0 oa.wI.wI.wI, row_ne (by omega), row_ne (by omega), row_ne (by omega), now, Option.bind_some, pi_S oa.wI.wI.wI n40, Option.bind_some, r_0_2 oa.wI.wI.wI.wI, Option.bind_some, gi_37 oa.wI.wI.wI.wI, row_ne (by omega), row_ne (by omega), row_ne (by omega), row_ne (by omega), sca, Option.bind_some, nI_add1, pi_37 oa.wI.wI.wI.wI, Option.bind_some, r_0_2 oa.wI.wI.wI.wI.wI, Option.bind_some, gi_37 oa.wI.wI.wI.wI.wI, fld_eq, Option.bind_some, nI_pred, em]
        · rw [if_neg (fun z => z qB), if_neg (by rw [qC]; decide), gi_134 ob, scb, Option.bind_some, if_neg d40, r_134_46 ob, Option.bind_some, Option.bind_some, si_170 ob n40, Option.bind_some, r_134_47 ob.wI, Option.bind_some, gi_134 ob.wI, row_ne (by omega), scb, Option.bind_some, si_171 ob.wI n40, Option.bind_some, r_134_48 ob.wI.wI, Option.bind_some, gi_134 ob.wI.wI, row_ne (by omega), row_ne (by omega), scb, Option.bind_some, si_172 ob.wI.wI n40, Option.bind_some, r_134_49 ob.wI.wI.wI, Option.bind_some, gi_134 ob.wI.wI.wI, row_ne (by omega), row_ne (by omega), row_ne (by omega), scb, Option.bind_some, gi_134 ob.wI.wI.wI, row_ne (by omega), row_ne (by omega), row_ne (by omega), nwb, Option.bind_some, si_173 ob.wI.wI.wI n40, Option.bind_some, r_134_50 ob.wI.wI.wI.wI, Option.bind_some, gi_134 ob.wI.wI.wI.wI, row_ne (by omega), row_ne (by omega), row_ne (by omega), row_ne (by omega), scb, Option.bind_some, si_174 ob.wI.wI.wI.wI n40, Option.bind_some, gi_134 ob.wI.wI.wI.wI.wI, row_ne (by omega), row_ne (by omega), row_ne (by omega), row_ne (by omega), row_ne (by omega), scb, Option.bind_some, pi_134 ob.wI.wI.wI.wI.wI, Option.bind_some, gi_134 ob.wI.wI.wI.wI.wI.wI, nI_add1, fld_eq, Option.bind_some, nI_pred] at eb
          rw [em2]
          exact eb
        · have o2 : Ok m2 := by rw [em2]; exact ob
          have R2 : mR m2 92 = mR μ 92 := by
            rw [em2]
            show mR b 92 = _
            rw [sb.2.2.1, em]
            exact sa.2.2.1
          have m2fr : ∀ c k, ¬ (170 ≤ c ∧ c < 175 ∧ k = sc μ) → ¬ (c = 134 ∧ k = 45) → mI m2 c k = mI b c k := fun c k q1 q2 => by
            rw [em2, fld_ne q2, fld_ne (by omega), fld_ne (by omega), fld_ne (by omega), fld_ne (by omega), fld_ne (by omega)]
          have core : ∀ c k, cor c k = true → ¬ (c = 50 + sc μ ∧ k < 4) → ¬ (c = 37 ∧ k = 3) → ¬ (170 ≤ c ∧ c < 175 ∧ k = sc μ) → ¬ (c = 134 ∧ k = 45) → mI m2 c k = mI μ c k := fun c k hcr q1 q2 q3 q4 => by
            rw [m2fr c k q3 q4, sb.2.1 c k hcr, mfr c k q1 q2, sa.2.1 c k hcr]
          have coS : ∀ c k, ((50 ≤ c ∧ c < 90) ∨ (170 ≤ c ∧ c < 175)) → cor c k = true := fun c k h => by
            unfold cor
            have : coA c = true := by
              unfold coA
              rw [decide_eq_true_eq]
              omega
            rw [this]
            rfl
          -- the old memory with the new rows alone; then scratch
          have ⟨m3, em3⟩ : ∃ m3 : Mem, m3 = (mN m2, mS m2, (fun c k => if cor c k = true then mI m2 c k else mI μ c k), mJ m2, mR m2) := ⟨_, rfl⟩
          have o3 : Ok m3 := by rw [em3]; exact o2
          have I3 : ∀ c k, mI m3 c k = if cor c k = true then mI m2 c k else mI μ c k := fun c k => by rw [em3]; rfl
          have s3 : Sm m3 m2 := ⟨o2, fun c k q => by rw [I3, if_pos q], by rw [em3]; rfl, by rw [em3]; rfl⟩
          refine Inv.sm ?_ s3
          have fr3 : ∀ c k, ¬ (c = 50 + sc μ ∧ k < 4) → ¬ (c = 37 ∧ k = 3) → ¬ (170 ≤ c ∧ c < 175 ∧ k = sc μ) → ¬ (c = 134 ∧ k = 45) → mI m3 c k = mI μ c k := fun c k q1 q2 q3 q4 => by
            rw [I3]
            by_cases z : cor c k = true
            · rw [if_pos z, core c k z q1 q2 q3 q4]
            · rw [if_neg z]
          refine I0.setS o3 (by rw [em3]; exact R2) (fun c k q1 q2 q3 q4 => fr3 c k (by omega) q3 (by omega) q4) (RelS.mk' (n := sc μ + 1) (fun c t' => if t' = sc μ then [p, set, w, nw μ, 0].getD c 0 else sv μ c t') ?_ ?_ n40 (fun c t' hc' ht' => ?_) (fun t' ht' => ?_) (fun t' q1 ht' => ?_))
          · rw [I3, if_pos (show cor 37 3 = true from rfl), m2fr 37 3 (by omega) (by omega), sb.2.1 37 3 rfl, em, fld_eq]
          · rw [I3, if_pos (show cor 134 45 = true from rfl), em2, fld_eq]
          · obtain ⟨z1, z2, z3⟩ := S.2.1 c t' hc' ht'
            by_cases z : t' = sc μ
            · subst z
              have z4 : mI a (50 + sc μ) 4 = 0 := by
                rw [sa.2.1 _ _ (coS _ _ (by omega)), (S.2.1 4 (sc μ) (by decide) n40).1, S.2.2.2 (sc μ) (Nat.le_refl _) n40, nI_0]
              rw [if_pos rfl, I3, I3, if_pos (coS _ _ (by omega)), if_pos (coS _ _ (by omega)), m2fr (50 + sc μ) c (by omega) (by omega), sb.2.1 _ _ (coS _ _ (by omega))]
              rcases (show c = 0 ∨ c = 1 ∨ c = 2 ∨ c = 3 ∨ c = 4 by omega) with rfl | rfl | rfl | rfl | rfl
              all_goals rw [em, em2]
              all_goals simp (disch := omega) only [row_ne, fld_eq, fld_ne]
              · exact ⟨rfl, rfl, hp⟩
              · exact ⟨rfl, rfl, (show set ≤ 1023 by omega)⟩
              · exact ⟨rfl, rfl, hw⟩
              · exact ⟨rfl, rfl, hn⟩
              · exact ⟨z4, rfl, Nat.zero_le _⟩
            · rw [if_neg z, fr3 (50 + t') c (by omega) (by omega) (by omega) (by omega), fr3 (170 + c) t' (by omega) (by omega) (by omega) (by omega)]
              exact ⟨z1, z2, z3⟩
          · have en : nw m3 = nw μ := by
              unfold nw
              rw [fr3 134 5 (by omega) (by omega) (by omega) (by omega)]
            rw [en]
            by_cases z : t' = sc μ
            · rw [if_pos z]
              exact Nat.le_refl _
            · rw [if_neg z]
              exact S.2.2.1 t' ht'
          · rw [if_neg (by omega)]
            exact S.2.2.2 t' (by omega) ht'
  · obtain ⟨b, sb, eb⟩ := refA
    rw [if_pos qB] at eb
    refine pairS I0 (r := -1003) (μ1 := a) (μ2 := b) ?_ sa eb sb
    rw [headC, ea, Option.bind_some]
    simp only [cb]
    rw [if_neg qB]
end
section
/-! ===== the text, read in numbers ===== -/
def scF (P : Nat → Bool) (n : Nat) (T : Nat → Nat) : Nat → Nat → Nat
  | 0, q => q
  | d + 1, q => if q < n ∧ P (T q) = true then scF P n T d (q + 1) else q
def scn (P : Nat → Bool) (n : Nat) (T : Nat → Nat) (q : Nat) : Nat := scF P n T (n - q) q
theorem scn_eq (P : Nat → Bool) (n : Nat) (T : Nat → Nat) (q : Nat) : scn P n T q = if q < n ∧ P (T q) = true then scn P n T (q + 1) else q := by
  unfold scn
  by_cases h : q < n
  · obtain ⟨d, hd⟩ : ∃ d, n - q = d + 1 := ⟨n - q - 1, by omega⟩
    rw [hd, scF, show n - (q + 1) = d by omega]
  · rw [show n - q = 0 by omega, scF, if_neg (fun z => h z.1)]
theorem scn_sp (P : Nat → Bool) (n : Nat) (T : Nat → Nat) : ∀ d q, n - q = d → q ≤ scn P n T q ∧ (q ≤ n → scn P n T q ≤ n) ∧ ¬ (scn P n T q < n ∧ P (T (scn P n T q)) = true) ∧ ∀ i, q ≤ i → i < scn P n T q → P (T i) = true
  | 0, q, h => by
    rw [scn_eq, if_neg (by omega)]
    exact ⟨Nat.le_refl _, fun h => h, by omega, fun i h1 h2 => by omega⟩
  | d + 1, q, h => by
    by_cases z : q < n ∧ P (T q) = true
    · obtain ⟨h1, h2, h3, h4⟩ := scn_sp P n T d (q + 1) (by omega)
      rw [scn_eq, if_pos z]
      refine ⟨by omega, fun _ => h2 (by omega), h3, fun i i1 i2 => ?_⟩
      by_cases e : i = q
      · subst e
        exact z.2
      · exact h4 i (by omega) i2
    · rw [scn_eq, if_neg z]
      exact ⟨Nat.le_refl _, fun h => h, z, fun i h1 h2 => by omega⟩
def isB (c : Nat) : Bool := decide (c = 32)
def isL (c : Nat) : Bool := decide (97 ≤ c ∧ c ≤ 122)
def isD (c : Nat) : Bool := decide (48 ≤ c ∧ c ≤ 57)
def sk (n : Nat) (T : Nat → Nat) (q : Nat) : Nat := scn isB n T q
def we (n : Nat) (T : Nat → Nat) (q : Nat) : Nat := scn isL n T q
def de (n : Nat) (T : Nat → Nat) (q : Nat) : Nat := scn isD n T q
theorem sk_le {n : Nat} {T : Nat → Nat} {q : Nat} (h : q ≤ n) : sk n T q ≤ n := (scn_sp isB n T _ q rfl).2.1 h
theorem we_le {n : Nat} {T : Nat → Nat} {q : Nat} (h : q ≤ n) : we n T q ≤ n := (scn_sp isL n T _ q rfl).2.1 h
theorem de_le {n : Nat} {T : Nat → Nat} {q : Nat} (h : q ≤ n) : de n T q ≤ n := (scn_sp isD n T _ q rfl).2.1 h
theorem we_ge {n : Nat} {T : Nat → Nat} {q : Nat} : q ≤ we n T q := (scn_sp isL n T _ q rfl).1
theorem de_ge {n : Nat} {T : Nat → Nat} {q : Nat} : q ≤ de n T q := (scn_sp isD n T _ q rfl).1
theorem sk_idem {n : Nat} {T : Nat → Nat} {q : Nat} : sk n T (sk n T q) = sk n T q := by
  have h := (scn_sp isB n T _ q rfl).2.2.1
  show scn isB n T (scn isB n T q) = scn isB n T q
  rw [scn_eq, if_neg h]
/-- the nine words: their lengths, their letters -/
def wL (w : Nat) : Nat := sLens.getD w 0
def wC (w i : Nat) : Nat := vN ((sByts.getD w []).getD i 0)
theorem wC_ok : ∀ w, w < 9 → ∀ i, i < 6 → i < wL w → (sByts.getD w []).getD i 0 = nI (wC w i) ∧ 97 ≤ wC w i ∧ wC w i ≤ 122 := by decide +kernel
theorem wL_ok : ∀ w, w < 9 → 2 ≤ wL w ∧ wL w ≤ 6 := by decide +kernel
def wQ (n : Nat) (T : Nat → Nat) (s w : Nat) : Bool := decide (we n T s - s = wL w ∧ ∀ i, i < wL w → T (s + i) = wC w i)
/-- a NUMBER's value by its first three figures -/
def vC (T : Nat → Nat) (s : Nat) : Nat → Nat
  | 0 => 0
  | j + 1 => if j < 3 then vC T s j * 10 + T (s + j) - 48 else vC T s j
def vM (T : Nat → Nat) (s : Nat) : Nat → Nat
  | 0 => 0
  | j + 1 => if vM T s j ≤ 10000 then 10 * vM T s j + T (s + j) - 48 else vM T s j
theorem vC_bd {T : Nat → Nat} {s : Nat} : ∀ j, (∀ i, i < j → 48 ≤ T (s + i) ∧ T (s + i) ≤ 57) → vC T s j ≤ 999 ∧ (j ≤ 2 → vC T s j ≤ 99) ∧ (j ≤ 1 → vC T s j ≤ 9) ∧ (j = 0 → vC T s j = 0)
  | 0, _ => ⟨by rw [vC]; omega, fun _ => by rw [vC]; omega, fun _ => by rw [vC]; omega, fun _ => rfl⟩
  | j + 1, h => by
    obtain ⟨h1, h2, h3, h4⟩ := vC_bd j (fun i hi => h i (by omega))
    have hj := h j (by omega)
    rw [vC]
    by_cases q : j < 3
    · rw [if_pos q]
      have h2' := h2
      refine ⟨?_, fun z => ?_, fun z => ?_, fun z => by omega⟩
      · have := h2 (by omega)
        omega
      · have := h3 (by omega)
        omega
      · have := h4 (by omega)
        omega
    · rw [if_neg q]
      exact ⟨h1, fun z => by omega, fun z => by omega, fun z => by omega⟩
theorem vM_eq {T : Nat → Nat} {s : Nat} : ∀ j, j ≤ 3 → (∀ i, i < j → 48 ≤ T (s + i) ∧ T (s + i) ≤ 57) → vM T s j = vC T s j
  | 0, _, _ => rfl
  | j + 1, h3, h => by
    have ih := vM_eq j (by omega) (fun i hi => h i (by omega))
    have b := (vC_bd j (fun i hi => h i (by omega))).1
    rw [vM, vC, ih, if_pos (by omega), if_pos (by omega), Nat.mul_comm]
theorem vM_bd {T : Nat → Nat} {s : Nat} : ∀ j, (∀ i, i < j → 48 ≤ T (s + i) ∧ T (s + i) ≤ 57) → vM T s j ≤ 100009
  | 0, _ => by rw [vM]; omega
  | j + 1, h => by
    have ih := vM_bd j (fun i hi => h i (by omega))
    have hj := h j (by omega)
    rw [vM]
    split
    · omega
    · exact ih
/-! words as numbers -/
def wcN (T : Nat → Nat) (s : Nat) : Nat → Nat
  | 0 => 0
  | j + 1 => if wcN T s j ≤ 10000000000 then 27 * wcN T s j + T (s + j) - 96 else 20000000000
def cdN (L : Nat → Nat) : Nat → Nat
  | 0 => 0
  | j + 1 => 27 * cdN L j + L j - 96
theorem wcN_bd {T : Nat → Nat} {s : Nat} : ∀ j, (∀ i, i < j → 97 ≤ T (s + i) ∧ T (s + i) ≤ 122) → wcN T s j ≤ 270000000026 ∧ (0 < j → 0 < wcN T s j)
  | 0, _ => ⟨by rw [wcN]; omega, fun z => by omega⟩
  | j + 1, h => by
    have hj := h j (by omega)
    rw [wcN]
    split
    · exact ⟨by omega, fun _ => by omega⟩
    · exact ⟨by omega, fun _ => by omega⟩
theorem cdN_bd {L : Nat → Nat} : ∀ m, (∀ i, i < m → 97 ≤ L i ∧ L i ≤ 122) → cdN L m < 27 ^ m
  | 0, _ => by rw [cdN]; decide
  | m + 1, h => by
    have ih := cdN_bd m (fun i hi => h i (by omega))
    have hm := h m (by omega)
    rw [cdN, Nat.pow_succ]
    omega
theorem code_iff {T L : Nat → Nat} {s : Nat} : ∀ m j, m ≤ 6 → (∀ i, i < m → 97 ≤ L i ∧ L i ≤ 122) → (∀ i, i < j → 97 ≤ T (s + i) ∧ T (s + i) ≤ 122) → (wcN T s j = cdN L m ↔ j = m ∧ ∀ i, i < m → T (s + i) = L i)
  | 0, j, _, _, hT => by
    have := (wcN_bd j hT).2
    rw [cdN]
    constructor
    · intro h
      refine ⟨by omega, fun i hi => by omega⟩
    · intro ⟨h, _⟩
      subst h
      rfl
  | m + 1, 0, _, hL, _ => by
    have hm := hL m (by omega)
    rw [wcN, cdN]
    constructor
    · intro h
      omega
    · intro ⟨h, _⟩
      omega
  | m + 1, j + 1, h6, hL, hT => by
    have ih := code_iff (T := T) (L := L) (s := s) m j (by omega) (fun i hi => hL i (by omega)) (fun i hi => hT i (by omega))
    have hm := hL m (by omega)
    have hj := hT j (by omega)
    have bd := cdN_bd m (fun i hi => hL i (by omega))
    have bd2 : 27 ^ m ≤ 27 ^ 5 := Nat.pow_le_pow_right (by decide) (by omega)
    rw [wcN, cdN]
    constructor
    · intro h
      have q : wcN T s j ≤ 10000000000 := by
        by_cases q : wcN T s j ≤ 10000000000
        · exact q
        · rw [if_neg q] at h
          omega
      rw [if_pos q] at h
      have e1 : wcN T s j = cdN L m := by omega
      obtain ⟨e2, e3⟩ := ih.mp e1
      subst e2
      refine ⟨rfl, fun i hi => ?_⟩
      by_cases z : i = j
      · subst z
        omega
      · exact e3 i (by omega)
    · intro ⟨h1, h2⟩
      have e2 : j = m := by omega
      subst e2
      have e1 := ih.mpr ⟨rfl, fun i hi => h2 i (by omega)⟩
      rw [e1, if_pos (by omega), h2 j (by omega)]
theorem wQ_code {n : Nat} {T : Nat → Nat} {s w : Nat} (hw : w < 9) : (wcN T s (we n T s - s) = cdN (wC w) (wL w)) = (wQ n T s w = true) := by
  have hT : ∀ i, i < we n T s - s → 97 ≤ T (s + i) ∧ T (s + i) ≤ 122 := fun i hi => by
    have := (scn_sp isL n T _ s rfl).2.2.2 (s + i) (by omega) (show s + i < we n T s by omega)
    unfold isL at this
    rw [decide_eq_true_eq] at this
    exact this
  have h6 := wL_ok w hw
  unfold wQ
  rw [decide_eq_true_eq]
  exact propext (code_iff (wL w) (we n T s - s) h6.2 (fun i hi => (wC_ok w hw i (by omega) hi).2) hT)
/-! clauses -/
abbrev Flt : Type := Nat × Nat
abbrev Cls : Type := Nat × Nat × Nat × Nat
def sb {B C : Type} (x : Flt ⊕ B) (g : B → Flt ⊕ C) : Flt ⊕ C := match x with
  | .inl a => .inl a
  | .inr b => g b
theorem sb_as {B C D : Type} (x : Flt ⊕ B) (g : B → Flt ⊕ C) (h : C → Flt ⊕ D) : sb (sb x g) h = sb x (fun b => sb (g b) h) := by cases x <;> rfl
def pN (n : Nat) (T : Nat → Nat) (lo hi q : Nat) : Flt ⊕ (Nat × Nat) := if de n T (sk n T q) = sk n T q then .inl (1, sk n T q) else if 3 < de n T (sk n T q) - sk n T q ∨ vC T (sk n T q) (de n T (sk n T q) - sk n T q) < lo ∨ hi < vC T (sk n T q) (de n T (sk n T q) - sk n T q) then .inl (2, sk n T q) else .inr (vC T (sk n T q) (de n T (sk n T q) - sk n T q), de n T (sk n T q))
def pW (n : Nat) (T : Nat → Nat) (w q : Nat) : Flt ⊕ Nat := if wQ n T (sk n T q) w = true then .inr (we n T (sk n T q)) else .inl (1, sk n T q)
def pE (n : Nat) (T : Nat → Nat) (c : Cls × Nat) : Flt ⊕ (Cls × Nat) := if sk n T c.2 < n ∧ T (sk n T c.2) = 59 then .inr (c.1, sk n T c.2 + 1) else .inl (1, sk n T c.2)
def pWay (n : Nat) (T : Nat → Nat) (q : Nat) : Flt ⊕ (Cls × Nat) := sb (pN n T 0 3 q) fun a => if sk n T a.2 < n ∧ isL (T (sk n T a.2)) = true then sb (pW n T 2 a.2) fun q1 => sb (pN n T 0 3 q1) fun b => sb (pN n T 0 100 b.2) fun c => .inr ((1, a.1, b.1, c.1), c.2) else .inr ((0, a.1, 0, 0), sk n T a.2)
def pKind (n : Nat) (T : Nat → Nat) (q : Nat) : Flt ⊕ (Cls × Nat) := sb (pN n T 0 3 q) fun a => sb (pW n T 4 a.2) fun q3 => sb (pN n T 0 60 q3) fun b => .inr ((2, a.1, b.1, 0), b.2)
def pNever (n : Nat) (T : Nat → Nat) (q : Nat) : Flt ⊕ (Cls × Nat) := if wQ n T (sk n T q) 1 = true then pWay n T (we n T (sk n T q)) else sb (pW n T 3 q) fun q1 => pKind n T q1
def pMost (n : Nat) (T : Nat → Nat) (q : Nat) : Flt ⊕ (Cls × Nat) := sb (pN n T 0 9 q) fun a => sb (pW n T 6 a.2) fun q2 => sb (pN n T 1 60 q2) fun b => .inr ((3, a.1, b.1, 0), b.2)
def pAlways (n : Nat) (T : Nat → Nat) (q : Nat) : Flt ⊕ (Cls × Nat) := sb (pW n T 8 q) fun q1 => sb (pN n T 0 9 q1) fun a => .inr ((4, a.1, 0, 0), a.2)
def pHead (n : Nat) (T : Nat → Nat) (m q : Nat) : Flt ⊕ (Cls × Nat) := if wQ n T q 0 = true then (if m < 8 then pNever n T (we n T q) else .inl (3, q)) else if wQ n T q 5 = true then (if m < 8 then pMost n T (we n T q) else .inl (3, q)) else if wQ n T q 7 = true then (if m < 8 then pAlways n T (we n T q) else .inl (3, q)) else .inl (1, q)
def pClause (n : Nat) (T : Nat → Nat) (m q : Nat) : Flt ⊕ (Cls × Nat) := sb (pHead n T m q) (pE n T)
end
section
/-! ===== the class reads the text ===== -/
def Sc (μ μ' : Mem) : Prop := Ok μ' ∧ mR μ' = mR μ ∧ ∀ a j, ¬ (a = 90 ∧ (j = 1 ∨ j = 2 ∨ j = 4)) → mI μ' a j = mI μ a j
def STc (μ : Mem) (n : Nat) (T : Nat → Nat) : Prop := mI μ 90 0 = nI n ∧ n ≤ 160 ∧ ∀ i, i < 160 → mI μ 91 i = nI (T i) ∧ T i ≤ 255
/-- a memory on the way: fault k at f, the place q -/
def CP (n : Nat) (T : Nat → Nat) (μ0 μ : Mem) (k : Nat) (f : Int32) (q : Nat) : Prop := Sc μ0 μ ∧ STc μ n T ∧ (mI μ 90 1 = nI k ∧ mI μ 90 2 = f ∧ mI μ 90 4 = nI q) ∧ q ≤ n ∧ k ≤ 3
section CR
variable {n : Nat} {T : Nat → Nat} {μ0 μ : Mem} {k q : Nat} {f : Int32}
theorem CP.ok (h : CP n T μ0 μ k f q) : Ok μ := h.1.1
theorem CP.rd (h : CP n T μ0 μ k f q) {i : Nat} (hi : i < 160) : aI 91 (nI i) μ = some (nI (T i)) := by rw [ai_91 h.ok hi, (h.2.1.2.2 i hi).1]
theorem CP.b (h : CP n T μ0 μ k f q) {i : Nat} (hi : i < 160) : T i ≤ 255 := (h.2.1.2.2 i hi).2
theorem CP.n0 (h : CP n T μ0 μ k f q) : n ≤ 160 := h.2.1.2.1
theorem CP.at' (h : CP n T μ0 μ k f q) (q' : Nat) (hq : q' ≤ n) : CP n T μ0 (wI μ 90 4 (nI q')) k f q' := by
  obtain ⟨⟨o, r, fr⟩, ⟨t1, t2, t3⟩, ⟨f1, f2, f3⟩, hq0, hk⟩ := h
  refine ⟨⟨o, r, fun a j z => ?_⟩, ⟨(fld_ne (by omega)).trans t1, t2, fun i hi => ?_⟩, ⟨(fld_ne (by omega)).trans f1, (fld_ne (by omega)).trans f2, fld_eq⟩, hq, hk⟩
  · rw [fld_ne (by omega)]
    exact fr a j z
  · rw [row_ne (by omega)]
    exact t3 i hi
theorem CP.flt (h : CP n T μ0 μ k f q) (k' : Nat) (x : Int32) (hk' : k' ≤ 3) : CP n T μ0 (wI (wI μ 90 1 (nI k')) 90 2 x) k' x q := by
  obtain ⟨⟨o, r, fr⟩, ⟨t1, t2, t3⟩, ⟨f1, f2, f3⟩, hq0, hk⟩ := h
  refine ⟨⟨o, r, fun a j z => ?_⟩, ⟨(fld_ne (by omega)).trans ((fld_ne (by omega)).trans t1), t2, fun i hi => ?_⟩, ⟨(fld_ne (by omega)).trans fld_eq, fld_eq, (fld_ne (by omega)).trans ((fld_ne (by omega)).trans f3)⟩, hq0, hk'⟩
  · rw [fld_ne (by omega), fld_ne (by omega)]
    exact fr a j z
  · rw [row_ne (by omega), row_ne (by omega)]
    exact t3 i hi
theorem isB_n {c : Nat} (h : c ≤ 255) : (nI c = 32) = (isB c = true) := by
  unfold isB
  rw [decide_eq_true_eq]
  exact n_eq (b := 32) (by omega) (by decide)
theorem skip0_c : ∀ d m μ q, n - q = d → CP n T μ0 μ k f q → ∃ μ', CP n T μ0 μ' k f (sk n T q) ∧ X2_skipBlanks_L0 90 (m + d + 1) μ = some μ' := by
  intro d
  induction d with
  | zero =>
    intro m μ q hd h
    have hn := h.n0
    refine ⟨μ, ?_, ?_⟩
    · rw [show sk n T q = q by unfold sk; rw [scn_eq, if_neg (by omega)]]
      exact h
    · rw [X2_skipBlanks_L0, gi_90 h.ok, h.2.2.1.2.2, Option.bind_some, gi_90 h.ok, h.2.1.1, Option.bind_some, if_pos (nI_le (by omega) (by have := h.2.2.2.1; omega))]
  | succ d ih =>
    intro m μ q hd h
    have hn := h.n0
    have hq := h.2.2.2.1
    have b := h.b (i := q) (by omega)
    rw [show m + (d + 1) + 1 = m + d + 1 + 1 by omega, X2_skipBlanks_L0, gi_90 h.ok, h.2.2.1.2.2, Option.bind_some, gi_90 h.ok, h.2.1.1, Option.bind_some, if_neg (nI_ge (by omega) (by omega)), r_90_3 h.ok, Option.bind_some, Option.bind_some, h.rd (by omega), Option.bind_some]
    simp only [isB_n b]
    by_cases z : isB (T q) = true
    · obtain ⟨μ', h', e⟩ := ih m (wI μ 90 4 (nI (q + 1))) (q + 1) (by omega) (h.at' (q + 1) (by omega))
      refine ⟨μ', ?_, ?_⟩
      · rw [show sk n T q = sk n T (q + 1) by unfold sk; rw [scn_eq, if_pos ⟨by omega, z⟩]]
        exact h'
      · rw [if_pos z, Option.bind_some, nI_add1, pi_90 h.ok, Option.bind_some]
        exact e
    · refine ⟨μ, ?_, ?_⟩
      · rw [show sk n T q = q by unfold sk; rw [scn_eq, if_neg (fun w => z w.2)]]
        exact h
      · rw [if_neg z]
theorem skip_c (h : CP n T μ0 μ k f q) : ∃ μ', CP n T μ0 μ' k f (sk n T q) ∧ X2_skipBlanks 90 μ = some μ' := by
  have hn := h.n0
  obtain ⟨μ', h', e⟩ := skip0_c (n - q) (99999 - (n - q)) μ q rfl h
  refine ⟨μ', h', ?_⟩
  rw [show 99999 - (n - q) + (n - q) + 1 = FU by unfold FU; omega] at e
  unfold X2_skipBlanks
  rw [e, Option.bind_some]
theorem word18_c (w : Nat) (h : CP n T μ0 μ k f q) : ∀ d m p, n - p = d → p ≤ n → X2_takeWord_L18 90 w μ (m + d + 1) (nI p) = some (nI (we n T p)) := by
  have hn := h.n0
  intro d
  induction d with
  | zero =>
    intro m p hd hp
    rw [show we n T p = p by unfold we; rw [scn_eq, if_neg (by omega)], X2_takeWord_L18, gi_90 h.ok, h.2.1.1, Option.bind_some, if_pos (nI_le (by omega) (by omega))]
  | succ d ih =>
    intro m p hd hp
    have b := h.b (i := p) (by omega)
    rw [show m + (d + 1) + 1 = m + d + 1 + 1 by omega, X2_takeWord_L18, gi_90 h.ok, h.2.1.1, Option.bind_some, if_neg (nI_ge (by omega) (by omega)), r_90_3 h.ok, Option.bind_some, h.rd (by omega), Option.bind_some, Option.bind_some, h.rd (by omega), Option.bind_some]
    have c1 : (nI (T p) < 97) = (T p < 97) := n_lt (b := 97) (by omega) (by decide)
    have c2 : ((122 : Int32) < nI (T p)) = (122 < T p) := n_lt (a := 122) (by decide) (by omega)
    simp only [c1, c2]
    by_cases z : isL (T p) = true
    · have z' := z
      unfold isL at z'
      rw [decide_eq_true_eq] at z'
      rw [if_neg (by omega), if_neg (by omega), nI_add1, show we n T p = we n T (p + 1) by unfold we; rw [scn_eq, if_pos ⟨by omega, z⟩]]
      exact ih m (p + 1) (by omega) (by omega)
    · have z' := z
      unfold isL at z'
      rw [decide_eq_true_eq] at z'
      rw [show we n T p = p by unfold we; rw [scn_eq, if_neg (fun w => z w.2)]]
      by_cases y : T p < 97
      · rw [if_pos y]
      · rw [if_neg y, if_pos (by omega)]
theorem sLe_eq {w : Nat} (hw : w < 9) : sLe w = some (nI (wL w)) := by
  unfold sLe
  rw [if_pos hw]
  rfl
theorem sChr_eq {w i : Nat} (hw : w < 9) (hi : i < wL w) : sChr w (nI i) = some (nI (wC w i)) := by
  have h6 := wL_ok w hw
  unfold sChr
  rw [nI_clamp (by omega), if_pos ⟨hw, fun z => by
    rcases z with z | z
    · exact nI_pos (by omega) z
    · have : sLens.getD w 0 = wL w := rfl
      omega⟩, (wC_ok w hw i (by omega) hi).1]
theorem word71_c {w : Nat} (hw : w < 9) {e : Nat} (h : CP n T μ0 μ k f q) (he : q + wL w = e) (hen : e ≤ n) : X2_takeWord_L71 90 w (nI e) μ FU 0 = some (if (∀ i, i < wL w → T (q + i) = wC w i) then (1, wI μ 90 4 (nI e)) else (0, μ)) := by
  have hn := h.n0
  have h6 := wL_ok w hw
  obtain ⟨b, Q, e1⟩ := loopE (F := fun m (_ : Unit) i => X2_takeWord_L71 90 w (nI e) μ m (nI i)) (P := fun i _ => ∀ j, j < i → T (q + j) = wC w j) (Q := fun b => b = (if (∀ i, i < wL w → T (q + i) = wC w i) then ((1 : Int32), wI μ 90 4 (nI e)) else (0, μ))) (n := wL w) (by omega) (fun m _ i hi P => by
    have b := h.b (i := q + i) (by omega)
    have wc := (wC_ok w hw i (by omega) hi).2
    show (∃ a', _ ∧ X2_takeWord_L71 90 w (nI e) μ (m + 1) (nI i) = _) ∨ ∃ b, _ ∧ X2_takeWord_L71 90 w (nI e) μ (m + 1) (nI i) = some b
    rw [X2_takeWord_L71, sLe_eq hw, Option.bind_some, if_neg (nI_ge hi (by omega)), r_90_3 h.ok, Option.bind_some, gi_90 h.ok, h.2.2.1.2.2, Option.bind_some, nI_add, h.rd (by omega), Option.bind_some, sChr_eq hw hi, Option.bind_some]
    have c : (nI (T (q + i)) = nI (wC w i)) = (T (q + i) = wC w i) := n_eq (by omega) (by omega)
    simp only [c]
    by_cases z : T (q + i) = wC w i
    · refine Or.inl ⟨(), fun j hj => ?_, by rw [if_pos z, nI_add1]⟩
      by_cases y : j = i
      · subst y
        exact z
      · exact P j (by omega)
    · refine Or.inr ⟨(0, μ), ?_, by rw [if_neg z]⟩
      rw [if_neg (fun y => z (y i hi))]) (fun m _ P => by
    refine ⟨(1, wI μ 90 4 (nI e)), by rw [if_pos P], ?_⟩
    show X2_takeWord_L71 90 w (nI e) μ (m + 1) (nI (wL w)) = _
    rw [X2_takeWord_L71, sLe_eq hw, Option.bind_some, if_pos (nI_le (Nat.le_refl _) (by omega)), pi_90 h.ok, Option.bind_some]) () (fun j hj => by omega)
  subst Q
  exact e1
theorem k0 {k : Nat} (hk : k ≤ 3) : (nI k = 0) = (k = 0) := n_eq (b := 0) (by omega) (by decide)
theorem word_c {w : Nat} (hw : w < 9) (h : CP n T μ0 μ 0 f q) : ∃ μ', CP n T μ0 μ' 0 f (if wQ n T (sk n T q) w = true then we n T (sk n T q) else sk n T q) ∧ X2_takeWord 90 w μ = some (if wQ n T (sk n T q) w = true then 1 else 0, μ') := by
  have hn := h.n0
  have h6 := wL_ok w hw
  obtain ⟨μ1, h1, e1⟩ := skip_c h
  have hs := h1.2.2.2.1
  have w1 := word18_c w h1 (n - sk n T q) (99999 - (n - sk n T q)) (sk n T q) rfl hs
  rw [show 99999 - (n - sk n T q) + (n - sk n T q) + 1 = FU by unfold FU; omega] at w1
  have we1 := we_ge (n := n) (T := T) (q := sk n T q)
  have we2 := we_le (n := n) (T := T) hs
  unfold X2_takeWord
  rw [gi_90 h.ok, h.2.2.1.1, Option.bind_some, if_pos (show nI 0 = (0 : Int32) from rfl), vo_90 h.ok, Option.bind_some, e1, Option.bind_some, gi_90 h1.ok, h1.2.2.1.2.2, Option.bind_some, w1, Option.bind_some, Option.bind_some, sLe_eq hw, Option.bind_some, pk_sub we1]
  simp only [n_eq (show we n T (sk n T q) - sk n T q < 2 ^ 31 by omega) (show wL w < 2 ^ 31 by omega)]
  by_cases z : we n T (sk n T q) - sk n T q = wL w
  · rw [if_pos z, word71_c hw h1 (by omega) we2]
    by_cases y : ∀ i, i < wL w → T (sk n T q + i) = wC w i
    · have yq : wQ n T (sk n T q) w = true := decide_eq_true ⟨z, y⟩
      rw [if_pos y, if_pos yq, if_pos yq]
      exact ⟨_, h1.at' _ we2, rfl⟩
    · have yq : ¬ wQ n T (sk n T q) w = true := fun x => y (of_decide_eq_true x).2
      rw [if_neg y, if_neg yq, if_neg yq]
      exact ⟨_, h1, rfl⟩
  · have yq : ¬ wQ n T (sk n T q) w = true := fun x => z (of_decide_eq_true x).1
    rw [if_neg z, if_neg yq, if_neg yq]
    exact ⟨_, h1, rfl⟩
theorem word_cF (w : Nat) (h : CP n T μ0 μ k f q) (hk : ¬ k = 0) : X2_takeWord 90 w μ = some (0, μ) := by
  unfold X2_takeWord
  rw [gi_90 h.ok, h.2.2.1.1, Option.bind_some, if_neg (by rw [k0 h.2.2.2.2]; exact hk)]
theorem note_c (h : CP n T μ0 μ 0 f q) (k' : Nat) (x : Int32) (hk : k' ≤ 3) : ∃ μ', CP n T μ0 μ' k' x q ∧ X2_note 90 (nI k') x μ = some μ' := by
  refine ⟨_, h.flt k' x hk, ?_⟩
  unfold X2_note
  rw [gi_90 h.ok, h.2.2.1.1, Option.bind_some, if_pos (show nI 0 = (0 : Int32) from rfl), pi_90 h.ok, Option.bind_some, pi_90 h.ok.wI, Option.bind_some, Option.bind_some]
theorem note_cF (h : CP n T μ0 μ k f q) (hk : ¬ k = 0) (k' x : Int32) : X2_note 90 k' x μ = some μ := by
  unfold X2_note
  rw [gi_90 h.ok, h.2.2.1.1, Option.bind_some, if_neg (by rw [k0 h.2.2.2.2]; exact hk), Option.bind_some]
theorem need_cF (w : Nat) (h : CP n T μ0 μ k f q) (hk : ¬ k = 0) : X2_needWord 90 w μ = some μ := by
  unfold X2_needWord
  rw [vo_90 h.ok, Option.bind_some, word_cF w h hk, Option.bind_some, if_pos rfl, gi_90 h.ok, h.2.2.1.2.2, Option.bind_some, vo_90 h.ok, Option.bind_some, note_cF h hk, Option.bind_some, Option.bind_some]
theorem need_c {w : Nat} (hw : w < 9) (h : CP n T μ0 μ 0 f q) : (wQ n T (sk n T q) w = true → ∃ μ', CP n T μ0 μ' 0 f (we n T (sk n T q)) ∧ X2_needWord 90 w μ = some μ') ∧ (¬ wQ n T (sk n T q) w = true → ∃ μ', CP n T μ0 μ' 1 (nI (sk n T q)) (sk n T q) ∧ X2_needWord 90 w μ = some μ') := by
  obtain ⟨μ1, h1, e1⟩ := word_c hw h
  refine ⟨fun z => ?_, fun z => ?_⟩
  · rw [if_pos z] at h1 e1
    refine ⟨μ1, h1, ?_⟩
    unfold X2_needWord
    rw [vo_90 h.ok, Option.bind_some, e1, Option.bind_some, if_neg (show ¬ (1 : Int32) = 0 by decide), Option.bind_some]
  · rw [if_neg z] at h1 e1
    obtain ⟨μ2, h2, e2⟩ := note_c h1 1 (nI (sk n T q)) (by decide)
    refine ⟨μ2, h2, ?_⟩
    unfold X2_needWord
    rw [vo_90 h.ok, Option.bind_some, e1, Option.bind_some, if_pos rfl, gi_90 h1.ok, h1.2.2.1.2.2, Option.bind_some, vo_90 h1.ok, Option.bind_some]
    rw [show X2_note 90 1 (nI (sk n T q)) μ1 = _ from e2, Option.bind_some, Option.bind_some]
theorem num21_c (x1 x2 : Int32) {s : Nat} : ∀ d m μ p, n - p = d → s ≤ p → CP n T μ0 μ k f p → (∀ i, s ≤ i → i < p → isD (T i) = true) → ∃ μ', CP n T μ0 μ' k f (de n T p) ∧ X2_takeNumber_L21 90 x1 x2 (nI s) (m + d + 1) (nI (vC T s (p - s))) μ = some (nI (vC T s (de n T p - s)), μ') := by
  intro d
  induction d with
  | zero =>
    intro m μ p hd hsp h hdg
    have hn := h.n0
    have hq := h.2.2.2.1
    refine ⟨μ, ?_, ?_⟩
    · rw [show de n T p = p by unfold de; rw [scn_eq, if_neg (by omega)]]
      exact h
    · rw [show de n T p = p by unfold de; rw [scn_eq, if_neg (by omega)], X2_takeNumber_L21, gi_90 h.ok, h.2.2.1.2.2, Option.bind_some, gi_90 h.ok, h.2.1.1, Option.bind_some, if_pos (nI_le (by omega) (by omega))]
  | succ d ih =>
    intro m μ p hd hsp h hdg
    have hn := h.n0
    have hq := h.2.2.2.1
    have b := h.b (i := p) (by omega)
    have c1 : (nI (T p) < 48) = (T p < 48) := n_lt (b := 48) (by omega) (by decide)
    have c2 : ((57 : Int32) < nI (T p)) = (57 < T p) := n_lt (a := 57) (by decide) (by omega)
    have c3 : ((3 : Int32) ≤ nI (p - s)) = (3 ≤ p - s) := n_le (a := 3) (by decide) (by omega)
    rw [show m + (d + 1) + 1 = m + d + 1 + 1 by omega, X2_takeNumber_L21, gi_90 h.ok, h.2.2.1.2.2, Option.bind_some, gi_90 h.ok, h.2.1.1, Option.bind_some, if_neg (nI_ge (by omega) (by omega)), r_90_3 h.ok, Option.bind_some, Option.bind_some, h.rd (by omega), Option.bind_some, Option.bind_some, Option.bind_some, h.rd (by omega), Option.bind_some, Option.bind_some, Option.bind_some, Option.bind_some, h.rd (by omega), Option.bind_some, pk_sub hsp]
    simp only [c1, c2, c3]
    by_cases z : isD (T p) = true
    · have z' := z
      unfold isD at z'
      rw [decide_eq_true_eq] at z'
      have bd := (vC_bd (T := T) (s := s) (p - s) (fun i hi => by
        have := hdg (s + i) (by omega) (by omega)
        unfold isD at this
        rw [decide_eq_true_eq] at this
        exact this)).1
      have ev : ((if 3 ≤ p - s then some (nI (vC T s (p - s))) else some (nI (vC T s (p - s)) * 10 + nI (T p) - 48) : Option Int32)) = some (nI (vC T s (p + 1 - s))) := by
        rw [show p + 1 - s = p - s + 1 by omega, vC, show s + (p - s) = p by omega]
        by_cases y : 3 ≤ p - s
        · rw [if_pos y, if_neg (by omega)]
        · rw [if_neg y, if_pos (by omega), show (10 : Int32) = nI 10 from rfl, pk_mul, nI_add, show (48 : Int32) = nI 48 from rfl, pk_sub (by omega)]
      obtain ⟨μ', h', e⟩ := ih m (wI μ 90 4 (nI (p + 1))) (p + 1) (by omega) (by omega) (h.at' (p + 1) (by omega)) (fun i i1 i2 => by
        by_cases y : i = p
        · subst y
          exact z
        · exact hdg i i1 (by omega))
      refine ⟨μ', ?_, ?_⟩
      · rw [show de n T p = de n T (p + 1) by unfold de; rw [scn_eq, if_pos ⟨by omega, z⟩]]
        exact h'
      · rw [if_neg (by omega), if_neg (by omega)]
        rw [ev, Option.bind_some, Option.bind_some, nI_add1, pi_90 h.ok, Option.bind_some, show de n T p = de n T (p + 1) by unfold de; rw [scn_eq, if_pos ⟨by omega, z⟩]]
        exact e
    · have z' := z
      unfold isD at z'
      rw [decide_eq_true_eq] at z'
      have ed : de n T p = p := by unfold de; rw [scn_eq, if_neg (fun w => z w.2)]
      refine ⟨μ, by rw [ed]; exact h, ?_⟩
      rw [ed]
      by_cases y : T p < 48
      · rw [if_pos y]
      · rw [if_neg y, if_pos (by omega)]
theorem num_cF (x1 x2 : Int32) (h : CP n T μ0 μ k f q) (hk : ¬ k = 0) : X2_takeNumber 90 x1 x2 μ = some (0, μ) := by
  unfold X2_takeNumber
  rw [gi_90 h.ok, h.2.2.1.1, Option.bind_some, if_neg (by rw [k0 h.2.2.2.2]; exact hk)]
theorem num_c {lo hi : Nat} (hlo : lo < 1000) (hhi : hi < 1000) (h : CP n T μ0 μ 0 f q) : match pN n T lo hi q with
    | .inl (k', s) => ∃ μ' v q', CP n T μ0 μ' k' (nI s) q' ∧ ¬ k' = 0 ∧ X2_takeNumber 90 (nI lo) (nI hi) μ = some (v, μ')
    | .inr (v, q') => ∃ μ', CP n T μ0 μ' 0 f q' ∧ X2_takeNumber 90 (nI lo) (nI hi) μ = some (nI v, μ') := by
  have hn := h.n0
  obtain ⟨μ1, h1, e1⟩ := skip_c h
  have hs := h1.2.2.2.1
  obtain ⟨μ2, h2, e2⟩ := num21_c (nI lo) (nI hi) (s := sk n T q) (n - sk n T q) (99999 - (n - sk n T q)) μ1 (sk n T q) rfl (Nat.le_refl _) h1 (fun i i1 i2 => by omega)
  rw [show 99999 - (n - sk n T q) + (n - sk n T q) + 1 = FU by unfold FU; omega, Nat.sub_self] at e2
  have e2 : X2_takeNumber_L21 90 (nI lo) (nI hi) (nI (sk n T q)) FU 0 μ1 = _ := e2
  have d1 := de_ge (n := n) (T := T) (q := sk n T q)
  have d2 := de_le (n := n) (T := T) hs
  have dg : ∀ i, i < de n T (sk n T q) - sk n T q → 48 ≤ T (sk n T q + i) ∧ T (sk n T q + i) ≤ 57 := fun i hi => by
    have := (scn_sp isD n T _ (sk n T q) rfl).2.2.2 (sk n T q + i) (by omega) (show sk n T q + i < de n T (sk n T q) by omega)
    unfold isD at this
    rw [decide_eq_true_eq] at this
    exact this
  have bd := (vC_bd (T := T) (s := sk n T q) _ dg).1
  have ce : (nI (de n T (sk n T q)) = nI (sk n T q)) = (de n T (sk n T q) = sk n T q) := n_eq (by omega) (by omega)
  have c3 : ((3 : Int32) < nI (de n T (sk n T q) - sk n T q)) = (3 < de n T (sk n T q) - sk n T q) := n_lt (a := 3) (by decide) (by omega)
  have cw : (X10_within (nI (vC T (sk n T q) (de n T (sk n T q) - sk n T q))) (nI lo) (nI hi) = 0) = (vC T (sk n T q) (de n T (sk n T q) - sk n T q) < lo ∨ hi < vC T (sk n T q) (de n T (sk n T q) - sk n T q)) := by
    unfold X10_within
    simp only [n_lt (show vC T (sk n T q) (de n T (sk n T q) - sk n T q) < 2 ^ 31 by omega) (show lo < 2 ^ 31 by omega), n_lt (show hi < 2 ^ 31 by omega) (show vC T (sk n T q) (de n T (sk n T q) - sk n T q) < 2 ^ 31 by omega)]
    by_cases y1 : vC T (sk n T q) (de n T (sk n T q) - sk n T q) < lo
    · rw [if_pos y1]
      exact propext ⟨fun _ => Or.inl y1, fun _ => rfl⟩
    · rw [if_neg y1]
      by_cases y2 : hi < vC T (sk n T q) (de n T (sk n T q) - sk n T q)
      · rw [if_pos y2]
        exact propext ⟨fun _ => Or.inr y2, fun _ => rfl⟩
      · rw [if_neg y2]
        exact propext ⟨fun z => absurd z (by decide), fun z => by omega⟩
  have hd : X2_takeNumber 90 (nI lo) (nI hi) μ = ((((if de n T (sk n T q) = sk n T q then (X2_note 90 1 (nI (sk n T q)) μ2).bind fun μ17 => some μ17 else if 3 < de n T (sk n T q) - sk n T q then (X2_note 90 2 (nI (sk n T q)) μ2).bind fun μ12 => some μ12 else if (vC T (sk n T q) (de n T (sk n T q) - sk n T q) < lo ∨ hi < vC T (sk n T q) (de n T (sk n T q) - sk n T q)) then (X2_note 90 2 (nI (sk n T q)) μ2).bind fun μ15 => some μ15 else some μ2) : Option Mem)).bind fun z18 => some (nI (vC T (sk n T q) (de n T (sk n T q) - sk n T q)), z18)) := by
    unfold X2_takeNumber
    rw [gi_90 h.ok, h.2.2.1.1, Option.bind_some, if_pos (show nI 0 = (0 : Int32) from rfl), vo_90 h.ok, Option.bind_some, e1, Option.bind_some, gi_90 h1.ok, h1.2.2.1.2.2, Option.bind_some, e2, Option.bind_some, gi_90 h2.ok, h2.2.2.1.2.2, Option.bind_some]
    simp only [ce, Option.bind_some, vo_90 h2.ok, pk_sub d1, c3, cw]
  rw [hd]
  unfold pN
  by_cases z1 : de n T (sk n T q) = sk n T q
  · rw [if_pos z1, if_pos z1]
    obtain ⟨μ3, h3, e3⟩ := note_c h2 1 (nI (sk n T q)) (by decide)
    have e3 : X2_note 90 1 (nI (sk n T q)) μ2 = _ := e3
    rw [e3]
    exact ⟨μ3, _, _, h3, by decide, rfl⟩
  · rw [if_neg z1, if_neg z1]
    obtain ⟨μ3, h3, e3⟩ := note_c h2 2 (nI (sk n T q)) (by decide)
    have e3 : X2_note 90 2 (nI (sk n T q)) μ2 = _ := e3
    rw [e3]
    by_cases z2 : 3 < de n T (sk n T q) - sk n T q
    · rw [if_pos z2, if_pos (Or.inl z2)]
      exact ⟨μ3, _, _, h3, by decide, rfl⟩
    · rw [if_neg z2]
      by_cases z3 : vC T (sk n T q) (de n T (sk n T q) - sk n T q) < lo ∨ hi < vC T (sk n T q) (de n T (sk n T q) - sk n T q)
      · rw [if_pos z3, if_pos (Or.inr z3)]
        exact ⟨μ3, _, _, h3, by decide, rfl⟩
      · rw [if_neg z3, if_neg (fun y => y.elim z2 z3)]
        exact ⟨μ2, h2, rfl⟩
end CR
end
section
/-! ===== the class reads clauses ===== -/
/-- a clause put behind m others -/
def AD (μ : Mem) (l m : Nat) (c : Cls) : Mem := wI (wI (wI (wI (wI μ (l + 1) m (nI c.1)) (l + 2) m (nI c.2.1)) (l + 3) m (nI c.2.2.1)) (l + 4) m (nI c.2.2.2)) l 0 (nI (m + 1))
def PostC (n : Nat) (T : Nat → Nat) (μ0 : Mem) (l m : Nat) (f : Int32) (o : Flt ⊕ (Cls × Nat)) (r : Option Mem) : Prop := match o with
  | .inl (k, s) => ∃ μ' q', CP n T μ0 μ' k (nI s) q' ∧ ¬ k = 0 ∧ r = some μ'
  | .inr (c, q') => ∃ μ1, CP n T μ0 μ1 0 f q' ∧ r = some (AD μ1 l m c)
section CC
variable {n : Nat} {T : Nat → Nat} {μ0 μ : Mem} {k q l m : Nat} {f : Int32}
theorem add_c (h : CP n T μ0 μ k f q) (hl : isLw l) (hm : m < 8) (e0 : mI μ l 0 = nI m) (c : Cls) : X3_add l (nI c.1) (nI c.2.1) (nI c.2.2.1) (nI c.2.2.2) μ = some (AD μ l m c) := by
  have o := h.ok
  have o1 : Ok (wI μ (l + 1) m (nI c.1)) := o
  unfold X3_add
  rw [gi_l o hl, e0, Option.bind_some, if_neg (show ¬ (8 : Int32) ≤ _ from nI_ge (b := 8) hm (by decide)), rl_1 o hl, Option.bind_some, Option.bind_some, sl_1 o hl hm, Option.bind_some, rl_2 o.wI hl, Option.bind_some, gi_l o.wI hl, row_ne (by omega), e0, Option.bind_some, sl_2 o.wI hl hm, Option.bind_some, rl_3 o.wI.wI hl, Option.bind_some, gi_l o.wI.wI hl, row_ne (by omega), row_ne (by omega), e0, Option.bind_some, sl_3 o.wI.wI hl hm, Option.bind_some, rl_4 o.wI.wI.wI hl, Option.bind_some, gi_l o.wI.wI.wI hl, row_ne (by omega), row_ne (by omega), row_ne (by omega), e0, Option.bind_some, sl_4 o.wI.wI.wI hl hm, Option.bind_some, gi_l o.wI.wI.wI.wI hl, row_ne (by omega), row_ne (by omega), row_ne (by omega), row_ne (by omega), e0, Option.bind_some, pi_l o.wI.wI.wI.wI hl, Option.bind_some, Option.bind_some, nI_add1]
  rfl
theorem CP.l0 (h : CP n T μ0 μ k f q) (hl : isLw l) (e0 : mI μ0 l 0 = nI m) : mI μ l 0 = nI m := by
  rw [h.1.2.2 l 0 (by unfold isLw at hl; omega)]
  exact e0
theorem fin_cF (h : CP n T μ0 μ k f q) (hk : ¬ k = 0) (x2 x3 x4 x5 : Int32) : ∃ μ' q', CP n T μ0 μ' k f q' ∧ X2_finish 90 l x2 x3 x4 x5 μ = some μ' := by
  obtain ⟨μ1, h1, e1⟩ := skip_c h
  refine ⟨μ1, _, h1, ?_⟩
  have hn := h.n0
  have hs := h1.2.2.2.1
  have k1 : (nI k = 0) = (k = 0) := k0 h.2.2.2.2
  unfold X2_finish
  rw [vo_90 h.ok, Option.bind_some, e1, Option.bind_some, gi_90 h1.ok, h1.2.2.1.2.2, Option.bind_some, gi_90 h1.ok, h1.2.1.1, Option.bind_some]
  have z : ((if nI n ≤ nI (sk n T q) then (some (nI (sk n T q))).bind fun v6 => (vO 2 90 μ1).bind fun g7 => (X2_note 90 1 v6 μ1).bind fun μ8 => some μ8 else (gR 2 3 90 μ1).bind fun v9 => (some (nI (sk n T q))).bind fun v10 => (aI v9 v10 μ1).bind fun v11 => if v11 = 59 then some μ1 else (some (nI (sk n T q))).bind fun v13 => (vO 2 90 μ1).bind fun g14 => (X2_note 90 1 v13 μ1).bind fun μ15 => some μ15 : Option Mem)) = some μ1 := by
    rw [Option.bind_some, vo_90 h1.ok, Option.bind_some, note_cF h1 hk, Option.bind_some]
    by_cases y : n ≤ sk n T q
    · rw [if_pos (nI_le y (by omega))]
    · rw [if_neg (nI_ge (by omega) (by omega)), r_90_3 h1.ok, Option.bind_some, Option.bind_some, h1.rd (by omega), Option.bind_some, ite_self]
  rw [z, Option.bind_some, gi_90 h1.ok, h1.2.2.1.1, Option.bind_some, if_neg (by rw [k1]; exact hk), Option.bind_some]
theorem fin_c (h : CP n T μ0 μ 0 f q) (hl : isLw l) (hm : m < 8) (e0 : mI μ0 l 0 = nI m) (c : Cls) : PostC n T μ0 l m f (pE n T (c, q)) (X2_finish 90 l (nI c.1) (nI c.2.1) (nI c.2.2.1) (nI c.2.2.2) μ) := by
  obtain ⟨μ1, h1, e1⟩ := skip_c h
  have hn := h.n0
  have hs := h1.2.2.2.1
  obtain ⟨μ2, h2, e2⟩ := note_c h1 1 (nI (sk n T q)) (by decide)
  have e2 : X2_note 90 1 (nI (sk n T q)) μ1 = _ := e2
  unfold X2_finish pE
  rw [vo_90 h.ok, Option.bind_some, e1, Option.bind_some, gi_90 h1.ok, h1.2.2.1.2.2, Option.bind_some, gi_90 h1.ok, h1.2.1.1, Option.bind_some]
  by_cases y : sk n T q < n
  · have b := h1.b (i := sk n T q) (by omega)
    have c59 : (nI (T (sk n T q)) = 59) = (T (sk n T q) = 59) := n_eq (b := 59) (by omega) (by decide)
    rw [if_neg (nI_ge y (by omega)), r_90_3 h1.ok, Option.bind_some, Option.bind_some, h1.rd (by omega), Option.bind_some, vo_90 h1.ok]
    simp only [Option.bind_some, c59, e2]
    by_cases z : T (sk n T q) = 59
    · have h3 := h1.at' (sk n T q + 1) (by omega)
      rw [if_pos z, if_pos ⟨y, z⟩, Option.bind_some, gi_90 h1.ok, h1.2.2.1.1, Option.bind_some, if_pos (show nI 0 = (0 : Int32) from rfl), gi_90 h1.ok, h1.2.2.1.2.2, Option.bind_some, nI_add1, pi_90 h1.ok, Option.bind_some, vo_l h3.ok hl, Option.bind_some, add_c h3 hl hm (h3.l0 hl e0) c]
      exact ⟨_, h3, rfl⟩
    · rw [if_neg z, if_neg (fun w => z w.2), Option.bind_some, gi_90 h2.ok, h2.2.2.1.1, Option.bind_some, if_neg (show ¬ nI 1 = (0 : Int32) by decide), Option.bind_some]
      exact ⟨μ2, _, h2, by decide, rfl⟩
  · rw [if_pos (nI_le (by omega) (by omega)), Option.bind_some, vo_90 h1.ok, Option.bind_some, e2, Option.bind_some, Option.bind_some, if_neg (fun w => y w.1), gi_90 h2.ok, h2.2.2.1.1, Option.bind_some, if_neg (show ¬ nI 1 = (0 : Int32) by decide), Option.bind_some]
    exact ⟨μ2, _, h2, by decide, rfl⟩
/-- a continuation that leaves a fault as it is -/
def FK (n : Nat) (T : Nat → Nat) (μ0 : Mem) (K : Mem → Option Mem) : Prop := ∀ μ k f q, CP n T μ0 μ k f q → ¬ k = 0 → ∃ μ' q', CP n T μ0 μ' k f q' ∧ K μ = some μ'
theorem FK.fin (x2 x3 x4 x5 : Int32) : FK n T μ0 (fun μ => (vO 2 90 μ).bind fun _ => (X2_finish 90 l x2 x3 x4 x5 μ).bind fun μ' => some μ') := fun μ k f q h hk => by
  obtain ⟨μ', q', h', e⟩ := fin_cF (l := l) h hk x2 x3 x4 x5
  exact ⟨μ', q', h', by show (vO 2 90 μ).bind _ = _; rw [vo_90 h.ok, Option.bind_some, e, Option.bind_some]⟩
theorem FK.num (x1 x2 : Int32) {K : Int32 → Mem → Option Mem} (hK : FK n T μ0 (K 0)) : FK n T μ0 (fun μ => (vO 2 90 μ).bind fun _ => (X2_takeNumber 90 x1 x2 μ).bind fun z => K z.1 z.2) := fun μ k f q h hk => by
  obtain ⟨μ', q', h', e⟩ := hK μ k f q h hk
  exact ⟨μ', q', h', by show (vO 2 90 μ).bind _ = _; rw [vo_90 h.ok, Option.bind_some, num_cF x1 x2 h hk, Option.bind_some]; exact e⟩
theorem FK.need (w : Nat) {K : Mem → Option Mem} (hK : FK n T μ0 K) : FK n T μ0 (fun μ => (vO 2 90 μ).bind fun _ => (X2_needWord 90 w μ).bind fun z => K z) := fun μ k f q h hk => by
  obtain ⟨μ', q', h', e⟩ := hK μ k f q h hk
  exact ⟨μ', q', h', by show (vO 2 90 μ).bind _ = _; rw [vo_90 h.ok, Option.bind_some, need_cF w h hk, Option.bind_some]; exact e⟩
/-- a NUMBER, then the rest -/
theorem st_num {lo hi : Nat} (hlo : lo < 1000) (hhi : hi < 1000) {K : Int32 → Mem → Option Mem} {g : Nat × Nat → Flt ⊕ (Cls × Nat)} (h : CP n T μ0 μ 0 f q) (hF : ∀ v, FK n T μ0 (K v)) (hK : ∀ v q' μ', CP n T μ0 μ' 0 f q' → PostC n T μ0 l m f (g (v, q')) (K (nI v) μ')) : PostC n T μ0 l m f (sb (pN n T lo hi q) g) ((vO 2 90 μ).bind fun _ => (X2_takeNumber 90 (nI lo) (nI hi) μ).bind fun z => K z.1 z.2) := by
  have hc := num_c hlo hhi h
  rw [vo_90 h.ok, Option.bind_some]
  cases hp : pN n T lo hi q with
  | inl a =>
    rw [hp] at hc
    obtain ⟨μ', v, q', h', hk, e⟩ := hc
    obtain ⟨μ2, q2, h2, e2⟩ := hF v μ' _ _ _ h' hk
    rw [e, Option.bind_some]
    exact ⟨μ2, q2, h2, hk, e2⟩
  | inr a =>
    rw [hp] at hc
    obtain ⟨μ', h', e⟩ := hc
    rw [e, Option.bind_some]
    exact hK a.1 a.2 μ' h'
theorem st_need {w : Nat} (hw : w < 9) {K : Mem → Option Mem} {g : Nat → Flt ⊕ (Cls × Nat)} (h : CP n T μ0 μ 0 f q) (hF : FK n T μ0 K) (hK : ∀ q' μ', CP n T μ0 μ' 0 f q' → PostC n T μ0 l m f (g q') (K μ')) : PostC n T μ0 l m f (sb (pW n T w q) g) ((vO 2 90 μ).bind fun _ => (X2_needWord 90 w μ).bind fun z => K z) := by
  obtain ⟨hy, hn⟩ := need_c hw h
  rw [vo_90 h.ok, Option.bind_some]
  unfold pW
  by_cases z : wQ n T (sk n T q) w = true
  · obtain ⟨μ', h', e⟩ := hy z
    rw [if_pos z, e, Option.bind_some]
    exact hK _ μ' h'
  · obtain ⟨μ', h', e⟩ := hn z
    obtain ⟨μ2, q2, h2, e2⟩ := hF μ' _ _ _ h' (by decide)
    rw [if_neg z, e, Option.bind_some]
    exact ⟨μ2, q2, h2, by decide, e2⟩
theorem st_fin (h : CP n T μ0 μ 0 f q) (hl : isLw l) (hm : m < 8) (e0 : mI μ0 l 0 = nI m) (c : Cls) : PostC n T μ0 l m f (pE n T (c, q)) ((vO 2 90 μ).bind fun _ => (X2_finish 90 l (nI c.1) (nI c.2.1) (nI c.2.2.1) (nI c.2.2.2) μ).bind fun z => some z) := by
  have hc := fin_c h hl hm e0 c
  rw [vo_90 h.ok, Option.bind_some]
  have e : ∀ r : Option Mem, (r.bind fun z => some z) = r := fun r => by cases r <;> rfl
  rw [e]
  exact hc
theorem bind_id (r : Option Mem) : (r.bind fun z => some z) = r := by cases r <;> rfl
theorem most_cl (h : CP n T μ0 μ 0 f q) (hl : isLw l) (hm : m < 8) (e0 : mI μ0 l 0 = nI m) : PostC n T μ0 l m f (sb (pMost n T q) (pE n T)) ((vO 2 90 μ).bind fun _ => (X2_takeNumber 90 0 9 μ).bind fun z25 => (vO 2 90 z25.2).bind fun _ => (X2_needWord 90 6 z25.2).bind fun μ27 => (vO 2 90 μ27).bind fun _ => (X2_takeNumber 90 1 60 μ27).bind fun z29 => (vO 2 90 z29.2).bind fun _ => (X2_finish 90 l 3 z25.1 z29.1 0 z29.2).bind fun μ31 => some μ31) := by
  unfold pMost
  rw [sb_as]
  refine st_num (lo := 0) (hi := 9) (by decide) (by decide) h (K := fun v μ' => (vO 2 90 μ').bind fun _ => (X2_needWord 90 6 μ').bind fun μ27 => (vO 2 90 μ27).bind fun _ => (X2_takeNumber 90 1 60 μ27).bind fun z29 => (vO 2 90 z29.2).bind fun _ => (X2_finish 90 l 3 v z29.1 0 z29.2).bind fun μ31 => some μ31) (fun v => FK.need 6 (K := fun μ27 => (vO 2 90 μ27).bind fun _ => (X2_takeNumber 90 1 60 μ27).bind fun z29 => (vO 2 90 z29.2).bind fun _ => (X2_finish 90 l 3 v z29.1 0 z29.2).bind fun μ31 => some μ31) (FK.num 1 60 (K := fun x μ' => (vO 2 90 μ').bind fun _ => (X2_finish 90 l 3 v x 0 μ').bind fun μ31 => some μ31) (FK.fin 3 v 0 0))) (fun a q1 μ1 h1 => ?_)
  show PostC n T μ0 l m f (sb (sb (pW n T 6 q1) fun q2 => sb (pN n T 1 60 q2) fun b => .inr ((3, a, b.1, 0), b.2)) (pE n T)) _
  rw [sb_as]
  refine st_need (w := 6) (by decide) h1 (K := fun μ27 => (vO 2 90 μ27).bind fun _ => (X2_takeNumber 90 1 60 μ27).bind fun z29 => (vO 2 90 z29.2).bind fun _ => (X2_finish 90 l 3 (nI a) z29.1 0 z29.2).bind fun μ31 => some μ31) (FK.num 1 60 (K := fun x μ' => (vO 2 90 μ').bind fun _ => (X2_finish 90 l 3 (nI a) x 0 μ').bind fun μ31 => some μ31) (FK.fin 3 (nI a) 0 0)) (fun q2 μ2 h2 => ?_)
  rw [sb_as]
  refine st_num (lo := 1) (hi := 60) (by decide) (by decide) h2 (K := fun x μ' => (vO 2 90 μ').bind fun _ => (X2_finish 90 l 3 (nI a) x 0 μ').bind fun μ31 => some μ31) (fun v => FK.fin 3 (nI a) v 0) (fun b q3 μ3 h3 => ?_)
  exact st_fin h3 hl hm e0 (3, a, b, 0)
theorem always_cl (h : CP n T μ0 μ 0 f q) (hl : isLw l) (hm : m < 8) (e0 : mI μ0 l 0 = nI m) : PostC n T μ0 l m f (sb (pAlways n T q) (pE n T)) ((vO 2 90 μ).bind fun _ => (X2_needWord 90 8 μ).bind fun μ17 => (vO 2 90 μ17).bind fun _ => (X2_takeNumber 90 0 9 μ17).bind fun z19 => (vO 2 90 z19.2).bind fun _ => (X2_finish 90 l 4 z19.1 0 0 z19.2).bind fun μ21 => some μ21) := by
  unfold pAlways
  rw [sb_as]
  refine st_need (w := 8) (by decide) h (K := fun μ17 => (vO 2 90 μ17).bind fun _ => (X2_takeNumber 90 0 9 μ17).bind fun z19 => (vO 2 90 z19.2).bind fun _ => (X2_finish 90 l 4 z19.1 0 0 z19.2).bind fun μ21 => some μ21) (FK.num 0 9 (K := fun x μ' => (vO 2 90 μ').bind fun _ => (X2_finish 90 l 4 x 0 0 μ').bind fun μ31 => some μ31) (FK.fin 4 0 0 0)) (fun q1 μ1 h1 => ?_)
  rw [sb_as]
  refine st_num (lo := 0) (hi := 9) (by decide) (by decide) h1 (K := fun x μ' => (vO 2 90 μ').bind fun _ => (X2_finish 90 l 4 x 0 0 μ').bind fun μ31 => some μ31) (fun v => FK.fin 4 v 0 0) (fun a q2 μ2 h2 => ?_)
  exact st_fin h2 hl hm e0 (4, a, 0, 0)
theorem kind_cl (h : CP n T μ0 μ 0 f q) (hl : isLw l) (hm : m < 8) (e0 : mI μ0 l 0 = nI m) : PostC n T μ0 l m f (sb (pKind n T q) (pE n T)) ((vO 2 90 μ).bind fun _ => (X2_takeNumber 90 0 3 μ).bind fun z7 => (vO 2 90 z7.2).bind fun _ => (X2_needWord 90 4 z7.2).bind fun μ9 => (vO 2 90 μ9).bind fun _ => (X2_takeNumber 90 0 60 μ9).bind fun z11 => (vO 2 90 z11.2).bind fun _ => (X2_finish 90 l 2 z7.1 z11.1 0 z11.2).bind fun μ13 => some μ13) := by
  unfold pKind
  rw [sb_as]
  refine st_num (lo := 0) (hi := 3) (by decide) (by decide) h (K := fun v μ' => (vO 2 90 μ').bind fun _ => (X2_needWord 90 4 μ').bind fun μ27 => (vO 2 90 μ27).bind fun _ => (X2_takeNumber 90 0 60 μ27).bind fun z29 => (vO 2 90 z29.2).bind fun _ => (X2_finish 90 l 2 v z29.1 0 z29.2).bind fun μ31 => some μ31) (fun v => FK.need 4 (K := fun μ27 => (vO 2 90 μ27).bind fun _ => (X2_takeNumber 90 0 60 μ27).bind fun z29 => (vO 2 90 z29.2).bind fun _ => (X2_finish 90 l 2 v z29.1 0 z29.2).bind fun μ31 => some μ31) (FK.num 0 60 (K := fun x μ' => (vO 2 90 μ').bind fun _ => (X2_finish 90 l 2 v x 0 μ').bind fun μ31 => some μ31) (FK.fin 2 v 0 0))) (fun a q1 μ1 h1 => ?_)
  show PostC n T μ0 l m f (sb (sb (pW n T 4 q1) fun q2 => sb (pN n T 0 60 q2) fun b => .inr ((2, a, b.1, 0), b.2)) (pE n T)) _
  rw [sb_as]
  refine st_need (w := 4) (by decide) h1 (K := fun μ27 => (vO 2 90 μ27).bind fun _ => (X2_takeNumber 90 0 60 μ27).bind fun z29 => (vO 2 90 z29.2).bind fun _ => (X2_finish 90 l 2 (nI a) z29.1 0 z29.2).bind fun μ31 => some μ31) (FK.num 0 60 (K := fun x μ' => (vO 2 90 μ').bind fun _ => (X2_finish 90 l 2 (nI a) x 0 μ').bind fun μ31 => some μ31) (FK.fin 2 (nI a) 0 0)) (fun q2 μ2 h2 => ?_)
  rw [sb_as]
  refine st_num (lo := 0) (hi := 60) (by decide) (by decide) h2 (K := fun x μ' => (vO 2 90 μ').bind fun _ => (X2_finish 90 l 2 (nI a) x 0 μ').bind fun μ31 => some μ31) (fun v => FK.fin 2 (nI a) v 0) (fun b q3 μ3 h3 => ?_)
  exact st_fin h3 hl hm e0 (2, a, b, 0)
/-- behind a WAY's number: 'state' or the end -/
theorem state_cl (h : CP n T μ0 μ 0 f q) (hl : isLw l) (hm : m < 8) (e0 : mI μ0 l 0 = nI m) (a : Nat) : PostC n T μ0 l m f (sb (if sk n T q < n ∧ isL (T (sk n T q)) = true then sb (pW n T 2 q) fun q1 => sb (pN n T 0 3 q1) fun b => sb (pN n T 0 100 b.2) fun c => .inr ((1, a, b.1, c.1), c.2) else .inr ((0, a, 0, 0), sk n T q)) (pE n T)) ((vO 2 90 μ).bind fun _ => (X2_takeWord 90 2 μ).bind fun z17 => ((if z17.1 = 0 then (vO 2 90 z17.2).bind fun _ => (X2_finish 90 l 0 (nI a) 0 0 z17.2).bind fun μ20 => some μ20 else (vO 2 90 z17.2).bind fun _ => (X2_takeNumber 90 0 3 z17.2).bind fun z22 => (vO 2 90 z22.2).bind fun _ => (X2_takeNumber 90 0 100 z22.2).bind fun z24 => (vO 2 90 z24.2).bind fun _ => (X2_finish 90 l 1 (nI a) z22.1 z24.1 z24.2).bind fun μ26 => some μ26) : Option Mem).bind fun z27 => some z27) := by
  obtain ⟨μ1, h1, e1⟩ := word_c (w := 2) (by decide) h
  rw [vo_90 h.ok, Option.bind_some, e1, Option.bind_some, bind_id]
  have hn := h.n0
  by_cases z : wQ n T (sk n T q) 2 = true
  · have zl : sk n T q < n ∧ isL (T (sk n T q)) = true := by
      have := of_decide_eq_true z
      have hw : we n T (sk n T q) ≠ sk n T q := by
        have h2 : wL 2 = 5 := rfl
        omega
      by_cases y : sk n T q < n ∧ isL (T (sk n T q)) = true
      · exact y
      · exact absurd (by unfold we; rw [scn_eq, if_neg y]) hw
    rw [if_pos z] at h1
    rw [if_pos z, if_pos zl, if_neg (show ¬ (1 : Int32) = 0 by decide)]
    unfold pW
    rw [if_pos z]
    show PostC n T μ0 l m f (sb (sb (pN n T 0 3 (we n T (sk n T q))) fun b => sb (pN n T 0 100 b.2) fun c => .inr ((1, a, b.1, c.1), c.2)) (pE n T)) _
    rw [sb_as]
    refine st_num (lo := 0) (hi := 3) (by decide) (by decide) h1 (K := fun v μ' => (vO 2 90 μ').bind fun _ => (X2_takeNumber 90 0 100 μ').bind fun z24 => (vO 2 90 z24.2).bind fun _ => (X2_finish 90 l 1 (nI a) v z24.1 z24.2).bind fun μ26 => some μ26) (fun v => FK.num 0 100 (K := fun x μ' => (vO 2 90 μ').bind fun _ => (X2_finish 90 l 1 (nI a) v x μ').bind fun μ31 => some μ31) (FK.fin 1 (nI a) v 0)) (fun b q2 μ2 h2 => ?_)
    rw [sb_as]
    refine st_num (lo := 0) (hi := 100) (by decide) (by decide) h2 (K := fun x μ' => (vO 2 90 μ').bind fun _ => (X2_finish 90 l 1 (nI a) (nI b) x μ').bind fun μ31 => some μ31) (fun v => FK.fin 1 (nI a) (nI b) v) (fun c q3 μ3 h3 => ?_)
    exact st_fin h3 hl hm e0 (1, a, b, c)
  · rw [if_neg z] at h1
    rw [if_neg z, if_pos (show (0 : Int32) = 0 from rfl)]
    have hf := st_fin h1 hl hm e0 (0, a, 0, 0)
    have ep : pE n T ((0, a, 0, 0), sk n T q) = pE n T ((0, a, 0, 0), q) := by
      unfold pE
      rw [show sk n T (sk n T q) = sk n T q from sk_idem]
    by_cases y : sk n T q < n ∧ isL (T (sk n T q)) = true
    · have : pE n T ((0, a, 0, 0), q) = .inl (1, sk n T q) := by
        unfold pE
        rw [if_neg (fun w => by
          have y2 := y.2
          unfold isL at y2
          rw [decide_eq_true_eq] at y2
          have w2 : T (sk n T q) = 59 := w.2
          omega)]
      rw [if_pos y]
      unfold pW
      rw [if_neg z]
      rw [ep, this] at hf
      exact hf
    · rw [if_neg y]
      exact hf
theorem FK.state (a : Int32) : FK n T μ0 (fun μ => (vO 2 90 μ).bind fun _ => (X2_takeWord 90 2 μ).bind fun z17 => ((if z17.1 = 0 then (vO 2 90 z17.2).bind fun _ => (X2_finish 90 l 0 a 0 0 z17.2).bind fun μ20 => some μ20 else (vO 2 90 z17.2).bind fun _ => (X2_takeNumber 90 0 3 z17.2).bind fun z22 => (vO 2 90 z22.2).bind fun _ => (X2_takeNumber 90 0 100 z22.2).bind fun z24 => (vO 2 90 z24.2).bind fun _ => (X2_finish 90 l 1 a z22.1 z24.1 z24.2).bind fun μ26 => some μ26) : Option Mem).bind fun z27 => some z27) := fun μ k f q h hk => by
  obtain ⟨μ', q', h', e⟩ := FK.fin (l := l) 0 a 0 0 μ k f q h hk
  refine ⟨μ', q', h', ?_⟩
  show (vO 2 90 μ).bind _ = _
  rw [vo_90 h.ok, Option.bind_some, word_cF 2 h hk, Option.bind_some, bind_id, if_pos rfl]
  exact e
theorem never_cl (h : CP n T μ0 μ 0 f q) (hl : isLw l) (hm : m < 8) (e0 : mI μ0 l 0 = nI m) : PostC n T μ0 l m f (sb (pNever n T q) (pE n T)) (X2_readNever 90 l μ) := by
  obtain ⟨μ1, h1, e1⟩ := word_c (w := 1) (by decide) h
  unfold X2_readNever pNever
  rw [vo_90 h.ok, Option.bind_some, e1, Option.bind_some, bind_id]
  by_cases z : wQ n T (sk n T q) 1 = true
  · rw [if_pos z] at h1
    rw [if_pos z, if_pos z, if_neg (show ¬ (1 : Int32) = 0 by decide)]
    unfold pWay
    rw [sb_as]
    exact st_num (lo := 0) (hi := 3) (by decide) (by decide) h1 (K := fun v μ' => (vO 2 90 μ').bind fun _ => (X2_takeWord 90 2 μ').bind fun z17 => ((if z17.1 = 0 then (vO 2 90 z17.2).bind fun _ => (X2_finish 90 l 0 v 0 0 z17.2).bind fun μ20 => some μ20 else (vO 2 90 z17.2).bind fun _ => (X2_takeNumber 90 0 3 z17.2).bind fun z22 => (vO 2 90 z22.2).bind fun _ => (X2_takeNumber 90 0 100 z22.2).bind fun z24 => (vO 2 90 z24.2).bind fun _ => (X2_finish 90 l 1 v z22.1 z24.1 z24.2).bind fun μ26 => some μ26) : Option Mem).bind fun z27 => some z27) (fun v => FK.state v) (fun a q1 μ2 h2 => state_cl h2 hl hm e0 a)
  · rw [if_neg z] at h1
    rw [if_neg z, if_neg z, if_pos (show (0 : Int32) = 0 from rfl), sb_as]
    have ew : pW n T 3 q = pW n T 3 (sk n T q) := by
      unfold pW
      rw [show sk n T (sk n T q) = sk n T q from sk_idem]
    rw [ew]
    refine st_need (w := 3) (by decide) h1 (K := fun μ5 => (vO 2 90 μ5).bind fun _ => (X2_takeNumber 90 0 3 μ5).bind fun z7 => (vO 2 90 z7.2).bind fun _ => (X2_needWord 90 4 z7.2).bind fun μ9 => (vO 2 90 μ9).bind fun _ => (X2_takeNumber 90 0 60 μ9).bind fun z11 => (vO 2 90 z11.2).bind fun _ => (X2_finish 90 l 2 z7.1 z11.1 0 z11.2).bind fun μ13 => some μ13) ?_ (fun q1 μ2 h2 => kind_cl h2 hl hm e0)
    exact FK.num 0 3 (K := fun v μ' => (vO 2 90 μ').bind fun _ => (X2_needWord 90 4 μ').bind fun μ27 => (vO 2 90 μ27).bind fun _ => (X2_takeNumber 90 0 60 μ27).bind fun z29 => (vO 2 90 z29.2).bind fun _ => (X2_finish 90 l 2 v z29.1 0 z29.2).bind fun μ31 => some μ31) (FK.need 4 (K := fun μ27 => (vO 2 90 μ27).bind fun _ => (X2_takeNumber 90 0 60 μ27).bind fun z29 => (vO 2 90 z29.2).bind fun _ => (X2_finish 90 l 2 0 z29.1 0 z29.2).bind fun μ31 => some μ31) (FK.num 0 60 (K := fun x μ' => (vO 2 90 μ').bind fun _ => (X2_finish 90 l 2 0 x 0 μ').bind fun μ31 => some μ31) (FK.fin 2 0 0 0)))
theorem never_F (h : CP n T μ0 μ k f q) (hk : ¬ k = 0) : ∃ μ' q', CP n T μ0 μ' k f q' ∧ X2_readNever 90 l μ = some μ' := by
  obtain ⟨μ', q', h', e⟩ := FK.num 0 3 (K := fun v μ' => (vO 2 90 μ').bind fun _ => (X2_needWord 90 4 μ').bind fun μ27 => (vO 2 90 μ27).bind fun _ => (X2_takeNumber 90 0 60 μ27).bind fun z29 => (vO 2 90 z29.2).bind fun _ => (X2_finish 90 l 2 v z29.1 0 z29.2).bind fun μ31 => some μ31) (FK.need 4 (K := fun μ27 => (vO 2 90 μ27).bind fun _ => (X2_takeNumber 90 0 60 μ27).bind fun z29 => (vO 2 90 z29.2).bind fun _ => (X2_finish 90 l 2 0 z29.1 0 z29.2).bind fun μ31 => some μ31) (FK.num 0 60 (K := fun x μ' => (vO 2 90 μ').bind fun _ => (X2_finish 90 l 2 0 x 0 μ').bind fun μ31 => some μ31) (FK.fin 2 0 0 0))) μ k f q h hk
  refine ⟨μ', q', h', ?_⟩
  unfold X2_readNever
  rw [vo_90 h.ok, Option.bind_some, word_cF 1 h hk, Option.bind_some, bind_id, if_pos rfl]
  show (vO 2 90 μ).bind _ = _
  rw [vo_90 h.ok, Option.bind_some, need_cF 3 h hk, Option.bind_some]
  exact e
theorem ninth_c (h : CP n T μ0 μ 0 f q) (hl : isLw l) (hm8 : m ≤ 8) (e0 : mI μ0 l 0 = nI m) (s : Nat) : (m < 8 → X2_refuseNinth 90 l (nI s) μ = some μ) ∧ (¬ m < 8 → ∃ μ', CP n T μ0 μ' 3 (nI s) q ∧ X2_refuseNinth 90 l (nI s) μ = some μ') := by
  have e := h.l0 hl e0
  have c8 : (nI m < 8) = (m < 8) := n_lt (b := 8) (by omega) (by decide)
  refine ⟨fun z => ?_, fun z => ?_⟩
  · unfold X2_refuseNinth
    rw [gi_l h.ok hl, e, Option.bind_some, if_pos (by rw [c8]; exact z), Option.bind_some]
  · obtain ⟨μ', h', e'⟩ := note_c h 3 (nI s) (by decide)
    have e' : X2_note 90 3 (nI s) μ = _ := e'
    refine ⟨μ', h', ?_⟩
    unfold X2_refuseNinth
    rw [gi_l h.ok hl, e, Option.bind_some, if_neg (by rw [c8]; exact z), vo_90 h.ok, Option.bind_some, e', Option.bind_some, Option.bind_some]
theorem clause_c (h : CP n T μ0 μ 0 f q) (hsk : sk n T q = q) (hl : isLw l) (hm8 : m ≤ 8) (e0 : mI μ0 l 0 = nI m) : PostC n T μ0 l m f (pClause n T m q) (X2_readClause 90 l μ) := by
  obtain ⟨μ1, h1, e1⟩ := word_c (w := 0) (by decide) h
  rw [hsk] at h1 e1
  unfold X2_readClause pClause pHead
  rw [gi_90 h.ok, h.2.2.1.2.2, Option.bind_some, vo_90 h.ok, Option.bind_some, e1, Option.bind_some, bind_id]
  by_cases z0 : wQ n T q 0 = true
  · rw [if_pos z0] at h1
    rw [if_pos z0, if_pos z0, if_neg (show ¬ (1 : Int32) = 0 by decide), vo_90 h1.ok, Option.bind_some]
    obtain ⟨n1, n2⟩ := ninth_c h1 hl hm8 e0 q
    by_cases y : m < 8
    · rw [if_pos y, n1 y, Option.bind_some, vo_90 h1.ok, Option.bind_some, bind_id]
      exact never_cl h1 hl y e0
    · obtain ⟨μ2, h2, e2⟩ := n2 y
      obtain ⟨μ3, q3, h3, e3⟩ := never_F (l := l) h2 (by decide)
      rw [if_neg y, e2, Option.bind_some, vo_90 h2.ok, Option.bind_some, bind_id]
      exact ⟨μ3, q3, h3, by decide, e3⟩
  · rw [if_neg z0] at h1
    obtain ⟨μ2, h2, e2⟩ := word_c (w := 5) (by decide) h1
    rw [hsk] at h2 e2
    rw [if_neg z0, if_neg z0, if_pos (show (0 : Int32) = 0 from rfl), vo_90 h1.ok, Option.bind_some, e2, Option.bind_some]
    by_cases z5 : wQ n T q 5 = true
    · rw [if_pos z5] at h2
      rw [if_pos z5, if_pos z5, if_neg (show ¬ (1 : Int32) = 0 by decide), vo_90 h2.ok, Option.bind_some]
      obtain ⟨n1, n2⟩ := ninth_c h2 hl hm8 e0 q
      by_cases y : m < 8
      · rw [if_pos y, n1 y, Option.bind_some]
        exact most_cl h2 hl y e0
      · obtain ⟨μ3, h3, e3⟩ := n2 y
        rw [if_neg y, e3, Option.bind_some]
        obtain ⟨μ4, q4, h4, e4⟩ := FK.num 0 9 (K := fun v μ' => (vO 2 90 μ').bind fun _ => (X2_needWord 90 6 μ').bind fun μ27 => (vO 2 90 μ27).bind fun _ => (X2_takeNumber 90 1 60 μ27).bind fun z29 => (vO 2 90 z29.2).bind fun _ => (X2_finish 90 l 3 v z29.1 0 z29.2).bind fun μ31 => some μ31) (FK.need 6 (K := fun μ27 => (vO 2 90 μ27).bind fun _ => (X2_takeNumber 90 1 60 μ27).bind fun z29 => (vO 2 90 z29.2).bind fun _ => (X2_finish 90 l 3 0 z29.1 0 z29.2).bind fun μ31 => some μ31) (FK.num 1 60 (K := fun x μ' => (vO 2 90 μ').bind fun _ => (X2_finish 90 l 3 0 x 0 μ').bind fun μ31 => some μ31) (FK.fin 3 0 0 0))) μ3 3 (nI q) _ h3 (by decide)
        exact ⟨μ4, q4, h4, by decide, e4⟩
    · rw [if_neg z5] at h2
      obtain ⟨μ3, h3, e3⟩ := word_c (w := 7) (by decide) h2
      rw [hsk] at h3 e3
      rw [if_neg z5, if_neg z5, if_pos (show (0 : Int32) = 0 from rfl), vo_90 h2.ok, Option.bind_some, e3, Option.bind_some]
      by_cases z7 : wQ n T q 7 = true
      · rw [if_pos z7] at h3
        rw [if_pos z7, if_pos z7, if_neg (show ¬ (1 : Int32) = 0 by decide), vo_90 h3.ok, Option.bind_some]
        obtain ⟨n1, n2⟩ := ninth_c h3 hl hm8 e0 q
        by_cases y : m < 8
        · rw [if_pos y, n1 y, Option.bind_some]
          exact always_cl h3 hl y e0
        · obtain ⟨μ4, h4, e4⟩ := n2 y
          rw [if_neg y, e4, Option.bind_some]
          obtain ⟨μ5, q5, h5, e5⟩ := FK.need 8 (K := fun μ17 => (vO 2 90 μ17).bind fun _ => (X2_takeNumber 90 0 9 μ17).bind fun z19 => (vO 2 90 z19.2).bind fun _ => (X2_finish 90 l 4 z19.1 0 0 z19.2).bind fun μ21 => some μ21) (FK.num 0 9 (K := fun x μ' => (vO 2 90 μ').bind fun _ => (X2_finish 90 l 4 x 0 0 μ').bind fun μ31 => some μ31) (FK.fin 4 0 0 0)) μ4 3 (nI q) _ h4 (by decide)
          exact ⟨μ5, q5, h5, by decide, e5⟩
      · rw [if_neg z7] at h3
        obtain ⟨μ4, h4, e4⟩ := note_c h3 1 (nI q) (by decide)
        have e4 : X2_note 90 1 (nI q) μ3 = _ := e4
        rw [if_neg z7, if_neg z7, if_pos (show (0 : Int32) = 0 from rfl), gi_90 h3.ok, h3.2.2.1.2.2, Option.bind_some, vo_90 h3.ok, Option.bind_some, e4, Option.bind_some]
        exact ⟨μ4, _, h4, by decide, rfl⟩
end CC
end
section
/-! ===== the reference reads the text ===== -/
def FB (μ : Mem) (m : Nat) (μ' : Mem) : Prop := Ok μ' ∧ mR μ' = mR μ ∧ ∀ a j, ¬ (a = 134 ∧ (j = 35 ∨ j = 36 ∨ j = 38 ∨ j = 39)) → ¬ (161 ≤ a ∧ a ≤ 164 ∧ j = m) → mI μ' a j = mI μ a j
def STm (μ : Mem) (n : Nat) (T : Nat → Nat) : Prop := mI μ 134 34 = nI n ∧ n ≤ 160 ∧ ∀ i, i < 160 → mI μ 165 i = nI (T i) ∧ T i ≤ 255
def MB (n : Nat) (T : Nat → Nat) (μ0 : Mem) (m : Nat) (μ : Mem) (f : Int32) (q : Nat) : Prop := FB μ0 m μ ∧ STm μ n T ∧ (mI μ 134 35 = f ∧ mI μ 134 36 = nI q) ∧ q ≤ n
def Kp (μ μ' : Mem) : Prop := ∀ a, 161 ≤ a ∧ a ≤ 164 → mI μ' a = mI μ a
theorem Kp.rf {μ : Mem} : Kp μ μ := fun _ _ => rfl
theorem Kp.tr {μ μ' μ'' : Mem} (h : Kp μ μ') (h2 : Kp μ' μ'') : Kp μ μ'' := fun a q => (h2 a q).trans (h a q)
theorem Kp.w {μ : Mem} {k : Nat} {v : Int32} : Kp μ (wI μ 134 k v) := fun a q => row_ne (by omega)
section MR
variable {n : Nat} {T : Nat → Nat} {μ0 μ : Mem} {m q : Nat} {f : Int32}
theorem MB.ok (h : MB n T μ0 m μ f q) : Ok μ := h.1.1
theorem MB.rd (h : MB n T μ0 m μ f q) {i : Nat} (hi : i < 160) : aI 165 (nI i) μ = some (nI (T i)) := by rw [ai_165 h.ok hi, (h.2.1.2.2 i hi).1]
theorem MB.b (h : MB n T μ0 m μ f q) {i : Nat} (hi : i < 160) : T i ≤ 255 := (h.2.1.2.2 i hi).2
theorem MB.n0 (h : MB n T μ0 m μ f q) : n ≤ 160 := h.2.1.2.1
theorem MB.w (h : MB n T μ0 m μ f q) (j : Nat) (v f' : Int32) (q' : Nat) (hj : j = 35 ∨ j = 36 ∨ j = 38 ∨ j = 39) (e1 : mI (wI μ 134 j v) 134 35 = f') (e2 : mI (wI μ 134 j v) 134 36 = nI q') (hq : q' ≤ n) : MB n T μ0 m (wI μ 134 j v) f' q' := by
  obtain ⟨⟨o, r, fr⟩, ⟨t1, t2, t3⟩, -, -⟩ := h
  refine ⟨⟨o, r, fun a i z z2 => ?_⟩, ⟨(fld_ne (by omega)).trans t1, t2, fun i hi => ?_⟩, ⟨e1, e2⟩, hq⟩
  · rw [fld_ne (by omega)]
    exact fr a i z z2
  · rw [row_ne (by omega)]
    exact t3 i hi
theorem MB.at' (h : MB n T μ0 m μ f q) (q' : Nat) (hq : q' ≤ n) : MB n T μ0 m (wI μ 134 36 (nI q')) f q' := h.w 36 _ _ _ (by omega) ((fld_ne (by omega)).trans h.2.2.1.1) fld_eq hq
theorem MB.pl (h : MB n T μ0 m μ f q) (x : Int32) : MB n T μ0 m (wI μ 134 35 x) x q := h.w 35 _ _ _ (by omega) fld_eq ((fld_ne (by omega)).trans h.2.2.1.2) h.2.2.2
theorem MB.we (h : MB n T μ0 m μ f q) (x : Int32) : MB n T μ0 m (wI μ 134 38 x) f q := h.w 38 _ _ _ (by omega) ((fld_ne (by omega)).trans h.2.2.1.1) ((fld_ne (by omega)).trans h.2.2.1.2) h.2.2.2
theorem MB.nm (h : MB n T μ0 m μ f q) (x : Int32) : MB n T μ0 m (wI μ 134 39 x) f q := h.w 39 _ _ _ (by omega) ((fld_ne (by omega)).trans h.2.2.1.1) ((fld_ne (by omega)).trans h.2.2.1.2) h.2.2.2
theorem MB.wj (h : MB n T μ0 m μ f q) (k : Nat) (x : Int64) : MB n T μ0 m (wJ μ 134 k x) f q := h
theorem MB.fr (h : MB n T μ0 m μ f q) (a : Nat) (x : Int32) (ha : 161 ≤ a ∧ a ≤ 164) : MB n T μ0 m (wI μ a m x) f q := by
  obtain ⟨⟨o, r, fr⟩, ⟨t1, t2, t3⟩, ⟨f1, f2⟩, hq⟩ := h
  refine ⟨⟨o, r, fun b i z z2 => ?_⟩, ⟨(fld_ne (by omega)).trans t1, t2, fun i hi => ?_⟩, ⟨(fld_ne (by omega)).trans f1, (fld_ne (by omega)).trans f2⟩, hq⟩
  · rw [fld_ne (by omega)]
    exact fr b i z z2
  · rw [row_ne (by omega)]
    exact t3 i hi
theorem here0_m : ∀ d c μ q, n - q = d → MB n T μ0 m μ f q → ∃ μ', MB n T μ0 m μ' f (sk n T q) ∧ Kp μ μ' ∧ X11_here_L0 134 (c + d + 1) μ = some μ' := by
  intro d
  induction d with
  | zero =>
    intro c μ q hd h
    have hn := h.n0
    refine ⟨μ, ?_, Kp.rf, ?_⟩
    · rw [show sk n T q = q by unfold sk; rw [scn_eq, if_neg (by omega)]]
      exact h
    · rw [X11_here_L0, gi_134 h.ok, h.2.2.1.2, Option.bind_some, gi_134 h.ok, h.2.1.1, Option.bind_some, if_pos (nI_le (by omega) (by have := h.2.2.2; omega))]
  | succ d ih =>
    intro c μ q hd h
    have hn := h.n0
    have hq := h.2.2.2
    have b := h.b (i := q) (by omega)
    rw [show c + (d + 1) + 1 = c + d + 1 + 1 by omega, X11_here_L0, gi_134 h.ok, h.2.2.1.2, Option.bind_some, gi_134 h.ok, h.2.1.1, Option.bind_some, if_neg (nI_ge (by omega) (by omega)), r_134_33 h.ok, Option.bind_some, Option.bind_some, h.rd (by omega), Option.bind_some]
    simp only [isB_n b]
    by_cases z : isB (T q) = true
    · obtain ⟨μ', h', kp, e⟩ := ih c (wI μ 134 36 (nI (q + 1))) (q + 1) (by omega) (h.at' (q + 1) (by omega))
      refine ⟨μ', ?_, Kp.w.tr kp, ?_⟩
      · rw [show sk n T q = sk n T (q + 1) by unfold sk; rw [scn_eq, if_pos ⟨by omega, z⟩]]
        exact h'
      · rw [if_pos z, Option.bind_some, nI_add1, pi_134 h.ok, Option.bind_some]
        exact e
    · refine ⟨μ, ?_, Kp.rf, ?_⟩
      · rw [show sk n T q = q by unfold sk; rw [scn_eq, if_neg (fun w => z w.2)]]
        exact h
      · rw [if_neg z]
def chV (n : Nat) (T : Nat → Nat) (s : Nat) : Int32 := if s < n then nI (T s) else -1
theorem here_m (h : MB n T μ0 m μ f q) : ∃ μ', MB n T μ0 m μ' f (sk n T q) ∧ Kp μ μ' ∧ X11_here 134 μ = some (chV n T (sk n T q), μ') := by
  have hn := h.n0
  obtain ⟨μ', h', kp, e⟩ := here0_m (n - q) (99999 - (n - q)) μ q rfl h
  have hs := h'.2.2.2
  refine ⟨μ', h', kp, ?_⟩
  rw [show 99999 - (n - q) + (n - q) + 1 = FU by unfold FU; omega] at e
  unfold X11_here chV
  rw [e, Option.bind_some, gi_134 h'.ok, h'.2.2.1.2, Option.bind_some, gi_134 h'.ok, h'.2.1.1, Option.bind_some]
  by_cases y : sk n T q < n
  · rw [if_neg (nI_ge y (by omega)), if_pos y, r_134_33 h'.ok, Option.bind_some, Option.bind_some, h'.rd (by omega), Option.bind_some, Option.bind_some]
  · rw [if_pos (nI_le (by omega) (by omega)), if_neg y, Option.bind_some]
/-- letters and figures, as the reference looks at them -/
theorem in_ch {s lo hi : Nat} (h : MB n T μ0 m μ f q) (hlo : 0 < lo) (hlo2 : lo < 1000) (hhi : hi < 1000) (hs : s ≤ n) : (X11_in (chV n T s).toInt64 (nI lo).toInt64 (nI hi).toInt64 = 0) = ¬ (s < n ∧ lo ≤ T s ∧ T s ≤ hi) := by
  have hn := h.n0
  rw [in_eq]
  unfold chV X10_within
  by_cases y : s < n
  · have b := h.b (i := s) (by omega)
    rw [if_pos y]
    simp only [n_lt (show T s < 2 ^ 31 by omega) (show lo < 2 ^ 31 by omega), n_lt (show hi < 2 ^ 31 by omega) (show T s < 2 ^ 31 by omega)]
    by_cases z1 : T s < lo
    · rw [if_pos z1]
      exact propext ⟨fun _ w => by omega, fun _ => rfl⟩
    · rw [if_neg z1]
      by_cases z2 : hi < T s
      · rw [if_pos z2]
        exact propext ⟨fun _ w => by omega, fun _ => rfl⟩
      · rw [if_neg z2]
        exact propext ⟨fun w => absurd w (by decide), fun w => absurd ⟨y, by omega, by omega⟩ w⟩
  · rw [if_neg y, if_pos]
    · exact propext ⟨fun _ w => y w.1, fun _ => rfl⟩
    · rw [Int32.lt_iff_toInt_lt, nI_toInt (by omega)]
      have : (-1 : Int32).toInt = -1 := rfl
      omega
theorem word18_m {s : Nat} : ∀ d c μ p, n - p = d → s ≤ p → p ≤ n → MB n T μ0 m μ f q → (∀ i, s ≤ i → i < p → isL (T i) = true) → mI μ 134 38 = nI p → mJ μ 134 37 = lN (wcN T s (p - s)) → ∃ μ', MB n T μ0 m μ' f q ∧ Kp μ μ' ∧ mI μ' 134 38 = nI (we n T p) ∧ mJ μ' 134 37 = lN (wcN T s (we n T p - s)) ∧ X11_readWord_L18 134 (c + d + 1) μ = some μ' := by
  intro d
  induction d with
  | zero =>
    intro c μ p hd hsp hp h hl e1 e2
    have hn := h.n0
    have ew : we n T p = p := by unfold we; rw [scn_eq, if_neg (by omega)]
    rw [ew]
    refine ⟨μ, h, Kp.rf, e1, e2, ?_⟩
    rw [X11_readWord_L18, gi_134 h.ok, e1, Option.bind_some, gi_134 h.ok, h.2.1.1, Option.bind_some, if_pos (nI_le (by omega) (by omega))]
  | succ d ih =>
    intro c μ p hd hsp hp h hl e1 e2
    have hn := h.n0
    have b := h.b (i := p) (by omega)
    have hT : ∀ i, i < p - s → 97 ≤ T (s + i) ∧ T (s + i) ≤ 122 := fun i hi => by
      have := hl (s + i) (by omega) (by omega)
      unfold isL at this
      rw [decide_eq_true_eq] at this
      exact this
    have wb := (wcN_bd (p - s) hT).1
    have ci : (X11_in (nI (T p)).toInt64 97 122 = 0) = ¬ (p < n ∧ 97 ≤ T p ∧ T p ≤ 122) := by
      have := in_ch (s := p) (lo := 97) (hi := 122) h (by decide) (by decide) (by decide) hp
      unfold chV at this
      rw [if_pos (show p < n by omega)] at this
      exact this
    rw [show c + (d + 1) + 1 = c + d + 1 + 1 by omega, X11_readWord_L18, gi_134 h.ok, e1, Option.bind_some, gi_134 h.ok, h.2.1.1, Option.bind_some, if_neg (nI_ge (by omega) (by omega)), r_134_33 h.ok, Option.bind_some, Option.bind_some, h.rd (by omega), Option.bind_some]
    simp only [ci]
    by_cases z : isL (T p) = true
    · have z' := z
      unfold isL at z'
      rw [decide_eq_true_eq] at z'
      have cz : (lg_cmp (lN (wcN T s (p - s))) 10000000000 ≤ 0) = (wcN T s (p - s) ≤ 10000000000) := propext ((lg_cmp_le _ _).trans (pk_lLE (b := 10000000000) (by omega) (by decide)))
      have gj : gJ 11 37 134 μ = some (lN (wcN T s (p - s))) := by rw [gJ_eq (a := 134) h.ok (by decide) rfl, e2]
      have ev : ((if lg_cmp (lN (wcN T s (p - s))) 10000000000 ≤ 0 then (some (lN (wcN T s (p - s)))).bind fun v10 => (some 165).bind fun v11 => (some (nI p)).bind fun v12 => (aI v11 v12 μ).bind fun v13 => some (27 * v10 + v13.toInt64 - 96) else some 20000000000 : Option Int64)) = some (lN (wcN T s (p + 1 - s))) := by
        simp only [cz]
        rw [show p + 1 - s = p - s + 1 by omega, wcN, show s + (p - s) = p by omega]
        by_cases y : wcN T s (p - s) ≤ 10000000000
        · rw [if_pos y, if_pos y, Option.bind_some, Option.bind_some, Option.bind_some, h.rd (by omega), Option.bind_some, nI_l (by omega), show (27 : Int64) = lN 27 from rfl, lN_mul, lN_add, show (96 : Int64) = lN 96 from rfl, lN_sub (by omega)]
        · rw [if_neg y, if_neg y]
          rfl
      have h2 : MB n T μ0 m (wI (wJ μ 134 37 (lN (wcN T s (p + 1 - s)))) 134 38 (nI (p + 1))) f q := (h.wj 37 _).we _
      obtain ⟨μ', h', kp, f1, f2, e⟩ := ih c _ (p + 1) (by omega) (by omega) (by omega) h2 (fun i i1 i2 => by
        by_cases y : i = p
        · subst y
          exact z
        · exact hl i i1 (by omega)) fld_eq (by rw [mJ_wI, mJ_wJ, if_pos ⟨rfl, rfl⟩])
      have ew : we n T p = we n T (p + 1) := by
        show scn isL n T p = scn isL n T (p + 1)
        rw [scn_eq, if_pos ⟨by omega, z⟩]
      rw [ew]
      refine ⟨μ', h', (show Kp μ (wI (wJ μ 134 37 (lN (wcN T s (p + 1 - s)))) 134 38 (nI (p + 1))) from fun a q => row_ne (by omega)).tr kp, f1, f2, ?_⟩
      rw [if_neg (fun w => w ⟨by omega, by omega, by omega⟩), gj, Option.bind_some]
      rw [ev, Option.bind_some, pJ_eq (a := 134) h.ok (by decide) rfl, Option.bind_some, gi_134 h.ok.wJ, show mI (wJ μ 134 37 (lN (wcN T s (p + 1 - s)))) 134 38 = nI p from e1, Option.bind_some, nI_add1, pi_134 h.ok.wJ, Option.bind_some]
      exact e
    · have z' := z
      unfold isL at z'
      rw [decide_eq_true_eq] at z'
      have ew : we n T p = p := by unfold we; rw [scn_eq, if_neg (fun w => z w.2)]
      rw [ew]
      refine ⟨μ, h, Kp.rf, e1, e2, ?_⟩
      rw [if_pos (fun w => z' w.2)]
theorem word_m (h : MB n T μ0 m μ f q) : ∃ μ', MB n T μ0 m μ' f (sk n T q) ∧ Kp μ μ' ∧ mI μ' 134 38 = nI (we n T (sk n T q)) ∧ mJ μ' 134 37 = lN (wcN T (sk n T q) (we n T (sk n T q) - sk n T q)) ∧ X11_readWord 134 μ = some μ' := by
  have hn := h.n0
  obtain ⟨μ1, h1, kp1, e1⟩ := here_m h
  have hs := h1.2.2.2
  have h2 : MB n T μ0 m (wI (wJ μ1 134 37 0) 134 38 (nI (sk n T q))) f (sk n T q) := (h1.wj 37 _).we _
  obtain ⟨μ', h', kp, f1, f2, e⟩ := word18_m (s := sk n T q) (n - sk n T q) (99999 - (n - sk n T q)) _ (sk n T q) rfl (Nat.le_refl _) hs h2 (fun i i1 i2 => by omega) fld_eq (by rw [mJ_wI, mJ_wJ, if_pos ⟨rfl, rfl⟩, Nat.sub_self]; rfl)
  rw [show 99999 - (n - sk n T q) + (n - sk n T q) + 1 = FU by unfold FU; omega] at e
  refine ⟨μ', h', kp1.tr ((show Kp μ1 (wI (wJ μ1 134 37 0) 134 38 (nI (sk n T q))) from fun a q => row_ne (by omega)).tr kp), f1, f2, ?_⟩
  unfold X11_readWord
  rw [vo_134 h.ok, Option.bind_some, e1, Option.bind_some, pJ_eq (a := 134) h1.ok (by decide) rfl, Option.bind_some, gi_134 h1.ok.wJ, show mI (wJ μ1 134 37 0) 134 36 = nI (sk n T q) from h1.2.2.1.2, Option.bind_some, pi_134 h1.ok.wJ, Option.bind_some, e, Option.bind_some]
theorem wcB (s w : Nat) (hw : w < 9) (hT : ∀ i, i < we n T s - s → 97 ≤ T (s + i) ∧ T (s + i) ≤ 122) : (lg_cmp (lN (wcN T s (we n T s - s))) (lN (cdN (wC w) (wL w))) = 0) = (wQ n T s w = true) := by
  have b1 := (wcN_bd (we n T s - s) hT).1
  have h6 := wL_ok w hw
  have b2 := cdN_bd (L := wC w) (wL w) (fun i hi => (wC_ok w hw i (by omega) hi).2)
  have b3 : 27 ^ wL w ≤ 27 ^ 6 := Nat.pow_le_pow_right (by decide) h6.2
  rw [← wQ_code hw]
  exact propext ((lg_cmp_eq _ _).trans (pk_lEQ (by omega) (by omega)))
theorem weL (s : Nat) : ∀ i, i < we n T s - s → 97 ≤ T (s + i) ∧ T (s + i) ≤ 122 := fun i hi => by
  have := (scn_sp isL n T _ s rfl).2.2.2 (s + i) (by omega) (show s + i < we n T s by omega)
  unfold isL at this
  rw [decide_eq_true_eq] at this
  exact this
theorem fails_m (h : MB n T μ0 m μ f q) (x1 x2 : Int32) : X11_fails 134 x1 x2 μ = some (x1, wI μ 134 35 x2) := by
  unfold X11_fails
  rw [pi_134 h.ok, Option.bind_some]
theorem needs_m {w : Nat} (hw : w < 9) {j : Int64} (hj : j = lN (cdN (wC w) (wL w))) (h : MB n T μ0 m μ f q) : (wQ n T (sk n T q) w = true → ∃ μ', MB n T μ0 m μ' f (we n T (sk n T q)) ∧ Kp μ μ' ∧ X11_needs 134 j μ = some (0, μ')) ∧ (¬ wQ n T (sk n T q) w = true → ∃ μ', MB n T μ0 m μ' (nI (sk n T q)) (sk n T q) ∧ Kp μ μ' ∧ X11_needs 134 j μ = some (1, μ')) := by
  have hn := h.n0
  obtain ⟨μ1, h1, kp, f1, f2, e1⟩ := word_m h
  have hs := h1.2.2.2
  have gj : gJ 11 37 134 μ1 = some (lN (wcN T (sk n T q) (we n T (sk n T q) - sk n T q))) := by rw [gJ_eq (a := 134) h1.ok (by decide) rfl, f2]
  have cw := wcB (n := n) (T := T) (sk n T q) w hw (weL _)
  have we2 := we_le (n := n) (T := T) hs
  unfold X11_needs
  rw [vo_134 h.ok, Option.bind_some, e1, Option.bind_some, gj, Option.bind_some, hj]
  simp only [cw]
  refine ⟨fun z => ?_, fun z => ?_⟩
  · refine ⟨_, h1.at' _ we2, kp.tr Kp.w, ?_⟩
    rw [if_pos z, gi_134 h1.ok, f1, Option.bind_some, pi_134 h1.ok, Option.bind_some]
  · refine ⟨_, h1.pl (nI (sk n T q)), kp.tr Kp.w, ?_⟩
    rw [if_neg z, gi_134 h1.ok, h1.2.2.1.2, Option.bind_some, vo_134 h1.ok, Option.bind_some, fails_m h1, Option.bind_some]
theorem num40_m (x1 x2 x4 : Int32) {s : Nat} : ∀ d c μ p, n - p = d → s ≤ p → MB n T μ0 m μ f p → (∀ i, s ≤ i → i < p → isD (T i) = true) → mI μ 134 39 = nI (vM T s (p - s)) → ∃ μ', MB n T μ0 m μ' f (de n T p) ∧ Kp μ μ' ∧ mI μ' 134 39 = nI (vM T s (de n T p - s)) ∧ X11_readNumber_L40 134 x1 x2 x4 (c + d + 1) μ = some μ' := by
  intro d
  induction d with
  | zero =>
    intro c μ p hd hsp h hdg e1
    have hn := h.n0
    have hp := h.2.2.2
    have ed : de n T p = p := by unfold de; rw [scn_eq, if_neg (by omega)]
    rw [ed]
    refine ⟨μ, h, Kp.rf, e1, ?_⟩
    rw [X11_readNumber_L40, gi_134 h.ok, h.2.2.1.2, Option.bind_some, gi_134 h.ok, h.2.1.1, Option.bind_some, if_pos (nI_le (by omega) (by omega))]
  | succ d ih =>
    intro c μ p hd hsp h hdg e1
    have hn := h.n0
    have hp := h.2.2.2
    have b := h.b (i := p) (by omega)
    have hT : ∀ i, i < p - s → 48 ≤ T (s + i) ∧ T (s + i) ≤ 57 := fun i hi => by
      have := hdg (s + i) (by omega) (by omega)
      unfold isD at this
      rw [decide_eq_true_eq] at this
      exact this
    have vb := vM_bd (p - s) hT
    have ci : (X11_in (nI (T p)).toInt64 48 57 = 0) = ¬ (p < n ∧ 48 ≤ T p ∧ T p ≤ 57) := by
      have := in_ch (s := p) (lo := 48) (hi := 57) h (by decide) (by decide) (by decide) hp
      unfold chV at this
      rw [if_pos (show p < n by omega)] at this
      exact this
    have cz : (nI (vM T s (p - s)) ≤ 10000) = (vM T s (p - s) ≤ 10000) := n_le (b := 10000) (by omega) (by decide)
    rw [show c + (d + 1) + 1 = c + d + 1 + 1 by omega, X11_readNumber_L40, gi_134 h.ok, h.2.2.1.2, Option.bind_some, gi_134 h.ok, h.2.1.1, Option.bind_some, if_neg (nI_ge (by omega) (by omega)), r_134_33 h.ok, Option.bind_some, Option.bind_some, h.rd (by omega), Option.bind_some]
    simp only [ci]
    by_cases z : isD (T p) = true
    · have z' := z
      unfold isD at z'
      rw [decide_eq_true_eq] at z'
      have ed : de n T p = de n T (p + 1) := by
        show scn isD n T p = scn isD n T (p + 1)
        rw [scn_eq, if_pos ⟨by omega, z⟩]
      have h2 : MB n T μ0 m (wI (wI μ 134 39 (nI (vM T s (p + 1 - s)))) 134 36 (nI (p + 1))) f (p + 1) := (h.nm _).at' (p + 1) (by omega)
      obtain ⟨μ', h', kp, f1, e⟩ := ih c _ (p + 1) (by omega) (by omega) h2 (fun i i1 i2 => by
        by_cases y : i = p
        · subst y
          exact z
        · exact hdg i i1 (by omega)) ((fld_ne (by omega)).trans fld_eq)
      rw [ed]
      refine ⟨μ', h', (Kp.w.tr Kp.w).tr kp, f1, ?_⟩
      have ev : ((if vM T s (p - s) ≤ 10000 then (some (nI (vM T s (p - s)))).bind fun v10 => (some 165).bind fun v11 => (some (nI p)).bind fun v12 => (aI v11 v12 μ).bind fun v13 => some (10 * v10 + v13 - 48) else (some (nI (vM T s (p - s)))).bind fun v14 => some v14 : Option Int32)) = some (nI (vM T s (p + 1 - s))) := by
        rw [show p + 1 - s = p - s + 1 by omega, vM, show s + (p - s) = p by omega]
        by_cases y : vM T s (p - s) ≤ 10000
        · rw [if_pos y, if_pos y, Option.bind_some, Option.bind_some, Option.bind_some, h.rd (by omega), Option.bind_some, show (10 : Int32) = nI 10 from rfl, pk_mul, nI_add, show (48 : Int32) = nI 48 from rfl, pk_sub (by omega)]
        · rw [if_neg y, if_neg y, Option.bind_some]
      rw [if_neg (fun w => w ⟨by omega, by omega, by omega⟩), gi_134 h.ok, e1, Option.bind_some]
      simp only [cz]
      rw [ev, Option.bind_some, pi_134 h.ok, Option.bind_some, gi_134 h.ok.wI, fld_ne (by omega), h.2.2.1.2, Option.bind_some, nI_add1, pi_134 h.ok.wI, Option.bind_some]
      exact e
    · have z' := z
      unfold isD at z'
      rw [decide_eq_true_eq] at z'
      have ed : de n T p = p := by unfold de; rw [scn_eq, if_neg (fun w => z w.2)]
      rw [ed]
      refine ⟨μ, h, Kp.rf, e1, ?_⟩
      rw [if_pos (fun w => z' w.2)]
theorem num_m {lo hi : Nat} (hlo : lo < 1000) (hhi : hi < 1000) (h : MB n T μ0 m μ f q) : match pN n T lo hi q with
    | .inl (k', s) => ∃ μ' q', MB n T μ0 m μ' (nI s) q' ∧ Kp μ μ' ∧ (1 ≤ k' ∧ k' ≤ 3) ∧ X11_readNumber 134 (nI lo) (nI hi) μ = some (nI k', μ')
    | .inr (v, q') => ∃ μ', MB n T μ0 m μ' f q' ∧ Kp μ μ' ∧ mI μ' 134 39 = nI v ∧ X11_readNumber 134 (nI lo) (nI hi) μ = some (0, μ') := by
  have hn := h.n0
  obtain ⟨μ1, h1, kp1, e1⟩ := here_m h
  have hs := h1.2.2.2
  have ci := in_ch (s := sk n T q) (lo := 48) (hi := 57) h (by decide) (by decide) (by decide) hs
  have ci : (X11_in (chV n T (sk n T q)).toInt64 48 57 = 0) = ¬ (sk n T q < n ∧ 48 ≤ T (sk n T q) ∧ T (sk n T q) ≤ 57) := ci
  unfold X11_readNumber pN
  rw [vo_134 h.ok, Option.bind_some, e1, Option.bind_some]
  simp only [ci]
  by_cases z1 : de n T (sk n T q) = sk n T q
  · have z2 : ¬ (sk n T q < n ∧ 48 ≤ T (sk n T q) ∧ T (sk n T q) ≤ 57) := fun w => by
      have e : de n T (sk n T q) = de n T (sk n T q + 1) := by
        show scn isD n T (sk n T q) = scn isD n T (sk n T q + 1)
        rw [scn_eq, if_pos ⟨w.1, decide_eq_true w.2⟩]
      have := de_ge (n := n) (T := T) (q := sk n T q + 1)
      omega
    rw [if_pos z1, if_pos z2, gi_134 h1.ok, h1.2.2.1.2, Option.bind_some, vo_134 h1.ok, Option.bind_some, fails_m h1, Option.bind_some]
    exact ⟨_, _, h1.pl _, kp1.tr Kp.w, by decide, rfl⟩
  · have z2 : sk n T q < n ∧ 48 ≤ T (sk n T q) ∧ T (sk n T q) ≤ 57 := by
      by_cases y : sk n T q < n ∧ isD (T (sk n T q)) = true
      · have y2 := y.2
        unfold isD at y2
        rw [decide_eq_true_eq] at y2
        exact ⟨y.1, y2⟩
      · exact absurd (by unfold de; rw [scn_eq, if_neg y]) z1
    obtain ⟨μ2, h2, kp2, f2, e2⟩ := num40_m (nI lo) (nI hi) (nI (sk n T q)) (s := sk n T q) (n - sk n T q) (99999 - (n - sk n T q)) (wI μ1 134 39 0) (sk n T q) rfl (Nat.le_refl _) (h1.nm 0) (fun i i1 i2 => by omega) (by rw [fld_eq, Nat.sub_self]; rfl)
    rw [show 99999 - (n - sk n T q) + (n - sk n T q) + 1 = FU by unfold FU; omega] at e2
    have d1 := de_ge (n := n) (T := T) (q := sk n T q)
    have d2 := de_le (n := n) (T := T) hs
    have dg : ∀ i, i < de n T (sk n T q) - sk n T q → 48 ≤ T (sk n T q + i) ∧ T (sk n T q + i) ≤ 57 := fun i hi => by
      have := (scn_sp isD n T _ (sk n T q) rfl).2.2.2 (sk n T q + i) (by omega) (show sk n T q + i < de n T (sk n T q) by omega)
      unfold isD at this
      rw [decide_eq_true_eq] at this
      exact this
    have bd := (vC_bd (T := T) (s := sk n T q) _ dg).1
    have c3 : ((3 : Int32) < nI (de n T (sk n T q) - sk n T q)) = (3 < de n T (sk n T q) - sk n T q) := n_lt (a := 3) (by decide) (by omega)
    rw [if_neg z1, if_neg (show ¬ ¬ (sk n T q < n ∧ 48 ≤ T (sk n T q) ∧ T (sk n T q) ≤ 57) from fun w => w z2), gi_134 h1.ok, h1.2.2.1.2, Option.bind_some, pi_134 h1.ok, Option.bind_some, e2, Option.bind_some, gi_134 h2.ok, h2.2.2.1.2, Option.bind_some, pk_sub d1]
    simp only [c3]
    by_cases y3 : 3 < de n T (sk n T q) - sk n T q
    · rw [if_pos y3, if_pos (Or.inl y3), vo_134 h2.ok, Option.bind_some, fails_m h2, Option.bind_some, Option.bind_some]
      exact ⟨_, _, h2.pl _, (kp1.tr Kp.w).tr (kp2.tr Kp.w), by decide, rfl⟩
    · have ev := vM_eq (de n T (sk n T q) - sk n T q) (by omega) dg
      rw [ev] at f2
      rw [if_neg y3, gi_134 h2.ok, f2, Option.bind_some, in_eq]
      have cw : (X10_within (nI (vC T (sk n T q) (de n T (sk n T q) - sk n T q))) (nI lo) (nI hi) = 0) = (vC T (sk n T q) (de n T (sk n T q) - sk n T q) < lo ∨ hi < vC T (sk n T q) (de n T (sk n T q) - sk n T q)) := by
        unfold X10_within
        simp only [n_lt (show vC T (sk n T q) (de n T (sk n T q) - sk n T q) < 2 ^ 31 by omega) (show lo < 2 ^ 31 by omega), n_lt (show hi < 2 ^ 31 by omega) (show vC T (sk n T q) (de n T (sk n T q) - sk n T q) < 2 ^ 31 by omega)]
        by_cases y1 : vC T (sk n T q) (de n T (sk n T q) - sk n T q) < lo
        · rw [if_pos y1]
          exact propext ⟨fun _ => Or.inl y1, fun _ => rfl⟩
        · rw [if_neg y1]
          by_cases y2 : hi < vC T (sk n T q) (de n T (sk n T q) - sk n T q)
          · rw [if_pos y2]
            exact propext ⟨fun _ => Or.inr y2, fun _ => rfl⟩
          · rw [if_neg y2]
            exact propext ⟨fun z => absurd z (by decide), fun z => by omega⟩
      simp only [cw]
      by_cases y4 : vC T (sk n T q) (de n T (sk n T q) - sk n T q) < lo ∨ hi < vC T (sk n T q) (de n T (sk n T q) - sk n T q)
      · rw [if_pos y4, if_pos (Or.inr y4), vo_134 h2.ok, Option.bind_some, fails_m h2, Option.bind_some, Option.bind_some]
        exact ⟨_, _, h2.pl _, (kp1.tr Kp.w).tr (kp2.tr Kp.w), by decide, rfl⟩
      · rw [if_neg y4, if_neg (fun w => w.elim y3 y4), Option.bind_some]
        exact ⟨_, h2, (kp1.tr Kp.w).tr kp2, f2, rfl⟩
end MR
end
section
/-! ===== the reference reads clauses ===== -/
def Fr (m : Nat) (μ : Mem) (c : Cls) : Prop := mI μ 161 m = nI c.1 ∧ mI μ 162 m = nI c.2.1 ∧ (1 ≤ c.1 → c.1 ≤ 3 → mI μ 163 m = nI c.2.2.1) ∧ (c.1 = 1 → mI μ 164 m = nI c.2.2.2)
def PM (n : Nat) (T : Nat → Nat) (μ0 : Mem) (m : Nat) (f : Int32) (o : Flt ⊕ (Cls × Nat)) (r : Option (Int32 × Mem)) : Prop := match o with
  | .inl (k, s) => ∃ μ' q', MB n T μ0 m μ' (nI s) q' ∧ (1 ≤ k ∧ k ≤ 3) ∧ r = some (nI k, μ')
  | .inr (c, q') => ∃ μ', MB n T μ0 m μ' f q' ∧ Fr m μ' c ∧ r = some (0, μ')
theorem kn {k : Nat} (h : 1 ≤ k ∧ k ≤ 3) : ¬ nI k ≤ 0 := nI_nle (by omega) (by omega)
theorem kp0 {k : Nat} (h : 1 ≤ k ∧ k ≤ 3) : (0 : Int32) < nI k := nI_lt (a := 0) (by omega) (by omega)
theorem z00 : (0 : Int32) ≤ 0 := by decide
theorem cd_0 : X11_code 110 101 118 101 114 0 = lN (cdN (wC 0) (wL 0)) := by decide +kernel
theorem cd_1 : X11_code 119 97 121 0 0 0 = lN (cdN (wC 1) (wL 1)) := by decide +kernel
theorem cd_2 : X11_code 115 116 97 116 101 0 = lN (cdN (wC 2) (wL 2)) := by decide +kernel
theorem cd_3 : X11_code 107 105 110 100 0 0 = lN (cdN (wC 3) (wL 3)) := by decide +kernel
theorem cd_4 : X11_code 97 102 116 101 114 0 = lN (cdN (wC 4) (wL 4)) := by decide +kernel
theorem cd_5 : X11_code 109 111 115 116 0 0 = lN (cdN (wC 5) (wL 5)) := by decide +kernel
theorem cd_6 : X11_code 105 110 0 0 0 0 = lN (cdN (wC 6) (wL 6)) := by decide +kernel
theorem cd_7 : X11_code 97 108 119 97 121 115 = lN (cdN (wC 7) (wL 7)) := by decide +kernel
theorem cd_8 : X11_code 102 114 111 109 0 0 = lN (cdN (wC 8) (wL 8)) := by decide +kernel
section MC
variable {n : Nat} {T : Nat → Nat} {μ0 μ : Mem} {m q : Nat} {f : Int32}
/-- word, number, then the number is put into row 163: the end of three clauses -/
theorem tail_m (h : MB n T μ0 m μ f q) (hm : m < 9) {w lo hi : Nat} (hw : w < 9) {j : Int64} (hj : j = lN (cdN (wC w) (wL w))) (hlo : lo < 1000) (hhi : hi < 1000) {so a : Nat} (hs : so = 2 ∨ so = 3) (e1 : mI μ 161 m = nI so) (e2 : mI μ 162 m = nI a) : PM n T μ0 m f (sb (pW n T w q) fun q2 => sb (pN n T lo hi q2) fun b => .inr ((so, a, b.1, 0), b.2)) ((X11_needs 134 j μ).bind fun z10 => ((if z10.1 ≤ 0 then (vO 11 134 z10.2).bind fun g13 => (X11_readNumber 134 (nI lo) (nI hi) z10.2).bind fun z14 => some ((z14.1, z14.2)) else some ((z10.1, z10.2))) : Option (Int32 × Mem)).bind fun z15 => (gR 11 31 134 z15.2).bind fun v16 => (gI 11 39 134 z15.2).bind fun v17 => (sI v16 (nI m) v17 z15.2).bind fun μ18 => some (z15.1, μ18)) := by
  obtain ⟨hy, hn⟩ := needs_m hw hj h
  unfold pW
  by_cases z : wQ n T (sk n T q) w = true
  · obtain ⟨μ1, h1, kp1, f1⟩ := hy z
    rw [if_pos z, f1, Option.bind_some, if_pos z00, vo_134 h1.ok, Option.bind_some]
    have hc := num_m hlo hhi h1
    show PM n T μ0 m f (sb (pN n T lo hi (we n T (sk n T q))) fun b => .inr ((so, a, b.1, 0), b.2)) _
    cases hp : pN n T lo hi (we n T (sk n T q)) with
    | inl c =>
      rw [hp] at hc
      obtain ⟨μ2, q2, h2, kp2, hk, f2⟩ := hc
      rw [f2, Option.bind_some, Option.bind_some, r_134_31 h2.ok, Option.bind_some, gi_134 h2.ok, Option.bind_some, si_163 h2.ok hm, Option.bind_some]
      exact ⟨_, _, h2.fr 163 _ (by decide), hk, rfl⟩
    | inr c =>
      rw [hp] at hc
      obtain ⟨μ2, h2, kp2, nv, f2⟩ := hc
      rw [f2, Option.bind_some, Option.bind_some, r_134_31 h2.ok, Option.bind_some, gi_134 h2.ok, nv, Option.bind_some, si_163 h2.ok hm, Option.bind_some]
      refine ⟨_, h2.fr 163 _ (by decide), ⟨?_, ?_, fun _ _ => fld_eq, fun x => ?_⟩, rfl⟩
      · rw [row_ne (by decide), kp2 161 (by decide), kp1 161 (by decide)]
        exact e1
      · rw [row_ne (by decide), kp2 162 (by decide), kp1 162 (by decide)]
        exact e2
      · have x : so = 1 := x
        omega
  · obtain ⟨μ1, h1, kp1, f1⟩ := hn z
    rw [if_neg z, f1, Option.bind_some, if_neg (show ¬ (1 : Int32) ≤ 0 by decide), Option.bind_some, r_134_31 h1.ok, Option.bind_some, gi_134 h1.ok, Option.bind_some, si_163 h1.ok hm, Option.bind_some]
    exact ⟨_, _, h1.fr 163 _ (by decide), by decide, rfl⟩
theorem most_m (h : MB n T μ0 m μ f q) (hm : m < 9) : PM n T μ0 m f (pMost n T q) (X11_readMost 134 (nI m) μ) := by
  have hc := num_m (lo := 0) (hi := 9) (by decide) (by decide) h
  unfold X11_readMost pMost
  rw [vo_134 h.ok, Option.bind_some]
  cases hp : pN n T 0 9 q with
  | inl a =>
    rw [hp] at hc
    obtain ⟨μ1, q1, h1, kp1, hk, e1⟩ := hc
    have e1 : X11_readNumber 134 0 9 μ = _ := e1
    have h2 := h1.fr 161 3 (by decide)
    have h3 := h2.fr 162 (mI (wI μ1 161 m 3) 134 39) (by decide)
    rw [e1, Option.bind_some, r_134_29 h1.ok, Option.bind_some, si_161 h1.ok hm, Option.bind_some, r_134_30 h2.ok, Option.bind_some, gi_134 h2.ok, Option.bind_some, si_162 h2.ok hm, Option.bind_some, if_neg (kn hk), Option.bind_some, if_neg (kn hk), Option.bind_some, r_134_31 h3.ok, Option.bind_some, gi_134 h3.ok, Option.bind_some, si_163 h3.ok hm, Option.bind_some]
    exact ⟨_, _, h3.fr 163 _ (by decide), hk, rfl⟩
  | inr a =>
    rw [hp] at hc
    obtain ⟨μ1, h1, kp1, nv, e1⟩ := hc
    have e1 : X11_readNumber 134 0 9 μ = _ := e1
    have h2 := h1.fr 161 3 (by decide)
    have h3 := h2.fr 162 (nI a.1) (by decide)
    have g1 : mI (wI (wI μ1 161 m 3) 162 m (nI a.1)) 161 m = nI 3 := (fld_ne (by omega)).trans fld_eq
    have t := tail_m h3 hm (w := 6) (by decide) cd_6 (lo := 1) (hi := 60) (by decide) (by decide) (so := 3) (a := a.1) (Or.inr rfl) g1 fld_eq
    rw [e1, Option.bind_some, r_134_29 h1.ok, Option.bind_some, si_161 h1.ok hm, Option.bind_some, r_134_30 h2.ok, Option.bind_some, gi_134 h2.ok, row_ne (by decide), nv, Option.bind_some, si_162 h2.ok hm, Option.bind_some, if_pos z00, vo_134 h3.ok, Option.bind_some]
    have ass : ∀ {A B C : Type} (x : Option A) (g : A → Option B) (k : B → Option C), (x.bind g).bind k = x.bind fun y => (g y).bind k := fun x g k => by cases x <;> rfl
    rw [ass]
    exact t
theorem kind_m (h : MB n T μ0 m μ f q) (hm : m < 9) : PM n T μ0 m f (pKind n T q) ((X11_readNumber 134 0 3 μ).bind fun z36 => (gR 11 29 134 z36.2).bind fun v37 => (sI v37 (nI m) 2 z36.2).bind fun μ38 => (gR 11 30 134 μ38).bind fun v39 => (gI 11 39 134 μ38).bind fun v40 => (sI v39 (nI m) v40 μ38).bind fun μ41 => ((if z36.1 ≤ 0 then (vO 11 134 μ41).bind fun g43 => (X11_needs 134 (X11_code 97 102 116 101 114 0) μ41).bind fun z44 => some ((z44.1, z44.2)) else some ((z36.1, μ41))) : Option (Int32 × Mem)).bind fun z45 => ((if z45.1 ≤ 0 then (vO 11 134 z45.2).bind fun g47 => (X11_readNumber 134 0 60 z45.2).bind fun z48 => some ((z48.1, z48.2)) else some ((z45.1, z45.2))) : Option (Int32 × Mem)).bind fun z49 => (gR 11 31 134 z49.2).bind fun v50 => (gI 11 39 134 z49.2).bind fun v51 => (sI v50 (nI m) v51 z49.2).bind fun μ52 => some (z49.1, μ52)) := by
  have hc := num_m (lo := 0) (hi := 3) (by decide) (by decide) h
  unfold pKind
  cases hp : pN n T 0 3 q with
  | inl a =>
    rw [hp] at hc
    obtain ⟨μ1, q1, h1, kp1, hk, e1⟩ := hc
    have e1 : X11_readNumber 134 0 3 μ = _ := e1
    have h2 := h1.fr 161 2 (by decide)
    have h3 := h2.fr 162 (mI (wI μ1 161 m 2) 134 39) (by decide)
    rw [e1, Option.bind_some, r_134_29 h1.ok, Option.bind_some, si_161 h1.ok hm, Option.bind_some, r_134_30 h2.ok, Option.bind_some, gi_134 h2.ok, Option.bind_some, si_162 h2.ok hm, Option.bind_some, if_neg (kn hk), Option.bind_some, if_neg (kn hk), Option.bind_some, r_134_31 h3.ok, Option.bind_some, gi_134 h3.ok, Option.bind_some, si_163 h3.ok hm, Option.bind_some]
    exact ⟨_, _, h3.fr 163 _ (by decide), hk, rfl⟩
  | inr a =>
    rw [hp] at hc
    obtain ⟨μ1, h1, kp1, nv, e1⟩ := hc
    have e1 : X11_readNumber 134 0 3 μ = _ := e1
    have h2 := h1.fr 161 2 (by decide)
    have h3 := h2.fr 162 (nI a.1) (by decide)
    have g1 : mI (wI (wI μ1 161 m 2) 162 m (nI a.1)) 161 m = nI 2 := (fld_ne (by omega)).trans fld_eq
    have t := tail_m h3 hm (w := 4) (by decide) cd_4 (lo := 0) (hi := 60) (by decide) (by decide) (so := 2) (a := a.1) (Or.inl rfl) g1 fld_eq
    rw [e1, Option.bind_some, r_134_29 h1.ok, Option.bind_some, si_161 h1.ok hm, Option.bind_some, r_134_30 h2.ok, Option.bind_some, gi_134 h2.ok, row_ne (by decide), nv, Option.bind_some, si_162 h2.ok hm, Option.bind_some, if_pos z00, vo_134 h3.ok, Option.bind_some]
    have ass : ∀ {A B C : Type} (x : Option A) (g : A → Option B) (k : B → Option C), (x.bind g).bind k = x.bind fun y => (g y).bind k := fun x g k => by cases x <;> rfl
    rw [ass]
    exact t
theorem always_m (h : MB n T μ0 m μ f q) (hm : m < 9) : PM n T μ0 m f (pAlways n T q) (X11_readAlways 134 (nI m) μ) := by
  obtain ⟨hy, hn⟩ := needs_m (w := 8) (by decide) cd_8 h
  unfold X11_readAlways pAlways pW
  rw [vo_134 h.ok, Option.bind_some]
  by_cases z : wQ n T (sk n T q) 8 = true
  · obtain ⟨μ1, h1, kp1, f1⟩ := hy z
    rw [if_pos z, f1, Option.bind_some, if_pos z00, vo_134 h1.ok, Option.bind_some]
    have hc := num_m (lo := 0) (hi := 9) (by decide) (by decide) h1
    show PM n T μ0 m f (sb (pN n T 0 9 (we n T (sk n T q))) fun a => .inr ((4, a.1, 0, 0), a.2)) _
    cases hp : pN n T 0 9 (we n T (sk n T q)) with
    | inl c =>
      rw [hp] at hc
      obtain ⟨μ2, q2, h2, kp2, hk, f2⟩ := hc
      have f2 : X11_readNumber 134 0 9 μ1 = _ := f2
      have h3 := h2.fr 161 4 (by decide)
      rw [f2, Option.bind_some, Option.bind_some, r_134_29 h2.ok, Option.bind_some, si_161 h2.ok hm, Option.bind_some, r_134_30 h3.ok, Option.bind_some, gi_134 h3.ok, Option.bind_some, si_162 h3.ok hm, Option.bind_some]
      exact ⟨_, _, h3.fr 162 _ (by decide), hk, rfl⟩
    | inr c =>
      rw [hp] at hc
      obtain ⟨μ2, h2, kp2, nv, f2⟩ := hc
      have f2 : X11_readNumber 134 0 9 μ1 = _ := f2
      have h3 := h2.fr 161 4 (by decide)
      rw [f2, Option.bind_some, Option.bind_some, r_134_29 h2.ok, Option.bind_some, si_161 h2.ok hm, Option.bind_some, r_134_30 h3.ok, Option.bind_some, gi_134 h3.ok, row_ne (by decide), nv, Option.bind_some, si_162 h3.ok hm, Option.bind_some]
      refine ⟨_, h3.fr 162 _ (by decide), ⟨(fld_ne (by omega)).trans fld_eq, fld_eq, fun _ x => ?_, fun x => ?_⟩, rfl⟩
      · exact absurd (show (4 : Nat) ≤ 3 from x) (by decide)
      · exact absurd (show (4 : Nat) = 1 from x) (by decide)
  · obtain ⟨μ1, h1, kp1, f1⟩ := hn z
    have h3 := h1.fr 161 4 (by decide)
    rw [if_neg z, f1, Option.bind_some, if_neg (show ¬ (1 : Int32) ≤ 0 by decide), Option.bind_some, r_134_29 h1.ok, Option.bind_some, si_161 h1.ok hm, Option.bind_some, r_134_30 h3.ok, Option.bind_some, gi_134 h3.ok, Option.bind_some, si_162 h3.ok hm, Option.bind_some]
    exact ⟨_, _, h3.fr 162 _ (by decide), by decide, rfl⟩
theorem way_m (h : MB n T μ0 m μ f q) (hm : m < 9) : PM n T μ0 m f (pWay n T q) (X11_readWay 134 (nI m) μ) := by
  have hc := num_m (lo := 0) (hi := 3) (by decide) (by decide) h
  unfold X11_readWay pWay
  rw [vo_134 h.ok, Option.bind_some]
  cases hp : pN n T 0 3 q with
  | inl a =>
    rw [hp] at hc
    obtain ⟨μ1, q1, h1, kp1, hk, e1⟩ := hc
    have e1 : X11_readNumber 134 0 3 μ = _ := e1
    have h2 := h1.fr 161 0 (by decide)
    rw [e1, Option.bind_some, r_134_29 h1.ok, Option.bind_some, si_161 h1.ok hm, Option.bind_some, r_134_30 h2.ok, Option.bind_some, gi_134 h2.ok, Option.bind_some, si_162 h2.ok hm, Option.bind_some, if_pos (kp0 hk)]
    exact ⟨_, _, h2.fr 162 _ (by decide), hk, rfl⟩
  | inr a =>
    rw [hp] at hc
    obtain ⟨μ1, h1, kp1, nv, e1⟩ := hc
    have e1 : X11_readNumber 134 0 3 μ = _ := e1
    have h2 := h1.fr 161 0 (by decide)
    have h3 := h2.fr 162 (nI a.1) (by decide)
    have g1 : mI (wI (wI μ1 161 m 0) 162 m (nI a.1)) 161 m = 0 := (fld_ne (by omega)).trans fld_eq
    have g2 : mI (wI (wI μ1 161 m 0) 162 m (nI a.1)) 162 m = nI a.1 := fld_eq
    obtain ⟨μ4, h4, kp4, e4⟩ := here_m h3
    have hs := h4.2.2.2
    have ci : (X11_in (chV n T (sk n T a.2)).toInt64 97 122 = 0) = ¬ (sk n T a.2 < n ∧ 97 ≤ T (sk n T a.2) ∧ T (sk n T a.2) ≤ 122) := in_ch (s := sk n T a.2) (lo := 97) (hi := 122) h (by decide) (by decide) (by decide) hs
    rw [e1, Option.bind_some, r_134_29 h1.ok, Option.bind_some, si_161 h1.ok hm, Option.bind_some, r_134_30 h2.ok, Option.bind_some, gi_134 h2.ok, row_ne (by decide), nv, Option.bind_some, si_162 h2.ok hm, Option.bind_some, if_neg (show ¬ (0 : Int32) < 0 by decide), vo_134 h3.ok, Option.bind_some, e4, Option.bind_some]
    simp only [ci]
    show PM n T μ0 m f (if sk n T a.2 < n ∧ isL (T (sk n T a.2)) = true then sb (pW n T 2 a.2) fun q1 => sb (pN n T 0 3 q1) fun b => sb (pN n T 0 100 b.2) fun c => .inr ((1, a.1, b.1, c.1), c.2) else .inr ((0, a.1, 0, 0), sk n T a.2)) _
    by_cases y : sk n T a.2 < n ∧ isL (T (sk n T a.2)) = true
    · have y2 : ¬ ¬ (sk n T a.2 < n ∧ 97 ≤ T (sk n T a.2) ∧ T (sk n T a.2) ≤ 122) := fun w => w ⟨y.1, by
        have := y.2
        unfold isL at this
        rw [decide_eq_true_eq] at this
        exact this⟩
      rw [if_pos y, if_neg y2, vo_134 h4.ok, Option.bind_some]
      obtain ⟨hy, hn⟩ := needs_m (w := 2) (by decide) cd_2 h4
      rw [show sk n T (sk n T a.2) = sk n T a.2 from sk_idem] at hy hn
      unfold pW
      by_cases z : wQ n T (sk n T a.2) 2 = true
      · obtain ⟨μ5, h5, kp5, e5⟩ := hy z
        rw [if_pos z, e5, Option.bind_some, if_pos z00, vo_134 h5.ok, Option.bind_some]
        have hc2 := num_m (lo := 0) (hi := 3) (by decide) (by decide) h5
        show PM n T μ0 m f (sb (pN n T 0 3 (we n T (sk n T a.2))) fun b => sb (pN n T 0 100 b.2) fun c => .inr ((1, a.1, b.1, c.1), c.2)) _
        cases hp2 : pN n T 0 3 (we n T (sk n T a.2)) with
        | inl b =>
          rw [hp2] at hc2
          obtain ⟨μ6, q6, h6, kp6, hk, e6⟩ := hc2
          have e6 : X11_readNumber 134 0 3 μ5 = _ := e6
          have h7 := h6.fr 161 1 (by decide)
          have h8 := h7.fr 163 (mI (wI μ6 161 m 1) 134 39) (by decide)
          rw [e6, Option.bind_some, Option.bind_some, r_134_29 h6.ok, Option.bind_some, si_161 h6.ok hm, Option.bind_some, r_134_31 h7.ok, Option.bind_some, gi_134 h7.ok, Option.bind_some, si_163 h7.ok hm, Option.bind_some, if_neg (kn hk), Option.bind_some, r_134_32 h8.ok, Option.bind_some, gi_134 h8.ok, Option.bind_some, si_164 h8.ok hm, Option.bind_some]
          exact ⟨_, _, h8.fr 164 _ (by decide), hk, rfl⟩
        | inr b =>
          rw [hp2] at hc2
          obtain ⟨μ6, h6, kp6, nv6, e6⟩ := hc2
          have e6 : X11_readNumber 134 0 3 μ5 = _ := e6
          have h7 := h6.fr 161 1 (by decide)
          have h8 := h7.fr 163 (nI b.1) (by decide)
          rw [e6, Option.bind_some, Option.bind_some, r_134_29 h6.ok, Option.bind_some, si_161 h6.ok hm, Option.bind_some, r_134_31 h7.ok, Option.bind_some, gi_134 h7.ok, row_ne (by decide), nv6, Option.bind_some, si_163 h7.ok hm, Option.bind_some, if_pos z00, vo_134 h8.ok, Option.bind_some]
          have hc3 := num_m (lo := 0) (hi := 100) (by decide) (by decide) h8
          show PM n T μ0 m f (sb (pN n T 0 100 b.2) fun c => .inr ((1, a.1, b.1, c.1), c.2)) _
          cases hp3 : pN n T 0 100 b.2 with
          | inl c =>
            rw [hp3] at hc3
            obtain ⟨μ9, q9, h9, kp9, hk, e9⟩ := hc3
            have e9 : X11_readNumber 134 0 100 (wI (wI μ6 161 m 1) 163 m (nI b.1)) = _ := e9
            rw [e9, Option.bind_some, Option.bind_some, r_134_32 h9.ok, Option.bind_some, gi_134 h9.ok, Option.bind_some, si_164 h9.ok hm, Option.bind_some]
            exact ⟨_, _, h9.fr 164 _ (by decide), hk, rfl⟩
          | inr c =>
            rw [hp3] at hc3
            obtain ⟨μ9, h9, kp9, nv9, e9⟩ := hc3
            have e9 : X11_readNumber 134 0 100 (wI (wI μ6 161 m 1) 163 m (nI b.1)) = _ := e9
            rw [e9, Option.bind_some, Option.bind_some, r_134_32 h9.ok, Option.bind_some, gi_134 h9.ok, nv9, Option.bind_some, si_164 h9.ok hm, Option.bind_some]
            refine ⟨_, h9.fr 164 _ (by decide), ⟨?_, ?_, fun _ _ => ?_, fun _ => fld_eq⟩, rfl⟩
            · rw [row_ne (by decide), kp9 161 (by decide), row_ne (by decide)]
              exact fld_eq
            · rw [row_ne (by decide), kp9 162 (by decide), row_ne (by decide), row_ne (by decide), kp6 162 (by decide), kp5 162 (by decide), kp4 162 (by decide)]
              exact g2
            · rw [row_ne (by decide), kp9 163 (by decide)]
              exact fld_eq
      · obtain ⟨μ5, h5, kp5, e5⟩ := hn z
        have h7 := h5.fr 161 1 (by decide)
        have h8 := h7.fr 163 (mI (wI μ5 161 m 1) 134 39) (by decide)
        rw [if_neg z, e5, Option.bind_some, if_neg (show ¬ (1 : Int32) ≤ 0 by decide), Option.bind_some, r_134_29 h5.ok, Option.bind_some, si_161 h5.ok hm, Option.bind_some, r_134_31 h7.ok, Option.bind_some, gi_134 h7.ok, Option.bind_some, si_163 h7.ok hm, Option.bind_some, if_neg (show ¬ (1 : Int32) ≤ 0 by decide), Option.bind_some, r_134_32 h8.ok, Option.bind_some, gi_134 h8.ok, Option.bind_some, si_164 h8.ok hm, Option.bind_some]
        exact ⟨_, _, h8.fr 164 _ (by decide), by decide, rfl⟩
    · have y2 : ¬ (sk n T a.2 < n ∧ 97 ≤ T (sk n T a.2) ∧ T (sk n T a.2) ≤ 122) := fun w => y ⟨w.1, decide_eq_true w.2⟩
      rw [if_neg y, if_pos y2]
      refine ⟨μ4, h4, ⟨?_, ?_, fun x _ => ?_, fun x => ?_⟩, rfl⟩
      · rw [kp4 161 (by decide)]
        exact g1
      · rw [kp4 162 (by decide)]
        exact g2
      · exact absurd (show 1 ≤ 0 from x) (by decide)
      · exact absurd (show (0 : Nat) = 1 from x) (by decide)
theorem never_m (h : MB n T μ0 m μ f q) (hm : m < 9) : PM n T μ0 m f (pNever n T q) (X11_readNever 134 (nI m) μ) := by
  have hn := h.n0
  obtain ⟨μ1, h1, kp, f1, f2, e1⟩ := word_m h
  have hs := h1.2.2.2
  have gj : gJ 11 37 134 μ1 = some (lN (wcN T (sk n T q) (we n T (sk n T q) - sk n T q))) := by rw [gJ_eq (a := 134) h1.ok (by decide) rfl, f2]
  have cw1 := wcB (n := n) (T := T) (sk n T q) 1 (by decide) (weL _)
  have cw3 := wcB (n := n) (T := T) (sk n T q) 3 (by decide) (weL _)
  have we2 := we_le (n := n) (T := T) hs
  have pid : ∀ r : Option (Int32 × Mem), (r.bind fun z => some (z.1, z.2)) = r := fun r => by cases r <;> rfl
  unfold X11_readNever pNever
  rw [vo_134 h.ok, Option.bind_some, e1, Option.bind_some, gj, Option.bind_some, cd_1, cd_3]
  simp only [cw1, cw3]
  have h2 := h1.at' (we n T (sk n T q)) we2
  by_cases z : wQ n T (sk n T q) 1 = true
  · rw [if_pos z, if_pos z, Option.bind_some, if_neg (show ¬ (1 : Int32) = 0 by decide), gi_134 h1.ok, f1, Option.bind_some, pi_134 h1.ok, Option.bind_some, if_neg (show ¬ (1 : Int32) = 0 by decide), vo_134 h2.ok, Option.bind_some, pid]
    exact way_m h2 hm
  · rw [if_neg z, if_neg z, Option.bind_some, if_pos (show (0 : Int32) = 0 from rfl)]
    unfold pW
    by_cases z3 : wQ n T (sk n T q) 3 = true
    · rw [if_pos z3, Option.bind_some]
      simp only [cw3]
      rw [if_pos z3, gi_134 h1.ok, f1, Option.bind_some, pi_134 h1.ok, Option.bind_some, if_pos trivial, vo_134 h2.ok, Option.bind_some]
      exact kind_m h2 hm
    · rw [if_neg z3, Option.bind_some]
      simp only [cw3]
      rw [if_neg z3, gi_134 h1.ok, h1.2.2.1.2, Option.bind_some, vo_134 h1.ok, Option.bind_some, fails_m h1, Option.bind_some]
      exact ⟨_, _, h1.pl _, by decide, rfl⟩
theorem clause_m (h : MB n T μ0 m μ f q) (hsk : sk n T q = q) (hm : m ≤ 8) : PM n T μ0 m f (pClause n T m q) (X11_readClause 134 (nI m) μ) := by
  have hn := h.n0
  obtain ⟨μ1, h1, kp, f1, f2, e1⟩ := word_m h
  rw [hsk] at h1 f1 f2
  have hs := h1.2.2.2
  have gj : gJ 11 37 134 μ1 = some (lN (wcN T q (we n T q - q))) := by rw [gJ_eq (a := 134) h1.ok (by decide) rfl, f2]
  have cw0 := wcB (n := n) (T := T) q 0 (by decide) (weL _)
  have cw5 := wcB (n := n) (T := T) q 5 (by decide) (weL _)
  have cw7 := wcB (n := n) (T := T) q 7 (by decide) (weL _)
  have we2 := we_le (n := n) (T := T) hs
  have h2 := h1.at' (we n T q) we2
  have pid : ∀ r : Option (Int32 × Mem), (r.bind fun z => some ((z.1, z.2))) = r := fun r => by cases r <;> rfl
  have c8 : (nI m = 8) = (m = 8) := n_eq (b := 8) (by omega) (by decide)
  -- what stands behind the clause's own words
  have tail : ∀ (o : Flt ⊕ (Cls × Nat)) (r : Option (Int32 × Mem)), PM n T μ0 m f o r → PM n T μ0 m f (sb o (pE n T)) (r.bind fun z27 => if z27.1 ≤ 0 then (vO 11 134 z27.2).bind fun g29 => (X11_here 134 z27.2).bind fun z30 => if z30.1 = 59 then (gI 11 36 134 z30.2).bind fun v32 => (pI 11 36 134 (v32 + 1) z30.2).bind fun μ33 => some (0, μ33) else (gI 11 36 134 z30.2).bind fun v34 => (vO 11 134 z30.2).bind fun g35 => (X11_fails 134 1 v34 z30.2).bind fun z36 => some (z36.1, z36.2) else some (z27.1, z27.2)) := by
    intro o r hr
    cases o with
    | inl a =>
      obtain ⟨μ', q', h', hk, er⟩ := hr
      rw [er, Option.bind_some, if_neg (kn hk)]
      exact ⟨μ', q', h', hk, rfl⟩
    | inr a =>
      obtain ⟨μ', h', fr, er⟩ := hr
      obtain ⟨μ3, h3, kp3, e3⟩ := here_m h'
      have hs3 := h3.2.2.2
      rw [er, Option.bind_some, if_pos z00, vo_134 h'.ok, Option.bind_some, e3, Option.bind_some]
      have c59 : (chV n T (sk n T a.2) = 59) = (sk n T a.2 < n ∧ T (sk n T a.2) = 59) := by
        unfold chV
        by_cases y : sk n T a.2 < n
        · have b := h'.b (i := sk n T a.2) (by omega)
          rw [if_pos y, show (nI (T (sk n T a.2)) = 59) = (T (sk n T a.2) = 59) from n_eq (b := 59) (by omega) (by decide)]
          exact propext ⟨fun w => ⟨y, w⟩, fun w => w.2⟩
        · rw [if_neg y]
          exact propext ⟨fun w => absurd w (by decide), fun w => absurd w.1 y⟩
      simp only [c59]
      show PM n T μ0 m f (pE n T (a.1, a.2)) _
      unfold pE
      by_cases y : sk n T a.2 < n ∧ T (sk n T a.2) = 59
      · rw [if_pos y, if_pos y, gi_134 h3.ok, h3.2.2.1.2, Option.bind_some, nI_add1, pi_134 h3.ok, Option.bind_some]
        refine ⟨_, h3.at' (sk n T a.2 + 1) (by omega), ⟨?_, ?_, fun x1 x2 => ?_, fun x => ?_⟩, rfl⟩
        · rw [row_ne (by decide), kp3 161 (by decide)]
          exact fr.1
        · rw [row_ne (by decide), kp3 162 (by decide)]
          exact fr.2.1
        · rw [row_ne (by decide), kp3 163 (by decide)]
          exact fr.2.2.1 x1 x2
        · rw [row_ne (by decide), kp3 164 (by decide)]
          exact fr.2.2.2 x
      · rw [if_neg y, if_neg y, gi_134 h3.ok, h3.2.2.1.2, Option.bind_some, vo_134 h3.ok, Option.bind_some, fails_m h3, Option.bind_some]
        exact ⟨_, _, h3.pl _, by decide, rfl⟩
  unfold X11_readClause pClause pHead
  rw [vo_134 h.ok, Option.bind_some, e1, Option.bind_some, gj, cd_0, cd_5, cd_7]
  simp only [Option.bind_some, cw0, cw5, cw7, c8]
  have ninth : ∀ x : Int32, (0 : Int32) ≤ x → PM n T μ0 m f (sb (.inl (3, q) : Flt ⊕ (Cls × Nat)) (pE n T)) ((some (if (0 : Int32) ≤ x then 3 else 1 : Int32)).bind fun v38 => (gI 11 36 134 μ1).bind fun v39 => (vO 11 134 μ1).bind fun g40 => (X11_fails 134 v38 v39 μ1).bind fun z41 => some (z41.1, z41.2)) := fun x hx => by
    rw [if_pos hx, Option.bind_some, gi_134 h1.ok, h1.2.2.1.2, Option.bind_some, vo_134 h1.ok, Option.bind_some, fails_m h1, Option.bind_some]
    exact ⟨_, _, h1.pl _, by decide, rfl⟩
  by_cases z0 : wQ n T q 0 = true
  · rw [if_pos z0, if_pos z0, Option.bind_some, if_neg (show ¬ (0 : Int32) < 0 by decide)]
    by_cases y : m = 8
    · rw [if_pos y, if_neg (show ¬ m < 8 by omega)]
      exact ninth 0 (by decide)
    · rw [if_neg y, if_pos (show m < 8 by omega), gi_134 h1.ok, f1, Option.bind_some, pi_134 h1.ok, Option.bind_some, if_pos (show (0 : Int32) = 0 from rfl), vo_134 h2.ok, Option.bind_some, pid]
      exact tail _ _ (never_m h2 (by omega))
  · rw [if_neg z0, if_neg z0]
    by_cases z5 : wQ n T q 5 = true
    · rw [if_pos z5, if_pos z5, Option.bind_some, if_neg (show ¬ (1 : Int32) < 0 by decide)]
      by_cases y : m = 8
      · rw [if_pos y, if_neg (show ¬ m < 8 by omega)]
        exact ninth 1 (by decide)
      · rw [if_neg y, if_pos (show m < 8 by omega), gi_134 h1.ok, f1, Option.bind_some, pi_134 h1.ok, Option.bind_some, if_neg (show ¬ (1 : Int32) = 0 by decide), if_pos (show (1 : Int32) = 1 from rfl), vo_134 h2.ok, Option.bind_some, pid]
        exact tail _ _ (most_m h2 (by omega))
    · rw [if_neg z5, if_neg z5]
      by_cases z7 : wQ n T q 7 = true
      · rw [if_pos z7, if_pos z7, Option.bind_some, if_neg (show ¬ (2 : Int32) < 0 by decide)]
        by_cases y : m = 8
        · rw [if_pos y, if_neg (show ¬ m < 8 by omega)]
          exact ninth 2 (by decide)
        · rw [if_neg y, if_pos (show m < 8 by omega), gi_134 h1.ok, f1, Option.bind_some, pi_134 h1.ok, Option.bind_some, if_neg (show ¬ (2 : Int32) = 0 by decide), if_neg (show ¬ (2 : Int32) = 1 by decide), vo_134 h2.ok, Option.bind_some, pid]
          exact tail _ _ (always_m h2 (by omega))
      · rw [if_neg z7, if_neg z7, Option.bind_some, if_pos (show (-1 : Int32) < 0 by decide), if_neg (show ¬ (0 : Int32) ≤ -1 by decide), gi_134 h1.ok, h1.2.2.1.2, Option.bind_some, vo_134 h1.ok, Option.bind_some, fails_m h1, Option.bind_some]
        exact ⟨_, _, h1.pl _, by decide, rfl⟩
end MC
end
section
/-! ===== the whole text ===== -/
def clOk (c : Cls) : Prop := c.1 ≤ 4 ∧ (c.2.1 ≤ 9 ∧ (c.1 < 3 → c.2.1 ≤ 3)) ∧ (1 ≤ c.1 → c.1 ≤ 3 → c.2.2.1 ≤ 60 ∧ (c.1 = 1 → c.2.2.1 ≤ 3)) ∧ (c.1 = 1 → c.2.2.2 ≤ 100)
theorem sb_inr {B C : Type} {x : Flt ⊕ B} {g : B → Flt ⊕ C} {c : C} (h : sb x g = .inr c) : ∃ b, x = .inr b ∧ g b = .inr c := by
  cases x with
  | inl a => cases h
  | inr b => exact ⟨b, rfl, h⟩
theorem pN_inr {n : Nat} {T : Nat → Nat} {lo hi q v q' : Nat} (h : pN n T lo hi q = .inr (v, q')) : lo ≤ v ∧ v ≤ hi := by
  unfold pN at h
  split at h
  · cases h
  · split at h
    · cases h
    · rename_i z
      cases h
      omega
theorem pE_inr {n : Nat} {T : Nat → Nat} {c c' : Cls} {q q' : Nat} (h : pE n T (c, q) = .inr (c', q')) : c' = c ∧ q' ≤ n := by
  unfold pE at h
  split at h
  · rename_i z
    cases h
    exact ⟨rfl, z.1⟩
  · cases h
theorem pClause_ok {n : Nat} {T : Nat → Nat} {m q q' : Nat} {c : Cls} (h : pClause n T m q = .inr (c, q')) : clOk c ∧ q' ≤ n ∧ m < 8 := by
  unfold pClause at h
  obtain ⟨⟨c1, q1⟩, h1, h2⟩ := sb_inr h
  obtain ⟨rfl, hq⟩ := pE_inr h2
  unfold pHead at h1
  split at h1
  · split at h1
    · rename_i z hm
      refine ⟨?_, hq, hm⟩
      unfold pNever at h1
      split at h1
      · unfold pWay at h1
        obtain ⟨⟨a, qa⟩, ha, h3⟩ := sb_inr h1
        have ba := pN_inr ha
        split at h3
        · obtain ⟨q2, -, h4⟩ := sb_inr h3
          obtain ⟨⟨b, qb⟩, hb, h5⟩ := sb_inr h4
          have bb := pN_inr hb
          obtain ⟨⟨d, qd⟩, hd, h6⟩ := sb_inr h5
          have bd := pN_inr hd
          cases h6
          exact ⟨(by decide : 1 ≤ 4), ⟨(by omega : a ≤ 9), fun _ => (by omega : a ≤ 3)⟩, fun _ _ => ⟨(by omega : b ≤ 60), fun _ => (by omega : b ≤ 3)⟩, fun _ => (by omega : d ≤ 100)⟩
        · cases h3
          exact ⟨(by decide : 0 ≤ 4), ⟨(by omega : a ≤ 9), fun _ => (by omega : a ≤ 3)⟩, fun x _ => absurd (show 1 ≤ 0 from x) (by decide), fun x => absurd (show (0 : Nat) = 1 from x) (by decide)⟩
      · obtain ⟨q2, -, h4⟩ := sb_inr h1
        unfold pKind at h4
        obtain ⟨⟨a, qa⟩, ha, h3⟩ := sb_inr h4
        have ba := pN_inr ha
        obtain ⟨q3, -, h5⟩ := sb_inr h3
        obtain ⟨⟨b, qb⟩, hb, h6⟩ := sb_inr h5
        have bb := pN_inr hb
        cases h6
        exact ⟨(by decide : 2 ≤ 4), ⟨(by omega : a ≤ 9), fun _ => (by omega : a ≤ 3)⟩, fun _ _ => ⟨(by omega : b ≤ 60), fun x => absurd (show (2 : Nat) = 1 from x) (by decide)⟩, fun x => absurd (show (2 : Nat) = 1 from x) (by decide)⟩
    · cases h1
  · split at h1
    · split at h1
      · rename_i z z2 hm
        refine ⟨?_, hq, hm⟩
        unfold pMost at h1
        obtain ⟨⟨a, qa⟩, ha, h3⟩ := sb_inr h1
        have ba := pN_inr ha
        obtain ⟨q3, -, h5⟩ := sb_inr h3
        obtain ⟨⟨b, qb⟩, hb, h6⟩ := sb_inr h5
        have bb := pN_inr hb
        cases h6
        exact ⟨(by decide : 3 ≤ 4), ⟨(by omega : a ≤ 9), fun x => absurd (show 3 < 3 from x) (by decide)⟩, fun _ _ => ⟨(by omega : b ≤ 60), fun x => absurd (show (3 : Nat) = 1 from x) (by decide)⟩, fun x => absurd (show (3 : Nat) = 1 from x) (by decide)⟩
      · cases h1
    · split at h1
      · split at h1
        · rename_i z z2 z3 hm
          refine ⟨?_, hq, hm⟩
          unfold pAlways at h1
          obtain ⟨q3, -, h5⟩ := sb_inr h1
          obtain ⟨⟨a, qa⟩, ha, h6⟩ := sb_inr h5
          have ba := pN_inr ha
          cases h6
          exact ⟨(by decide : 4 ≤ 4), ⟨(by omega : a ≤ 9), fun x => absurd (show 4 < 3 from x) (by decide)⟩, fun _ x => absurd (show 4 ≤ 3 from x) (by decide), fun x => absurd (show (4 : Nat) = 1 from x) (by decide)⟩
        · cases h1
      · cases h1
/-- all clauses: a fault, or how many, and which -/
def pAll (n : Nat) (T : Nat → Nat) : Nat → Nat → Nat → (Nat → Cls) → Flt ⊕ (Nat × (Nat → Cls))
  | 0, _, _, _ => .inl (1, 0)
  | d + 1, m, q, cs => if q < n then sb (pClause n T m q) (fun c => pAll n T d (m + 1) (sk n T c.2) (fun j => if j = m then c.1 else cs j)) else .inr (m, cs)
def SL (μ : Mem) (l : Nat) (μ' : Mem) : Prop := Ok μ' ∧ mR μ' = mR μ ∧ ∀ a j, ¬ (a = 90 ∧ (j = 1 ∨ j = 2 ∨ j = 4)) → ¬ (l ≤ a ∧ a ≤ l + 4) → mI μ' a j = mI μ a j
theorem SL.tr {μ μ' μ'' : Mem} {l : Nat} (h : SL μ l μ') (h2 : SL μ' l μ'') : SL μ l μ'' := ⟨h2.1, h2.2.1.trans h.2.1, fun a j q1 q2 => (h2.2.2 a j q1 q2).trans (h.2.2 a j q1 q2)⟩
theorem Sc.sl {μ μ' : Mem} {l : Nat} (h : Sc μ μ') : SL μ l μ' := ⟨h.1, h.2.1, fun a j q1 _ => h.2.2 a j q1⟩
def Lcl (μ : Mem) (l m : Nat) (cs : Nat → Cls) : Prop := mI μ l 0 = nI m ∧ ∀ j, j < m → mI μ (l + 1) j = nI (cs j).1 ∧ mI μ (l + 2) j = nI (cs j).2.1 ∧ mI μ (l + 3) j = nI (cs j).2.2.1 ∧ mI μ (l + 4) j = nI (cs j).2.2.2
theorem Lcl.sc {μ μ' : Mem} {l m : Nat} {cs : Nat → Cls} (hl : isLw l) (h : Lcl μ l m cs) (s : Sc μ μ') : Lcl μ' l m cs := by
  have e : ∀ a, l ≤ a → a ≤ l + 4 → mI μ' a = mI μ a := fun a h1 h2 => funext fun j => s.2.2 a j (by unfold isLw at hl; omega)
  unfold Lcl
  rw [e l (by omega) (by omega), e (l + 1) (by omega) (by omega), e (l + 2) (by omega) (by omega), e (l + 3) (by omega) (by omega), e (l + 4) (by omega) (by omega)]
  exact h
theorem Lcl.ad {μ : Mem} {l m : Nat} {cs : Nat → Cls} (h : Lcl μ l m cs) (c : Cls) : Lcl (AD μ l m c) l (m + 1) (fun j => if j = m then c else cs j) := by
  refine ⟨fld_eq, fun j hj => ?_⟩
  unfold AD
  by_cases z : j = m
  · subst z
    simp (disch := omega) only [row_ne, fld_eq, if_true]
    exact ⟨trivial, trivial, trivial, trivial⟩
  · obtain ⟨h1, h2, h3, h4⟩ := h.2 j (by omega)
    simp (disch := omega) only [row_ne, fld_ne, if_neg z]
    exact ⟨h1, h2, h3, h4⟩
section PA
variable {n : Nat} {T : Nat → Nat}
theorem CP.rb {μ0 μ : Mem} {k q : Nat} {f : Int32} (h : CP n T μ0 μ k f q) : CP n T μ μ k f q := ⟨⟨h.1.1, rfl, fun _ _ _ => rfl⟩, h.2⟩
theorem CP.ad {μ0 μ : Mem} {k q l m : Nat} {f : Int32} (hl : isLw l) (h : CP n T μ0 μ k f q) (c : Cls) : CP n T (AD μ l m c) (AD μ l m c) k f q := by
  have e : ∀ a, ¬ (l ≤ a ∧ a ≤ l + 4) → mI (AD μ l m c) a = mI μ a := fun a ha => by
    unfold AD
    rw [row_ne (by omega), row_ne (by omega), row_ne (by omega), row_ne (by omega), row_ne (by omega)]
  have e90 := e 90 (by unfold isLw at hl; omega)
  have e91 := e 91 (by unfold isLw at hl; omega)
  obtain ⟨⟨o, -, -⟩, ⟨t1, t2, t3⟩, ⟨f1, f2, f3⟩, hq, hk⟩ := h
  refine ⟨⟨o, rfl, fun _ _ _ => rfl⟩, ⟨by rw [e90]; exact t1, t2, fun i hi => by rw [e91]; exact t3 i hi⟩, ⟨by rw [e90]; exact f1, by rw [e90]; exact f2, by rw [e90]; exact f3⟩, hq, hk⟩
theorem AD_sl {μ : Mem} {l m : Nat} (o : Ok μ) (c : Cls) : SL μ l (AD μ l m c) := by
  refine ⟨o, rfl, fun a j _ q => ?_⟩
  unfold AD
  rw [row_ne (by omega), row_ne (by omega), row_ne (by omega), row_ne (by omega), row_ne (by omega)]
theorem parse26 {l : Nat} (hl : isLw l) : ∀ d b m q μ cs, m + d = 9 → CP n T μ μ 0 (-1) q → sk n T q = q → Lcl μ l m cs → match pAll n T d m q cs with
    | .inl (k, s) => 0 < d → ∃ μ' x, (SL μ l μ' ∧ mI μ' 90 1 = nI k ∧ (1 ≤ k ∧ k ≤ 3) ∧ mI μ' 90 2 = nI s) ∧ X2_parse_L26 90 l (b + 2 + d) (nI m) μ = some (x, μ')
    | .inr (m', cs') => ∃ μ' x, (SL μ l μ' ∧ mI μ' 90 1 = nI 0 ∧ mI μ' 90 2 = -1 ∧ Lcl μ' l m' cs' ∧ m' ≤ 8 ∧ ((∀ j, j < m → clOk (cs j)) → ∀ j, j < m' → clOk (cs' j))) ∧ X2_parse_L26 90 l (b + 2 + d) (nI m) μ = some (x, μ') := by
  intro d
  induction d with
  | zero =>
    intro b m q μ cs hm h hsk hc
    exact fun z => absurd z (by decide)
  | succ d ih =>
    intro b m q μ cs hm h hsk hc
    have hn := h.n0
    have hq := h.2.2.2.1
    rw [pAll, show b + 2 + (d + 1) = b + 2 + d + 1 by omega, X2_parse_L26, if_neg (show ¬ (160 : Int32) ≤ _ from nI_ge (b := 160) (by omega) (by decide)), gi_90 h.ok, h.2.2.1.2.2, Option.bind_some, gi_90 h.ok, h.2.1.1, Option.bind_some]
    by_cases z : q < n
    · rw [if_pos z, if_neg (nI_ge z (by omega)), gi_90 h.ok, h.2.2.1.1, Option.bind_some, if_pos (show nI 0 = (0 : Int32) from rfl), vo_90 h.ok, Option.bind_some]
      have cc := clause_c h hsk hl (m := m) (by omega) hc.1
      cases hp : pClause n T m q with
      | inl a =>
        rw [hp] at cc
        obtain ⟨μ1, q1, h1, hk, e1⟩ := cc
        obtain ⟨μ2, h2, e2⟩ := skip_c h1
        have hs := h2.2.2.2.1
        have k1 : (nI a.1 = 0) = (a.1 = 0) := k0 h1.2.2.2.2
        rw [e1, Option.bind_some, vo_90 h1.ok, Option.bind_some, e2, Option.bind_some]
        show 0 < d + 1 → _
        intro _
        refine ⟨μ2, nI (m + 1), ⟨h2.1.sl, h2.2.2.1.1, ⟨by omega, h1.2.2.2.2⟩, h2.2.2.1.2.1⟩, ?_⟩
        rw [show b + 2 + d = b + 1 + d + 1 by omega, nI_add1, X2_parse_L26, if_neg (show ¬ (160 : Int32) ≤ _ from nI_ge (b := 160) (by omega) (by decide)), gi_90 h2.ok, h2.2.2.1.2.2, Option.bind_some, gi_90 h2.ok, h2.2.1.1, Option.bind_some, gi_90 h2.ok, h2.2.2.1.1, Option.bind_some, if_neg (show ¬ nI a.1 = 0 by rw [k1]; exact hk), ite_self]
      | inr a =>
        have ok := pClause_ok (c := a.1) (q' := a.2) hp
        rw [hp] at cc
        obtain ⟨μ1, h1, e1⟩ := cc
        have h2 := h1.ad hl (m := m) a.1
        obtain ⟨μ3, h3, e3⟩ := skip_c h2
        have lc3 := ((hc.sc hl h1.1).ad a.1).sc hl h3.1
        have sl3 : SL μ l μ3 := (h1.1.sl.tr (AD_sl h1.ok a.1)).tr h3.1.sl
        have r := ih b (m + 1) (sk n T a.2) μ3 (fun j => if j = m then a.1 else cs j) (by omega) h3.rb sk_idem lc3
        rw [e1, Option.bind_some, vo_90 h2.ok, Option.bind_some, e3, Option.bind_some, nI_add1]
        show match pAll n T d (m + 1) (sk n T a.2) (fun j => if j = m then a.1 else cs j) with
          | .inl (k, s) => _
          | .inr (m', cs') => _
        cases hr : pAll n T d (m + 1) (sk n T a.2) (fun j => if j = m then a.1 else cs j) with
        | inl c =>
          rw [hr] at r
          intro _
          obtain ⟨μ', x, ⟨r1, r2⟩, er⟩ := r (by omega)
          exact ⟨μ', x, ⟨sl3.tr r1, r2⟩, er⟩
        | inr c =>
          rw [hr] at r
          obtain ⟨μ', x, ⟨r1, r2, r3, r4, r5, r6⟩, er⟩ := r
          refine ⟨μ', x, ⟨sl3.tr r1, r2, r3, r4, r5, fun hc' => r6 (fun j hj => ?_)⟩, er⟩
          by_cases y : j = m
          · rw [if_pos y]
            exact ok.1
          · rw [if_neg y]
            exact hc' j (by omega)
    · rw [if_neg z, if_pos (nI_le (by omega) (by omega))]
      exact ⟨μ, _, ⟨⟨h.ok, rfl, fun _ _ _ _ => rfl⟩, h.2.2.1.1, h.2.2.1.2.1, hc, by omega, fun x => x⟩, rfl⟩
theorem parse_c {μ : Mem} {l : Nat} (o : Ok μ) (hl : isLw l) (st : STc μ n T) : match pAll n T 9 0 (sk n T 0) (fun _ => (0, 0, 0, 0)) with
    | .inl (k, s) => ∃ μ', (SL μ l μ' ∧ mI μ' 90 1 = nI k ∧ (1 ≤ k ∧ k ≤ 3) ∧ mI μ' 90 2 = nI s) ∧ X2_parse 90 l μ = some μ'
    | .inr (m', cs') => ∃ μ', (SL μ l μ' ∧ mI μ' 90 1 = nI 0 ∧ mI μ' 90 2 = -1 ∧ Lcl μ' l m' cs' ∧ m' ≤ 8 ∧ ∀ j, j < m' → clOk (cs' j)) ∧ X2_parse 90 l μ = some μ' := by
  have l90 : l ≠ 90 ∧ l ≠ 91 := by unfold isLw at hl; omega
  have ⟨μ1, e1⟩ : ∃ m, m = wI (wI (wI (wI μ 90 4 0) 90 1 0) 90 2 (-1)) l 0 0 := ⟨_, rfl⟩
  have o1 : Ok μ1 := by rw [e1]; exact o
  have f1 : SL μ l μ1 := by
    refine ⟨o1, by rw [e1]; rfl, fun a j q1 q2 => ?_⟩
    rw [e1, fld_ne (by omega), fld_ne (by omega), fld_ne (by omega), fld_ne (by omega)]
  have c1 : CP n T μ1 μ1 0 (-1) 0 := by
    refine ⟨⟨o1, rfl, fun _ _ _ => rfl⟩, ⟨?_, st.2.1, fun i hi => ?_⟩, ⟨?_, ?_, ?_⟩, Nat.zero_le _, by decide⟩
    · rw [f1.2.2 90 0 (by omega) (by unfold isLw at hl; omega)]
      exact st.1
    · rw [f1.2.2 91 i (by omega) (by unfold isLw at hl; omega)]
      exact st.2.2 i hi
    · rw [e1, row_ne (by omega), fld_ne (by omega), fld_eq]
      rfl
    · rw [e1, row_ne (by omega), fld_eq]
    · rw [e1, row_ne (by omega), fld_ne (by omega), fld_ne (by omega), fld_eq]
      rfl
  have lc1 : Lcl μ1 l 0 (fun _ => (0, 0, 0, 0)) := ⟨by rw [e1, fld_eq]; rfl, fun j hj => by omega⟩
  obtain ⟨μ2, h2, e2⟩ := skip_c c1
  have r := parse26 hl 9 (99999 - 10) 0 (sk n T 0) μ2 (fun _ => (0, 0, 0, 0)) rfl h2.rb sk_idem (lc1.sc hl h2.1)
  have hd : X2_parse 90 l μ = (X2_parse_L26 90 l FU 0 μ2).bind fun z => some z.2 := by
    unfold X2_parse
    rw [pi_90 o, Option.bind_some, pi_90 o.wI, Option.bind_some, pi_90 o.wI.wI, Option.bind_some, pi_l o.wI.wI.wI hl, Option.bind_some, ← e1, vo_90 o1, Option.bind_some, e2, Option.bind_some]
  have s2 : SL μ l μ2 := f1.tr h2.1.sl
  cases hp : pAll n T 9 0 (sk n T 0) (fun _ => (0, 0, 0, 0)) with
  | inl a =>
    rw [hp] at r
    obtain ⟨μ', x, ⟨r1, r2⟩, er⟩ := r (by decide)
    have er : X2_parse_L26 90 l FU 0 μ2 = _ := er
    refine ⟨μ', ⟨s2.tr r1, r2⟩, ?_⟩
    rw [hd, er, Option.bind_some]
  | inr a =>
    rw [hp] at r
    obtain ⟨μ', x, ⟨r1, r2, r3, r4, r5, r6⟩, er⟩ := r
    have er : X2_parse_L26 90 l FU 0 μ2 = _ := er
    refine ⟨μ', ⟨s2.tr r1, r2, r3, r4, r5, r6 (fun j hj => by omega)⟩, ?_⟩
    rw [hd, er, Option.bind_some]
/-! of the reference -/
def FA (μ μ' : Mem) : Prop := Ok μ' ∧ mR μ' = mR μ ∧ ∀ a j, ¬ (a = 134 ∧ (j = 35 ∨ j = 36 ∨ j = 38 ∨ j = 39)) → ¬ (161 ≤ a ∧ a ≤ 164) → mI μ' a j = mI μ a j
theorem FA.tr {μ μ' μ'' : Mem} (h : FA μ μ') (h2 : FA μ' μ'') : FA μ μ'' := ⟨h2.1, h2.2.1.trans h.2.1, fun a j q1 q2 => (h2.2.2 a j q1 q2).trans (h.2.2 a j q1 q2)⟩
theorem FB.fa {μ μ' : Mem} {m : Nat} (h : FB μ m μ') : FA μ μ' := ⟨h.1, h.2.1, fun a j q1 q2 => h.2.2 a j q1 (fun z => q2 ⟨z.1, z.2.1⟩)⟩
def Frs (μ : Mem) (m : Nat) (cs : Nat → Cls) : Prop := ∀ j, j < m → Fr j μ (cs j)
theorem MB.rb {μ0 μ : Mem} {m q : Nat} {f : Int32} (m' : Nat) (h : MB n T μ0 m μ f q) : MB n T μ m' μ f q := ⟨⟨h.1.1, rfl, fun _ _ _ _ => rfl⟩, h.2⟩
theorem Frs.fb {μ μ' : Mem} {m : Nat} {cs : Nat → Cls} (h : Frs μ m cs) (b : FB μ m μ') : Frs μ' m cs := fun j hj => by
  have e : ∀ a, 161 ≤ a → a ≤ 164 → mI μ' a j = mI μ a j := fun a h1 h2 => b.2.2 a j (by omega) (by omega)
  unfold Fr
  rw [e 161 (by decide) (by decide), e 162 (by decide) (by decide), e 163 (by decide) (by decide), e 164 (by decide) (by decide)]
  exact h j hj
theorem read25 (x1 : Int32) : ∀ d b m q μ cs, m + d = 9 → MB n T μ m μ (-1) q → Frs μ m cs → match pAll n T d m (sk n T q) cs with
    | .inl (k, s) => 0 < d → ∃ μ' x q', (FA μ μ' ∧ (1 ≤ k ∧ k ≤ 3) ∧ mI μ' 134 35 = nI s ∧ mI μ' 134 36 = nI q') ∧ X11_read_L25 134 x1 (b + 2 + d) (nI m) 0 μ = some (x, nI k, μ')
    | .inr (m', cs') => ∃ μ' q', (FA μ μ' ∧ mI μ' 134 35 = -1 ∧ Frs μ' m' cs' ∧ mI μ' 134 36 = nI q') ∧ X11_read_L25 134 x1 (b + 2 + d) (nI m) 0 μ = some (nI m', 0, μ') := by
  intro d
  induction d with
  | zero =>
    intro b m q μ cs hm h hc
    exact fun z => absurd z (by decide)
  | succ d ih =>
    intro b m q μ cs hm h hc
    have hn := h.n0
    obtain ⟨μ1, h1, kp1, e1⟩ := here_m h
    have hs := h1.2.2.2
    rw [pAll, show b + 2 + (d + 1) = b + 2 + d + 1 by omega, X11_read_L25, if_pos rfl, vo_134 h.ok, Option.bind_some, e1, Option.bind_some]
    have cz : (chV n T (sk n T q) < 0) = ¬ sk n T q < n := by
      unfold chV
      by_cases y : sk n T q < n
      · have bb := h.b (i := sk n T q) (by omega)
        rw [if_pos y, nI_lt0 (by omega)]
        exact propext ⟨False.elim, fun w => w y⟩
      · rw [if_neg y]
        exact propext ⟨fun _ => y, fun _ => by decide⟩
    simp only [cz]
    by_cases z : sk n T q < n
    · rw [if_pos z, if_neg (fun w => w z), vo_134 h1.ok, Option.bind_some]
      have cc := clause_m (h1.rb m) sk_idem (m := m) (by omega)
      cases hp : pClause n T m (sk n T q) with
      | inl a =>
        rw [hp] at cc
        obtain ⟨μ2, q2, h2, hk, e2⟩ := cc
        rw [e2, Option.bind_some]
        show 0 < d + 1 → _
        intro _
        refine ⟨μ2, nI (m + 1), q2, ⟨h1.1.fa.tr h2.1.fa, hk, h2.2.2.1.1, h2.2.2.1.2⟩, ?_⟩
        rw [show b + 2 + d = b + 1 + d + 1 by omega, nI_add1, X11_read_L25, if_neg (show ¬ nI a.1 = 0 from fun w => by have := (n_eq (b := 0) (show a.1 < 2 ^ 31 by omega) (by decide)).mp w; omega)]
      | inr a =>
        rw [hp] at cc
        obtain ⟨μ2, h2, fr, e2⟩ := cc
        have ok := pClause_ok (c := a.1) (q' := a.2) hp
        have frs : Frs μ2 (m + 1) (fun j => if j = m then a.1 else cs j) := fun j hj => by
          by_cases y : j = m
          · subst y
            simp only [if_true]
            exact fr
          · simp only [if_neg y]
            exact ((hc.fb h1.1).fb h2.1) j (by omega)
        have r := ih b (m + 1) a.2 μ2 (fun j => if j = m then a.1 else cs j) (by omega) (h2.rb (m + 1)) frs
        rw [e2, Option.bind_some, nI_add1]
        show match pAll n T d (m + 1) (sk n T a.2) (fun j => if j = m then a.1 else cs j) with
          | .inl (k, s) => _
          | .inr (m', cs') => _
        have f02 : FA μ μ2 := h1.1.fa.tr h2.1.fa
        cases hr : pAll n T d (m + 1) (sk n T a.2) (fun j => if j = m then a.1 else cs j) with
        | inl c =>
          rw [hr] at r
          intro _
          obtain ⟨μ', x, q', ⟨r1, r2⟩, er⟩ := r (by omega)
          exact ⟨μ', x, q', ⟨f02.tr r1, r2⟩, er⟩
        | inr c =>
          rw [hr] at r
          obtain ⟨μ', q', ⟨r1, r2⟩, er⟩ := r
          exact ⟨μ', q', ⟨f02.tr r1, r2⟩, er⟩
    · rw [if_neg z, if_pos z]
      exact ⟨μ1, _, ⟨h1.1.fa, h1.2.2.1.1, hc.fb h1.1, h1.2.2.1.2⟩, rfl⟩
end PA
end
section
/-! ===== read ===== -/
def RL (μ : Mem) (p : Nat) : Prop := (mI μ (lwA μ p) 0 = nI (lc μ p) ∧ mI μ 156 p = nI (lc μ p) ∧ lc μ p ≤ 8) ∧ ∀ k, k < lc μ p → (mI μ (lwA μ p + 1) k = nI (lv μ 0 p k) ∧ mI μ 157 (8 * p + k) = nI (lv μ 0 p k) ∧ lv μ 0 p k ≤ 4) ∧ (mI μ (lwA μ p + 2) k = nI (lv μ 1 p k) ∧ mI μ 158 (8 * p + k) = nI (lv μ 1 p k) ∧ lv μ 1 p k ≤ 9 ∧ (lv μ 0 p k < 3 → lv μ 1 p k ≤ 3)) ∧ (1 ≤ lv μ 0 p k → lv μ 0 p k ≤ 3 → mI μ (lwA μ p + 3) k = nI (lv μ 2 p k) ∧ mI μ 159 (8 * p + k) = nI (lv μ 2 p k) ∧ lv μ 2 p k ≤ 60 ∧ (lv μ 0 p k = 1 → lv μ 2 p k ≤ 3)) ∧ (lv μ 0 p k = 1 → mI μ (lwA μ p + 4) k = nI (lv μ 3 p k) ∧ mI μ 160 (8 * p + k) = nI (lv μ 3 p k) ∧ lv μ 3 p k ≤ 100)
theorem RL.cg {μ μ' : Mem} {p : Nat} (h : RL μ p) (ea : lwA μ' p = lwA μ p) (e1 : ∀ c k, c < 5 → mI μ' (lwA μ p + c) k = mI μ (lwA μ p + c) k) (e2 : mI μ' 156 p = mI μ 156 p) (e3 : ∀ c k, c < 4 → k < 8 → mI μ' (157 + c) (8 * p + k) = mI μ (157 + c) (8 * p + k)) : RL μ' p := by
  have eb : lc μ' p = lc μ p := by
    unfold lc
    rw [e2]
  have ec : ∀ c k, c < 4 → k < 8 → lv μ' c p k = lv μ c p k := fun c k hc hk => by
    unfold lv
    rw [e3 c k hc hk]
  have r0 : ∀ k, mI μ' (lwA μ p) k = mI μ (lwA μ p) k := fun k => e1 0 k (by decide)
  unfold RL
  rw [ea, eb, r0, e2]
  refine ⟨h.1, fun k hk => ?_⟩
  have k8 : k < 8 := by
    have := h.1.2.2
    omega
  have s0 := e3 0 k (by decide) k8
  have s1 := e3 1 k (by decide) k8
  have s2 := e3 2 k (by decide) k8
  have s3 := e3 3 k (by decide) k8
  rw [e1 1 k (by decide), e1 2 k (by decide), e1 3 k (by decide), e1 4 k (by decide), ec 0 k (by decide) k8, ec 1 k (by decide) k8, ec 2 k (by decide) k8, ec 3 k (by decide) k8, show mI μ' 157 (8 * p + k) = _ from s0, show mI μ' 158 (8 * p + k) = _ from s1, show mI μ' 159 (8 * p + k) = _ from s2, show mI μ' 160 (8 * p + k) = _ from s3]
  exact h.2 k hk
theorem RL.new {μ : Mem} {p l m : Nat} {cs : Nat → Cls} (ea : lwA μ p = l) (hm : m ≤ 8) (hc : Lcl μ l m cs) (e2 : mI μ 156 p = nI m) (e3 : ∀ k, k < m → mI μ 157 (8 * p + k) = nI (cs k).1 ∧ mI μ 158 (8 * p + k) = nI (cs k).2.1 ∧ (1 ≤ (cs k).1 → (cs k).1 ≤ 3 → mI μ 159 (8 * p + k) = nI (cs k).2.2.1) ∧ ((cs k).1 = 1 → mI μ 160 (8 * p + k) = nI (cs k).2.2.2)) (ok : ∀ k, k < m → clOk (cs k)) : RL μ p := by
  have eb : lc μ p = m := by
    unfold lc
    rw [e2, vN_nI (by omega)]
  unfold RL
  rw [ea, eb]
  refine ⟨⟨hc.1, e2, hm⟩, fun k hk => ?_⟩
  obtain ⟨q0, q1, q2, q3⟩ := e3 k hk
  obtain ⟨o0, ⟨o1, o1b⟩, o2, o3⟩ := ok k hk
  obtain ⟨c1, c2, c3, c4⟩ := hc.2 k hk
  have v0 : lv μ 0 p k = (cs k).1 := by
    show vN (mI μ 157 (8 * p + k)) = _
    rw [q0, vN_nI (by omega)]
  have v1 : lv μ 1 p k = (cs k).2.1 := by
    show vN (mI μ 158 (8 * p + k)) = _
    rw [q1, vN_nI (by omega)]
  rw [v0, v1]
  refine ⟨⟨c1, q0, o0⟩, ⟨c2, q1, o1, o1b⟩, fun x y => ?_, fun x => ?_⟩
  · have b := o2 x y
    have v2 : lv μ 2 p k = (cs k).2.2.1 := by
      show vN (mI μ 159 (8 * p + k)) = _
      rw [q2 x y, vN_nI (by omega)]
    rw [v2]
    exact ⟨c3, q2 x y, b⟩
  · have b := o3 x
    have v3 : lv μ 3 p k = (cs k).2.2.2 := by
      show vN (mI μ 160 (8 * p + k)) = _
      rw [q3 x, vN_nI (by omega)]
    rw [v3]
    exact ⟨c4, q3 x, b⟩
theorem read72 {μ : Mem} (o : Ok μ) {p m : Nat} (hp : p < 4) (hm : m ≤ 8) : ∃ μ', (Ok μ' ∧ mR μ' = mR μ ∧ (∀ a k, ¬ (157 ≤ a ∧ a ≤ 160 ∧ 8 * p ≤ k ∧ k < 8 * p + m) → mI μ' a k = mI μ a k) ∧ ∀ c k, c < 4 → k < m → mI μ' (157 + c) (8 * p + k) = mI μ (161 + c) k) ∧ X11_read_L72 134 (nI p) (nI m) FU 0 μ = some (nI m, μ') := by
  obtain ⟨μ', P, e⟩ := loopF (F := fun b (μ' : Mem) i => X11_read_L72 134 (nI p) (nI m) b (nI i) μ') (P := fun i μ' => Ok μ' ∧ mR μ' = mR μ ∧ (∀ a k, ¬ (157 ≤ a ∧ a ≤ 160 ∧ 8 * p ≤ k ∧ k < 8 * p + i) → mI μ' a k = mI μ a k) ∧ ∀ c k, c < 4 → k < i → mI μ' (157 + c) (8 * p + k) = mI μ (161 + c) k) (n := m) (r := fun μ' => (nI m, μ')) (by omega) (fun b μ' i hi P => by
    obtain ⟨o', r', fr, cp⟩ := P
    have i9 : i < 9 := by omega
    have i32 : 8 * p + i < 32 := by omega
    have g : ∀ c, c < 4 → mI μ' (161 + c) i = mI μ (161 + c) i := fun c hc => fr (161 + c) i (by omega)
    have g0 : mI μ' 161 i = mI μ 161 i := g 0 (by decide)
    have g1 : mI μ' 162 i = mI μ 162 i := g 1 (by decide)
    have g2 : mI μ' 163 i = mI μ 163 i := g 2 (by decide)
    have g3 : mI μ' 164 i = mI μ 164 i := g 3 (by decide)
    refine ⟨wI (wI (wI (wI μ' 157 (8 * p + i) (mI μ 161 i)) 158 (8 * p + i) (mI μ 162 i)) 159 (8 * p + i) (mI μ 163 i)) 160 (8 * p + i) (mI μ 164 i), ⟨o', r', fun a k q => ?_, fun c k hc hk => ?_⟩, ?_⟩
    · rw [fld_ne (by omega), fld_ne (by omega), fld_ne (by omega), fld_ne (by omega)]
      exact fr a k (by omega)
    · by_cases z : k = i
      · subst z
        rcases (show c = 0 ∨ c = 1 ∨ c = 2 ∨ c = 3 by omega) with rfl | rfl | rfl | rfl
        all_goals simp (disch := omega) only [row_ne, fld_eq]
      · rw [fld_ne (by omega), fld_ne (by omega), fld_ne (by omega), fld_ne (by omega)]
        exact cp c k hc (by omega)
    · show X11_read_L72 134 (nI p) (nI m) (b + 1) (nI i) μ' = _
      rw [X11_read_L72, if_neg (nI_ge hi (by omega)), show (8 : Int32) = nI 8 from rfl, pk_mul, nI_add, r_134_25 o', Option.bind_some, r_134_29 o', Option.bind_some, ai_161 o' i9, g0, Option.bind_some, si_157 o' i32, Option.bind_some, r_134_26 o'.wI, Option.bind_some, r_134_30 o'.wI, Option.bind_some, ai_162 o'.wI i9, row_ne (by decide), g1, Option.bind_some, si_158 o'.wI i32, Option.bind_some, r_134_27 o'.wI.wI, Option.bind_some, r_134_31 o'.wI.wI, Option.bind_some, ai_163 o'.wI.wI i9, row_ne (by decide), row_ne (by decide), g2, Option.bind_some, si_159 o'.wI.wI i32, Option.bind_some, r_134_28 o'.wI.wI.wI, Option.bind_some, r_134_32 o'.wI.wI.wI, Option.bind_some, ai_164 o'.wI.wI.wI i9, row_ne (by decide), row_ne (by decide), row_ne (by decide), g3, Option.bind_some, si_160 o'.wI.wI.wI i32, Option.bind_some, nI_add1]) (fun b μ' P => by
    show X11_read_L72 134 (nI p) (nI m) (b + 1) (nI m) μ' = _
    rw [X11_read_L72, if_pos (nI_le (Nat.le_refl _) (by omega))]) μ ⟨o, rfl, fun _ _ _ => rfl, fun c k _ hk => by omega⟩
  exact ⟨μ', P, e⟩
theorem lw_dj {l l' : Nat} (h : isLw l) (h' : isLw l') (ne : l ≠ l') {c : Nat} (hc : c < 5) : ¬ (l ≤ l' + c ∧ l' + c ≤ l + 4) := by
  unfold isLw at h h'
  omega
/-- the invariant behind read: what the text, the spare LAWS and one person's LAWS hold may be new -/
theorem Inv.rd {μ ν : Mem} {p l m : Nat} {f : Int32} (I : Inv μ) (o : Ok ν) (hp : p < 4) (hl : l = spA μ) (fr : ∀ a k, ¬ (a = 90 ∧ (k = 0 ∨ k = 1 ∨ k = 2 ∨ k = 4)) → ¬ (l ≤ a ∧ a ≤ l + 4) → ¬ (a = 134 ∧ (k = 34 ∨ k = 35 ∨ k = 36 ∨ k = 38 ∨ k = 39)) → ¬ (161 ≤ a ∧ a ≤ 164) → ¬ (a = 156 ∧ k = p) → ¬ (157 ≤ a ∧ a ≤ 160 ∧ 8 * p ≤ k ∧ k < 8 * p + m) → mI ν a k = mI μ a k) (hm : m ≤ 8) (t1 : mI ν 90 0 = 0) (t2 : mI ν 134 34 = 0) (t3 : mI ν 90 2 = f) (t4 : mI ν 134 35 = f) (ea : ∀ p', p' < 4 → p' ≠ p → lwA ν p' = lwA μ p') (new : RL ν p) : Inv ν := by
  obtain ⟨o0, ⟨w1, w2, w3, w4, w5, w6⟩, hC, hT, hS, hX, hL⟩ := I
  have il : isLw l := by
    rw [hl]
    exact o0.2.2.2.2.2.2.1
  have fr2 : ∀ a k, a ≠ 90 → ¬ (109 ≤ a ∧ a ≤ 133) → a ≠ 134 → ¬ (156 ≤ a ∧ a ≤ 164) → mI ν a k = mI μ a k := fun a k q1 q2 q3 q4 => fr a k (by omega) (by unfold isLw at il; omega) (by omega) (by omega) (by omega) (by omega)
  have er : ∀ a, a ≠ 90 → ¬ (109 ≤ a ∧ a ≤ 133) → a ≠ 134 → ¬ (156 ≤ a ∧ a ≤ 164) → mI ν a = mI μ a := fun a q1 q2 q3 q4 => funext fun k => fr2 a k q1 q2 q3 q4
  have e134 : ∀ k, ¬ (34 ≤ k ∧ k ≤ 39) → mI ν 134 k = mI μ 134 k := fun k hk => fr 134 k (by omega) (by unfold isLw at il; omega) (by omega) (by omega) (by omega) (by omega)
  refine ⟨o, ⟨w1.cg (fun q hq => er _ (by omega) (by omega) (by omega) (by omega)) (er _ (by omega) (by omega) (by omega) (by omega)), w2.cg (fun q hq => er _ (by omega) (by omega) (by omega) (by omega)) (er _ (by omega) (by omega) (by omega) (by omega)), w3.cg (er _ (by omega) (by omega) (by omega) (by omega)) (er _ (by omega) (by omega) (by omega) (by omega)), w4.cg (fr2 _ _ (by omega) (by omega) (by omega) (by omega)) (e134 _ (by omega)), w5.cg (fun q hq => er _ (by omega) (by omega) (by omega) (by omega)) (er _ (by omega) (by omega) (by omega) (by omega)), w6.cg (fr2 _ _ (by omega) (by omega) (by omega) (by omega)) (e134 _ (by omega))⟩, hC.cg (fun q hq => er _ (by omega) (by omega) (by omega) (by omega)) (er _ (by omega) (by omega) (by omega) (by omega)) (er _ (by omega) (by omega) (by omega) (by omega)) (er _ (by omega) (by omega) (by omega) (by omega)), hT.cg (fr2 _ _ (by omega) (by omega) (by omega) (by omega)) (e134 _ (by omega)) (fun q hq => er _ (by omega) (by omega) (by omega) (by omega)) (fun q hq => er _ (by omega) (by omega) (by omega) (by omega)) (nw_le (e134 _ (by omega))), hS.cg (fr2 _ _ (by omega) (by omega) (by omega) (by omega)) (e134 _ (by omega)) (fun q hq => er _ (by omega) (by omega) (by omega) (by omega)) (fun q hq => er _ (by omega) (by omega) (by omega) (by omega)) (nw_le (e134 _ (by omega))), ⟨?_, fun k hk => ?_, by rw [t3, t4]⟩, fun p' hp' => ?_⟩
  · have : tl ν = 0 := by
      unfold tl
      rw [t2]
      rfl
    rw [this, t1, t2]
    exact ⟨rfl, rfl, by decide⟩
  · have : tx ν k = tx μ k := by
      unfold tx
      rw [er 165 (by omega) (by omega) (by omega) (by omega)]
    rw [this, er 165 (by omega) (by omega) (by omega) (by omega), er 91 (by omega) (by omega) (by omega) (by omega)]
    exact hX.2.1 k hk
  · by_cases z : p' = p
    · subst z
      exact new
    · have il' := (o0.2.2.2.2.1 p' hp').2
      have nel : l ≠ lwA μ p' := by
        rw [hl]
        exact fun w => o0.2.2.2.2.2.2.2.2 p' hp' w.symm
      refine RL.cg (μ := μ) (hL p' hp') (ea p' hp' z) (fun c k hc => ?_) ?_ (fun c k hc hk => ?_)
      · have dj := lw_dj il il' nel hc
        exact fr _ _ (by unfold isLw at il'; omega) dj (by unfold isLw at il'; omega) (by unfold isLw at il'; omega) (by unfold isLw at il'; omega) (by unfold isLw at il'; omega)
      · exact fr _ _ (by omega) (by unfold isLw at il; omega) (by omega) (by omega) (by omega) (by omega)
      · exact fr _ _ (by omega) (by unfold isLw at il; omega) (by omega) (by omega) (by omega) (by omega)
theorem p_read (x1 : Int32) : Pair (X10_read 0 x1) (X11_read 134 x1) := by
  intro μ I
  have I0 := I
  obtain ⟨o, W, C, TT, S, X, L⟩ := I
  rcases gd x1 3 (by decide) with ⟨g1, k1⟩ | ⟨g1, k1, p, hp, rfl⟩
  · exact pairR I0 (by unfold X10_read; rw [if_pos (show X10_isPerson x1 = 0 from g1)]) (by unfold X11_read; rw [if_pos (show X11_isPerson x1 = 0 from k1)])
  have hp4 : p < 4 := by omega
  have il : isLw (spA μ) := o.2.2.2.2.2.2.1
  have ip : isLw (lwA μ p) := lw_is o hp4
  have nep : lwA μ p ≠ spA μ := o.2.2.2.2.2.2.2.2 p hp4
  have st : STc μ (tl μ) (tx μ) := ⟨X.1.1, X.1.2.2, fun i hi => ⟨(X.2.1 i hi).1, (X.2.1 i hi).2.2⟩⟩
  have pc := parse_c o il st
  -- the reference, on a memory that has the same cells of its own
  have ref : ∀ ν, Ok ν → (∀ a k, 134 ≤ a → mI ν a k = mI μ a k) → match pAll (tl μ) (tx μ) 9 0 (sk (tl μ) (tx μ) 0) (fun _ => (0, 0, 0, 0)) with
      | .inl (k, s) => ∃ μ', (Ok μ' ∧ mR μ' = mR ν ∧ (∀ a j, ¬ (a = 134 ∧ (j = 34 ∨ j = 35 ∨ j = 36 ∨ j = 38 ∨ j = 39)) → ¬ (161 ≤ a ∧ a ≤ 164) → mI μ' a j = mI ν a j) ∧ mI μ' 134 34 = 0 ∧ mI μ' 134 35 = nI s) ∧ X11_read 134 (nI p) ν = some ((-10) - nI k, μ')
      | .inr (m', cs') => m' ≤ 8 → ∃ μ', (Ok μ' ∧ mR μ' = mR ν ∧ (∀ a j, ¬ (a = 134 ∧ (j = 34 ∨ j = 35 ∨ j = 36 ∨ j = 38 ∨ j = 39)) → ¬ (161 ≤ a ∧ a ≤ 164) → ¬ (a = 156 ∧ j = p) → ¬ (157 ≤ a ∧ a ≤ 160 ∧ 8 * p ≤ j ∧ j < 8 * p + m') → mI μ' a j = mI ν a j) ∧ mI μ' 134 34 = 0 ∧ mI μ' 134 35 = -1 ∧ mI μ' 156 p = nI m' ∧ ∀ k, k < m' → mI μ' 157 (8 * p + k) = nI (cs' k).1 ∧ mI μ' 158 (8 * p + k) = nI (cs' k).2.1 ∧ (1 ≤ (cs' k).1 → (cs' k).1 ≤ 3 → mI μ' 159 (8 * p + k) = nI (cs' k).2.2.1) ∧ ((cs' k).1 = 1 → mI μ' 160 (8 * p + k) = nI (cs' k).2.2.2)) ∧ X11_read 134 (nI p) ν = some (nI m', μ') := by
    intro ν oν eν
    have ⟨ν1, e1⟩ : ∃ m, m = wI (wI ν 134 35 (-1)) 134 36 0 := ⟨_, rfl⟩
    have o1 : Ok ν1 := by rw [e1]; exact oν
    have fr1 : ∀ a k, ¬ (a = 134 ∧ (k = 35 ∨ k = 36)) → mI ν1 a k = mI ν a k := fun a k q => by rw [e1, fld_ne (by omega), fld_ne (by omega)]
    have mb : MB (tl μ) (tx μ) ν1 0 ν1 (-1) 0 := by
      refine ⟨⟨o1, rfl, fun _ _ _ _ => rfl⟩, ⟨?_, X.1.2.2, fun i hi => ⟨?_, (X.2.1 i hi).2.2⟩⟩, ⟨?_, ?_⟩, Nat.zero_le _⟩
      · rw [fr1 134 34 (by omega), eν 134 34 (by decide)]
        exact X.1.2.1
      · rw [fr1 165 i (by omega), eν 165 i (by decide)]
        exact (X.2.1 i hi).2.1
      · rw [e1, fld_ne (by omega), fld_eq]
      · rw [e1, fld_eq]
        rfl
    have r := read25 (nI p) 9 (99999 - 10) 0 0 ν1 (fun _ => (0, 0, 0, 0)) rfl mb (fun j hj => by omega)
    have hd : X11_read 134 (nI p) ν = (X11_read_L25 134 (nI p) FU 0 0 ν1).bind fun z4 => (pI 11 34 134 0 z4.2.2).bind fun μ5 => if z4.2.1 ≤ 0 then (gR 11 24 134 μ5).bind fun v7 => (sI v7 (nI p) z4.1 μ5).bind fun μ8 => (X11_read_L72 134 (nI p) z4.1 FU 0 μ8).bind fun z9 => some (z4.1, z9.2) else some (((-10)) - z4.2.1, μ5) := by
      unfold X11_read
      rw [if_neg (show ¬ X11_isPerson (nI p) = 0 from k1), pi_134 oν, Option.bind_some, pi_134 oν.wI, Option.bind_some, ← e1]
    cases hpa : pAll (tl μ) (tx μ) 9 0 (sk (tl μ) (tx μ) 0) (fun _ => (0, 0, 0, 0)) with
    | inl a =>
      rw [hpa] at r
      obtain ⟨ν2, x, q', ⟨r1, hk, r2, r3⟩, er⟩ := r (by decide)
      have er : X11_read_L25 134 (nI p) FU 0 0 ν1 = _ := er
      refine ⟨wI ν2 134 34 0, ⟨r1.1, ?_, fun b j q1 q2 => ?_, fld_eq, ?_⟩, ?_⟩
      · show mR ν2 = _
        rw [r1.2.1, e1]
        rfl
      · rw [fld_ne (by omega), r1.2.2 b j (by omega) q2, fr1 b j (by omega)]
      · rw [fld_ne (by omega)]
        exact r2
      · rw [hd, er, Option.bind_some, pi_134 r1.1, Option.bind_some, if_neg (kn hk)]
    | inr a =>
      rw [hpa] at r
      intro m8
      obtain ⟨ν2, q', ⟨r1, r2, r3, r4⟩, er⟩ := r
      have er : X11_read_L25 134 (nI p) FU 0 0 ν1 = _ := er
      have o3 : Ok (wI (wI ν2 134 34 0) 156 p (nI a.1)) := r1.1
      obtain ⟨ν4, ⟨o4, R4, f4, c4⟩, e4⟩ := read72 o3 hp4 m8
      refine ⟨ν4, ⟨o4, ?_, fun b j q1 q2 q3 q5 => ?_, ?_, ?_, ?_, fun k hk => ?_⟩, ?_⟩
      · rw [R4]
        show mR ν2 = _
        rw [r1.2.1, e1]
        rfl
      · rw [f4 b j q5, fld_ne q3, fld_ne (by omega), r1.2.2 b j (by omega) q2, fr1 b j (by omega)]
      · rw [f4 134 34 (by omega), row_ne (by decide), fld_eq]
      · rw [f4 134 35 (by omega), row_ne (by decide), fld_ne (by omega)]
        exact r2
      · rw [f4 156 p (by omega), fld_eq]
      · obtain ⟨z1, z2, z3, z4⟩ := r3 k hk
        have y : ∀ c, c < 4 → mI ν4 (157 + c) (8 * p + k) = mI ν2 (161 + c) k := fun c hc => by
          rw [c4 c k hc hk, row_ne (by omega), row_ne (by omega)]
        exact ⟨(y 0 (by decide)).trans z1, (y 1 (by decide)).trans z2, fun u v => (y 2 (by decide)).trans (z3 u v), fun u => (y 3 (by decide)).trans (z4 u)⟩
      · rw [hd, er, Option.bind_some, pi_134 r1.1, Option.bind_some, if_pos z00, r_134_24 r1.1.wI, Option.bind_some, si_156 r1.1.wI hp4, Option.bind_some, e4, Option.bind_some]
  cases hpa : pAll (tl μ) (tx μ) 9 0 (sk (tl μ) (tx μ) 0) (fun _ => (0, 0, 0, 0)) with
  | inl a =>
    rw [hpa] at pc
    obtain ⟨c1, ⟨s1, fk, hk, fa⟩, e1⟩ := pc
    have oc := s1.1
    have ckz : (nI a.1 = 0) = (a.1 = 0) := k0 hk.2
    have fr2 : ∀ b k, ¬ (b = 90 ∧ (k = 0 ∨ k = 1 ∨ k = 2 ∨ k = 4)) → ¬ (spA μ ≤ b ∧ b ≤ spA μ + 4) → mI (wI c1 90 0 0) b k = mI μ b k := fun b k q1 q2 => by rw [fld_ne (by omega), s1.2.2 b k (by omega) q2]
    have rr := ref (wI c1 90 0 0) oc (fun b k hb => fr2 b k (by omega) (by unfold isLw at il; omega))
    rw [hpa] at rr
    obtain ⟨m1, ⟨om, Rm, fm, t34, t35⟩, em⟩ := rr
    refine ⟨(-10) - nI a.1, wI c1 90 0 0, m1, ?_, oc, em, ?_⟩
    · unfold X10_read
      rw [if_neg (show ¬ X10_isPerson (nI p) = 0 from g1), r_0_3 o, Option.bind_some, r_sp o, Option.bind_some, vo_90 o, Option.bind_some, e1, Option.bind_some, r_0_3 oc, Option.bind_some, pi_90 oc, Option.bind_some, r_0_3 oc.wI, Option.bind_some, gi_90 oc.wI, fld_ne (by omega), fk, Option.bind_some, if_neg (by rw [ckz]; omega), Option.bind_some, gi_90 oc.wI, fld_ne (by omega), fk, Option.bind_some]
    · have lwm : ∀ p', lwA m1 p' = lwA μ p' := fun p' => by
        unfold lwA
        rw [Rm]
        show ((mR c1 92 p').getD 0) = _
        rw [s1.2.1]
      refine I0.rd (p := p) (l := spA μ) (m := 0) (f := nI a.2) om hp4 rfl (fun b k q1 q2 q3 q4 _ _ => ?_) (by decide) ?_ t34 ?_ t35 (fun p' _ _ => lwm p') ?_
      · rw [fm b k q3 q4, fr2 b k q1 q2]
      · rw [fm 90 0 (by omega) (by omega), fld_eq]
      · rw [fm 90 2 (by omega) (by omega), fld_ne (by omega)]
        exact fa
      · refine RL.cg (μ := μ) (L p hp4) (lwm p) (fun c k hc => ?_) ?_ (fun c k hc hk8 => ?_)
        · have dj := lw_dj il ip (fun w => nep w.symm) hc
          rw [fm _ _ (by unfold isLw at ip; omega) (by unfold isLw at ip; omega), fr2 _ _ (by unfold isLw at ip; omega) dj]
        · rw [fm _ _ (by omega) (by omega), fr2 _ _ (by omega) (by unfold isLw at il; omega)]
        · rw [fm _ _ (by omega) (by omega), fr2 _ _ (by omega) (by unfold isLw at il; omega)]
  | inr a =>
    rw [hpa] at pc
    obtain ⟨c1, ⟨s1, fk, fa, lc1, m8, ok⟩, e1⟩ := pc
    have oc := s1.1
    have fr2 : ∀ b k, ¬ (b = 90 ∧ (k = 0 ∨ k = 1 ∨ k = 2 ∨ k = 4)) → ¬ (spA μ ≤ b ∧ b ≤ spA μ + 4) → mI (wI c1 90 0 0) b k = mI μ b k := fun b k q1 q2 => by rw [fld_ne (by omega), s1.2.2 b k (by omega) q2]
    have lwc : ∀ p', lwA c1 p' = lwA μ p' := fun p' => by
      unfold lwA
      rw [s1.2.1]
    have spc : spA c1 = spA μ := by
      unfold spA
      rw [s1.2.1]
    have ⟨c3, e3⟩ : ∃ m, m = wR (wR (wI c1 90 0 0) 92 p (spA μ)) 0 9 (lwA μ p) := ⟨_, rfl⟩
    have R3 : ∀ b k, ¬ (b = 92 ∧ k = p) → ¬ (b = 0 ∧ k = 9) → mR c3 b k = mR c1 b k := fun b k q1 q2 => by
      rw [e3, mR_wR, if_neg q2, mR_wR, if_neg q1]
      rfl
    have R3p : mR c3 92 p = some (spA μ) := by
      rw [e3, mR_wR, if_neg (by omega), mR_wR, if_pos ⟨rfl, rfl⟩]
    have R3s : mR c3 0 9 = some (lwA μ p) := by
      rw [e3, mR_wR, if_pos ⟨rfl, rfl⟩]
    have lwp : lwA c3 p = spA μ := by
      unfold lwA
      rw [R3p]
      rfl
    have lwn : ∀ p', p' ≠ p → lwA c3 p' = lwA μ p' := fun p' hne => by
      rw [← lwc p']
      unfold lwA
      rw [R3 92 p' (by omega) (by omega)]
    have sp3 : spA c3 = lwA μ p := by
      unfold spA
      rw [R3s]
      rfl
    have o3 : Ok c3 := by
      obtain ⟨q1, q2, q3, ⟨q4, q5, q6⟩, q7, q8, q9, q10, q11⟩ := oc
      have wa : wtA c3 = wtA c1 := by unfold wtA; rw [R3 1 6 (by omega) (by omega)]
      have wb : wtB c3 = wtB c1 := by unfold wtB; rw [R3 1 7 (by omega) (by omega)]
      refine ⟨by rw [e3]; exact q1, by rw [e3]; exact q2, fun b k hd => ?_, ⟨?_, ?_, ?_⟩, fun p' hp' => ?_, ?_, ?_, fun p1 p2 h1 h2 e => ?_, fun p' hp' => ?_⟩
      · rw [R3 b k (fun w => by obtain ⟨rfl, -⟩ := w; exact absurd hd (by simp [dynR])) (fun w => by obtain ⟨rfl, rfl⟩ := w; exact absurd hd (by decide))]
        exact q3 b k hd
      · rw [R3 1 6 (by omega) (by omega), wa]
        exact q4
      · rw [R3 1 7 (by omega) (by omega), wb]
        exact q5
      · rw [wa, wb]
        exact q6
      · by_cases z : p' = p
        · subst z
          rw [R3p, lwp]
          exact ⟨rfl, il⟩
        · rw [R3 92 p' (by omega) (by omega), lwn p' z, ← lwc p']
          exact q7 p' hp'
      · rw [R3s, sp3]
      · rw [sp3]
        exact ip
      · by_cases z1 : p1 = p
        · by_cases z2 : p2 = p
          · omega
          · rw [z1, lwp, lwn p2 z2] at e
            exact absurd e.symm (o.2.2.2.2.2.2.2.2 p2 h2)
        · by_cases z2 : p2 = p
          · rw [z2, lwp, lwn p1 z1] at e
            exact absurd e (o.2.2.2.2.2.2.2.2 p1 h1)
          · rw [lwn p1 z1, lwn p2 z2] at e
            exact o.2.2.2.2.2.2.2.1 p1 p2 h1 h2 e
      · rw [sp3]
        by_cases z : p' = p
        · subst z
          rw [lwp]
          exact fun w => nep w.symm
        · rw [lwn p' z]
          exact fun w => z (o.2.2.2.2.2.2.2.1 p' p hp' hp4 w)
    have I3 : mI c3 = mI (wI c1 90 0 0) := by rw [e3]; rfl
    have rr := ref c3 o3 (fun b k hb => by rw [I3]; exact fr2 b k (by omega) (by unfold isLw at il; omega))
    rw [hpa] at rr
    obtain ⟨m1, ⟨om, Rm, fm, t34, t35, t156, tcs⟩, em⟩ := rr m8
    refine ⟨nI a.1, c3, m1, ?_, o3, em, ?_⟩
    · have oc2 : Ok (wI c1 90 0 0) := oc
      have e92 : aR 4 92 (nI p) (wI c1 90 0 0) = some (lwA μ p) := by
        rw [ar_laws oc2 hp4]
        exact congrArg some (lwc p)
      have esp : gR 10 9 0 (wI c1 90 0 0) = some (spA μ) := by
        rw [r_sp oc2]
        exact congrArg some spc
      have esr : sR 4 3 92 (nI p) (spA μ) (wI c1 90 0 0) = some (wR (wI c1 90 0 0) 92 p (spA μ)) := by
        unfold sR
        have hs := il.s0
        rw [oc2.1, oc2.2.1, show S0 92 = (4, 4) from rfl, if_pos ⟨⟨by decide, rfl, ix_ok hp4 (by decide)⟩, by omega, hs.1⟩, nI_clamp (by omega)]
      have epr : pR 10 9 0 (lwA μ p) (wR (wI c1 90 0 0) 92 p (spA μ)) = some c3 := by
        unfold pR
        rw [if_pos, e3]
        refine ⟨?_, ?_⟩
        · show 0 < mN c1
          rw [oc.1]
          decide
        · show mS c1 0 = _
          rw [oc.2.1]
          rfl
      have e92' : aR 4 92 (nI p) c3 = some (spA μ) := by
        rw [ar_laws o3 hp4, lwp]
      have ecn : gI 3 0 (spA μ) c3 = some (nI a.1) := by
        rw [gi_l o3 il, I3, row_ne (by unfold isLw at il; omega), lc1.1]
      unfold X10_read
      rw [if_neg (show ¬ X10_isPerson (nI p) = 0 from g1), r_0_3 o, Option.bind_some, r_sp o, Option.bind_some, vo_90 o, Option.bind_some, e1, Option.bind_some, r_0_3 oc, Option.bind_some, pi_90 oc, Option.bind_some, r_0_3 oc2, Option.bind_some, gi_90 oc2, fld_ne (by omega), fk, Option.bind_some, if_pos (show nI 0 = (0 : Int32) from rfl), r_0_4 oc2, Option.bind_some, e92, Option.bind_some, Option.bind_some, esp, Option.bind_some, esr, Option.bind_some, epr, Option.bind_some, r_0_4 o3, Option.bind_some, e92', Option.bind_some, ecn, Option.bind_some]
    · have lwm : ∀ p', lwA m1 p' = lwA c3 p' := fun p' => by
        unfold lwA
        rw [Rm]
      refine I0.rd (p := p) (l := spA μ) (m := a.1) (f := -1) om hp4 rfl (fun b k q1 q2 q3 q4 q5 q6 => ?_) m8 ?_ t34 ?_ t35 (fun p' _ hne => (lwm p').trans (lwn p' hne)) ?_
      · rw [fm b k q3 q4 q5 q6, I3, fr2 b k q1 q2]
      · rw [fm 90 0 (by omega) (by omega) (by omega) (by omega), I3, fld_eq]
      · rw [fm 90 2 (by omega) (by omega) (by omega) (by omega), I3, fld_ne (by omega)]
        exact fa
      · refine RL.new ((lwm p).trans lwp) m8 ?_ t156 tcs ok
        have er : ∀ b, spA μ ≤ b → b ≤ spA μ + 4 → mI m1 b = mI c1 b := fun b h1 h2 => funext fun k => by
          rw [fm b k (by unfold isLw at il; omega) (by unfold isLw at il; omega) (by unfold isLw at il; omega) (by unfold isLw at il; omega), I3, row_ne (by unfold isLw at il; omega)]
        unfold Lcl
        rw [er _ (by omega) (by omega), er _ (by omega) (by omega), er _ (by omega) (by omega), er _ (by omega) (by omega), er _ (by omega) (by omega)]
        exact lc1
end
section
/-! ===== the best plan, in numbers ===== -/
/-- the first best of the sets 1 .. m that may be said, with its sum; 0: nothing -/
def fo (el : Nat → Bool) (bv : Nat → Nat) (skip : Nat) : Nat → Nat × Nat
  | 0 => (0, skip)
  | m + 1 => if el (m + 1) = true ∧ (fo el bv skip m).2 < bv (m + 1) then (m + 1, bv (m + 1)) else fo el bv skip m
theorem fo_sp (el : Nat → Bool) (bv : Nat → Nat) (skip : Nat) : ∀ m, skip ≤ (fo el bv skip m).2 ∧ (∀ x, 1 ≤ x → x ≤ m → el x = true → bv x ≤ (fo el bv skip m).2) ∧ (((fo el bv skip m).1 = 0 ∧ (fo el bv skip m).2 = skip) ∨ (1 ≤ (fo el bv skip m).1 ∧ (fo el bv skip m).1 ≤ m ∧ el (fo el bv skip m).1 = true ∧ (fo el bv skip m).2 = bv (fo el bv skip m).1 ∧ skip < (fo el bv skip m).2 ∧ ∀ x, 1 ≤ x → x < (fo el bv skip m).1 → el x = true → bv x < (fo el bv skip m).2))
  | 0 => ⟨Nat.le_refl _, fun x h1 h2 => by omega, Or.inl ⟨rfl, rfl⟩⟩
  | m + 1 => by
    obtain ⟨h1, h2, h3⟩ := fo_sp el bv skip m
    rw [fo]
    by_cases q : el (m + 1) = true ∧ (fo el bv skip m).2 < bv (m + 1)
    · rw [if_pos q]
      refine ⟨(by omega : skip ≤ bv (m + 1)), fun x x1 x2 hx => ?_, Or.inr ⟨(by omega : 1 ≤ m + 1), Nat.le_refl _, q.1, rfl, (by omega : skip < bv (m + 1)), fun x x1 x2 hx => ?_⟩⟩
      · show bv x ≤ bv (m + 1)
        by_cases e : x = m + 1
        · subst e
          exact Nat.le_refl _
        · have := h2 x x1 (by omega) hx
          omega
      · have x2 : x < m + 1 := x2
        have := h2 x x1 (by omega) hx
        show bv x < bv (m + 1)
        omega
    · rw [if_neg q]
      refine ⟨h1, fun x x1 x2 hx => ?_, h3.imp id (fun ⟨a, b, c⟩ => ⟨a, by omega, c⟩)⟩
      by_cases e : x = m + 1
      · subst e
        have : ¬ (fo el bv skip m).2 < bv (m + 1) := fun w => q ⟨hx, w⟩
        omega
      · exact h2 x x1 (by omega) hx
theorem fo_no {el : Nat → Bool} {bv : Nat → Nat} {skip a : Nat} : ∀ d, (∀ x, a < x → x ≤ a + d → el x = false) → fo el bv skip (a + d) = fo el bv skip a
  | 0, _ => rfl
  | d + 1, h => by
    rw [show a + (d + 1) = a + d + 1 by omega, fo, if_neg (fun w => by rw [h (a + d + 1) (by omega) (by omega)] at w; exact absurd w.1 (by decide))]
    exact fo_no d (fun x h1 h2 => h x h1 (by omega))
theorem fo_cg {el el' : Nat → Bool} {bv bv' : Nat → Nat} {skip : Nat} : ∀ m, (∀ x, 1 ≤ x → x ≤ m → el x = el' x) → (∀ x, 1 ≤ x → x ≤ m → el x = true → bv x = bv' x) → fo el bv skip m = fo el' bv' skip m
  | 0, _, _ => rfl
  | m + 1, h1, h2 => by
    rw [fo, fo, fo_cg m (fun x a b => h1 x a (by omega)) (fun x a b => h2 x a (by omega)), ← h1 (m + 1) (by omega) (by omega)]
    cases he : el (m + 1)
    · rw [if_neg (fun w => absurd w.1 (by decide)), if_neg (fun w => absurd w.1 (by decide))]
    · rw [h2 (m + 1) (by omega) (by omega) he]
section BE
variable (n : Nat) (cG : Nat → Nat → Nat) (al : Nat → Bool) (mo : Nat → Nat → Nat)
def elB (st pl left x : Nat) : Bool := decide (x &&& left = x) && (decide (0 < cG st x) && (al x || decide (mo st pl = 0)))
def BB : Nat → Nat → Nat → Nat
  | 0, _, _ => 0
  | r + 1, left, pl => (fo (elB cG al mo (n - (r + 1)) pl left) (fun x => cG (n - (r + 1)) x + BB r (nd left x) (pl ||| 2 ^ (n - (r + 1)))) (BB r left pl) 63).2
end BE
theorem sub_tr {a b c : Nat} (h1 : a &&& b = a) (h2 : b &&& c = b) : a &&& c = a := by
  rw [← h1, Nat.and_assoc, h2]
theorem sub_or {a b : Nat} (c : Nat) (h : a &&& b = a) : (a ||| c) &&& (b ||| c) = a ||| c := by
  apply Nat.eq_of_testBit_eq
  intro i
  have hi : (a.testBit i && b.testBit i) = a.testBit i := by rw [← Nat.testBit_and, h]
  rw [Nat.testBit_and, Nat.testBit_or, Nat.testBit_or]
  cases ha : a.testBit i <;> cases hb : b.testBit i <;> cases c.testBit i <;> simp_all
theorem sub_le {a b : Nat} (h : a &&& b = a) : a ≤ b := by
  rw [← h]
  exact Nat.and_le_right
theorem nd_lt {a : Nat} (b : Nat) {c : Nat} (h : a < c) : nd a b < c := Nat.lt_of_le_of_lt (nd_le a b) h
theorem nd_sub {a b : Nat} (x : Nat) (ha : a < 64) (hb : b < 64) (h : a &&& b = a) : nd a x &&& nd b x = nd a x := by
  apply Nat.eq_of_testBit_eq
  intro i
  rw [Nat.testBit_and]
  by_cases q : i < 31
  · rw [nd_bit q, nd_bit q]
    have hi : (a.testBit i && b.testBit i) = a.testBit i := by rw [← Nat.testBit_and, h]
    cases ha : a.testBit i <;> cases hb : b.testBit i <;> cases x.testBit i <;> simp_all
  · have : (nd a x).testBit i = false := Nat.testBit_lt_two_pow (Nat.lt_of_lt_of_le (nd_lt x ha) (show 2 ^ 6 ≤ 2 ^ i from Nat.pow_le_pow_right (by decide) (by omega)))
    rw [this, Bool.false_and]
theorem nd_self {a b : Nat} (ha : a < 64) : nd a b &&& a = nd a b := by
  unfold nd
  rw [Nat.and_comm a, Nat.and_assoc, Nat.and_self]
theorem BB_bd {n : Nat} {cG : Nat → Nat → Nat} {al : Nat → Bool} {mo : Nat → Nat → Nat} {c : Nat} (h : ∀ s x, cG s x ≤ c) : ∀ r left pl, BB n cG al mo r left pl ≤ c * r
  | 0, _, _ => Nat.zero_le _
  | r + 1, left, pl => by
    have ih := BB_bd (n := n) (al := al) (mo := mo) h r
    have sp := fo_sp (elB cG al mo (n - (r + 1)) pl left) (fun x => cG (n - (r + 1)) x + BB n cG al mo r (nd left x) (pl ||| 2 ^ (n - (r + 1)))) (BB n cG al mo r left pl) 63
    rw [BB, Nat.mul_succ]
    rcases sp.2.2 with ⟨-, e⟩ | ⟨-, -, -, e, -⟩
    · rw [e]
      have := ih left pl
      omega
    · rw [e]
      have h1 := ih (nd left (fo (elB cG al mo (n - (r + 1)) pl left) (fun x => cG (n - (r + 1)) x + BB n cG al mo r (nd left x) (pl ||| 2 ^ (n - (r + 1)))) (BB n cG al mo r left pl) 63).1) (pl ||| 2 ^ (n - (r + 1)))
      have h2 := h (n - (r + 1)) (fo (elB cG al mo (n - (r + 1)) pl left) (fun x => cG (n - (r + 1)) x + BB n cG al mo r (nd left x) (pl ||| 2 ^ (n - (r + 1)))) (BB n cG al mo r left pl) 63).1
      show cG _ _ + BB n cG al mo r _ _ ≤ _
      omega
/-- fewer THINGS left and more said: no better -/
theorem BB_mono {n : Nat} {cG : Nat → Nat → Nat} {al : Nat → Bool} {mo : Nat → Nat → Nat} (hm : ∀ st a b, a &&& b = a → mo st b = 0 → mo st a = 0) : ∀ r left' left pl pl', left < 64 → left' &&& left = left' → pl &&& pl' = pl → BB n cG al mo r left' pl' ≤ BB n cG al mo r left pl
  | 0, _, _, _, _, _, _, _ => Nat.le_refl _
  | r + 1, left', left, pl, pl', hl, h1, h2 => by
    have ih := BB_mono (n := n) (cG := cG) (al := al) hm r
    have hl' : left' < 64 := Nat.lt_of_le_of_lt (sub_le h1) hl
    rw [BB, BB]
    have sp := fo_sp (elB cG al mo (n - (r + 1)) pl' left') (fun x => cG (n - (r + 1)) x + BB n cG al mo r (nd left' x) (pl' ||| 2 ^ (n - (r + 1)))) (BB n cG al mo r left' pl') 63
    have sq := fo_sp (elB cG al mo (n - (r + 1)) pl left) (fun x => cG (n - (r + 1)) x + BB n cG al mo r (nd left x) (pl ||| 2 ^ (n - (r + 1)))) (BB n cG al mo r left pl) 63
    rcases sp.2.2 with ⟨-, e⟩ | ⟨b1, b2, b3, e, -⟩
    · rw [e]
      exact Nat.le_trans (ih left' left pl pl' hl h1 h2) sq.1
    · rw [e]
      generalize (fo (elB cG al mo (n - (r + 1)) pl' left') (fun x => cG (n - (r + 1)) x + BB n cG al mo r (nd left' x) (pl' ||| 2 ^ (n - (r + 1)))) (BB n cG al mo r left' pl') 63).1 = x at b1 b2 b3
      have el : elB cG al mo (n - (r + 1)) pl left x = true := by
        unfold elB at b3 ⊢
        rw [Bool.and_eq_true, Bool.and_eq_true, decide_eq_true_eq, decide_eq_true_eq, Bool.or_eq_true, decide_eq_true_eq] at b3 ⊢
        exact ⟨sub_tr b3.1 h1, b3.2.1, b3.2.2.imp id (hm _ _ _ h2)⟩
      refine Nat.le_trans ?_ (sq.2.1 x b1 b2 el)
      have := ih (nd left' x) (nd left x) (pl ||| 2 ^ (n - (r + 1))) (pl' ||| 2 ^ (n - (r + 1))) (nd_lt x hl) (nd_sub x hl' hl h1) (sub_or _ h2)
      show cG _ _ + BB n cG al mo r _ _ ≤ cG _ _ + BB n cG al mo r _ _
      omega
theorem BB_nc {n : Nat} {cG : Nat → Nat → Nat} {al : Nat → Bool} {mo : Nat → Nat → Nat} (hm : ∀ st pl, mo st pl = 0) : ∀ r left pl pl', BB n cG al mo r left pl = BB n cG al mo r left pl'
  | 0, _, _, _ => rfl
  | r + 1, left, pl, pl' => by
    have ih := BB_nc (n := n) (cG := cG) (al := al) hm r
    rw [BB, BB, ih left pl pl']
    rw [fo_cg (bv' := fun x => cG (n - (r + 1)) x + BB n cG al mo r (nd left x) (pl' ||| 2 ^ (n - (r + 1)))) (el' := elB cG al mo (n - (r + 1)) pl' left) 63 (fun x _ _ => by unfold elB; rw [hm, hm]) (fun x _ _ _ => by rw [ih (nd left x) (pl ||| 2 ^ (n - (r + 1))) (pl' ||| 2 ^ (n - (r + 1)))])]
/-! small sets, one by one -/
def nx (s f : Nat) : Nat := ((64 + s - f) % 64) &&& f
/-- how many parts of f are below s -/
def rk (f : Nat) : Nat → Nat
  | 0 => 0
  | s + 1 => if s &&& f = s then rk f s + 1 else rk f s
theorem nx_I : ∀ s, s < 64 → ∀ f, f < 64 → (nI s - nI f) &&& nI f = nI (nx s f) := by decide +kernel
def nxB (f s : Nat) : Bool := !(decide (s &&& f = s) && !decide (s = f)) || (decide (s < nx s f) && (decide (nx s f < 64) && (decide (nx s f &&& f = nx s f) && decide (rk f (nx s f) = rk f s + 1))))
theorem nxB_ok : ∀ f, f < 64 → ∀ s, s < 64 → nxB f s = true := by decide +kernel
theorem nx_up {f : Nat} (hf : f < 64) {s : Nat} (hs : s < 64) (h1 : s &&& f = s) (h2 : s ≠ f) : s < nx s f ∧ nx s f < 64 ∧ nx s f &&& f = nx s f ∧ rk f (nx s f) = rk f s + 1 := by
  have := nxB_ok f hf s hs
  unfold nxB at this
  rw [decide_eq_true h1, decide_eq_false h2, Bool.not_false, Bool.and_true, Bool.not_true, Bool.false_or, Bool.and_eq_true, Bool.and_eq_true, Bool.and_eq_true, decide_eq_true_eq, decide_eq_true_eq, decide_eq_true_eq, decide_eq_true_eq] at this
  exact this
theorem rk_mono (f a : Nat) : ∀ d, rk f a ≤ rk f (a + d)
  | 0 => Nat.le_refl _
  | d + 1 => by
    have := rk_mono f a d
    rw [show a + (d + 1) = a + d + 1 by omega, rk]
    split <;> omega
/-- no part between two of ranks side by side -/
theorem rk_btw {f a b x : Nat} (ha : a &&& f = a) (hx : x &&& f = x) (h1 : a < x) (h2 : x < b) (e : rk f b = rk f a + 1) : False := by
  have e1 : rk f (a + 1) = rk f a + 1 := by rw [rk, if_pos ha]
  have e2 : rk f (x + 1) = rk f x + 1 := by rw [rk, if_pos hx]
  have m1 := rk_mono f (a + 1) (x - (a + 1))
  have m2 := rk_mono f (x + 1) (b - (x + 1))
  rw [show a + 1 + (x - (a + 1)) = x by omega] at m1
  rw [show x + 1 + (b - (x + 1)) = b by omega] at m2
  omega
theorem nx_lst {f : Nat} (hf : f < 64) {s : Nat} (hs : s < 64) (h1 : s &&& f = s) (h2 : s ≠ f) {x : Nat} (h3 : x &&& f = x) (h4 : s < x) : nx s f ≤ x := by
  by_cases q : nx s f ≤ x
  · exact q
  · exact (rk_btw h1 h3 h4 (by omega) (nx_up hf hs h1 h2).2.2.2).elim
theorem rk_all : ∀ f, f < 64 → (1 : Int32) <<< (J6_bitCount_0f7a4 (nI f) &&& 31) = nI (rk f f + 1) ∧ rk f f < 64 := by decide +kernel
def dnB (f m : Nat) : Bool := !(decide (m &&& f = m) && !decide (m = 0)) || (decide ((m - 1) &&& f < m) && (decide (((m - 1) &&& f) &&& f = (m - 1) &&& f) && decide (rk f m = rk f ((m - 1) &&& f) + 1)))
theorem dnB_ok : ∀ f, f < 64 → ∀ m, m < 64 → dnB f m = true := by decide +kernel
theorem dn_up {f : Nat} (hf : f < 64) {m : Nat} (hm : m < 64) (h1 : m &&& f = m) (h2 : m ≠ 0) : (m - 1) &&& f < m ∧ ((m - 1) &&& f) &&& f = (m - 1) &&& f ∧ rk f m = rk f ((m - 1) &&& f) + 1 := by
  have := dnB_ok f hf m hm
  unfold dnB at this
  rw [decide_eq_true h1, decide_eq_false h2, Bool.not_false, Bool.and_true, Bool.not_true, Bool.false_or, Bool.and_eq_true, Bool.and_eq_true, decide_eq_true_eq, decide_eq_true_eq, decide_eq_true_eq] at this
  exact this
theorem dn_lst {f : Nat} (hf : f < 64) {m : Nat} (hm : m < 64) (h1 : m &&& f = m) (h2 : m ≠ 0) {x : Nat} (h3 : x &&& f = x) (h4 : x < m) : x ≤ (m - 1) &&& f := by
  obtain ⟨a, b, c⟩ := dn_up hf hm h1 h2
  by_cases q : x ≤ (m - 1) &&& f
  · exact q
  · exact (rk_btw b h3 (by omega) h4 c).elim
/-! nodes: a 1, and behind it a bit for each step gone -/
def plO (st node : Nat) : Nat → Nat
  | 0 => 0
  | j + 1 => if node / 2 ^ (st - 1 - j) % 2 = 1 then plO st node j ||| 2 ^ j else plO st node j
def plN (st node : Nat) : Nat := plO st node st
def plB (st node : Nat) : Bool := !(decide (2 ^ st ≤ node) && decide (node < 2 ^ (st + 1))) || (decide (plN st node < 2 ^ st) && (decide (plN (st + 1) (2 * node) = plN st node) && decide (plN (st + 1) (2 * node + 1) = plN st node ||| 2 ^ st)))
theorem plB_ok : ∀ st, st < 6 → ∀ node, node < 64 → plB st node = true := by decide +kernel
theorem plN_ok {st node : Nat} (hs : st < 6) (hn : node < 64) (h1 : 2 ^ st ≤ node) (h2 : node < 2 ^ (st + 1)) : plN st node < 2 ^ st ∧ plN (st + 1) (2 * node) = plN st node ∧ plN (st + 1) (2 * node + 1) = plN st node ||| 2 ^ st := by
  have := plB_ok st hs node hn
  unfold plB at this
  rw [decide_eq_true h1, decide_eq_true h2, Bool.and_true, Bool.not_true, Bool.false_or, Bool.and_eq_true, Bool.and_eq_true, decide_eq_true_eq, decide_eq_true_eq, decide_eq_true_eq] at this
  exact this
def pbB (st node j : Nat) : Bool := !(decide (j < st)) || decide (((plN st node).testBit j = true) ↔ (node / 2 ^ (st - 1 - j) % 2 = 1))
theorem pbB_ok : ∀ st, st < 6 → ∀ node, node < 64 → ∀ j, j < 6 → pbB st node j = true := by decide +kernel
theorem plN_bit {st node j : Nat} (hs : st < 6) (hn : node < 64) (hj : j < st) : ((plN st node).testBit j = true) ↔ (node / 2 ^ (st - 1 - j) % 2 = 1) := by
  have := pbB_ok st hs node hn j (by omega)
  unfold pbB at this
  rw [decide_eq_true hj, Bool.not_true, Bool.false_or] at this
  exact of_decide_eq_true this
end
section
/-! ===== the THINGS that a plan looks at ===== -/
def pS (μ : Mem) (p : Nat) : Nat → Nat × (Nat → Nat)
  | 0 => (0, fun _ => 0)
  | t + 1 => if (pS μ p t).1 < 6 ∧ stV μ t = 0 ∧ (tv μ 0 t).testBit p = true then ((pS μ p t).1 + 1, fun k => if k = (pS μ p t).1 then t else (pS μ p t).2 k) else pS μ p t
theorem pS_ok (μ : Mem) (p : Nat) : ∀ t, (pS μ p t).1 ≤ 6 ∧ (∀ k, k < (pS μ p t).1 → (pS μ p t).2 k < t) ∧ ∀ k j, k < j → j < (pS μ p t).1 → (pS μ p t).2 k < (pS μ p t).2 j
  | 0 => ⟨by rw [pS]; omega, fun k hk => by rw [pS] at hk; omega, fun k j _ hj => by rw [pS] at hj; omega⟩
  | t + 1 => by
    obtain ⟨h1, h2, h3⟩ := pS_ok μ p t
    rw [pS]
    by_cases q : (pS μ p t).1 < 6 ∧ stV μ t = 0 ∧ (tv μ 0 t).testBit p = true
    · rw [if_pos q]
      refine ⟨(by omega : (pS μ p t).1 + 1 ≤ 6), fun k hk => ?_, fun k j hkj hj => ?_⟩
      · have hk : k < (pS μ p t).1 + 1 := hk
        show (if k = (pS μ p t).1 then t else (pS μ p t).2 k) < t + 1
        by_cases e : k = (pS μ p t).1
        · rw [if_pos e]
          omega
        · rw [if_neg e]
          have := h2 k (by omega)
          omega
      · have hj : j < (pS μ p t).1 + 1 := hj
        show (if k = (pS μ p t).1 then t else (pS μ p t).2 k) < (if j = (pS μ p t).1 then t else (pS μ p t).2 j)
        rw [if_neg (by omega)]
        by_cases e : j = (pS μ p t).1
        · rw [if_pos e]
          exact h2 k (by omega)
        · rw [if_neg e]
          exact h3 k j hkj (by omega)
    · rw [if_neg q]
      exact ⟨h1, fun k hk => by have := h2 k hk; omega, h3⟩
theorem pS_st {μ : Mem} {p t : Nat} (h : ¬ (pS μ p t).1 < 6) : ∀ d, pS μ p (t + d) = pS μ p t
  | 0 => rfl
  | d + 1 => by rw [show t + (d + 1) = t + d + 1 by omega, pS, pS_st h d, if_neg (fun z => h z.1)]
theorem pS_sm {μ μ' : Mem} (s : Sm μ μ') (p : Nat) : ∀ t, pS μ' p t = pS μ p t
  | 0 => rfl
  | t + 1 => by rw [pS, pS, pS_sm s p t, stV_sm s, tv_sm s (by decide)]
def pK (μ : Mem) (p : Nat) : Nat := (pS μ p (tn μ)).1
def pA (μ : Mem) (p k : Nat) : Nat := (pS μ p (tn μ)).2 k
theorem pK_le (μ : Mem) (p : Nat) : pK μ p ≤ 6 := (pS_ok μ p (tn μ)).1
theorem pA_lt {μ : Mem} {p k : Nat} (hk : k < pK μ p) : pA μ p k < tn μ := (pS_ok μ p (tn μ)).2.1 k hk
def PK (μ : Mem) (p : Nat) (ν : Mem) : Prop := mI ν 94 16 = nI (pK μ p) ∧ ∀ k, k < pK μ p → mI ν 98 k = nI (pA μ p k)
/-- only these cells of the plan are written -/
def Fp (μ ν : Mem) : Prop := Sm μ ν ∧ (∀ k, k ≠ 16 → mI ν 94 k = mI μ 94 k)
theorem cor94 (k : Nat) : cor 94 k = false := rfl
theorem corP {a : Nat} (h : 95 ≤ a ∧ a ≤ 106) (k : Nat) : cor a k = false := by
  unfold cor
  have h1 : coA a = false := by
    unfold coA
    rw [decide_eq_false_iff_not]
    omega
  have h2 : coF a k = false := by
    rcases (show a = 95 ∨ a = 96 ∨ a = 97 ∨ a = 98 ∨ a = 99 ∨ a = 100 ∨ a = 101 ∨ a = 102 ∨ a = 103 ∨ a = 104 ∨ a = 105 ∨ a = 106 by omega) with rfl | rfl | rfl | rfl | rfl | rfl | rfl | rfl | rfl | rfl | rfl | rfl <;> rfl
  rw [h1, h2]
  rfl
theorem pick7 {μ ν0 : Mem} (I : Inv μ) {p : Nat} (hp : p < 4) (s0 : Sm μ ν0) (z0 : mI ν0 94 16 = nI 0) : ∃ ν x, (Fp ν0 ν ∧ PK μ p ν) ∧ X4_pick_L7 94 (nI p) (nI (nw μ)) FU 0 ν0 = some (x, ν) := by
  obtain ⟨o, W, C, T, S, X, L⟩ := I
  have hn := T.1.2.2
  obtain ⟨b, Q, e⟩ := loopE (F := fun m (ν : Mem) i => X4_pick_L7 94 (nI p) (nI (nw μ)) m (nI i) ν) (P := fun i ν => Fp ν0 ν ∧ mI ν 94 16 = nI (pS μ p i).1 ∧ ∀ k, k < (pS μ p i).1 → mI ν 98 k = nI ((pS μ p i).2 k)) (Q := fun b => Fp ν0 b.2 ∧ PK μ p b.2) (n := tn μ) (by omega) (fun m ν i hi P => by
    obtain ⟨⟨s1, f1⟩, pc, pa⟩ := P
    have s := s0.tr s1
    have oν := s.1
    have Tν := Onl.T s T
    have i10 : i < 10 := by omega
    obtain ⟨q6, q7, q8⟩ := pS_ok μ p i
    have ct : mI ν 37 2 = nI (tn μ) := (s.fld (a := 37) (k := 2) rfl).trans T.1.1
    have f0 := (Tν.2.1 0 i (by decide) i10).1
    rw [tv_sm s (by decide)] at f0
    have b0 : tv μ 0 i ≤ 15 := (T.2.1 0 i (by decide) i10).2.2
    have st := stand_c oν (W.sm s) Tν (Onl.S s S) i10
    rw [nw_sm s, stV_sm s] at st
    have sl := stV_le μ i
    have cs0 : (nI (stV μ i) = 0) = (stV μ i = 0) := n_eq (b := 0) (by omega) (by decide)
    show (∃ a', _ ∧ X4_pick_L7 94 (nI p) (nI (nw μ)) (m + 1) (nI i) ν = _) ∨ ∃ b, _ ∧ X4_pick_L7 94 (nI p) (nI (nw μ)) (m + 1) (nI i) ν = some b
    rw [X4_pick_L7, r_94_5 oν, Option.bind_some, gi_37 oν, ct, Option.bind_some, if_neg (nI_ge hi (by omega)), gi_94 oν, pc, Option.bind_some]
    have c6 : ((6 : Int32) ≤ nI (pS μ p i).1) = (6 ≤ (pS μ p i).1) := n_le (a := 6) (by decide) (by omega)
    simp only [c6]
    by_cases z6 : 6 ≤ (pS μ p i).1
    · refine Or.inr ⟨(nI i, ν), ⟨⟨s1, f1⟩, ?_, ?_⟩, by rw [if_pos z6]⟩
      · rw [pc]
        unfold pK
        rw [show tn μ = i + (tn μ - i) by omega, pS_st (by omega)]
      · intro k hk
        unfold pK at hk
        unfold pA
        rw [show tn μ = i + (tn μ - i) by omega, pS_st (by omega)] at hk ⊢
        exact pa k hk
    · rw [if_neg z6]
      simp only [Option.bind_some, r_37_0 oν, ar_things oν i10, gi_T oν i10, f0, vo_37 oν, st, cs0, has_t (show tv μ 0 i < 2 ^ 31 by omega) (show p < 31 by omega), gi_94 oν, pc, r_94_7 oν, si_98 oν (show (pS μ p i).1 < 6 by omega)]
      by_cases q : stV μ i = 0 ∧ (tv μ 0 i).testBit p = true
      · have qb : ¬ (tv μ 0 i).testBit p = false := by rw [q.2]; decide
        refine Or.inl ⟨wI (wI ν 98 (pS μ p i).1 (nI i)) 94 16 (nI ((pS μ p i).1 + 1)), ⟨⟨(s1.wI (corP (by decide) _)).wI (cor94 _), fun k hk => ?_⟩, ?_, fun k hk => ?_⟩, ?_⟩
        · rw [fld_ne (by omega), row_ne (by decide)]
          exact f1 k hk
        · rw [fld_eq, pS, if_pos ⟨by omega, q⟩]
        · rw [pS, if_pos ⟨by omega, q⟩] at hk ⊢
          have hk : k < (pS μ p i).1 + 1 := hk
          show mI _ 98 k = nI (if k = (pS μ p i).1 then i else (pS μ p i).2 k)
          rw [row_ne (by decide)]
          by_cases e : k = (pS μ p i).1
          · rw [if_pos e, e, fld_eq]
          · rw [if_neg e, fld_ne (by omega)]
            exact pa k (by omega)
        · rw [if_neg qb, if_pos q.1, gi_94 oν.wI, row_ne (by decide), pc, Option.bind_some, nI_add1, pi_94 oν.wI, Option.bind_some, Option.bind_some, nI_add1]
      · refine Or.inl ⟨ν, ⟨⟨s1, f1⟩, ?_, ?_⟩, ?_⟩
        · rw [pS, if_neg (fun z => q z.2)]
          exact pc
        · rw [pS, if_neg (fun z => q z.2)]
          exact pa
        · by_cases qb : (tv μ 0 i).testBit p = false
          · rw [if_pos qb, Option.bind_some, nI_add1]
          · have qt : (tv μ 0 i).testBit p = true := by
              cases z : (tv μ 0 i).testBit p
              · exact absurd z qb
              · rfl
            rw [if_neg qb, if_neg (fun z => q ⟨z, qt⟩), Option.bind_some, nI_add1]) (fun m ν P => by
    obtain ⟨⟨s1, f1⟩, pc, pa⟩ := P
    have s := s0.tr s1
    have ct : mI ν 37 2 = nI (tn μ) := (s.fld (a := 37) (k := 2) rfl).trans T.1.1
    refine ⟨(nI (tn μ), ν), ⟨⟨s1, f1⟩, pc, pa⟩, ?_⟩
    show X4_pick_L7 94 (nI p) (nI (nw μ)) (m + 1) (nI (tn μ)) ν = _
    rw [X4_pick_L7, r_94_5 s.1, Option.bind_some, gi_37 s.1, ct, Option.bind_some, if_pos (nI_le (Nat.le_refl _) (by omega))]) ν0 ⟨⟨Sm.rf s0.1, fun _ _ => rfl⟩, z0, fun k hk => absurd hk (by rw [pS]; omega)⟩
  exact ⟨b.2, b.1, Q, e⟩
/-! sets of them -/
def rN (μ : Mem) (p x : Nat) : Nat → Nat
  | 0 => 0
  | k + 1 => if x.testBit k = true then rN μ p x k ||| 2 ^ pA μ p k else rN μ p x k
def mN' (μ : Mem) (p x : Nat) : Nat → Int32
  | 0 => -1
  | k + 1 => if x.testBit k = true then (if x % 2 ^ k = 0 ∨ mN' μ p x k = nI (tv μ 2 (pA μ p k)) then nI (tv μ 2 (pA μ p k)) else -1) else mN' μ p x k
def rS (μ : Mem) (p x : Nat) : Nat := rN μ p x (pK μ p)
def mS' (μ : Mem) (p x : Nat) : Int32 := mN' μ p x (pK μ p)
theorem tb_or {r j i : Nat} (hr : r < 2 ^ j) (hi : i < j) : (r ||| 2 ^ j).testBit i = r.testBit i := by rw [or_put_bit, decide_eq_false (by omega), Bool.or_false]
theorem tb_self {r j : Nat} : (r ||| 2 ^ j).testBit j = true := by rw [or_put_bit, decide_eq_true rfl, Bool.or_true]
theorem tb_hi {r j : Nat} (hr : r < 2 ^ j) (d : Nat) : r.testBit (j + d) = false := Nat.testBit_lt_two_pow (Nat.lt_of_lt_of_le hr (Nat.pow_le_pow_right (by decide) (by omega)))
theorem mod_or {r j : Nat} (hr : r < 2 ^ j) : (r ||| 2 ^ j) % 2 ^ j = r := by
  apply Nat.eq_of_testBit_eq
  intro i
  rw [Nat.testBit_mod_two_pow]
  by_cases q : i < j
  · rw [decide_eq_true q, Bool.true_and, tb_or hr q]
  · rw [decide_eq_false q, Bool.false_and, show i = j + (i - j) by omega, tb_hi hr]
theorem rN_hi {μ : Mem} {p x j : Nat} (hx : x < 2 ^ j) : ∀ d, rN μ p x (j + d) = rN μ p x j
  | 0 => rfl
  | d + 1 => by rw [show j + (d + 1) = j + d + 1 by omega, rN, if_neg (by rw [tb_hi hx]; decide), rN_hi hx d]
theorem mN_hi {μ : Mem} {p x j : Nat} (hx : x < 2 ^ j) : ∀ d, mN' μ p x (j + d) = mN' μ p x j
  | 0 => rfl
  | d + 1 => by rw [show j + (d + 1) = j + d + 1 by omega, mN', if_neg (by rw [tb_hi hx]; decide), mN_hi hx d]
theorem rN_or {μ : Mem} {p r j : Nat} (hr : r < 2 ^ j) : ∀ k, k ≤ j → rN μ p (r ||| 2 ^ j) k = rN μ p r k
  | 0, _ => rfl
  | k + 1, hk => by rw [rN, rN, tb_or hr (by omega), rN_or hr k (by omega)]
theorem mN_or {μ : Mem} {p r j : Nat} (hr : r < 2 ^ j) : ∀ k, k ≤ j → mN' μ p (r ||| 2 ^ j) k = mN' μ p r k
  | 0, _ => rfl
  | k + 1, hk => by
    have e : (r ||| 2 ^ j) % 2 ^ k = r % 2 ^ k := by
      apply Nat.eq_of_testBit_eq
      intro i
      rw [Nat.testBit_mod_two_pow, Nat.testBit_mod_two_pow]
      by_cases q : i < k
      · rw [tb_or hr (by omega)]
      · rw [decide_eq_false q, Bool.false_and, Bool.false_and]
    rw [mN', mN', tb_or hr (by omega), mN_or hr k (by omega), e]
theorem rN_lt {μ : Mem} {p : Nat} (x : Nat) : ∀ k, k ≤ pK μ p → rN μ p x k < 2 ^ tn μ
  | 0, _ => Nat.two_pow_pos _
  | k + 1, hk => by
    have ih := rN_lt (μ := μ) (p := p) x k (by omega)
    rw [rN]
    split
    · exact or_put_lt ih (pA_lt (by omega))
    · exact ih
theorem rS_lt (μ : Mem) (p x : Nat) : rS μ p x < 2 ^ tn μ := rN_lt x _ (Nat.le_refl _)
theorem or_rng {r j K : Nat} (hr : r < 2 ^ j) (hj : j < K) (hK : K ≤ 6) : r ||| 2 ^ j < 2 ^ K ∧ r ||| 2 ^ j < 64 ∧ r ||| 2 ^ j = r + 2 ^ j := by
  have h1 : 2 ^ (j + 1) ≤ 2 ^ K := Nat.pow_le_pow_right (by decide) (by omega)
  have h2 : 2 ^ K ≤ 2 ^ 6 := Nat.pow_le_pow_right (by decide) hK
  have h3 : r ||| 2 ^ j < 2 ^ (j + 1) := or_put_lt (Nat.lt_trans hr (Nat.pow_lt_pow_right (by decide) (by omega))) (by omega)
  have h4 : r ||| 2 ^ j = 2 ^ j + r := by
    rw [Nat.or_comm]
    have := Nat.two_pow_add_eq_or_of_lt hr 1
    rw [Nat.mul_one] at this
    exact this.symm
  exact ⟨by omega, by omega, by omega⟩
def PR (μ : Mem) (p j : Nat) (ν : Mem) : Prop := ∀ x, x < 2 ^ j → mI ν 99 x = nI (rN μ p x j) ∧ (x ≠ 0 → mI ν 100 x = mN' μ p x j)
theorem pick123 {μ ν0 : Mem} (I : Inv μ) {p j : Nat} (hj : j < pK μ p) (s0 : Sm μ ν0) (k0' : PK μ p ν0) (r0 : PR μ p j ν0) : ∃ ν x, (Sm μ ν ∧ mI ν 94 = mI ν0 94 ∧ PK μ p ν ∧ PR μ p (j + 1) ν) ∧ X4_pick_L123 94 (nI j) (nI (tv μ 2 (pA μ p j))) FU 0 ν0 = some (x, ν) := by
  obtain ⟨o, W, C, T, S, X, L⟩ := I
  have hn := T.1.2.2
  have hK := pK_le μ p
  have p6 : 2 ^ j ≤ 2 ^ 5 := Nat.pow_le_pow_right (by decide) (by omega)
  have tj := pA_lt hj
  have bm : tv μ 2 (pA μ p j) ≤ 5 := (T.2.1 2 (pA μ p j) (by decide) (by omega)).2.2
  obtain ⟨ν, ⟨s, f94, pk, lo, hi⟩, e⟩ := loopF (F := fun m (ν : Mem) i => X4_pick_L123 94 (nI j) (nI (tv μ 2 (pA μ p j))) m (nI i) ν) (P := fun i ν => Sm μ ν ∧ mI ν 94 = mI ν0 94 ∧ PK μ p ν ∧ (∀ x, x < 2 ^ j → mI ν 99 x = mI ν0 99 x ∧ mI ν 100 x = mI ν0 100 x) ∧ ∀ r, r < i → mI ν 99 (r ||| 2 ^ j) = nI (rN μ p (r ||| 2 ^ j) (j + 1)) ∧ mI ν 100 (r ||| 2 ^ j) = mN' μ p (r ||| 2 ^ j) (j + 1)) (n := 2 ^ j) (r := fun ν => (nI (2 ^ j), ν)) (by omega) (fun m ν i hi P => by
    obtain ⟨s, f94, pk, lo, hiR⟩ := P
    obtain ⟨b1, b2, b3⟩ := or_rng hi hj hK
    have oν := s.1
    have r1 := r0 i hi
    have e99 : mI ν 99 i = nI (rN μ p i j) := (lo i hi).1.trans r1.1
    have e98 : mI ν 98 j = nI (pA μ p j) := pk.2 j hj
    have on2 : Ok (wI ν 99 (i ||| 2 ^ j) (nI (rN μ p i j ||| 2 ^ pA μ p j))) := oν
    have vr : rN μ p (i ||| 2 ^ j) (j + 1) = rN μ p i j ||| 2 ^ pA μ p j := by rw [rN, if_pos tb_self, rN_or hi j (Nat.le_refl _)]
    have vm : mN' μ p (i ||| 2 ^ j) (j + 1) = if i = 0 ∨ mN' μ p i j = nI (tv μ 2 (pA μ p j)) then nI (tv μ 2 (pA μ p j)) else -1 := by rw [mN', if_pos tb_self, mN_or hi j (Nat.le_refl _), mod_or hi]
    refine ⟨wI (wI ν 99 (i ||| 2 ^ j) (nI (rN μ p (i ||| 2 ^ j) (j + 1)))) 100 (i ||| 2 ^ j) (mN' μ p (i ||| 2 ^ j) (j + 1)), ⟨(s.wI (corP (by decide) _)).wI (corP (by decide) _), ?_, ⟨?_, fun k hk => ?_⟩, fun x hx => ?_, fun r hr => ?_⟩, ?_⟩
    · rw [row_ne (by decide), row_ne (by decide)]
      exact f94
    · rw [row_ne (by decide), row_ne (by decide)]
      exact pk.1
    · rw [row_ne (by decide), row_ne (by decide)]
      exact pk.2 k hk
    · have h2 := lo x hx
      rw [row_ne (a := 100) (b := 99) (by decide), fld_ne (by omega), fld_ne (by omega), row_ne (a := 99) (b := 100) (by decide)]
      exact h2
    · by_cases z : r = i
      · subst z
        rw [row_ne (a := 100) (b := 99) (by decide), fld_eq, fld_eq]
        exact ⟨rfl, rfl⟩
      · have h2 := hiR r (by omega)
        obtain ⟨-, -, c3⟩ := or_rng (show r < 2 ^ j by omega) hj hK
        rw [row_ne (a := 100) (b := 99) (by decide), fld_ne (by omega), fld_ne (by omega), row_ne (a := 99) (b := 100) (by decide)]
        exact h2
    · show X4_pick_L123 94 (nI j) (nI (tv μ 2 (pA μ p j))) (m + 1) (nI i) ν = _
      rw [X4_pick_L123, sh31 j (by omega), if_neg (nI_ge hi (by omega)), fa_or, Option.bind_some, r_94_8 oν, Option.bind_some, Option.bind_some, ai_99 oν (by omega), e99, Option.bind_some, r_94_7 oν, Option.bind_some, ai_98 oν (by omega), e98, Option.bind_some, or_put (by omega), si_99 oν b2, Option.bind_some, r_94_9 on2, Option.bind_some]
      have ez : ((if nI i = 0 then some (nI (tv μ 2 (pA μ p j))) else (some 100).bind fun v11 => (aI v11 (nI i) (wI ν 99 (i ||| 2 ^ j) (nI (rN μ p i j ||| 2 ^ pA μ p j)))).bind fun v12 => if v12 = nI (tv μ 2 (pA μ p j)) then some (nI (tv μ 2 (pA μ p j))) else some (-1) : Option Int32)) = some (mN' μ p (i ||| 2 ^ j) (j + 1)) := by
        have ci : (nI i = 0) = (i = 0) := n_eq (b := 0) (by omega) (by decide)
        simp only [ci]
        rw [vm]
        by_cases y : i = 0
        · rw [if_pos y, if_pos (Or.inl y)]
        · rw [if_neg y, Option.bind_some, ai_100 on2 (by omega), row_ne (by decide), (lo i hi).2, r1.2 y, Option.bind_some]
          by_cases y2 : mN' μ p i j = nI (tv μ 2 (pA μ p j))
          · rw [if_pos y2, if_pos (Or.inr y2)]
          · rw [if_neg y2, if_neg (fun z => z.elim y y2)]
      rw [ez, Option.bind_some, si_100 on2 b2, Option.bind_some, nI_add1, vr]) (fun m ν P => by
    show X4_pick_L123 94 (nI j) (nI (tv μ 2 (pA μ p j))) (m + 1) (nI (2 ^ j)) ν = _
    rw [X4_pick_L123, sh31 j (by omega), if_pos (nI_le (Nat.le_refl _) (by omega))]) ν0 ⟨s0, rfl, k0', fun _ _ => ⟨rfl, rfl⟩, fun r hr => by omega⟩
  refine ⟨ν, nI (2 ^ j), ⟨s, f94, pk, fun x hx => ?_⟩, e⟩
  by_cases z : x < 2 ^ j
  · have h1 := lo x z
    have h2 := r0 x z
    rw [h1.1, h1.2, show j + 1 = j + 1 from rfl, rN_hi z 1, mN_hi z 1]
    exact h2
  · obtain ⟨r, hr, rfl⟩ : ∃ r, r < 2 ^ j ∧ x = r ||| 2 ^ j := by
      have hx2 : x < 2 ^ j * 2 := by rw [← Nat.pow_succ]; exact hx
      refine ⟨x - 2 ^ j, by omega, ?_⟩
      have := (or_rng (show x - 2 ^ j < 2 ^ j by omega) hj hK).2.2
      omega
    exact ⟨(hi r hr).1, fun _ => (hi r hr).2⟩
theorem pick_c {μ ν0 : Mem} (I : Inv μ) {p : Nat} (hp : p < 4) (s0 : Sm μ ν0) : ∃ ν, (Sm μ ν ∧ (∀ k, k ≠ 16 → mI ν 94 k = mI ν0 94 k) ∧ PK μ p ν ∧ PR μ p (pK μ p) ν) ∧ X4_pick 94 (nI p) (nI (nw μ)) ν0 = some ν := by
  have I0 := I
  obtain ⟨o, W, C, T, S, X, L⟩ := I
  have hn := T.1.2.2
  have hK := pK_le μ p
  obtain ⟨ν1, x1, ⟨⟨s1, f1⟩, k1⟩, e1⟩ := pick7 I0 hp (ν0 := wI ν0 94 16 0) (s0.wI (cor94 _)) fld_eq
  have s1' := (s0.wI (cor94 16) (v := 0)).tr s1
  have h2 : Sm μ (wI ν1 99 0 0) := s1'.wI (corP (by decide) _)
  have k2 : PK μ p (wI ν1 99 0 0) := ⟨by rw [row_ne (by decide)]; exact k1.1, fun k hk => by rw [row_ne (by decide)]; exact k1.2 k hk⟩
  have r2 : PR μ p 0 (wI ν1 99 0 0) := fun x hx => by
    have : x = 0 := by
      have : x < 1 := hx
      omega
    subst this
    exact ⟨fld_eq, fun z => absurd rfl z⟩
  obtain ⟨ν, ⟨s, f94, pk, pr⟩, e⟩ := loopF (F := fun m (ν : Mem) i => X4_pick_L93 94 m (nI i) ν) (P := fun i ν => Sm μ ν ∧ mI ν 94 = mI ν1 94 ∧ PK μ p ν ∧ PR μ p i ν) (n := pK μ p) (r := fun ν => (nI (pK μ p), ν)) (by omega) (fun m ν i hi P => by
    obtain ⟨s, f94, pk, pr⟩ := P
    have oν := s.1
    have Tν := Onl.T s T
    have ti := pA_lt hi
    have f2 := (Tν.2.1 2 (pA μ p i) (by decide) (by omega)).1
    rw [tv_sm s (by decide)] at f2
    obtain ⟨ν', x', ⟨s', g94, pk', pr'⟩, e'⟩ := pick123 I0 hi s pk pr
    refine ⟨ν', ⟨s', g94.trans f94, pk', pr'⟩, ?_⟩
    show X4_pick_L93 94 (m + 1) (nI i) ν = _
    rw [X4_pick_L93, gi_94 oν, pk.1, Option.bind_some, if_neg (nI_ge hi (by omega)), r_94_5 oν, Option.bind_some, r_37_0 oν, Option.bind_some, r_94_7 oν, Option.bind_some, ai_98 oν (by omega), pk.2 i hi, Option.bind_some, ar_things oν (by omega), Option.bind_some, gi_T oν (by omega), f2, Option.bind_some, e', Option.bind_some, nI_add1]) (fun m ν P => by
    show X4_pick_L93 94 (m + 1) (nI (pK μ p)) ν = _
    rw [X4_pick_L93, gi_94 P.1.1, P.2.2.1.1, Option.bind_some, if_pos (nI_le (Nat.le_refl _) (by omega))]) (wI ν1 99 0 0) ⟨h2, row_ne (by decide), k2, r2⟩
  have e : X4_pick_L93 94 FU 0 (wI ν1 99 0 0) = _ := e
  refine ⟨ν, ⟨s, fun k hk => ?_, pk, pr⟩, ?_⟩
  · rw [f94, f1 k hk, fld_ne (by omega)]
  · unfold X4_pick
    rw [pi_94 s0.1, Option.bind_some, e1, Option.bind_some, r_94_8 s1'.1, Option.bind_some]
    rw [show sI 99 0 0 ν1 = some (wI ν1 99 0 0) from si_99 (i := 0) s1'.1 (by decide), Option.bind_some, e, Option.bind_some]
end
section
/-! ===== what a set gains in a step ===== -/
def vW (μ : Mem) (t k s : Nat) : Nat := vN (valV μ t k s)
theorem vW_ok {μ : Mem} (T : RelT μ) {t k s : Nat} (ht : t < 10) (hk : k ≤ 8) (hs : s ≤ 1000000) (hn : nw μ ≤ 60) : valV μ t k s = nI (vW μ t k s) ∧ vW μ t k s ≤ 999 := by
  have b4 : tv μ 4 t ≤ 999 := (T.2.1 4 t (by decide) ht).2.2
  have b5 : tv μ 5 t ≤ 99 := (T.2.1 5 t (by decide) ht).2.2
  have b7 := T.2.2.1 t ht
  have e : ∀ c : Int32, (∃ v, v ≤ 999 ∧ c = nI v) → c = nI (vN c) ∧ vN c ≤ 999 := fun c ⟨v, hv, ec⟩ => by
    rw [ec, vN_nI (by omega)]
    exact ⟨rfl, hv⟩
  unfold vW
  apply e
  have hz : ∃ v, v ≤ 999 ∧ (0 : Int32) = nI v := ⟨0, by decide, rfl⟩
  unfold valV
  by_cases q1 : tv μ 8 t = 0
  · rw [if_pos q1]
    by_cases q2 : nw μ + k ≤ tv μ 6 t
    · rw [if_pos q2]
      by_cases q3 : 0 < valD μ t k
      · have ed : valD μ t k = nI (tv μ 4 t) - nI (tv μ 5 t * (nw μ + k - tv μ 7 t)) := by
          unfold valD
          rw [pk_sub (by omega), pk_mul]
        have bm : tv μ 5 t * (nw μ + k - tv μ 7 t) ≤ 99 * 68 := Nat.mul_le_mul b5 (by omega)
        have hlt : tv μ 5 t * (nw μ + k - tv μ 7 t) < tv μ 4 t := by
          rw [ed, Int32.lt_iff_toInt_lt, pk_sub_toInt (by omega) (by omega)] at q3
          have : (0 : Int32).toInt = 0 := rfl
          omega
        rw [pk_sub (by omega)] at ed
        rw [if_pos q3, ed]
        by_cases q4 : tv μ 1 t = 2
        · rw [if_pos q4, nI_l (by omega), nI_l (by omega), lN_mul, show (1000000 : Int64) = lN 1000000 from rfl]
          have bp : (tv μ 4 t - tv μ 5 t * (nw μ + k - tv μ 7 t)) * s ≤ 999 * 1000000 := Nat.mul_le_mul (by omega) hs
          rw [pk_lDiv (by omega) (by decide) (by decide), lN_i]
          exact ⟨_, by omega, rfl⟩
        · rw [if_neg q4]
          exact ⟨_, by omega, rfl⟩
      · rw [if_neg q3]
        exact hz
    · rw [if_neg q2]
      exact hz
  · rw [if_neg q1]
    exact hz
def oV (μ : Mem) (p t k : Nat) : Nat := vW μ t k (sS μ (odd μ p (nw μ) k)) + (if muV μ t = 1 ∧ nw μ + k ≤ tv μ 6 t then 2000 else 0)
theorem vW_sm {μ μ' : Mem} (s : Sm μ μ') : vW μ' = vW μ := by
  funext t k z
  unfold vW
  rw [valV_sm s]
theorem planV_c {μ ν : Mem} (I : Inv μ) (s : Sm μ ν) {p t k : Nat} (ht : t < 10) (hk : k ≤ 8) : X6_planValueIn (40 + t) (nI (nw μ + k)) (nI (sS μ (odd μ p (nw μ) k))) ν = some (nI (oV μ p t k)) := by
  obtain ⟨o, W, C, T, S, X, L⟩ := I
  have hn := W.2.2.2.2.2.2.2
  have oν := s.1
  have Tν := Onl.T s T
  have f6 := (Tν.2.1 6 t (by decide) ht).1
  rw [tv_sm s (by decide)] at f6
  have b6 : tv μ 6 t ≤ 60 := (T.2.1 6 t (by decide) ht).2.2
  have ev := val_c oν Tν (t := t) (k := k) (s := sS μ (odd μ p (nw μ) k)) ht (by rw [nw_sm s]; omega)
  rw [nw_sm s, valV_sm s, (vW_ok T ht hk sS_le hn).1] at ev
  have mu := must_c oν Tν ht
  rw [muV_sm s] at mu
  have ml := muV_le μ t
  have cm : (nI (muV μ t) = 0) = (muV μ t = 0) := n_eq (b := 0) (by omega) (by decide)
  have c6 : (nI (tv μ 6 t) < nI (nw μ + k)) = (tv μ 6 t < nw μ + k) := n_lt (by omega) (by omega)
  unfold X6_planValueIn oV
  rw [vo_T oν ht, Option.bind_some, mu, Option.bind_some, gi_T oν ht, f6]
  simp only [cm, Option.bind_some, c6, ev]
  by_cases q1 : muV μ t = 0
  · rw [if_pos q1, if_neg (by omega), Option.bind_some, Int32.add_zero, Nat.add_zero]
  · rw [if_neg q1]
    by_cases q2 : tv μ 6 t < nw μ + k
    · rw [if_pos q2, if_neg (by omega), Option.bind_some, Int32.add_zero, Nat.add_zero]
    · rw [if_neg q2, if_pos (by omega), Option.bind_some, show (2000 : Int32) = nI 2000 from rfl, nI_add]
def vs (μ : Mem) (p st x : Nat) : Nat → Nat
  | 0 => 0
  | k + 1 => if x.testBit k = true then vs μ p st x k + oV μ p (pA μ p k) st else vs μ p st x k
theorem vs_hi {μ : Mem} {p st x j : Nat} (hx : x < 2 ^ j) : ∀ d, vs μ p st x (j + d) = vs μ p st x j
  | 0 => rfl
  | d + 1 => by rw [show j + (d + 1) = j + d + 1 by omega, vs, if_neg (by rw [tb_hi hx]; decide), vs_hi hx d]
theorem vs_or {μ : Mem} {p st r j : Nat} (hr : r < 2 ^ j) : ∀ k, k ≤ j → vs μ p st (r ||| 2 ^ j) k = vs μ p st r k
  | 0, _ => rfl
  | k + 1, hk => by rw [vs, vs, tb_or hr (by omega), vs_or hr k (by omega)]
theorem oV_le {μ : Mem} (I : Inv μ) {p t k : Nat} (ht : t < 10) (hk : k ≤ 8) : oV μ p t k ≤ 2999 := by
  have := (vW_ok I.2.2.2.1 ht hk (s := sS μ (odd μ p (nw μ) k)) sS_le I.2.1.2.2.2.2.2.2.2).2
  unfold oV
  split <;> omega
theorem vs_le {μ : Mem} (I : Inv μ) {p st : Nat} (hst : st ≤ 8) (x : Nat) : ∀ k, k ≤ pK μ p → vs μ p st x k ≤ 2999 * k
  | 0, _ => Nat.zero_le _
  | k + 1, hk => by
    have ih := vs_le I (p := p) hst x k (by omega)
    have hn := I.2.2.2.1.1.2.2
    have h2 := oV_le I (p := p) (t := pA μ p k) (k := st) (by have := pA_lt (μ := μ) (p := p) (k := k) (by omega); omega) hst
    rw [vs]
    split <;> omega
def lw (μ : Mem) (p st w : Nat) : Nat := lsS μ w (odd μ p (nw μ) st)
theorem lw_le {μ : Mem} (C : RelC μ) {p st w : Nat} (hw : w < 4) : lw μ p st w ≤ 3996 := by
  have e : ∀ i, i < 4 → odd μ p (nw μ) st i * cs μ w i / 1000000 ≤ 999 := fun i hi => by
    have h1 := odd_le (μ := μ) (p := p) (t := nw μ) (k := st) hi
    have h2 := (C.1 w i hw hi).2.2
    have h3 : odd μ p (nw μ) st i * cs μ w i ≤ 1000000 * 999 := Nat.mul_le_mul h1 h2
    omega
  unfold lw lsS
  have h0 := e 0 (by decide)
  have h1 := e 1 (by decide)
  have h2 := e 2 (by decide)
  have h3 := e 3 (by decide)
  omega
def gA (μ : Mem) (p st x w : Nat) : Nat := vs μ p st x (pK μ p) * sn μ w / 100 - lw μ p st w
def aw (μ : Mem) (p x : Nat) : Bool := decide (nd (rS μ p x) (aT μ p (tn μ)) = 0)
noncomputable def okW (μ : Mem) (p st x w : Nat) : Bool := decide (rS μ p x &&& kT μ p (nw μ + st) (tn μ) = 0) && (aw μ p x || !(bW μ p (odd μ p (nw μ) st) (lc μ p)).testBit w)
noncomputable def cF (μ : Mem) (p st x : Nat) : Nat → Nat × Int32
  | 0 => (0, -1)
  | w + 1 => if okW μ p st x w = true ∧ (cF μ p st x w).1 < gA μ p st x w then (gA μ p st x w, nI w) else cF μ p st x w
noncomputable def cGW (μ : Mem) (p st x : Nat) : Nat × Int32 := if mS' μ p x = -1 then (0, -1) else cF μ p st x 4
noncomputable def cG (μ : Mem) (p st x : Nat) : Nat := (cGW μ p st x).1
noncomputable def cW (μ : Mem) (p st x : Nat) : Int32 := (cGW μ p st x).2
theorem barV0 {μ : Mem} {p st x w : Nat} : (barV μ p (nw μ + st) (odd μ p (nw μ) st) (rS μ p x) w 0 = 0) = (okW μ p st x w = true) := by
  unfold barV okW aw
  by_cases q1 : nd (rS μ p x) (aT μ p (tn μ)) = 0
  · rw [if_pos q1, decide_eq_true q1, Bool.true_or, Bool.and_true, decide_eq_true_eq]
    by_cases q2 : rS μ p x &&& kT μ p (nw μ + st) (tn μ) = 0
    · rw [if_pos q2]
      exact propext ⟨fun _ => q2, fun _ => rfl⟩
    · rw [if_neg q2]
      exact propext ⟨fun z => absurd z (by decide), fun z => absurd z q2⟩
  · rw [if_neg q1, decide_eq_false q1, Bool.false_or]
    cases q3 : (bW μ p (odd μ p (nw μ) st) (lc μ p)).testBit w
    · rw [if_neg (by decide), Bool.not_false, Bool.and_true, decide_eq_true_eq]
      by_cases q2 : rS μ p x &&& kT μ p (nw μ + st) (tn μ) = 0
      · rw [if_pos q2, if_pos rfl]
        exact propext ⟨fun _ => q2, fun _ => rfl⟩
      · rw [if_neg q2]
        exact propext ⟨fun z => absurd z (by decide), fun z => absurd z q2⟩
    · rw [if_pos rfl, Bool.not_true, Bool.and_false]
      exact propext ⟨fun z => absurd z (by decide), fun z => absurd z (by decide)⟩
theorem gA_le {μ : Mem} (I : Inv μ) {p st x w : Nat} (hst : st ≤ 8) (hw : w < 4) : vs μ p st x (pK μ p) * sn μ w / 100 ≤ 17994 := by
  have h1 := vs_le I (p := p) hst x (pK μ p) (Nat.le_refl _)
  have h2 := (I.2.2.1.2 w hw).2.2
  have h3 := pK_le μ p
  have h4 : vs μ p st x (pK μ p) * sn μ w ≤ 17994 * 100 := Nat.mul_le_mul (by omega) h2
  omega
theorem cF_le {μ : Mem} (I : Inv μ) {p st x : Nat} (hst : st ≤ 8) : ∀ w, w ≤ 4 → (cF μ p st x w).1 ≤ 17994
  | 0, _ => Nat.zero_le _
  | w + 1, hw => by
    have ih := cF_le I (p := p) (x := x) hst w (by omega)
    have := gA_le I (p := p) (x := x) hst (show w < 4 by omega)
    rw [cF]
    split
    · show gA μ p st x w ≤ _
      unfold gA
      omega
    · exact ih
theorem cG_le {μ : Mem} (I : Inv μ) {p st x : Nat} (hst : st ≤ 8) : cG μ p st x ≤ 17994 := by
  unfold cG cGW
  split
  · exact Nat.zero_le _
  · exact cF_le I hst 4 (by decide)
/-- a gain, as the class and the reference find it -/
theorem gn_le {a c b : Nat} (ha : a < 2 ^ 20) (hc : c < 2 ^ 20) (hb : b < 2 ^ 20) : (nI a - nI c ≤ nI b) = ¬ (b < a - c) := by
  refine propext ?_
  rw [Int32.le_iff_toInt_le, pk_sub_toInt (by omega) (by omega), nI_toInt (by omega)]
  omega
/-! the class -/
def Fq (ν ν' : Mem) : Prop := Sm ν ν' ∧ ∀ a, a ≠ 97 → a ≠ 101 → a ≠ 102 → a ≠ 103 → a ≠ 104 → mI ν' a = mI ν a
theorem Fq.rf {ν : Mem} (h : Ok ν) : Fq ν ν := ⟨Sm.rf h, fun _ _ _ _ _ _ => rfl⟩
theorem Fq.tr {ν ν' ν'' : Mem} (h : Fq ν ν') (h2 : Fq ν' ν'') : Fq ν ν'' := ⟨h.1.tr h2.1, fun a q1 q2 q3 q4 q5 => (h2.2 a q1 q2 q3 q4 q5).trans (h.2 a q1 q2 q3 q4 q5)⟩
theorem Fq.w {ν ν' : Mem} {a k : Nat} {v : Int32} (h : Fq ν ν') (ha : a = 97 ∨ a = 101 ∨ a = 102 ∨ a = 103 ∨ a = 104) : Fq ν (wI ν' a k v) := ⟨h.1.wI (corP (by omega) _), fun b q1 q2 q3 q4 q5 => by rw [row_ne (by omega)]; exact h.2 b q1 q2 q3 q4 q5⟩
/-- what stays while prices are found -/
def Bq (μ : Mem) (p st : Nat) (ν : Mem) : Prop := Sm μ ν ∧ PK μ p ν ∧ PR μ p (pK μ p) ν ∧ HI ν (19 + st) 4 (odd μ p (nw μ) st)
theorem Bq.fq {μ ν ν' : Mem} {p st : Nat} (hst : st < 9) (h : Bq μ p st ν) (f : Fq ν ν') : Bq μ p st ν' := by
  obtain ⟨s, k, r, h⟩ := h
  refine ⟨s.tr f.1, ⟨by rw [f.2 94 (by decide) (by decide) (by decide) (by decide) (by decide)]; exact k.1, fun j hj => by rw [f.2 98 (by decide) (by decide) (by decide) (by decide) (by decide)]; exact k.2 j hj⟩, fun x hx => by rw [f.2 99 (by decide) (by decide) (by decide) (by decide) (by decide), f.2 100 (by decide) (by decide) (by decide) (by decide) (by decide)]; exact r x hx, fun i hi => by rw [f.2 (19 + st) (by omega) (by omega) (by omega) (by omega) (by omega)]; exact h i hi⟩
theorem pset27 {μ ν : Mem} (I : Inv μ) {p st x : Nat} (hp : p < 4) (hst : st < 6) (hx : x < 2 ^ pK μ p) (h : Bq μ p st ν) (hg : Gt μ 97 p (nw μ + st) (odd μ p (nw μ) st) ν) (hv : mI ν 101 x = nI (vs μ p st x (pK μ p))) (hl : ∀ w, w < 4 → mI ν 102 w = nI (lw μ p st w)) (g0 : mI ν 103 (st * 64 + x) = nI 0) (w0 : mI ν 104 (st * 64 + x) = -1) : ∃ ν' z, (Fq ν ν' ∧ (∀ a, a ≠ 103 → a ≠ 104 → mI ν' a = mI ν a) ∧ (∀ a j, j ≠ st * 64 + x → mI ν' a j = mI ν a j) ∧ mI ν' 103 (st * 64 + x) = nI (cF μ p st x 4).1 ∧ mI ν' 104 (st * 64 + x) = (cF μ p st x 4).2) ∧ X4_priceSet_L27 94 (nI (st * 64 + x)) (nI x) FU 0 ν = some (z, ν') := by
  have I0 := I
  obtain ⟨o, W, C, T, S, X, L⟩ := I
  have hK := pK_le μ p
  have x64 : x < 64 := Nat.lt_of_lt_of_le hx (show 2 ^ pK μ p ≤ 2 ^ 6 from Nat.pow_le_pow_right (by decide) hK)
  have hs10 : rS μ p x < 2 ^ 10 := Nat.lt_of_lt_of_le (rS_lt μ p x) (Nat.pow_le_pow_right (by decide) T.1.2.2)
  obtain ⟨ν', P, e⟩ := loopF (F := fun m (ν' : Mem) i => X4_priceSet_L27 94 (nI (st * 64 + x)) (nI x) m (nI i) ν') (P := fun i ν' => Fq ν ν' ∧ (∀ a, a ≠ 103 → a ≠ 104 → mI ν' a = mI ν a) ∧ (∀ a j, j ≠ st * 64 + x → mI ν' a j = mI ν a j) ∧ mI ν' 103 (st * 64 + x) = nI (cF μ p st x i).1 ∧ mI ν' 104 (st * 64 + x) = (cF μ p st x i).2) (n := 4) (r := fun ν' => (nI 4, ν')) (by decide) (fun m ν' i hi P => by
    obtain ⟨f, fr, fj, c1, c2⟩ := P
    have hB := h.fq (by omega) f
    have o' := hB.1.1
    have s' := hB.1
    have gG : Gt μ 97 p (nw μ + st) (odd μ p (nw μ) st) ν' := by
      unfold Gt
      rw [fr 97 (by decide) (by decide)]
      exact hg
    have e101 : mI ν' 101 x = nI (vs μ p st x (pK μ p)) := by rw [fr 101 (by decide) (by decide)]; exact hv
    have e102 : mI ν' 102 i = nI (lw μ p st i) := by rw [fr 102 (by decide) (by decide)]; exact hl i hi
    have e36 : mI ν' 36 i = nI (sn μ i) := by rw [s'.row (a := 36) rfl]; exact (C.2 i hi).1
    have e99 := (hB.2.2.1 x hx).1
    have va := vs_le I0 (p := p) (st := st) (by omega) x (pK μ p) (Nat.le_refl _)
    have vb := (C.2 i hi).2.2
    have vm : vs μ p st x (pK μ p) * sn μ i ≤ 17994 * 100 := Nat.mul_le_mul (by omega) vb
    have vl := lw_le C (p := p) (st := st) hi
    have ga := gA_le I0 (p := p) (st := st) (x := x) (by omega) hi
    have cl := cF_le I0 (p := p) (st := st) (x := x) (by omega) i (by omega)
    have cc := gn_le (a := vs μ p st x (pK μ p) * sn μ i / 100) (c := lw μ p st i) (b := (cF μ p st x i).1) (by omega) (by omega) (by omega)
    have br := bar_c I0 (G := 97) (p := p) (u := nw μ + st) (Or.inr rfl) hp o' gG (set := rS μ p x) (way := i) (m := 0) hs10 hi (by decide)
    have bl := barV_le μ p (nw μ + st) (odd μ p (nw μ) st) (rS μ p x) i 0
    have cb : (nI (barV μ p (nw μ + st) (odd μ p (nw μ) st) (rS μ p x) i 0) = 0) = (okW μ p st x i = true) := by
      rw [← barV0]
      exact n_eq (b := 0) (by omega) (by decide)
    have hix : st * 64 + x < 384 := by omega
    show ∃ a', _ ∧ X4_priceSet_L27 94 (nI (st * 64 + x)) (nI x) (m + 1) (nI i) ν' = _
    rw [X4_priceSet_L27, if_neg (ge4 hi), r_94_10 o', Option.bind_some, ai_101 o' x64, e101, Option.bind_some, r_94_4 o', Option.bind_some, r_30_1 o', Option.bind_some, ai_36 o' hi, e36, Option.bind_some, pk_mul, show (100 : Int32) = nI 100 from rfl, dvI_eq (by omega) (by decide) (by decide), Option.bind_some, r_94_11 o', Option.bind_some, ai_102 o' hi, e102, Option.bind_some, Option.bind_some, r_94_12 o', Option.bind_some, ai_103 o' hix, c1, Option.bind_some]
    simp only [cc]
    by_cases z : (cF μ p st x i).1 < gA μ p st x i
    · rw [if_neg (fun w => w z), r_94_6 o', Option.bind_some, r_94_8 o', Option.bind_some, ai_99 o' x64, show mI ν' 99 x = nI (rS μ p x) from e99, Option.bind_some, vo_97 o', Option.bind_some]
      rw [show X1_bar 97 (nI (rS μ p x)) (nI i) 0 ν' = _ from br, Option.bind_some]
      simp only [cb]
      by_cases y : okW μ p st x i = true
      · have eg : nI (vs μ p st x (pK μ p) * sn μ i / 100) - nI (lw μ p st i) = nI (gA μ p st x i) := by
          unfold gA at z ⊢
          rw [pk_sub (by omega)]
        refine ⟨wI (wI ν' 103 (st * 64 + x) (nI (gA μ p st x i))) 104 (st * 64 + x) (nI i), ⟨(f.w (by omega)).w (by omega), fun a q1 q2 => ?_, fun a j hj => ?_, ?_, ?_⟩, ?_⟩
        · rw [row_ne q2, row_ne q1]
          exact fr a q1 q2
        · rw [fld_ne (by omega), fld_ne (by omega)]
          exact fj a j hj
        · rw [row_ne (by decide), fld_eq, cF, if_pos ⟨y, z⟩]
        · rw [fld_eq, cF, if_pos ⟨y, z⟩]
        · rw [if_pos y, eg, Option.bind_some, si_103 o' hix, Option.bind_some, r_94_13 o'.wI, Option.bind_some, si_104 o'.wI hix, Option.bind_some, Option.bind_some, nI_add1]
      · refine ⟨ν', ⟨f, fr, fj, ?_, ?_⟩, ?_⟩
        · rw [cF, if_neg (fun w => y w.1)]
          exact c1
        · rw [cF, if_neg (fun w => y w.1)]
          exact c2
        · rw [if_neg y, Option.bind_some, nI_add1]
    · refine ⟨ν', ⟨f, fr, fj, ?_, ?_⟩, ?_⟩
      · rw [cF, if_neg (fun w => z w.2)]
        exact c1
      · rw [cF, if_neg (fun w => z w.2)]
        exact c2
      · rw [if_pos (show ¬ (cF μ p st x i).1 < vs μ p st x (pK μ p) * sn μ i / 100 - lw μ p st i from z), Option.bind_some, nI_add1]) (fun m ν' P => by
    show X4_priceSet_L27 94 (nI (st * 64 + x)) (nI x) (m + 1) (nI 4) ν' = _
    rw [X4_priceSet_L27, if_pos (by decide)]) ν ⟨Fq.rf h.1.1, fun _ _ _ => rfl, fun _ _ _ => rfl, g0, w0⟩
  exact ⟨ν', _, P, e⟩
theorem pset_c {μ ν : Mem} (I : Inv μ) {p st x : Nat} (hp : p < 4) (hst : st < 6) (hx0 : x ≠ 0) (hx : x < 2 ^ pK μ p) (h : Bq μ p st ν) (hg : Gt μ 97 p (nw μ + st) (odd μ p (nw μ) st) ν) (hv : mI ν 101 x = nI (vs μ p st x (pK μ p))) (hl : ∀ w, w < 4 → mI ν 102 w = nI (lw μ p st w)) : ∃ ν', (Fq ν ν' ∧ (∀ a, a ≠ 103 → a ≠ 104 → mI ν' a = mI ν a) ∧ (∀ a j, j ≠ st * 64 + x → mI ν' a j = mI ν a j) ∧ mI ν' 103 (st * 64 + x) = nI (cG μ p st x) ∧ mI ν' 104 (st * 64 + x) = cW μ p st x) ∧ X4_priceSet 94 (nI (st * 64 + x)) (nI x) ν = some ν' := by
  have hK := pK_le μ p
  have x64 : x < 64 := Nat.lt_of_lt_of_le hx (show 2 ^ pK μ p ≤ 2 ^ 6 from Nat.pow_le_pow_right (by decide) hK)
  have hix : st * 64 + x < 384 := by omega
  have o := h.1.1
  have ⟨ν1, e1⟩ : ∃ m, m = wI (wI ν 103 (st * 64 + x) 0) 104 (st * 64 + x) (-1) := ⟨_, rfl⟩
  have f1 : Fq ν ν1 := by
    rw [e1]
    exact ((Fq.rf o).w (by omega)).w (by omega)
  have fr1 : ∀ a, a ≠ 103 → a ≠ 104 → mI ν1 a = mI ν a := fun a q1 q2 => by rw [e1, row_ne q2, row_ne q1]
  have fj1 : ∀ a j, j ≠ st * 64 + x → mI ν1 a j = mI ν a j := fun a j hj => by rw [e1, fld_ne (by omega), fld_ne (by omega)]
  have h1 := h.fq (by omega) f1
  have o1 := h1.1.1
  have em : mI ν1 100 x = mS' μ p x := (h1.2.2.1 x hx).2 hx0
  have hd : X4_priceSet 94 (nI (st * 64 + x)) (nI x) ν = if mS' μ p x = -1 then some ν1 else (X4_priceSet_L27 94 (nI (st * 64 + x)) (nI x) FU 0 ν1).bind fun z8 => some z8.2 := by
    unfold X4_priceSet
    rw [r_94_12 o, Option.bind_some, si_103 o hix, Option.bind_some, r_94_13 o.wI, Option.bind_some, si_104 o.wI hix, Option.bind_some, ← e1, r_94_9 o1, Option.bind_some, ai_100 o1 x64, em, Option.bind_some]
  rw [hd]
  unfold cG cW cGW
  by_cases z : mS' μ p x = -1
  · rw [if_pos z, if_pos z]
    refine ⟨ν1, ⟨f1, fr1, fj1, ?_, ?_⟩, rfl⟩
    · rw [e1, row_ne (by decide), fld_eq]
      rfl
    · rw [e1, fld_eq]
  · obtain ⟨ν2, zz', ⟨f2, fr2, fj2, c1, c2⟩, e2⟩ := pset27 I hp hst hx h1 (by unfold Gt; rw [fr1 97 (by decide) (by decide)]; exact hg) (by rw [fr1 101 (by decide) (by decide)]; exact hv) (fun w hw => by rw [fr1 102 (by decide) (by decide)]; exact hl w hw) (by rw [e1, row_ne (by decide), fld_eq]; rfl) (by rw [e1, fld_eq])
    rw [if_neg z, if_neg z, e2, Option.bind_some]
    exact ⟨ν2, ⟨f1.tr f2, fun a q1 q2 => (fr2 a q1 q2).trans (fr1 a q1 q2), fun a j hj => (fj2 a j hj).trans (fj1 a j hj), c1, c2⟩, rfl⟩
end
section
/-! ===== all prices of the class ===== -/
theorem pr25 {μ ν : Mem} (I : Inv μ) {p st : Nat} (hst : st < 6) (h : Bq μ p st ν) (x2 : Int32) : ∃ ν', (Fq ν ν' ∧ (∀ a, a ≠ 102 → mI ν' a = mI ν a) ∧ ∀ w, w < 4 → mI ν' 102 w = nI (lw μ p st w)) ∧ X4_price_L25 94 (nI st) x2 FU 0 ν = some (nI 4, ν') := by
  obtain ⟨o, W, C, T, S, X, L⟩ := I
  obtain ⟨ν', ⟨P1, P2, P3⟩, e⟩ := loopF (F := fun m (ν' : Mem) i => X4_price_L25 94 (nI st) x2 m (nI i) ν') (P := fun i ν' => Fq ν ν' ∧ (∀ a, a ≠ 102 → mI ν' a = mI ν a) ∧ ∀ w, w < i → mI ν' 102 w = nI (lw μ p st w)) (n := 4) (r := fun ν' => (nI 4, ν')) (by decide) (fun m ν' i hi P => by
    obtain ⟨f, fr, c⟩ := P
    have hB := h.fq (by omega) f
    have o' := hB.1.1
    have s' := hB.1
    have C' : RelC ν' := C.cg (fun q hq => s'.row (coA_4 (by omega) hq)) (s'.row rfl) (s'.row rfl) (s'.row rfl)
    have ls := loss_c o' C' (w := i) (r := 19 + st) hi (by omega) (s_ahead (by omega)) hB.2.2.2 (fun q hq => odd_le hq)
    rw [lsS_sm s'] at ls
    refine ⟨wI ν' 102 i (nI (lw μ p st i)), ⟨f.w (by omega), fun a q => ?_, fun w hw => ?_⟩, ?_⟩
    · rw [row_ne q]
      exact fr a q
    · by_cases z : w = i
      · subst z
        exact fld_eq
      · rw [fld_ne (by omega)]
        exact c w (by omega)
    · show X4_price_L25 94 (nI st) x2 (m + 1) (nI i) ν' = _
      rw [X4_price_L25, if_neg (ge4 hi), r_94_11 o', Option.bind_some, r_94_4 o', Option.bind_some, r_94_3 o', Option.bind_some, r_1_4 o', Option.bind_some, ar_ahead o' (by omega), Option.bind_some, vo_30 o', Option.bind_some, ls, Option.bind_some, si_102 o' hi, Option.bind_some, nI_add1]
      rfl) (fun m ν' P => by
    show X4_price_L25 94 (nI st) x2 (m + 1) (nI 4) ν' = _
    rw [X4_price_L25, if_pos (by decide)]) ν ⟨Fq.rf h.1.1, fun _ _ => rfl, fun w hw => by omega⟩
  exact ⟨ν', ⟨P1, P2, P3⟩, e⟩
theorem pr113 {μ ν : Mem} {p st j : Nat} (x1 x2 : Int32) (hj : j < pK μ p) (h : Bq μ p st ν) (hst : st < 6) (hv : ∀ x, x < 2 ^ j → mI ν 101 x = nI (vs μ p st x j)) : ∃ ν' z, (Fq ν ν' ∧ (∀ a, a ≠ 101 → mI ν' a = mI ν a) ∧ ∀ x, x < 2 ^ (j + 1) → mI ν' 101 x = nI (vs μ p st x (j + 1))) ∧ X4_price_L113 94 x1 x2 (nI j) (nI (oV μ p (pA μ p j) st)) FU 0 ν = some (z, ν') := by
  have hK := pK_le μ p
  have p6 : 2 ^ j ≤ 2 ^ 5 := Nat.pow_le_pow_right (by decide) (by omega)
  obtain ⟨ν', ⟨f, fr, lo, hi⟩, e⟩ := loopF (F := fun m (ν' : Mem) i => X4_price_L113 94 x1 x2 (nI j) (nI (oV μ p (pA μ p j) st)) m (nI i) ν') (P := fun i ν' => Fq ν ν' ∧ (∀ a, a ≠ 101 → mI ν' a = mI ν a) ∧ (∀ x, x < 2 ^ j → mI ν' 101 x = mI ν 101 x) ∧ ∀ r, r < i → mI ν' 101 (r ||| 2 ^ j) = nI (vs μ p st (r ||| 2 ^ j) (j + 1))) (n := 2 ^ j) (r := fun ν' => (nI (2 ^ j), ν')) (by omega) (fun m ν' i hi P => by
    obtain ⟨f, fr, lo, hiR⟩ := P
    obtain ⟨b1, b2, b3⟩ := or_rng hi hj hK
    have o' := f.1.1
    have ev : vs μ p st (i ||| 2 ^ j) (j + 1) = vs μ p st i j + oV μ p (pA μ p j) st := by rw [vs, if_pos tb_self, vs_or hi j (Nat.le_refl _)]
    refine ⟨wI ν' 101 (i ||| 2 ^ j) (nI (vs μ p st (i ||| 2 ^ j) (j + 1))), ⟨f.w (by omega), fun a q => ?_, fun x hx => ?_, fun r hr => ?_⟩, ?_⟩
    · rw [row_ne q]
      exact fr a q
    · rw [fld_ne (by omega)]
      exact lo x hx
    · by_cases z : r = i
      · subst z
        exact fld_eq
      · obtain ⟨-, -, c3⟩ := or_rng (show r < 2 ^ j by omega) hj hK
        rw [fld_ne (by omega)]
        exact hiR r (by omega)
    · show X4_price_L113 94 x1 x2 (nI j) (nI (oV μ p (pA μ p j) st)) (m + 1) (nI i) ν' = _
      rw [X4_price_L113, sh31 j (by omega), if_neg (nI_ge hi (by omega)), r_94_10 o', Option.bind_some, Option.bind_some, ai_101 o' (by omega), lo i hi, hv i hi, Option.bind_some, fa_or, nI_add, si_101 o' b2, Option.bind_some, nI_add1, ev]) (fun m ν' P => by
    show X4_price_L113 94 x1 x2 (nI j) (nI (oV μ p (pA μ p j) st)) (m + 1) (nI (2 ^ j)) ν' = _
    rw [X4_price_L113, sh31 j (by omega), if_pos (nI_le (Nat.le_refl _) (by omega))]) ν ⟨Fq.rf h.1.1, fun _ _ => rfl, fun _ _ => rfl, fun r hr => by omega⟩
  refine ⟨ν', _, ⟨f, fr, fun x hx => ?_⟩, e⟩
  by_cases z : x < 2 ^ j
  · rw [lo x z, hv x z, vs_hi z 1]
  · obtain ⟨r, hr, rfl⟩ : ∃ r, r < 2 ^ j ∧ x = r ||| 2 ^ j := by
      have hx2 : x < 2 ^ j * 2 := by rw [← Nat.pow_succ]; exact hx
      refine ⟨x - 2 ^ j, by omega, ?_⟩
      have := (or_rng (show x - 2 ^ j < 2 ^ j by omega) hj hK).2.2
      omega
    exact hi r hr
theorem price_c {μ ν : Mem} (I : Inv μ) {p st : Nat} (hp : p < 4) (hst : st < 6) (h : Bq μ p st ν) : ∃ ν', (Fq ν ν' ∧ (∀ a j, (a = 103 ∨ a = 104) → ¬ (st * 64 < j ∧ j < st * 64 + 2 ^ pK μ p) → mI ν' a j = mI ν a j) ∧ (∀ x, 1 ≤ x → x < 2 ^ pK μ p → mI ν' 103 (st * 64 + x) = nI (cG μ p st x) ∧ mI ν' 104 (st * 64 + x) = cW μ p st x) ∧ mI ν' 97 0 = nI (aT μ p (tn μ))) ∧ X4_price 94 (nI st) (nI (nw μ + st)) (lwA ν p) ν = some ν' := by
  have I0 := I
  obtain ⟨o, W, C, T, S, X, L⟩ := I
  have hn := W.2.2.2.2.2.2.2
  have hT := T.1.2.2
  have hK := pK_le μ p
  have p6 : 2 ^ pK μ p ≤ 2 ^ 6 := Nat.pow_le_pow_right (by decide) hK
  have oν := h.1.1
  have Iν := I0.sm h.1
  obtain ⟨a, ⟨oa, ga⟩, ea⟩ := open_c Iν (G := 97) (p := p) (u := nw μ + st) (r := 19 + st) (Or.inr rfl) hp (by omega) (by omega) (s_ahead (by omega)) h.2.2.2 (fun j hj => odd_le hj)
  have ga' : Gt μ 97 p (nw μ + st) (odd μ p (nw μ) st) a := by
    unfold Gt at ga ⊢
    rw [aT_sm h.1, kT_sm h.1, bW_sm h.1, lc_sm h.1, tn_sm h.1] at ga
    exact ga
  have fa : Fq ν a := ⟨oa.sm (isGt (Or.inr rfl)).2.2, fun b q1 _ _ _ _ => oa.2.2.2 b q1⟩
  have hBa := h.fq (by omega) fa
  obtain ⟨b, ⟨fb, frb, lb⟩, eb⟩ := pr25 I0 hst hBa (nI (nw μ + st))
  have ob := fb.1.1
  have fc : Fq a (wI b 101 0 0) := fb.w (by omega)
  have hBc := hBa.fq (by omega) fc
  obtain ⟨d, ⟨fd, frd, vd⟩, ed⟩ := loopF (F := fun m (ν' : Mem) i => X4_price_L72 94 (nI st) (nI (nw μ + st)) m (nI i) ν') (P := fun i ν' => Fq (wI b 101 0 0) ν' ∧ (∀ a', a' ≠ 101 → mI ν' a' = mI b a') ∧ ∀ x, x < 2 ^ i → mI ν' 101 x = nI (vs μ p st x i)) (n := pK μ p) (r := fun ν' => (nI (pK μ p), ν')) (by omega) (fun m ν' i hi P => by
    obtain ⟨f, fr, c⟩ := P
    have hB := hBc.fq (by omega) f
    have o' := hB.1.1
    have ti := pA_lt hi
    have se := seam_c o' (W.sm hB.1) (s := st) (by omega) hB.2.2.2
    rw [sS_sm hB.1] at se
    obtain ⟨ν2, z2, ⟨f2, fr2, c2⟩, e2⟩ := pr113 (nI st) (nI (nw μ + st)) hi hB hst c
    refine ⟨ν2, ⟨f.tr f2, fun a' q => (fr2 a' q).trans (fr a' q), c2⟩, ?_⟩
    show X4_price_L72 94 (nI st) (nI (nw μ + st)) (m + 1) (nI i) ν' = _
    rw [X4_price_L72, gi_94 o', hB.2.1.1, Option.bind_some, if_neg (nI_ge hi (by omega)), r_94_5 o', Option.bind_some, r_37_0 o', Option.bind_some, r_94_7 o', Option.bind_some, ai_98 o' (by omega), hB.2.1.2 i hi, Option.bind_some, ar_things o' (by omega), Option.bind_some, r_94_3 o', Option.bind_some, vo_1 o', Option.bind_some, se, Option.bind_some, vo_T o' (by omega), Option.bind_some, planV_c I0 hB.1 (by omega) (by omega), Option.bind_some, e2, Option.bind_some, nI_add1]) (fun m ν' P => by
    have hB := hBc.fq (by omega) P.1
    show X4_price_L72 94 (nI st) (nI (nw μ + st)) (m + 1) (nI (pK μ p)) ν' = _
    rw [X4_price_L72, gi_94 hB.1.1, hB.2.1.1, Option.bind_some, if_pos (nI_le (Nat.le_refl _) (by omega))]) (wI b 101 0 0) ⟨Fq.rf ob, fun a' q => row_ne q, fun x hx => by
      have : x = 0 := by
        have : x < 1 := hx
        omega
      subst this
      exact fld_eq⟩
  have ed : X4_price_L72 94 (nI st) (nI (nw μ + st)) FU 0 (wI b 101 0 0) = _ := ed
  have hBd := hBc.fq (by omega) fd
  have gd' : Gt μ 97 p (nw μ + st) (odd μ p (nw μ) st) d := by
    unfold Gt
    rw [frd 97 (by decide), frb 97 (by decide)]
    exact ga'
  have ld : ∀ w, w < 4 → mI d 102 w = nI (lw μ p st w) := fun w hw => by rw [frd 102 (by decide)]; exact lb w hw
  obtain ⟨e', ⟨fe, fre, gje, ge⟩, ee⟩ := loopG (F := fun m (ν' : Mem) i => X4_price_L159 94 (nI st) m (nI i) ν') (P := fun i ν' => Fq d ν' ∧ (∀ a', a' ≠ 103 → a' ≠ 104 → mI ν' a' = mI d a') ∧ (∀ a' j, ¬ (st * 64 < j ∧ j < st * 64 + 2 ^ pK μ p) → mI ν' a' j = mI d a' j) ∧ ∀ x, 1 ≤ x → x < i → mI ν' 103 (st * 64 + x) = nI (cG μ p st x) ∧ mI ν' 104 (st * 64 + x) = cW μ p st x) (i0 := 1) (n := 2 ^ pK μ p) (r := fun ν' => (nI (2 ^ pK μ p), ν')) (by omega) (Nat.one_le_two_pow) (fun m ν' i h1 hi P => by
    obtain ⟨f, fr, fj, c⟩ := P
    have hB := hBd.fq (by omega) f
    have o' := hB.1.1
    obtain ⟨ν2, ⟨f2, fr2, fj2, c1, c2⟩, e2⟩ := pset_c I0 hp hst (by omega) hi hB (by unfold Gt; rw [fr 97 (by decide) (by decide)]; exact gd') (by rw [fr 101 (by decide) (by decide)]; exact vd i hi) (fun w hw => by rw [fr 102 (by decide) (by decide)]; exact ld w hw)
    refine ⟨ν2, ⟨f.tr f2, fun a' q1 q2 => (fr2 a' q1 q2).trans (fr a' q1 q2), fun a' j q => (fj2 a' j (by omega)).trans (fj a' j q), fun x x1 x2 => ?_⟩, ?_⟩
    · by_cases z : x = i
      · subst z
        exact ⟨c1, c2⟩
      · rw [fj2 103 _ (by omega), fj2 104 _ (by omega)]
        exact c x x1 (by omega)
    · show X4_price_L159 94 (nI st) (m + 1) (nI i) ν' = _
      rw [X4_price_L159, gi_94 o', hB.2.1.1, Option.bind_some, sh31 _ (by omega), if_neg (nI_ge hi (by omega)), vo_94 o', Option.bind_some, show (64 : Int32) = nI 64 from rfl, pk_mul, nI_add, e2, Option.bind_some, nI_add1]) (fun m ν' P => by
    have hB := hBd.fq (by omega) P.1
    show X4_price_L159 94 (nI st) (m + 1) (nI (2 ^ pK μ p)) ν' = _
    rw [X4_price_L159, gi_94 hB.1.1, hB.2.1.1, Option.bind_some, sh31 _ (by omega), if_pos (nI_le (Nat.le_refl _) (by omega))]) d ⟨Fq.rf fd.1.1, fun _ _ _ => rfl, fun _ _ _ => rfl, fun x h1 h2 => by omega⟩
  have ee : X4_price_L159 94 (nI st) FU 1 d = _ := ee
  refine ⟨e', ⟨((fa.tr fc).tr fd).tr fe, fun a' j ha q => ?_, fun x h1 h2 => ge x h1 h2, ?_⟩, ?_⟩
  · rw [gje a' j q, frd a' (by omega), frb a' (by omega), oa.2.2.2 a' (by omega)]
  · rw [fre 97 (by decide) (by decide)]
    exact gd'.1
  · have s01 : sI 101 0 0 b = some (wI b 101 0 0) := si_101 (i := 0) ob (by decide)
    unfold X4_price
    rw [r_94_6 oν, Option.bind_some, r_94_5 oν, Option.bind_some, r_94_3 oν, Option.bind_some, r_1_4 oν, Option.bind_some, ar_ahead oν (by omega), Option.bind_some, vo_97 oν, Option.bind_some, ea, Option.bind_some, eb, Option.bind_some, r_94_10 ob, Option.bind_some, s01, Option.bind_some, ed, Option.bind_some, ee, Option.bind_some]
end
section
/-! ===== the class decides ===== -/
def cS (μ : Mem) (p : Nat) : Nat → Nat
  | 0 => 0
  | k + 1 => if cS μ p k = 1 then 1 else if lv μ 0 p k = 3 then 1 else 0
theorem cS_le (μ : Mem) (p : Nat) : ∀ n, cS μ p n ≤ 1
  | 0 => by rw [cS]; omega
  | n + 1 => by
    rw [cS]
    split
    · omega
    · split <;> omega
theorem cS_mono {μ : Mem} {p k : Nat} (h : cS μ p k = 1) : ∀ d, cS μ p (k + d) = 1
  | 0 => h
  | d + 1 => by rw [show k + (d + 1) = k + d + 1 by omega, cS, if_pos (cS_mono h d)]
theorem cS_mB {μ : Mem} {p : Nat} (g : Nat → Nat) : ∀ k, cS μ p k = 0 → mB μ p g k = 0
  | 0, _ => rfl
  | k + 1, h => by
    rw [cS] at h
    by_cases q : cS μ p k = 1
    · rw [if_pos q] at h
      exact absurd h (by decide)
    · have h0 : cS μ p k = 0 := by have := cS_le μ p k; omega
      rw [if_neg q] at h
      have ih := cS_mB g k h0
      rw [mB, if_neg (by omega), if_neg (fun z => by rw [if_pos z.1] at h; exact absurd h (by decide))]
theorem counts_c {μ : Mem} (o : Ok μ) (L : RelL μ) {p : Nat} (hp : p < 4) : X3_countsSayings (lwA μ p) μ = some (nI (cS μ p (lc μ p))) := by
  have il := lw_is o hp
  obtain ⟨⟨l0, -, l8⟩, hk⟩ := L p hp
  obtain ⟨b, Q, e⟩ := loopE (F := fun k (_ : Unit) i => X3_countsSayings_L2 (lwA μ p) μ k (nI i)) (P := fun i _ => cS μ p i = 0) (Q := fun b => b = nI (cS μ p (lc μ p))) (n := lc μ p) (by omega) (fun k _ i hi P => by
    obtain ⟨A0, -, -, -⟩ := hk i hi
    have c3 : (nI (lv μ 0 p i) = 3) = (lv μ 0 p i = 3) := n_eq (b := 3) (by omega) (by decide)
    show (∃ a', cS μ p (i + 1) = 0 ∧ X3_countsSayings_L2 (lwA μ p) μ (k + 1) (nI i) = _) ∨ ∃ b, _ ∧ X3_countsSayings_L2 (lwA μ p) μ (k + 1) (nI i) = some b
    rw [X3_countsSayings_L2, gi_l o il, l0, Option.bind_some, if_neg (nI_ge hi (by omega)), rl_1 o il, Option.bind_some, al_1 o il (by omega), A0.1, Option.bind_some]
    simp only [c3]
    by_cases q : lv μ 0 p i = 3
    · refine Or.inr ⟨1, ?_, by rw [if_pos q]⟩
      have h1 : cS μ p (i + 1) = 1 := by rw [cS, if_neg (by omega), if_pos q]
      have := cS_mono h1 (lc μ p - (i + 1))
      rw [show i + 1 + (lc μ p - (i + 1)) = lc μ p by omega] at this
      rw [this]
      rfl
    · refine Or.inl ⟨(), ?_, by rw [if_neg q, nI_add1]⟩
      rw [cS, if_neg (by omega), if_neg q]) (fun k _ P => by
    refine ⟨0, by rw [P]; rfl, ?_⟩
    show X3_countsSayings_L2 (lwA μ p) μ (k + 1) (nI (lc μ p)) = _
    rw [X3_countsSayings_L2, gi_l o il, l0, Option.bind_some, if_pos (nI_le (Nat.le_refl _) (by omega))]) () rfl
  subst Q
  exact e
def mo (μ : Mem) (p st pl : Nat) : Nat := mB μ p (gM μ p pl st) (lc μ p)
noncomputable def BP (μ : Mem) (p n r left pl : Nat) : Nat := BB n (cG μ p) (aw μ p) (mo μ p) r left pl
theorem plC_mono {a b now lo : Nat} (h : a &&& b = a) : ∀ n, plC a now lo n ≤ plC b now lo n
  | 0 => Nat.le_refl _
  | n + 1 => by
    have ih := plC_mono (now := now) (lo := lo) h n
    rw [plC, plC]
    by_cases q : a.testBit n = true ∧ lo ≤ now + n
    · have hb : b.testBit n = true := by
        have := congrArg (fun z => z.testBit n) h
        simp only [Nat.testBit_and, q.1, Bool.true_and] at this
        exact this
      rw [if_pos q, if_pos ⟨hb, q.2⟩]
      omega
    · rw [if_neg q]
      split <;> omega
theorem mB_gmono {μ : Mem} {p : Nat} {g g' : Nat → Nat} (h : ∀ b, g b ≤ g' b) : ∀ n, mB μ p g' n = 0 → mB μ p g n = 0
  | 0, _ => rfl
  | n + 1, z => by
    rw [mB] at z
    by_cases q : mB μ p g' n = 1
    · rw [if_pos q] at z
      exact absurd z (by decide)
    · rw [if_neg q] at z
      have h0 : mB μ p g' n = 0 := by have := mB_le μ p g' n; omega
      have ih := mB_gmono h n h0
      rw [mB, if_neg (by omega), if_neg (fun w => by rw [if_pos ⟨w.1, Nat.le_trans w.2 (h _)⟩] at z; exact absurd z (by decide))]
theorem mo_mono (μ : Mem) (p : Nat) : ∀ st a b, a &&& b = a → mo μ p st b = 0 → mo μ p st a = 0 := fun st a b h z => by
  refine mB_gmono (fun c => ?_) _ z
  unfold gM
  have := plC_mono (now := nw μ) (lo := nw μ + st + 1 - c) h st
  omega
theorem mo_nc {μ : Mem} {p : Nat} (h : cS μ p (lc μ p) = 0) (st pl : Nat) : mo μ p st pl = 0 := cS_mB _ _ h
theorem plf_eq (pb now : Nat) : ∀ n u, plf pb now n u = if now ≤ u ∧ u < now + n ∧ pb.testBit (u - now) = true then 1 else 0
  | 0, u => by rw [plf, if_neg (by omega)]
  | n + 1, u => by
    rw [plf, plf_eq pb now n u]
    by_cases q : u = now + n
    · subst q
      rw [if_neg (by omega)]
      by_cases z : pb.testBit n = true
      · rw [if_pos ⟨z, rfl⟩, if_pos ⟨by omega, by omega, by rw [show now + n - now = n by omega]; exact z⟩]
      · rw [if_neg (fun w => z w.1), if_neg (fun w => z (by have := w.2.2; rwa [show now + n - now = n by omega] at this))]
    · rw [if_neg (show ¬ (pb.testBit n = true ∧ u = now + n) from fun w => q w.2), Nat.add_zero]
      by_cases z : now ≤ u ∧ u < now + n ∧ pb.testBit (u - now) = true
      · rw [if_pos z, if_pos ⟨z.1, by omega, z.2.2⟩]
      · rw [if_neg z, if_neg (fun w => z ⟨w.1, by omega, w.2.2⟩)]
theorem ct_0 {μ : Mem} (S : RelS μ) {p u : Nat} (hu : nw μ < u) : ∀ n, n ≤ 40 → ct μ p u n = 0
  | 0, _ => rfl
  | n + 1, h => by
    have := S.2.2.1 n (by omega)
    rw [ct, if_neg (by omega), ct_0 S hu n (by omega)]
/-- the planner's cells behind the prices -/
def Zp (μ : Mem) (p n : Nat) (ν : Mem) : Prop := Sm μ ν ∧ (PK μ p ν ∧ PR μ p (pK μ p) ν) ∧ (mI ν 94 17 = nI n ∧ mI ν 94 18 = nI (cS μ p (lc μ p))) ∧ (∀ st x, st < n → 1 ≤ x → x < 2 ^ pK μ p → mI ν 103 (st * 64 + x) = nI (cG μ p st x) ∧ mI ν 104 (st * 64 + x) = cW μ p st x) ∧ mI ν 97 0 = nI (aT μ p (tn μ)) ∧ ∀ u, u < nw μ → mI ν 106 u = nI (ct μ p u (sc μ))
theorem Zp.cg {μ ν ν' : Mem} {p n : Nat} (h : Zp μ p n ν) (s : Sm ν ν') (e94 : ∀ k, k ≠ 0 → mI ν' 94 k = mI ν 94 k) (er : ∀ a, a = 97 ∨ a = 98 ∨ a = 99 ∨ a = 100 ∨ a = 103 ∨ a = 104 → mI ν' a = mI ν a) (e6 : ∀ u, u < nw μ → mI ν' 106 u = mI ν 106 u) : Zp μ p n ν' := by
  obtain ⟨s0, ⟨k, r⟩, ⟨h1, h2⟩, g, a0, c⟩ := h
  refine ⟨s0.tr s, ⟨⟨by rw [e94 16 (by decide)]; exact k.1, fun j hj => by rw [er 98 (by decide)]; exact k.2 j hj⟩, fun x hx => by rw [er 99 (by decide), er 100 (by decide)]; exact r x hx⟩, ⟨by rw [e94 17 (by decide)]; exact h1, by rw [e94 18 (by decide)]; exact h2⟩, fun st x a1 a2 a3 => by rw [er 103 (by decide), er 104 (by decide)]; exact g st x a1 a2 a3, by rw [er 97 (by decide)]; exact a0, fun u hu => by rw [e6 u hu]; exact c u hu⟩
theorem Zp.w {μ ν : Mem} {p n a k : Nat} {v : Int32} (h : Zp μ p n ν) (ha : a = 105 ∨ a = 95 ∨ a = 96 ∨ (a = 106 ∧ nw μ ≤ k)) : Zp μ p n (wI ν a k v) := h.cg ((Sm.rf h.1.1).wI (corP (by omega) _)) (fun j _ => by rw [row_ne (by omega)]) (fun b hb => row_ne (by omega)) (fun u hu => fld_ne (by omega))
theorem mostAt_c {μ ν : Mem} (I : Inv μ) {p n st node : Nat} (hp : p < 4) (hst : st < n) (hn6 : n ≤ 6) (hnode : node < 64) (h : Zp μ p n ν) : ∃ ν', (Zp μ p n ν' ∧ ∀ a, a ≠ 106 → mI ν' a = mI ν a) ∧ X4_mostBarsAt 94 (nI node) (nI st) (nI (nw μ)) (nI (ct μ p (nw μ) (sc μ))) (lwA ν p) ν = some (nI (mo μ p st (plN st node)), ν') := by
  have I0 := I
  obtain ⟨o, W, C, T, S, X, L⟩ := I
  have hn := W.2.2.2.2.2.2.2
  have hc := S.1.2.2
  have oν := h.1.1
  have cl := cS_le μ p (lc μ p)
  have cc : (nI (cS μ p (lc μ p)) = 0) = (cS μ p (lc μ p) = 0) := n_eq (b := 0) (by omega) (by decide)
  unfold X4_mostBarsAt
  rw [gi_94 oν, h.2.2.1.2, Option.bind_some]
  simp only [cc]
  by_cases z : cS μ p (lc μ p) = 0
  · refine ⟨ν, ⟨h, fun _ _ => rfl⟩, ?_⟩
    rw [if_pos z, mo_nc z]
    rfl
  · rw [if_neg z, r_94_15 oν, Option.bind_some, al_66a oν, Option.bind_some, nI_add, if_pos (nI_lt (by omega) (by decide))]
    obtain ⟨ν1, ⟨z1, fr1, b1⟩, e1⟩ := loopF (F := fun m (ν' : Mem) i => X4_mostBarsAt_L23 94 (nI node) (nI st) (nI (nw μ)) (nI (ct μ p (nw μ) (sc μ))) (lwA ν p) m (nI i) ν') (P := fun i ν' => Zp μ p n ν' ∧ (∀ a, a ≠ 106 → mI ν' a = mI ν a) ∧ ∀ j, j < i → mI ν' 106 (nw μ + j) = nI (node / 2 ^ (st - 1 - j) % 2)) (n := st) (r := fun ν' => (nI st, ν')) (by omega) (fun m ν' i hi P => by
      obtain ⟨zp, fr, b⟩ := P
      refine ⟨wI ν' 106 (nw μ + i) (nI (node / 2 ^ (st - 1 - i) % 2)), ⟨zp.w (by omega), fun a q => ?_, fun j hj => ?_⟩, ?_⟩
      · rw [row_ne q]
        exact fr a q
      · by_cases y : j = i
        · subst y
          exact fld_eq
        · rw [fld_ne (by omega)]
          exact b j (by omega)
      · have e : (nI node >>> ((nI st - 1 - nI i) &&& 31)) &&& 1 = nI (node / 2 ^ (st - 1 - i) % 2) := by
          rw [show nI st - 1 = nI (st - 1) from pk_sub (b := 1) (by omega), pk_sub (by omega), bt_eq, bt_n (by omega) (by omega)]
        show X4_mostBarsAt_L23 94 (nI node) (nI st) (nI (nw μ)) (nI (ct μ p (nw μ) (sc μ))) (lwA ν p) (m + 1) (nI i) ν' = _
        rw [X4_mostBarsAt_L23, if_neg (nI_ge hi (by omega)), r_94_15 zp.1.1, Option.bind_some, nI_add, e, si_106 zp.1.1 (by omega), Option.bind_some, nI_add1]) (fun m ν' P => by
      show X4_mostBarsAt_L23 94 (nI node) (nI st) (nI (nw μ)) (nI (ct μ p (nw μ) (sc μ))) (lwA ν p) (m + 1) (nI st) ν' = _
      rw [X4_mostBarsAt_L23, if_pos (nI_le (Nat.le_refl _) (by omega))]) ν ⟨h, fun _ _ => rfl, fun j hj => by omega⟩
    have e1 : X4_mostBarsAt_L23 94 (nI node) (nI st) (nI (nw μ)) (nI (ct μ p (nw μ) (sc μ))) (lwA ν p) FU 0 ν = _ := e1
    have z2 : Zp μ p n (wI ν1 106 (nw μ + st) 0) := z1.w (by omega)
    have z3 : Zp μ p n (wI (wI ν1 106 (nw μ + st) 0) 106 (nw μ) (mI (wI ν1 106 (nw μ + st) 0) 106 (nw μ) + nI (ct μ p (nw μ) (sc μ)))) := z2.w (by omega)
    have lw3 : lwA (wI (wI ν1 106 (nw μ + st) 0) 106 (nw μ) (mI (wI ν1 106 (nw μ + st) 0) 106 (nw μ) + nI (ct μ p (nw μ) (sc μ)))) p = lwA ν p := by
      rw [lw_sm z3.1, lw_sm h.1]
    have I3 := I0.sm z3.1
    have row : ∀ i, i ≤ nw μ + st → mI (wI (wI ν1 106 (nw μ + st) 0) 106 (nw μ) (mI (wI ν1 106 (nw μ + st) 0) 106 (nw μ) + nI (ct μ p (nw μ) (sc μ)))) 106 i = nI (ct μ p i (sc μ) + plf (plN st node) (nw μ) st i) := fun i hi => by
      rw [plf_eq]
      by_cases q1 : i < nw μ
      · rw [fld_ne (by omega), fld_ne (by omega), z1.2.2.2.2.2 i q1, if_neg (by omega), Nat.add_zero]
      · by_cases q2 : i = nw μ
        · subst q2
          rw [fld_eq]
          by_cases q3 : st = 0
          · subst q3
            rw [Nat.add_zero, fld_eq, if_neg (by omega), Nat.add_zero, Int32.zero_add]
          · rw [fld_ne (by omega), show nw μ = nw μ + 0 from rfl, b1 0 (by omega), Nat.add_zero, nI_add, Nat.sub_self]
            have pb := plN_bit (st := st) (node := node) (j := 0) (by omega) hnode (by omega)
            have ml := Nat.mod_lt (node / 2 ^ (st - 1 - 0)) (show 0 < 2 by decide)
            by_cases q4 : (plN st node).testBit 0 = true
            · rw [if_pos ⟨Nat.le_refl _, by omega, q4⟩, pb.mp q4, Nat.add_comm]
            · have : ¬ node / 2 ^ (st - 1 - 0) % 2 = 1 := fun w => q4 (pb.mpr w)
              rw [if_neg (fun w => q4 w.2.2), show node / 2 ^ (st - 1 - 0) % 2 = 0 by omega, Nat.add_comm]
        · rw [fld_ne (by omega), ct_0 S (by omega) _ hc, Nat.zero_add]
          by_cases q3 : i = nw μ + st
          · subst q3
            rw [fld_eq, if_neg (by omega)]
            rfl
          · obtain ⟨j, rfl⟩ : ∃ j, i = nw μ + j := ⟨i - nw μ, by omega⟩
            rw [fld_ne (by omega), b1 j (by omega), show nw μ + j - nw μ = j by omega]
            have pb := plN_bit (st := st) (node := node) (j := j) (by omega) hnode (by omega)
            have ml := Nat.mod_lt (node / 2 ^ (st - 1 - j)) (show 0 < 2 by decide)
            by_cases q4 : (plN st node).testBit j = true
            · rw [if_pos ⟨by omega, by omega, q4⟩, pb.mp q4]
            · have : ¬ node / 2 ^ (st - 1 - j) % 2 = 1 := fun w => q4 (pb.mpr w)
              rw [if_neg (fun w => q4 w.2.2), show node / 2 ^ (st - 1 - j) % 2 = 0 by omega]
    have fb : ∀ i, ct μ p i (sc μ) + plf (plN st node) (nw μ) st i ≤ 1000 := fun i => by
      have h1 := ct_le μ p i (sc μ)
      rw [plf_eq]
      split <;> omega
    have mb := most_c z3.1.1 I3.2.2.2.2.2.2 (r := 106) (u := nw μ + st) (p := p) hp (Or.inl rfl) (by omega) row fb
    rw [lw3, lc_sm z3.1, mB_sm z3.1] at mb
    have ew : wnd (fun u => ct μ p u (sc μ) + plf (plN st node) (nw μ) st u) (nw μ + st) = gM μ p (plN st node) st := funext (wnd_eq μ p (plN st node) st)
    have mb : X3_mostBars (lwA ν p) 106 (nI (nw μ + st)) _ = some (nI (mB μ p (wnd (fun u => ct μ p u (sc μ) + plf (plN st node) (nw μ) st u) (nw μ + st)) (lc μ p))) := mb
    rw [ew] at mb
    have il : isLw (lwA ν p) := lw_is oν hp
    refine ⟨_, ⟨z3, fun a q => ?_⟩, ?_⟩
    · rw [row_ne q, row_ne q]
      exact fr1 a q
    · have ml := mB_le μ p (gM μ p (plN st node) st) (lc μ p)
      have zm : zz (nI (mB μ p (gM μ p (plN st node) st) (lc μ p))) = some (nI (mB μ p (gM μ p (plN st node) st) (lc μ p))) := by
        rcases (show mB μ p (gM μ p (plN st node) st) (lc μ p) = 0 ∨ mB μ p (gM μ p (plN st node) st) (lc μ p) = 1 by omega) with q | q
        · rw [q]
          rfl
        · rw [q]
          rfl
      rw [e1, Option.bind_some, r_94_15 z1.1.1, Option.bind_some, si_106 z1.1.1 (by omega), Option.bind_some, r_94_15 z2.1.1, Option.bind_some, ai_106 z2.1.1 (by omega), Option.bind_some, si_106 z2.1.1 (by omega), Option.bind_some, r_94_15 z3.1.1, Option.bind_some, vo_l z3.1.1 il, Option.bind_some, mb, Option.bind_some, zm, Option.bind_some]
      rfl
end
section
/-! ===== the class's plan ===== -/
/-- nodes of a step -/
def NV (μ : Mem) (p st node : Nat) : Prop := if cS μ p (lc μ p) = 0 then node = 2 ^ st else 2 ^ st ≤ node ∧ node < 2 ^ (st + 1)
theorem NV.rg {μ : Mem} {p st node : Nat} (h : NV μ p st node) : 2 ^ st ≤ node ∧ node < 2 ^ (st + 1) := by
  unfold NV at h
  have : 2 ^ (st + 1) = 2 ^ st * 2 := Nat.pow_succ ..
  have := Nat.two_pow_pos st
  split at h
  · omega
  · exact h
theorem p2_6 {st : Nat} (h : st < 6) : 2 ^ (st + 1) ≤ 64 := show 2 ^ (st + 1) ≤ 2 ^ 6 from Nat.pow_le_pow_right (by decide) (by omega)
theorem NV.two {μ : Mem} {p st node : Nat} (h : NV μ p st node) : NV μ p (st + 1) (2 * node) := by
  have rg := h.rg
  unfold NV at h ⊢
  have h1 : 2 ^ (st + 1) = 2 ^ st * 2 := Nat.pow_succ ..
  have h2 : 2 ^ (st + 1 + 1) = 2 ^ (st + 1) * 2 := Nat.pow_succ ..
  by_cases z : cS μ p (lc μ p) = 0
  · rw [if_pos z] at h ⊢
    omega
  · rw [if_neg z] at h ⊢
    omega
theorem NV.one {μ : Mem} {p st node : Nat} (z : ¬ cS μ p (lc μ p) = 0) (h : NV μ p st node) : NV μ p (st + 1) (2 * node + 1) := by
  have rg := h.rg
  unfold NV
  have h1 : 2 ^ (st + 1) = 2 ^ st * 2 := Nat.pow_succ ..
  have h2 : 2 ^ (st + 1 + 1) = 2 ^ (st + 1) * 2 := Nat.pow_succ ..
  rw [if_neg z]
  omega
/-- totals of a step -/
def Tt (μ : Mem) (p n st : Nat) (ν : Mem) : Prop := st < n → ∀ node, NV μ p st node → ∀ used, used < 2 ^ pK μ p → mI ν 105 (node * 64 + used) = nI (BP μ p n (n - st) (nd (2 ^ pK μ p - 1) used) (plN st node))
noncomputable def foP (μ : Mem) (p n st left pl : Nat) : Nat → Nat × Nat := fo (elB (cG μ p) (aw μ p) (mo μ p) st pl left) (fun x => cG μ p st x + BP μ p n (n - st - 1) (nd left x) (pl ||| 2 ^ st)) (BP μ p n (n - st - 1) left pl)
theorem BP_s {μ : Mem} {p n st : Nat} (left pl : Nat) (h : st < n) : BP μ p n (n - st) left pl = (foP μ p n st left pl 63).2 := by
  unfold BP foP
  rw [show n - st = n - st - 1 + 1 by omega, BB, show n - (n - st - 1 + 1) = st by omega]
  rfl
section MK
variable {μ : Mem} {p n : Nat}
theorem BP_bd (I : Inv μ) (hn : n ≤ 6) {r : Nat} (hr : r ≤ 6) (left pl : Nat) : BP μ p n r left pl ≤ 17994 * 9 * 6 := by
  have cb : ∀ s x, (fun s x => if s ≤ 8 then cG μ p s x else 0) s x ≤ 17994 := fun s x => by
    show (if s ≤ 8 then cG μ p s x else 0) ≤ _
    by_cases z : s ≤ 8
    · rw [if_pos z]
      exact cG_le I z
    · rw [if_neg z]
      exact Nat.zero_le _
  have eq : ∀ r left pl, BB n (cG μ p) (aw μ p) (mo μ p) r left pl = BB n (fun s x => if s ≤ 8 then cG μ p s x else 0) (aw μ p) (mo μ p) r left pl := fun r => by
    induction r with
    | zero => intro _ _; rfl
    | succ r ih =>
      intro left pl
      have e8 : ∀ x, cG μ p (n - (r + 1)) x = (fun s x => if s ≤ 8 then cG μ p s x else 0) (n - (r + 1)) x := fun x => (if_pos (by omega)).symm
      rw [BB, BB, ih]
      rw [fo_cg (el' := elB (fun s x => if s ≤ 8 then cG μ p s x else 0) (aw μ p) (mo μ p) (n - (r + 1)) pl left) (bv' := fun x => (fun s x => if s ≤ 8 then cG μ p s x else 0) (n - (r + 1)) x + BB n (fun s x => if s ≤ 8 then cG μ p s x else 0) (aw μ p) (mo μ p) r (nd left x) (pl ||| 2 ^ (n - (r + 1)))) 63 (fun x _ _ => by unfold elB; rw [e8]) (fun x _ _ _ => by rw [ih, e8])]
  have := BB_bd (n := n) (al := aw μ p) (mo := mo μ p) cb r left pl
  unfold BP
  rw [eq]
  omega
theorem nc_eq (z : cS μ p (lc μ p) = 0) (r left pl pl' : Nat) : BP μ p n r left pl = BP μ p n r left pl' := BB_nc (fun st pl => mo_nc z st pl) r left pl pl'
theorem allK : 2 ^ pK μ p - 1 < 64 ∧ 1 ≤ 2 ^ pK μ p ∧ 2 ^ pK μ p ≤ 64 := by
  have h1 : 2 ^ pK μ p ≤ 2 ^ 6 := Nat.pow_le_pow_right (by decide) (pK_le μ p)
  have h2 := Nat.two_pow_pos (pK μ p)
  omega
theorem behind0 {ν : Mem} (node : Nat) : X4_nodeBehind 94 (nI node) 0 ν = some (nI (2 * node)) := by
  unfold X4_nodeBehind
  rw [if_pos rfl, Option.bind_some, show (2 : Int32) = nI 2 from rfl, pk_mul, Int32.add_zero, Nat.mul_comm]
theorem behind1 {ν : Mem} (h : Zp μ p n ν) (node : Nat) : X4_nodeBehind 94 (nI node) 1 ν = some (nI (if cS μ p (lc μ p) = 0 then 2 * node else 2 * node + 1)) := by
  have cl := cS_le μ p (lc μ p)
  have cc : (nI (cS μ p (lc μ p)) = 0) = (cS μ p (lc μ p) = 0) := n_eq (b := 0) (by omega) (by decide)
  unfold X4_nodeBehind
  rw [if_neg (by decide), gi_94 h.1.1, h.2.2.1.2, Option.bind_some]
  simp only [cc]
  by_cases z : cS μ p (lc μ p) = 0
  · rw [if_pos z, if_pos z, Option.bind_some, show (2 : Int32) = nI 2 from rfl, pk_mul, Int32.add_zero, Nat.mul_comm]
  · rw [if_neg z, if_neg z, Option.bind_some, show (2 : Int32) = nI 2 from rfl, pk_mul, nI_add1, Nat.mul_comm]
theorem total_c {ν : Mem} (hn : n ≤ 6) {st node used : Nat} (hst : st ≤ n) (h : Zp μ p n ν) (ht : Tt μ p n st ν) (hv : NV μ p st node) (hu : used < 2 ^ pK μ p) : X4_total 94 (nI node) (nI used) ν = some (nI (BP μ p n (n - st) (nd (2 ^ pK μ p - 1) used) (plN st node))) := by
  obtain ⟨a1, a2, a3⟩ := allK (μ := μ) (p := p)
  have rg := hv.rg
  have hp6 : 2 ^ (st + 1) ≤ 2 ^ 7 := Nat.pow_le_pow_right (by decide) (by omega)
  have hp2 : 2 ^ n ≤ 2 ^ 6 := Nat.pow_le_pow_right (by decide) hn
  unfold X4_total
  rw [gi_94 h.1.1, h.2.2.1.1, Option.bind_some, sh31 n (by omega)]
  by_cases z : st = n
  · subst z
    rw [if_neg (nI_nlt rg.1 (by omega)), Option.bind_some, Nat.sub_self]
    rfl
  · have h1 : 2 ^ (st + 1) ≤ 2 ^ n := Nat.pow_le_pow_right (by decide) (by omega)
    rw [if_pos (nI_lt (by omega) (by omega)), r_94_14 h.1.1, Option.bind_some, show (64 : Int32) = nI 64 from rfl, pk_mul, nI_add, ai_105 h.1.1 (by omega), ht (by omega) node hv used hu, Option.bind_some, Option.bind_some]
theorem always_z {ν : Mem} (h : Zp μ p n ν) {x : Nat} (hx : x < 2 ^ pK μ p) (hT : tn μ ≤ 10) : X1_isAlways 97 (nI (rS μ p x)) ν = some (b01 (aw μ p x)) := by
  have hs : rS μ p x < 2 ^ 31 := Nat.lt_of_lt_of_le (rS_lt μ p x) (Nat.pow_le_pow_right (by decide) (by omega))
  have nb := nd_le (rS μ p x) (aT μ p (tn μ))
  have c1 : (nI (nd (rS μ p x) (aT μ p (tn μ))) = 0) = (nd (rS μ p x) (aT μ p (tn μ)) = 0) := n_eq (b := 0) (by omega) (by decide)
  unfold X1_isAlways aw
  rw [gi_97 h.1.1, h.2.2.2.2.1, Option.bind_some, nd_eq hs]
  simp only [c1]
  by_cases q : nd (rS μ p x) (aT μ p (tn μ)) = 0
  · rw [if_pos q, decide_eq_true q]
    rfl
  · rw [if_neg q, decide_eq_false q]
    rfl
theorem nd_or {a u x : Nat} (ha : a < 64) : nd a (u ||| x) = nd (nd a u) x := by
  apply Nat.eq_of_testBit_eq
  intro i
  by_cases q : i < 31
  · rw [nd_bit q, nd_bit q, nd_bit q, Nat.testBit_or]
    cases a.testBit i <;> cases u.testBit i <;> cases x.testBit i <;> rfl
  · have h1 : ∀ y, y < 64 → y.testBit i = false := fun y hy => Nat.testBit_lt_two_pow (Nat.lt_of_lt_of_le hy (show 2 ^ 6 ≤ 2 ^ i from Nat.pow_le_pow_right (by decide) (by omega)))
    rw [h1 _ (nd_lt _ ha), h1 _ (nd_lt _ (nd_lt _ ha))]
theorem sub_K {x K : Nat} (hx : x &&& (2 ^ K - 1) = x) : x < 2 ^ K := by
  have h1 := sub_le hx
  have h2 := Nat.two_pow_pos K
  omega
theorem K_sub {x K : Nat} (hx : x < 2 ^ K) : x &&& (2 ^ K - 1) = x := by
  rw [Nat.and_two_pow_sub_one_eq_mod, Nat.mod_eq_of_lt hx]
theorem fo_nx (st left pl : Nat) {s s' : Nat} (h1 : s < s') (hno : ∀ x, s < x → x < s' → ¬ x &&& left = x) : foP μ p n st left pl (s' - 1) = foP μ p n st left pl s := by
  unfold foP
  have := fo_no (el := elB (cG μ p) (aw μ p) (mo μ p) st pl left) (bv := fun x => cG μ p st x + BP μ p n (n - st - 1) (nd left x) (pl ||| 2 ^ st)) (skip := BP μ p n (n - st - 1) left pl) (a := s) (s' - 1 - s) (fun x x1 x2 => by
    unfold elB
    rw [decide_eq_false (hno x x1 (by omega)), Bool.false_and])
  rw [show s + (s' - 1 - s) = s' - 1 by omega] at this
  exact this
theorem decide_c {ν : Mem} (I : Inv μ) (hn : n ≤ 6) {st node used m : Nat} (hst : st < n) (h : Zp μ p n ν) (ht : Tt μ p n (st + 1) ν) (hv : NV μ p st node) (hu : used < 2 ^ pK μ p) (hm : m = mo μ p st (plN st node)) : X4_decide 94 (nI node) (nI st) (nI used) (nI m) ν = some (nI (foP μ p n st (nd (2 ^ pK μ p - 1) used) (plN st node) 63).1, wI ν 105 (node * 64 + used) (nI (foP μ p n st (nd (2 ^ pK μ p - 1) used) (plN st node) 63).2)) := by
  obtain ⟨a1, a2, a3⟩ := allK (μ := μ) (p := p)
  have hT := I.2.2.2.1.1.2.2
  have hK := pK_le μ p
  have rg := hv.rg
  have hp6 := p2_6 (show st < 6 by omega)
  have node64 : node < 64 := by omega
  have pl0 := plN_ok (st := st) (node := node) (by omega) node64 rg.1 rg.2
  have oν := h.1.1
  have left64 : nd (2 ^ pK μ p - 1) used < 64 := nd_lt used a1
  have leftK : nd (2 ^ pK μ p - 1) used &&& (2 ^ pK μ p - 1) = nd (2 ^ pK μ p - 1) used := nd_self a1
  have ml : m ≤ 1 := by rw [hm]; exact mB_le _ _ _ _
  have bdB : ∀ l q, BP μ p n (n - st - 1) l q ≤ 17994 * 9 * 6 := fun l q => BP_bd I hn (by omega) l q
  have fb : ∀ s, (foP μ p n st (nd (2 ^ pK μ p - 1) used) (plN st node) s).2 ≤ 17994 * 9 * 6 + 17994 := fun s => by
    rcases (fo_sp (elB (cG μ p) (aw μ p) (mo μ p) st (plN st node) (nd (2 ^ pK μ p - 1) used)) (fun x => cG μ p st x + BP μ p n (n - st - 1) (nd (nd (2 ^ pK μ p - 1) used) x) (plN st node ||| 2 ^ st)) (BP μ p n (n - st - 1) (nd (2 ^ pK μ p - 1) used) (plN st node)) s).2.2 with ⟨-, e⟩ | ⟨-, -, -, e, -⟩
    · unfold foP
      rw [e]
      have := bdB (nd (2 ^ pK μ p - 1) used) (plN st node)
      omega
    · unfold foP
      rw [e]
      have h1 := bdB (nd (nd (2 ^ pK μ p - 1) used) (fo (elB (cG μ p) (aw μ p) (mo μ p) st (plN st node) (nd (2 ^ pK μ p - 1) used)) (fun x => cG μ p st x + BP μ p n (n - st - 1) (nd (nd (2 ^ pK μ p - 1) used) x) (plN st node ||| 2 ^ st)) (BP μ p n (n - st - 1) (nd (2 ^ pK μ p - 1) used) (plN st node)) s).1) (plN st node ||| 2 ^ st)
      have h2 := cG_le I (p := p) (st := st) (x := (fo (elB (cG μ p) (aw μ p) (mo μ p) st (plN st node) (nd (2 ^ pK μ p - 1) used)) (fun x => cG μ p st x + BP μ p n (n - st - 1) (nd (nd (2 ^ pK μ p - 1) used) x) (plN st node ||| 2 ^ st)) (BP μ p n (n - st - 1) (nd (2 ^ pK μ p - 1) used) (plN st node)) s).1) (by omega)
      show cG μ p st _ + BP μ p n (n - st - 1) _ _ ≤ _
      omega
  have sk : X4_total 94 (nI (2 * node)) (nI used) ν = some (nI (BP μ p n (n - st - 1) (nd (2 ^ pK μ p - 1) used) (plN st node))) := by
    rw [total_c hn (by omega) h ht hv.two hu, pl0.2.1]
    rfl
  have tot : ∀ x, x &&& nd (2 ^ pK μ p - 1) used = x → X4_total 94 (nI (if cS μ p (lc μ p) = 0 then 2 * node else 2 * node + 1)) (nI (used ||| x)) ν = some (nI (BP μ p n (n - st - 1) (nd (nd (2 ^ pK μ p - 1) used) x) (plN st node ||| 2 ^ st))) := fun x hx => by
    have hxK : x < 2 ^ pK μ p := sub_K (sub_tr hx leftK)
    have hor : used ||| x < 2 ^ pK μ p := Nat.or_lt_two_pow hu hxK
    by_cases z : cS μ p (lc μ p) = 0
    · rw [if_pos z, total_c hn (by omega) h ht hv.two hor, nd_or a1]
      exact congrArg (fun y => some (nI y)) (nc_eq z _ _ _ _)
    · rw [if_neg z, total_c hn (by omega) h ht (hv.one z) hor, nd_or a1, pl0.2.2]
      rfl
  obtain ⟨rkA, rk64⟩ := rk_all (nd (2 ^ pK μ p - 1) used) left64
  generalize hleft : nd (2 ^ pK μ p - 1) used = left at *
  generalize hpl : plN st node = pl at *
  obtain ⟨b, P, e⟩ := loopG (F := fun k (b : (Nat × Nat) × Nat) i => X4_decide_L45 94 (nI node) (nI st) (nI used) (nI m) (nI left) (nI (rk left left + 1)) ν k (nI b.1.1) (nI b.1.2) (nI b.2) (nI i)) (P := fun i b => b.1 = foP μ p n st left pl b.2 ∧ b.2 < 64 ∧ b.2 &&& left = b.2 ∧ rk left b.2 = i - 1) (i0 := 1) (n := rk left left + 1) (r := fun b => (nI b.1.1, nI b.1.2, nI b.2, nI (rk left left + 1))) (by omega) (by omega) (fun k b i h1 hi P => by
    obtain ⟨b1, s⟩ := b
    obtain ⟨rfl, s64, ssub, srk⟩ : b1 = foP μ p n st left pl s ∧ s < 64 ∧ s &&& left = s ∧ rk left s = i - 1 := P
    have sne : s ≠ left := fun w => by
      rw [w] at srk
      omega
    obtain ⟨n1, n2, n3, n4⟩ := nx_up left64 s64 ssub sne
    have xK : nx s left < 2 ^ pK μ p := sub_K (sub_tr n3 leftK)
    have g := h.2.2.2.1 st (nx s left) hst (by omega) xK
    have gb := cG_le I (p := p) (st := st) (x := nx s left) (by omega)
    have cg0 : (nI (cG μ p st (nx s left)) ≤ 0) = (cG μ p st (nx s left) = 0) := nI_0le (by omega)
    have cm : (nI m = 0) = (m = 0) := n_eq (b := 0) (by omega) (by decide)
    have e99 : mI ν 99 (nx s left) = nI (rS μ p (nx s left)) := (h.2.1.2 (nx s left) xK).1
    have fs : foP μ p n st left pl (nx s left) = if elB (cG μ p) (aw μ p) (mo μ p) st pl left (nx s left) = true ∧ (foP μ p n st left pl s).2 < cG μ p st (nx s left) + BP μ p n (n - st - 1) (nd left (nx s left)) (pl ||| 2 ^ st) then (nx s left, cG μ p st (nx s left) + BP μ p n (n - st - 1) (nd left (nx s left)) (pl ||| 2 ^ st)) else foP μ p n st left pl s := by
      rw [← fo_nx (μ := μ) (p := p) (n := n) st left pl n1 (fun x x1 x2 w => by have := nx_lst left64 s64 ssub sne w x1; omega)]
      obtain ⟨y, hy⟩ : ∃ y, nx s left = y + 1 := ⟨nx s left - 1, by omega⟩
      rw [hy, show y + 1 - 1 = y from rfl]
      rfl
    have el : (elB (cG μ p) (aw μ p) (mo μ p) st pl left (nx s left) = true) = (¬ cG μ p st (nx s left) = 0 ∧ (aw μ p (nx s left) = true ∨ m = 0)) := by
      unfold elB
      rw [decide_eq_true n3, Bool.true_and, Bool.and_eq_true, Bool.or_eq_true, decide_eq_true_eq, decide_eq_true_eq, ← hm]
      exact propext ⟨fun ⟨u, v⟩ => ⟨by omega, v⟩, fun ⟨u, v⟩ => ⟨by omega, v⟩⟩
    have bb := bdB (nd left (nx s left)) (pl ||| 2 ^ st)
    have fbs := fb s
    have cc : (nI (cG μ p st (nx s left) + BP μ p n (n - st - 1) (nd left (nx s left)) (pl ||| 2 ^ st)) ≤ nI (foP μ p n st left pl s).2) = ¬ ((foP μ p n st left pl s).2 < cG μ p st (nx s left) + BP μ p n (n - st - 1) (nd left (nx s left)) (pl ||| 2 ^ st)) := by
      rw [n_le (by omega) (by omega)]
      exact propext ⟨fun w => by omega, fun w => by omega⟩
    refine ⟨(foP μ p n st left pl (nx s left), nx s left), ⟨rfl, n2, n3, (show rk left (nx s left) = i + 1 - 1 by omega)⟩, ?_⟩
    show X4_decide_L45 94 (nI node) (nI st) (nI used) (nI m) (nI left) (nI (rk left left + 1)) ν (k + 1) (nI (foP μ p n st left pl s).1) (nI (foP μ p n st left pl s).2) (nI s) (nI i) = X4_decide_L45 94 (nI node) (nI st) (nI used) (nI m) (nI left) (nI (rk left left + 1)) ν k (nI (foP μ p n st left pl (nx s left)).1) (nI (foP μ p n st left pl (nx s left)).2) (nI (nx s left)) (nI (i + 1))
    rw [X4_decide_L45, if_neg (nI_ge hi (by omega)), nx_I s s64 left left64, Option.bind_some, r_94_12 oν, Option.bind_some, show (64 : Int32) = nI 64 from rfl, pk_mul, nI_add, ai_103 oν (by omega), g.1, Option.bind_some, nI_add1, vo_94 oν, behind1 h, r_94_6 oν, r_94_8 oν]
    simp only [Option.bind_some, ai_99 oν n2, e99, vo_97 oν, always_z h xK hT, fa_or, tot (nx s left) n3, nI_add, cg0, cm, cc, b01_z]
    by_cases z1 : cG μ p st (nx s left) = 0
    · rw [if_pos z1, Option.bind_some, fs, if_neg (fun w => by rw [el] at w; exact w.1.1 z1)]
    · rw [if_neg z1]
      by_cases z2 : m = 0
      · rw [if_pos z2]
        by_cases z3 : (foP μ p n st left pl s).2 < cG μ p st (nx s left) + BP μ p n (n - st - 1) (nd left (nx s left)) (pl ||| 2 ^ st)
        · rw [if_neg (fun w => w z3), Option.bind_some, fs, if_pos ⟨by rw [el]; exact ⟨z1, Or.inr z2⟩, z3⟩]
        · rw [if_pos z3, Option.bind_some, fs, if_neg (fun w => z3 w.2)]
      · rw [if_neg z2]
        cases z4 : aw μ p (nx s left)
        · rw [if_pos rfl, Option.bind_some, fs, if_neg (fun w => by
            rw [el, z4] at w
            exact w.1.2.elim (fun v => absurd v (by decide)) z2)]
        · rw [if_neg (show ¬ (true : Bool) = false by decide)]
          by_cases z3 : (foP μ p n st left pl s).2 < cG μ p st (nx s left) + BP μ p n (n - st - 1) (nd left (nx s left)) (pl ||| 2 ^ st)
          · rw [if_neg (fun w => w z3), Option.bind_some, fs, if_pos ⟨by rw [el]; exact ⟨z1, Or.inl z4⟩, z3⟩]
          · rw [if_pos z3, Option.bind_some, fs, if_neg (fun w => z3 w.2)]) (fun k b P => by
    show X4_decide_L45 94 (nI node) (nI st) (nI used) (nI m) (nI left) (nI (rk left left + 1)) ν (k + 1) (nI b.1.1) (nI b.1.2) (nI b.2) (nI (rk left left + 1)) = _
    rw [X4_decide_L45, if_pos (nI_le (Nat.le_refl _) (by omega))]) ((foP μ p n st left pl 0), 0) ⟨rfl, (show 0 < 64 by decide), Nat.zero_and _, rfl⟩
  obtain ⟨P1, P2, P3, P4⟩ := P
  have bl : b.2 = left := by
    by_cases w : b.2 = left
    · exact w
    · have hle := sub_le P3
      have hm' := rk_mono left (b.2 + 1) (left - (b.2 + 1))
      rw [show b.2 + 1 + (left - (b.2 + 1)) = left by omega, rk, if_pos P3] at hm'
      omega
  have f63 : foP μ p n st left pl 63 = b.1 := by
    have := fo_nx (μ := μ) (p := p) (n := n) st left pl (s := left) (s' := 64) left64 (fun x x1 x2 w => by have := sub_le w; omega)
    rw [P1, bl]
    exact this
  have e : X4_decide_L45 94 (nI node) (nI st) (nI used) (nI m) (nI left) (nI (rk left left + 1)) ν FU 0 (nI (BP μ p n (n - st - 1) left pl)) 0 1 = _ := e
  have hall : nI (2 ^ pK μ p) - 1 = nI (2 ^ pK μ p - 1) := pk_sub (b := 1) a2
  unfold X4_decide
  rw [gi_94 oν, h.2.1.1.1, Option.bind_some, sh31 _ (by omega), hall, nd_eq (by omega), hleft, Option.bind_some, vo_94 oν, Option.bind_some, behind0, Option.bind_some, Option.bind_some, sk, Option.bind_some, rkA, Option.bind_some, e, Option.bind_some, r_94_14 oν, Option.bind_some, show (64 : Int32) = nI 64 from rfl, pk_mul, nI_add, si_105 oν (by omega), Option.bind_some, f63]
end MK
end
section
/-! ===== the class's plan, step by step ===== -/
section TL
variable {μ : Mem} {p n : Nat}
theorem make156 (I : Inv μ) (hn : n ≤ 6) {st node : Nat} (hst : st < n) (hv : NV μ p st node) (x3 x5 x7 : Int32) (a4 : Nat) {ν : Mem} (h : Zp μ p n ν) (ht : ∀ s, st < s → Tt μ p n s ν) : ∃ ν' x, (Zp μ p n ν' ∧ (∀ s, st < s → Tt μ p n s ν') ∧ (∀ a, a ≠ 105 → mI ν' a = mI ν a) ∧ (∀ j, ¬ (node * 64 ≤ j ∧ j < node * 64 + 64) → mI ν' 105 j = mI ν 105 j) ∧ ∀ used, used < 2 ^ pK μ p → mI ν' 105 (node * 64 + used) = nI (BP μ p n (n - st) (nd (2 ^ pK μ p - 1) used) (plN st node))) ∧ X4_make_L156 94 x3 a4 x5 (nI st) x7 (nI node) (nI (mo μ p st (plN st node))) FU 0 ν = some (x, ν') := by
  obtain ⟨a1, a2, a3⟩ := allK (μ := μ) (p := p)
  have hK := pK_le μ p
  have rg := hv.rg
  obtain ⟨ν', P, e⟩ := loopF (F := fun m (ν' : Mem) i => X4_make_L156 94 x3 a4 x5 (nI st) x7 (nI node) (nI (mo μ p st (plN st node))) m (nI i) ν') (P := fun i ν' => Zp μ p n ν' ∧ (∀ s, st < s → Tt μ p n s ν') ∧ (∀ a, a ≠ 105 → mI ν' a = mI ν a) ∧ (∀ j, ¬ (node * 64 ≤ j ∧ j < node * 64 + 64) → mI ν' 105 j = mI ν 105 j) ∧ ∀ used, used < i → mI ν' 105 (node * 64 + used) = nI (BP μ p n (n - st) (nd (2 ^ pK μ p - 1) used) (plN st node))) (n := 2 ^ pK μ p) (r := fun ν' => (nI (2 ^ pK μ p), ν')) (by omega) (fun m ν' i hi P => by
    obtain ⟨zp, tt, fr, fj, c⟩ := P
    have d := decide_c I hn hst zp (tt (st + 1) (by omega)) hv hi rfl
    refine ⟨_, ⟨zp.w (a := 105) (k := node * 64 + i) (v := nI (foP μ p n st (nd (2 ^ pK μ p - 1) i) (plN st node) 63).2) (by omega), fun s hs => ?_, fun a q => ?_, fun j q => ?_, fun used hu => ?_⟩, ?_⟩
    · intro hsn node' hv' used hu
      have rg' := hv'.rg
      have hpw : 2 ^ (st + 1) ≤ 2 ^ s := Nat.pow_le_pow_right (by decide) (by omega)
      rw [fld_ne (by omega)]
      exact tt s hs hsn node' hv' used hu
    · rw [row_ne q]
      exact fr a q
    · rw [fld_ne (by omega)]
      exact fj j q
    · by_cases z : used = i
      · subst z
        rw [fld_eq, BP_s _ _ hst]
      · rw [fld_ne (by omega)]
        exact c used (by omega)
    · show X4_make_L156 94 x3 a4 x5 (nI st) x7 (nI node) (nI (mo μ p st (plN st node))) (m + 1) (nI i) ν' = _
      rw [X4_make_L156, gi_94 zp.1.1, zp.2.1.1.1, Option.bind_some, sh31 _ (by omega), if_neg (nI_ge hi (by omega)), vo_94 zp.1.1, Option.bind_some, d, Option.bind_some, nI_add1]) (fun m ν' P => by
    show X4_make_L156 94 x3 a4 x5 (nI st) x7 (nI node) (nI (mo μ p st (plN st node))) (m + 1) (nI (2 ^ pK μ p)) ν' = _
    rw [X4_make_L156, gi_94 P.1.1.1, P.1.2.1.1.1, Option.bind_some, sh31 _ (by omega), if_pos (nI_le (Nat.le_refl _) (by omega))]) ν ⟨h, ht, fun _ _ => rfl, fun _ _ => rfl, fun used hu => by omega⟩
  exact ⟨ν', _, P, e⟩
theorem make126 (I : Inv μ) (hp : p < 4) (hn : n ≤ 6) {st : Nat} (hst : st < n) {ν : Mem} (h : Zp μ p n ν) (ht : ∀ s, st < s → Tt μ p n s ν) : ∃ ν' x, (Zp μ p n ν' ∧ (∀ s, st ≤ s → Tt μ p n s ν') ∧ ∀ a, a ≠ 105 → a ≠ 106 → mI ν' a = mI ν a) ∧ X4_make_L126 94 (nI (nw μ)) (lwA ν p) (nI (ct μ p (nw μ) (sc μ))) (nI st) (nI (if cS μ p (lc μ p) = 0 then 1 else 2 ^ st)) FU (nI (2 ^ st)) ν = some (x, ν') := by
  have hp6 := p2_6 (show st < 6 by omega)
  have h2 : 2 ^ (st + 1) = 2 ^ st * 2 := Nat.pow_succ ..
  have h1 := Nat.two_pow_pos st
  have ⟨N, hN⟩ : ∃ N, N = 2 ^ st + (if cS μ p (lc μ p) = 0 then 1 else 2 ^ st) := ⟨_, rfl⟩
  have hN2 : N ≤ 2 ^ (st + 1) ∧ 2 ^ st < N := by
    rw [hN]
    split <;> omega
  have nv : ∀ i, 2 ^ st ≤ i → i < N → NV μ p st i := fun i i1 i2 => by
    unfold NV
    by_cases z : cS μ p (lc μ p) = 0
    · rw [if_pos z]
      rw [if_pos z] at hN
      omega
    · rw [if_neg z]
      rw [if_neg z] at hN
      omega
  have vn : ∀ i, NV μ p st i → i < N := fun i hi => by
    unfold NV at hi
    by_cases z : cS μ p (lc μ p) = 0
    · rw [if_pos z] at hi hN
      omega
    · rw [if_neg z] at hi hN
      omega
  obtain ⟨ν', ⟨zp, tt, fr, c⟩, e⟩ := loopG (F := fun m (ν' : Mem) i => X4_make_L126 94 (nI (nw μ)) (lwA ν p) (nI (ct μ p (nw μ) (sc μ))) (nI st) (nI (if cS μ p (lc μ p) = 0 then 1 else 2 ^ st)) m (nI i) ν') (P := fun i ν' => Zp μ p n ν' ∧ (∀ s, st < s → Tt μ p n s ν') ∧ (∀ a, a ≠ 105 → a ≠ 106 → mI ν' a = mI ν a) ∧ ∀ node, NV μ p st node → node < i → ∀ used, used < 2 ^ pK μ p → mI ν' 105 (node * 64 + used) = nI (BP μ p n (n - st) (nd (2 ^ pK μ p - 1) used) (plN st node))) (i0 := 2 ^ st) (n := N) (r := fun ν' => (nI N, ν')) (by omega) (by omega) (fun m ν' i i1 hi P => by
    obtain ⟨zp, tt, fr, c⟩ := P
    have hv := nv i i1 hi
    obtain ⟨a1, a2, a3⟩ := allK (μ := μ) (p := p)
    have lwe : lwA ν' p = lwA ν p := by rw [lw_sm zp.1, lw_sm h.1]
    obtain ⟨ν2, ⟨z2, fr2⟩, e2⟩ := mostAt_c I (st := st) (node := i) hp hst hn (by omega) zp
    rw [lwe] at e2
    have tt2 : ∀ s, st < s → Tt μ p n s ν2 := fun s hs => by
      unfold Tt
      rw [fr2 105 (by decide)]
      exact tt s hs
    obtain ⟨ν3, x3', ⟨z3, tt3, fr3, fj3, c3⟩, e3⟩ := make156 I hn hst hv (nI (nw μ)) (nI (ct μ p (nw μ) (sc μ))) (nI (if cS μ p (lc μ p) = 0 then 1 else 2 ^ st)) (lwA ν p) z2 tt2
    refine ⟨ν3, ⟨z3, tt3, fun a q1 q2 => ?_, fun node hv' hlt used hu => ?_⟩, ?_⟩
    · rw [fr3 a q1, fr2 a q2]
      exact fr a q1 q2
    · by_cases y : node = i
      · subst y
        exact c3 used hu
      · rw [fj3 _ (by omega), fr2 105 (by decide)]
        exact c node hv' (by omega) used hu
    · show X4_make_L126 94 (nI (nw μ)) (lwA ν p) (nI (ct μ p (nw μ) (sc μ))) (nI st) (nI (if cS μ p (lc μ p) = 0 then 1 else 2 ^ st)) (m + 1) (nI i) ν' = _
      rw [X4_make_L126, sh31 st (by omega), nI_add, ← hN, if_neg (nI_ge hi (by omega)), vo_94 zp.1.1, Option.bind_some, e2, Option.bind_some, e3, Option.bind_some, nI_add1]) (fun m ν' P => by
    show X4_make_L126 94 (nI (nw μ)) (lwA ν p) (nI (ct μ p (nw μ) (sc μ))) (nI st) (nI (if cS μ p (lc μ p) = 0 then 1 else 2 ^ st)) (m + 1) (nI N) ν' = _
    rw [X4_make_L126, sh31 st (by omega), nI_add, ← hN, if_pos (nI_le (Nat.le_refl _) (by omega))]) ν ⟨h, ht, fun _ _ _ => rfl, fun node hv hlt => by have := hv.rg; omega⟩
  refine ⟨ν', _, ⟨zp, fun s hs => ?_, fr⟩, e⟩
  by_cases y : s = st
  · subst y
    exact fun _ node hv used hu => c node hv (vn node hv) used hu
  · exact tt s (by omega)
theorem make98 (I : Inv μ) (hp : p < 4) (hn : n ≤ 6) (l0 : Nat) : ∀ r k ν, r ≤ n → lwA ν p = l0 → Zp μ p n ν → (∀ s, r ≤ s → Tt μ p n s ν) → ∃ ν' x, (Zp μ p n ν' ∧ (∀ s, Tt μ p n s ν') ∧ ∀ a, a ≠ 105 → a ≠ 106 → mI ν' a = mI ν a) ∧ X4_make_L98 94 (nI (nw μ)) l0 (nI (ct μ p (nw μ) (sc μ))) (k + r + 1) (nI r + (-1)) ν = some (x, ν')
  | 0, k, ν, _, _, h, ht => by
    refine ⟨ν, nI 0 + (-1), ⟨h, fun s => ht s (Nat.zero_le _), fun _ _ _ => rfl⟩, ?_⟩
    rw [X4_make_L98, if_pos (by decide)]
  | r + 1, k, ν, hr, hl, h, ht => by
    obtain ⟨ν1, x1, ⟨z1, t1, f1⟩, e1⟩ := make126 I hp hn (st := r) (by omega) h (fun s hs => ht s (by omega))
    have lwe : lwA ν1 p = l0 := by rw [lw_sm z1.1, ← lw_sm h.1, hl]
    obtain ⟨ν2, x2, ⟨z2, t2, f2⟩, e2⟩ := make98 I hp hn l0 r k ν1 (by omega) lwe z1 t1
    refine ⟨ν2, x2, ⟨z2, t2, fun a q1 q2 => (f2 a q1 q2).trans (f1 a q1 q2)⟩, ?_⟩
    have cl := cS_le μ p (lc μ p)
    have cc : (nI (cS μ p (lc μ p)) = 0) = (cS μ p (lc μ p) = 0) := n_eq (b := 0) (by omega) (by decide)
    rw [hl] at e1
    have ev : (if nI (cS μ p (lc μ p)) = 0 then (1 : Int32) else nI (2 ^ r)) = nI (if cS μ p (lc μ p) = 0 then 1 else 2 ^ r) := by
      simp only [cc]
      split <;> rfl
    rw [show k + (r + 1) + 1 = k + r + 1 + 1 by omega, X4_make_L98, pk_m1, if_neg (nI_pos (by omega)), gi_94 h.1.1, h.2.2.1.2, Option.bind_some, sh31 r (by omega), ev, Option.bind_some, Option.bind_some, e1, Option.bind_some]
    exact e2
/-- the walk along the best plan: what is left, in which steps something was said -/
noncomputable def chP (μ : Mem) (p n st left pl : Nat) : Nat := (foP μ p n st left pl 63).1
noncomputable def wk (μ : Mem) (p n : Nat) : Nat → Nat × Nat
  | 0 => (2 ^ pK μ p - 1, 0)
  | st + 1 => (nd (wk μ p n st).1 (chP μ p n st (wk μ p n st).1 (wk μ p n st).2), if chP μ p n st (wk μ p n st).1 (wk μ p n st).2 = 0 then (wk μ p n st).2 else (wk μ p n st).2 ||| 2 ^ st)
noncomputable def chW (μ : Mem) (p n st : Nat) : Nat := chP μ p n st (wk μ p n st).1 (wk μ p n st).2
theorem foP_nc (z : cS μ p (lc μ p) = 0) (st left pl pl' : Nat) : ∀ m, foP μ p n st left pl m = foP μ p n st left pl' m := fun m => by
  unfold foP
  rw [nc_eq z (n - st - 1) left pl pl']
  exact fo_cg m (fun x _ _ => by unfold elB; rw [mo_nc z, mo_nc z]) (fun x _ _ _ => by rw [nc_eq z (n - st - 1) (nd left x) (pl ||| 2 ^ st) (pl' ||| 2 ^ st)])
theorem chP_sub (st left pl : Nat) : chP μ p n st left pl &&& left = chP μ p n st left pl := by
  unfold chP foP
  rcases (fo_sp (elB (cG μ p) (aw μ p) (mo μ p) st pl left) (fun x => cG μ p st x + BP μ p n (n - st - 1) (nd left x) (pl ||| 2 ^ st)) (BP μ p n (n - st - 1) left pl) 63).2.2 with ⟨e, -⟩ | ⟨-, -, e, -⟩
  · rw [e, Nat.zero_and]
  · unfold elB at e
    rw [Bool.and_eq_true, decide_eq_true_eq] at e
    exact e.1
theorem wk_lt (st : Nat) : (wk μ p n st).1 < 2 ^ pK μ p := by
  obtain ⟨a1, a2, a3⟩ := allK (μ := μ) (p := p)
  induction st with
  | zero =>
    show 2 ^ pK μ p - 1 < 2 ^ pK μ p
    omega
  | succ st ih =>
    rw [wk]
    exact nd_lt _ ih
noncomputable def wyV (μ : Mem) (p n st : Nat) : Int32 := if chW μ p n st = 0 then -1 else cW μ p st (chW μ p n st)
theorem nd_zero_r {a : Nat} (ha : a < 64) : nd a 0 = a := by
  apply Nat.eq_of_testBit_eq
  intro i
  by_cases q : i < 31
  · rw [nd_bit q, Nat.zero_testBit, Bool.not_false, Bool.and_true]
  · have h1 : ∀ y, y < 64 → y.testBit i = false := fun y hy => Nat.testBit_lt_two_pow (Nat.lt_of_lt_of_le hy (show 2 ^ 6 ≤ 2 ^ i from Nat.pow_le_pow_right (by decide) (by omega)))
    rw [h1 _ (nd_lt _ ha), h1 _ ha]
theorem tell_c (I : Inv μ) (hp : p < 4) (hn : n ≤ 6) {ν : Mem} (h : Zp μ p n ν) (ht : ∀ s, Tt μ p n s ν) : ∃ ν', (Sm μ ν' ∧ mI ν' 94 0 = mI ν 94 0 ∧ ∀ s, s < n → mI ν' 95 s = nI (rS μ p (chW μ p n s)) ∧ mI ν' 96 s = wyV μ p n s) ∧ X4_tell 94 (nI (nw μ)) (nI (ct μ p (nw μ) (sc μ))) (lwA ν p) ν = some ν' := by
  obtain ⟨a1, a2, a3⟩ := allK (μ := μ) (p := p)
  have hK := pK_le μ p
  obtain ⟨b, P, e⟩ := loopF (F := fun m (b : (Nat × Nat) × Mem) i => X4_tell_L9 94 (nI (nw μ)) (nI (ct μ p (nw μ) (sc μ))) (lwA ν p) m (nI b.1.1) (nI b.1.2) (nI i) b.2) (P := fun i b => Zp μ p n b.2 ∧ (∀ s, Tt μ p n s b.2) ∧ mI b.2 94 0 = mI ν 94 0 ∧ NV μ p i b.1.1 ∧ b.1.2 < 2 ^ pK μ p ∧ nd (2 ^ pK μ p - 1) b.1.2 = (wk μ p n i).1 ∧ (¬ cS μ p (lc μ p) = 0 → plN i b.1.1 = (wk μ p n i).2) ∧ ∀ s, s < i → mI b.2 95 s = nI (rS μ p (chW μ p n s)) ∧ mI b.2 96 s = wyV μ p n s) (n := n) (r := fun b => (nI b.1.1, nI b.1.2, nI n, b.2)) (by omega) (fun m b i hi P => by
    obtain ⟨⟨node, used⟩, ν1⟩ := b
    obtain ⟨zp, tt, f0, hv, hu, hl, hpl, c⟩ : Zp μ p n ν1 ∧ (∀ s, Tt μ p n s ν1) ∧ mI ν1 94 0 = mI ν 94 0 ∧ NV μ p i node ∧ used < 2 ^ pK μ p ∧ nd (2 ^ pK μ p - 1) used = (wk μ p n i).1 ∧ (¬ cS μ p (lc μ p) = 0 → plN i node = (wk μ p n i).2) ∧ ∀ s, s < i → mI ν1 95 s = nI (rS μ p (chW μ p n s)) ∧ mI ν1 96 s = wyV μ p n s := P
    have rg := hv.rg
    have hp6 := p2_6 (show i < 6 by omega)
    have pl0 := plN_ok (st := i) (node := node) (by omega) (by omega) rg.1 rg.2
    have lwe : lwA ν1 p = lwA ν p := by rw [lw_sm zp.1, lw_sm h.1]
    obtain ⟨ν2, ⟨z2, fr2⟩, e2⟩ := mostAt_c I (st := i) (node := node) hp hi hn (by omega) zp
    rw [lwe] at e2
    have tt2 : ∀ s, Tt μ p n s ν2 := fun s => by
      unfold Tt
      rw [fr2 105 (by decide)]
      exact tt s
    have d := decide_c I hn hi z2 (tt2 (i + 1)) hv hu rfl
    have ef : foP μ p n i (nd (2 ^ pK μ p - 1) used) (plN i node) 63 = foP μ p n i (wk μ p n i).1 (wk μ p n i).2 63 := by
      rw [hl]
      by_cases z : cS μ p (lc μ p) = 0
      · exact foP_nc z _ _ _ _ _
      · rw [hpl z]
    have ech : (foP μ p n i (nd (2 ^ pK μ p - 1) used) (plN i node) 63).1 = chW μ p n i := by
      rw [ef]
      rfl
    have chs : chW μ p n i &&& (wk μ p n i).1 = chW μ p n i := chP_sub _ _ _
    have chK : chW μ p n i < 2 ^ pK μ p := Nat.lt_of_le_of_lt (sub_le chs) (wk_lt i)
    have z3 : Zp μ p n (wI ν2 105 (node * 64 + used) (nI (foP μ p n i (nd (2 ^ pK μ p - 1) used) (plN i node) 63).2)) := z2.w (by omega)
    have tt3 : ∀ s, Tt μ p n s (wI ν2 105 (node * 64 + used) (nI (foP μ p n i (nd (2 ^ pK μ p - 1) used) (plN i node) 63).2)) := fun s hsn node' hv' used' hu' => by
      by_cases y : node' * 64 + used' = node * 64 + used
      · have en : node' = node := by omega
        have eu : used' = used := by omega
        subst en
        subst eu
        have es : s = i := by
          have r1 := hv'.rg
          by_cases q1 : s < i
          · have : 2 ^ (s + 1) ≤ 2 ^ i := Nat.pow_le_pow_right (by decide) (by omega)
            omega
          · by_cases q2 : i < s
            · have : 2 ^ (i + 1) ≤ 2 ^ s := Nat.pow_le_pow_right (by decide) (by omega)
              omega
            · omega
        subst es
        rw [fld_eq, BP_s _ _ hi]
      · rw [fld_ne (by omega)]
        exact tt2 s hsn node' hv' used' hu'
    have cz : (nI (chW μ p n i) = 0) = (chW μ p n i = 0) := n_eq (b := 0) (by omega) (by decide)
    have ⟨ν5, e5⟩ : ∃ m, m = wI (wI (wI ν2 105 (node * 64 + used) (nI (foP μ p n i (nd (2 ^ pK μ p - 1) used) (plN i node) 63).2)) 95 i (nI (rS μ p (chW μ p n i)))) 96 i (wyV μ p n i) := ⟨_, rfl⟩
    have z4 : Zp μ p n (wI (wI ν2 105 (node * 64 + used) (nI (foP μ p n i (nd (2 ^ pK μ p - 1) used) (plN i node) 63).2)) 95 i (nI (rS μ p (chW μ p n i)))) := z3.w (by omega)
    have z5 : Zp μ p n ν5 := by
      rw [e5]
      exact z4.w (by omega)
    have ew : ((if nI (chW μ p n i) = 0 then some (-1) else (gR 4 13 94 (wI (wI ν2 105 (node * 64 + used) (nI (foP μ p n i (nd (2 ^ pK μ p - 1) used) (plN i node) 63).2)) 95 i (nI (rS μ p (chW μ p n i))))).bind fun v13 => (aI v13 (nI i * 64 + nI (chW μ p n i)) (wI (wI ν2 105 (node * 64 + used) (nI (foP μ p n i (nd (2 ^ pK μ p - 1) used) (plN i node) 63).2)) 95 i (nI (rS μ p (chW μ p n i))))).bind fun v14 => some v14 : Option Int32)) = some (wyV μ p n i) := by
      simp only [cz]
      unfold wyV
      by_cases y : chW μ p n i = 0
      · rw [if_pos y, if_pos y]
      · rw [if_neg y, if_neg y, r_94_13 z4.1.1, Option.bind_some, show (64 : Int32) = nI 64 from rfl, pk_mul, nI_add, ai_104 z4.1.1 (by omega), (z4.2.2.2.1 i (chW μ p n i) hi (by omega) chK).2, Option.bind_some]
    have e99 : mI (wI ν2 105 (node * 64 + used) (nI (foP μ p n i (nd (2 ^ pK μ p - 1) used) (plN i node) 63).2)) 99 (chW μ p n i) = nI (rS μ p (chW μ p n i)) := (z3.2.1.2 (chW μ p n i) chK).1
    have nb : X4_nodeBehind 94 (nI node) (if nI (chW μ p n i) = 0 then 0 else 1) ν5 = some (nI (if chW μ p n i = 0 then 2 * node else if cS μ p (lc μ p) = 0 then 2 * node else 2 * node + 1)) := by
      simp only [cz]
      by_cases y : chW μ p n i = 0
      · rw [if_pos y, if_pos y, behind0]
      · rw [if_neg y, if_neg y, behind1 z5]
    refine ⟨((if chW μ p n i = 0 then 2 * node else if cS μ p (lc μ p) = 0 then 2 * node else 2 * node + 1, used ||| chW μ p n i), ν5), ⟨z5, fun s => ?_, ?_, ?_, ?_, ?_, fun z => ?_, fun s hs => ?_⟩, ?_⟩
    · show Tt μ p n s ν5
      unfold Tt
      rw [e5, row_ne (by decide), row_ne (by decide)]
      exact tt3 s
    · show mI ν5 94 0 = _
      rw [e5, row_ne (by decide), row_ne (by decide), row_ne (by decide), fr2 94 (by decide)]
      exact f0
    · show NV μ p (i + 1) (if chW μ p n i = 0 then 2 * node else if cS μ p (lc μ p) = 0 then 2 * node else 2 * node + 1)
      by_cases y : chW μ p n i = 0
      · rw [if_pos y]
        exact hv.two
      · rw [if_neg y]
        by_cases y2 : cS μ p (lc μ p) = 0
        · rw [if_pos y2]
          exact hv.two
        · rw [if_neg y2]
          exact hv.one y2
    · exact Nat.or_lt_two_pow hu chK
    · show nd (2 ^ pK μ p - 1) (used ||| chW μ p n i) = (wk μ p n (i + 1)).1
      rw [nd_or a1, hl]
      rfl
    · show plN (i + 1) (if chW μ p n i = 0 then 2 * node else if cS μ p (lc μ p) = 0 then 2 * node else 2 * node + 1) = (wk μ p n (i + 1)).2
      show _ = if chW μ p n i = 0 then (wk μ p n i).2 else (wk μ p n i).2 ||| 2 ^ i
      by_cases y : chW μ p n i = 0
      · rw [if_pos y, if_pos y, pl0.2.1, hpl z]
      · rw [if_neg y, if_neg y, if_neg z, pl0.2.2, hpl z]
    · show mI ν5 95 s = _ ∧ mI ν5 96 s = _
      by_cases y : s = i
      · subst y
        rw [e5, row_ne (a := 96) (b := 95) (by decide), fld_eq, fld_eq]
        exact ⟨rfl, rfl⟩
      · have := c s (by omega)
        rw [e5, row_ne (a := 96) (b := 95) (by decide), fld_ne (by omega), row_ne (by decide), fr2 95 (by decide), fld_ne (by omega), row_ne (by decide), row_ne (by decide), fr2 96 (by decide)]
        exact this
    · show X4_tell_L9 94 (nI (nw μ)) (nI (ct μ p (nw μ) (sc μ))) (lwA ν p) (m + 1) (nI node) (nI used) (nI i) ν1 = _
      rw [X4_tell_L9, gi_94 zp.1.1, zp.2.2.1.1, Option.bind_some, if_neg (nI_ge hi (by omega)), vo_94 zp.1.1, Option.bind_some, e2, Option.bind_some, vo_94 z2.1.1, Option.bind_some, d, Option.bind_some, ech, r_94_1 z3.1.1, Option.bind_some, r_94_8 z3.1.1, Option.bind_some, ai_99 z3.1.1 (by omega), e99, Option.bind_some, si_95 z3.1.1 (by omega), Option.bind_some, r_94_2 z4.1.1, Option.bind_some]
      rw [ew, Option.bind_some, si_96 z4.1.1 (by omega), Option.bind_some, ← e5, fa_or, Option.bind_some, Option.bind_some, vo_94 z5.1.1, Option.bind_some, nb, Option.bind_some, nI_add1]) (fun m b P => by
    show X4_tell_L9 94 (nI (nw μ)) (nI (ct μ p (nw μ) (sc μ))) (lwA ν p) (m + 1) (nI b.1.1) (nI b.1.2) (nI n) b.2 = _
    rw [X4_tell_L9, gi_94 P.1.1.1, P.1.2.2.1.1, Option.bind_some, if_pos (nI_le (Nat.le_refl _) (by omega))]) ((1, 0), ν) ⟨h, ht, rfl, by
      show NV μ p 0 1
      unfold NV
      split
      · rfl
      · exact ⟨by decide, by decide⟩, a2, nd_zero_r a1, fun _ => rfl, fun s hs => by omega⟩
  have e : X4_tell_L9 94 (nI (nw μ)) (nI (ct μ p (nw μ) (sc μ))) (lwA ν p) FU 1 0 0 ν = _ := e
  refine ⟨b.2, ⟨P.1.1, P.2.2.1, P.2.2.2.2.2.2.2⟩, ?_⟩
  unfold X4_tell
  rw [e, Option.bind_some]
end TL
end
section
/-! ===== the class's plan as a whole ===== -/
theorem make_c {μ : Mem} (I : Inv μ) {p n : Nat} (hp : p < 4) (hn1 : 1 ≤ n) (hn6 : n ≤ 6) : ∃ ν, (Sm μ ν ∧ mI ν 94 0 = nI (BP μ p n n (2 ^ pK μ p - 1) 0) ∧ ∀ s, s < n → mI ν 95 s = nI (rS μ p (chW μ p n s)) ∧ mI ν 96 s = wyV μ p n s) ∧ X4_make 94 (nI p) (nI n) (nI (nw μ)) (lwA μ p) μ = some ν := by
  have I0 := I
  obtain ⟨o, W, C, T, S, X, L⟩ := I
  have hn := W.2.2.2.2.2.2.2
  have hc := S.1.2.2
  obtain ⟨a1, a2, a3⟩ := allK (μ := μ) (p := p)
  have e17 : (if 6 < nI n then (6 : Int32) else nI n) = nI n := if_neg (show ¬ (6 : Int32) < nI n from nI_nlt (b := n) (a := 6) (by omega) (by decide))
  have s1 : Sm μ (wI μ 94 17 (nI n)) := (Sm.rf o).wI (cor94 _)
  have I1 := I0.sm s1
  have c1 := counts_c s1.1 I1.2.2.2.2.2.2 hp
  have cse : ∀ k, cS (wI μ 94 17 (nI n)) p k = cS μ p k := fun k => by
    induction k with
    | zero => rfl
    | succ k ih => rw [cS, cS, ih, lv_sm s1 (by decide)]
  rw [cse, lc_sm s1, lw_sm s1] at c1
  have cl := cS_le μ p (lc μ p)
  have s2 : Sm μ (wI (wI μ 94 17 (nI n)) 94 18 (nI (cS μ p (lc μ p)))) := s1.wI (cor94 _)
  have pz : pZ 4 18 94 (nI (cS μ p (lc μ p))) (wI μ 94 17 (nI n)) = some (wI (wI μ 94 17 (nI n)) 94 18 (nI (cS μ p (lc μ p)))) := pZ_eq s1.1 (by decide) rfl (by
    rcases (show cS μ p (lc μ p) = 0 ∨ cS μ p (lc μ p) = 1 by omega) with q | q
    · left
      rw [q]
      rfl
    · right
      rw [q]
      rfl)
  obtain ⟨ν3, ⟨s3, f3, k3, r3⟩, e3⟩ := pick_c I0 hp s2
  have h17 : mI ν3 94 17 = nI n := by
    rw [f3 17 (by decide), fld_ne (by omega), fld_eq]
  have h18 : mI ν3 94 18 = nI (cS μ p (lc μ p)) := by
    rw [f3 18 (by decide), fld_eq]
  obtain ⟨ν4, ⟨s4, f4, h4⟩, e4⟩ := look_fr s3.1 (W.sm s3) (p := p) (t := nw μ) (k := n - 1) hp (by omega) (by omega)
  have s04 := s3.tr s4
  have h4' : ∀ s, s < n → HI ν4 (19 + s) 4 (odd μ p (nw μ) s) := fun s hs i hi => by
    rw [h4 s (by omega) i hi, odd_sm s3]
  have k4 : PK μ p ν4 := ⟨by rw [f4 94 (by omega)]; exact k3.1, fun k hk => by rw [f4 98 (by omega)]; exact k3.2 k hk⟩
  have r4 : PR μ p (pK μ p) ν4 := fun x hx => by
    rw [f4 99 (by omega), f4 100 (by omega)]
    exact r3 x hx
  have lw4 : ∀ ν, Sm μ ν → lwA ν p = lwA μ p := fun ν s => by rw [lw_sm s]
  obtain ⟨ν5, ⟨fq, gp, g97⟩, e5⟩ := loopF (F := fun m (ν' : Mem) i => X4_make_L43 94 (nI p) (nI (nw μ)) (lwA μ p) m (nI i) ν') (P := fun i ν' => Fq ν4 ν' ∧ (∀ st x, st < i → 1 ≤ x → x < 2 ^ pK μ p → mI ν' 103 (st * 64 + x) = nI (cG μ p st x) ∧ mI ν' 104 (st * 64 + x) = cW μ p st x) ∧ (0 < i → mI ν' 97 0 = nI (aT μ p (tn μ)))) (n := n) (r := fun ν' => (nI n, ν')) (by omega) (fun m ν' i hi P => by
    obtain ⟨f, g, -⟩ := P
    have hB : Bq μ p i ν' := Bq.fq (by omega) ⟨s04, k4, r4, h4' i hi⟩ f
    obtain ⟨ν2, ⟨f2, fj2, g2, a2'⟩, e2⟩ := price_c I0 hp (st := i) (by omega) hB
    rw [lw4 ν' hB.1] at e2
    refine ⟨ν2, ⟨f.tr f2, fun st x h1 h2 h3 => ?_, fun _ => a2'⟩, ?_⟩
    · by_cases z : st = i
      · subst z
        exact g2 x h2 h3
      · rw [fj2 103 _ (Or.inl rfl) (by omega), fj2 104 _ (Or.inr rfl) (by omega)]
        exact g st x (by omega) h2 h3
    · show X4_make_L43 94 (nI p) (nI (nw μ)) (lwA μ p) (m + 1) (nI i) ν' = _
      rw [X4_make_L43, gi_94 f.1.1, f.2 94 (by decide) (by decide) (by decide) (by decide) (by decide), f4 94 (by omega), h17, Option.bind_some, if_neg (nI_ge hi (by omega)), vo_94 f.1.1, Option.bind_some, nI_add, e2, Option.bind_some, nI_add1]) (fun m ν' P => by
    show X4_make_L43 94 (nI p) (nI (nw μ)) (lwA μ p) (m + 1) (nI n) ν' = _
    rw [X4_make_L43, gi_94 P.1.1.1, P.1.2 94 (by decide) (by decide) (by decide) (by decide) (by decide), f4 94 (by omega), h17, Option.bind_some, if_pos (nI_le (Nat.le_refl _) (by omega))]) ν4 ⟨Fq.rf s4.1, fun st x h1 => by omega, fun h => by omega⟩
  have e5 : X4_make_L43 94 (nI p) (nI (nw μ)) (lwA μ p) FU 0 ν4 = _ := e5
  have s05 := s04.tr fq.1
  have I5 := I0.sm s05
  obtain ⟨ν6, ⟨o6, h6⟩, e6⟩ := said_c s05.1 I5.2.2.2.2.1 (r := 106) (p := p) (Or.inl rfl) hp
  have s6 := o6.sm (isRow (Or.inl rfl)).2.2
  have s06 := s05.tr s6
  have r6 : ∀ u, u < 66 → mI ν6 106 u = nI (ct μ p u (sc μ)) := fun u hu => by
    rw [h6 u hu, sc_sm s05]
    exact congrArg nI (ct_sm s05 p u _)
  have row6 : ∀ a, a ≠ 106 → a ≠ 97 → a ≠ 101 → a ≠ 102 → a ≠ 103 → a ≠ 104 → mI ν6 a = mI ν4 a := fun a q0 q1 q2 q3 q4 q5 => by rw [o6.2.2.2 a q0, fq.2 a q1 q2 q3 q4 q5]
  have e94 : mI ν6 94 = mI ν3 94 := by rw [row6 94 (by decide) (by decide) (by decide) (by decide) (by decide) (by decide), f4 94 (by omega)]
  have z6 : Zp μ p n ν6 := by
    refine ⟨s06, ⟨⟨by rw [e94]; exact k3.1, fun k hk => ?_⟩, fun x hx => ?_⟩, ⟨by rw [e94]; exact h17, by rw [e94]; exact h18⟩, fun st x h1 h2 h3 => ?_, ?_, fun u hu => r6 u (by omega)⟩
    · rw [row6 98 (by decide) (by decide) (by decide) (by decide) (by decide) (by decide)]
      exact k4.2 k hk
    · rw [row6 99 (by decide) (by decide) (by decide) (by decide) (by decide) (by decide), row6 100 (by decide) (by decide) (by decide) (by decide) (by decide) (by decide)]
      exact r4 x hx
    · rw [o6.2.2.2 103 (by decide), o6.2.2.2 104 (by decide)]
      exact gp st x h1 h2 h3
    · rw [o6.2.2.2 97 (by decide)]
      exact g97 (by omega)
  obtain ⟨ν7, x7, ⟨z7, t7, f7⟩, e7⟩ := make98 I0 hp hn6 (lwA μ p) n (99999 - n) ν6 (Nat.le_refl _) (lw4 ν6 s06) z6 (fun s hs h => by omega)
  rw [show 99999 - n + n + 1 = FU by unfold FU; omega] at e7
  have t0 : mI ν7 105 64 = nI (BP μ p n n (2 ^ pK μ p - 1) 0) := by
    have := t7 0 (by omega) 1 (by
      unfold NV
      split
      · rfl
      · exact ⟨by decide, by decide⟩) 0 a2
    rw [nd_zero_r a1] at this
    exact this
  have z8 : Zp μ p n (wI ν7 94 0 (nI (BP μ p n n (2 ^ pK μ p - 1) 0))) := z7.cg ((Sm.rf z7.1.1).wI (cor94 _)) (fun k hk => fld_ne (by omega)) (fun a ha => row_ne (by omega)) (fun u hu => by rw [row_ne (by decide)])
  have t8 : ∀ s, Tt μ p n s (wI ν7 94 0 (nI (BP μ p n n (2 ^ pK μ p - 1) 0))) := fun s => by
    unfold Tt
    rw [row_ne (by decide)]
    exact t7 s
  obtain ⟨ν9, ⟨s9, m9, st9⟩, e9⟩ := tell_c I0 hp hn6 z8 t8
  rw [lw4 _ z8.1] at e9
  have il := lw_is s1.1 hp
  rw [lw4 _ s1] at il
  refine ⟨ν9, ⟨s9, by rw [m9, fld_eq], st9⟩, ?_⟩
  unfold X4_make
  rw [e17, pi_94 o, Option.bind_some, vo_l s1.1 il, Option.bind_some, c1, Option.bind_some, pz, Option.bind_some, vo_94 s2.1, Option.bind_some, e3, Option.bind_some, r_94_3 s3.1, Option.bind_some, gi_94 s3.1, h17, Option.bind_some, vo_1 s3.1, Option.bind_some, show nI n - 1 = nI (n - 1) from pk_sub (b := 1) hn1, e4, Option.bind_some, e5, Option.bind_some, r_94_5 s05.1, Option.bind_some, r_94_15 s05.1, Option.bind_some, vo_37 s05.1, Option.bind_some, e6, Option.bind_some, r_94_15 s06.1, Option.bind_some, ai_106 s06.1 (by omega), r6 _ (by omega), Option.bind_some, gi_94 s06.1, z6.2.2.1.1, Option.bind_some, Int32.sub_eq_add_neg, Option.bind_some]
  rw [show nI n + -1 = nI n + (-1) from rfl, e7, Option.bind_some, r_94_14 z7.1.1, Option.bind_some]
  rw [show aI 105 64 ν7 = some (mI ν7 105 64) from ai_105 (i := 64) z7.1.1 (by decide), t0, Option.bind_some, pi_94 z7.1.1, Option.bind_some, vo_94 z8.1.1, Option.bind_some, e9, Option.bind_some]
end
section
/-! ===== plans, of the reference: what is looked at ===== -/
theorem fr_seam {x1 x2 x3 : Int32} {μ : Mem} {r : Int32 × Mem} (h : X11_seamOdds 134 x1 x2 x3 μ = some r) (o : Ok μ) : FRm μ r.2 := by
  unfold X11_seamOdds at h
  obtain ⟨-, e, h⟩ := bindE h
  obtain ⟨m, e2, h⟩ := bindE h
  obtain ⟨z, e3, h⟩ := bindE h
  cases h
  exact fr_X11_findOdds _ _ _ _ _ e2 o
theorem fr_loss {x1 x2 x3 x4 : Int32} {μ : Mem} {r : Int32 × Mem} (h : X11_lossOf 134 x1 x2 x3 x4 μ = some r) (o : Ok μ) : FRm μ r.2 := by
  unfold X11_lossOf at h
  obtain ⟨-, e, h⟩ := bindE h
  obtain ⟨m, e2, h⟩ := bindE h
  obtain ⟨z, e3, h⟩ := bindE h
  cases h
  exact fr_X11_findOdds _ _ _ _ _ e2 o
theorem val_fr {μ : Mem} (h : Ok μ) (W : RelW μ) (T : RelT μ) {p t k : Nat} (hp : p < 4) (ht : t < 10) (hk : k ≤ 8) : ∃ μ', (Sm μ μ' ∧ FRm μ μ') ∧ X11_valueOf 134 (nI t) (nI p) (nI k) μ = some (valV μ t k (sS μ (odd μ p (nw μ) k)), μ') := by
  have hn := W.2.2.2.2.2.2.2
  have hw := W.2.2.2.2.2.2.1
  have f := fun c hc => (T.2.1 c t hc ht).2.1
  have b6 : tv μ 6 t ≤ 60 := (T.2.1 6 t (by decide) ht).2.2
  have b8 : tv μ 8 t ≤ 1 := (T.2.1 8 t (by decide) ht).2.2
  have b1 : tv μ 1 t ≤ 3 := (T.2.1 1 t (by decide) ht).2.2
  have c8 : nI (tv μ 8 t) = 0 ↔ tv μ 8 t = 0 := nI_eq (b := 0) (by omega) (by decide)
  have c6 : nI (tv μ 6 t) < nI (nw μ + k) ↔ tv μ 6 t < nw μ + k := nI_ltI (by omega) (by omega)
  have c1 : nI (tv μ 1 t) = 2 ↔ tv μ 1 t = 2 := nI_eq (b := 2) (by omega) (by decide)
  have r4 : aI 149 (nI t) μ = some (nI (tv μ 4 t)) := (aI_eq (a := 149) h (by decide) rfl ht (by decide)).trans (by rw [← f 4 (by decide)])
  have r5 : aI 150 (nI t) μ = some (nI (tv μ 5 t)) := (aI_eq (a := 150) h (by decide) rfl ht (by decide)).trans (by rw [← f 5 (by decide)])
  have r7 : aI 152 (nI t) μ = some (nI (tv μ 7 t)) := (aI_eq (a := 152) h (by decide) rfl ht (by decide)).trans (by rw [← f 7 (by decide)])
  have r8 : aZ 153 (nI t) μ = some (nI (tv μ 8 t)) := (aZ_eq (a := 153) h (by decide) rfl ht (by decide)).trans (by rw [← f 8 (by decide)])
  have r6 : aI 151 (nI t) μ = some (nI (tv μ 6 t)) := (aI_eq (a := 151) h (by decide) rfl ht (by decide)).trans (by rw [← f 6 (by decide)])
  have r1 : aI 146 (nI t) μ = some (nI (tv μ 1 t)) := (aI_eq (a := 146) h (by decide) rfl ht (by decide)).trans (by rw [← f 1 (by decide)])
  obtain ⟨b, ⟨sb, -⟩, eb⟩ := mseam_ok h W hp (t := nw μ) (k := k) (by omega) hk
  have fb : FRm μ b := fr_seam eb h
  unfold X11_valueOf valV
  rw [gI_eq (a := 134) h (by decide) rfl, hw]
  simp only [Option.bind_some, nI_add, r_134_17 h, r4, r_134_18 h, r5, r_134_20 h, r7, r_134_21 h, r8]
  by_cases q8 : tv μ 8 t = 0
  · rw [if_pos (c8.mpr q8), if_pos q8, r_134_19 h, Option.bind_some, r6, Option.bind_some]
    by_cases q6 : nw μ + k ≤ tv μ 6 t
    · rw [if_neg (fun z => by have := c6.mp z; omega), if_pos q6]
      by_cases q : 0 < valD μ t k
      · rw [if_pos q, if_pos (show 0 < nI (tv μ 4 t) - nI (tv μ 5 t) * (nI (nw μ + k) - nI (tv μ 7 t)) from q), r_134_14 h, Option.bind_some, r1, Option.bind_some]
        by_cases q1 : tv μ 1 t = 2
        · refine ⟨b, ⟨sb, fb⟩, ?_⟩
          rw [if_pos (c1.mpr q1), if_pos q1, vO_eq (c := 11) (a := 134) h (by decide) rfl, Option.bind_some, eb, Option.bind_some, dvM, Option.bind_some, Option.bind_some]
          rfl
        · refine ⟨μ, ⟨Sm.rf h, FRm.rf h⟩, ?_⟩
          rw [if_neg (fun z => q1 (c1.mp z)), if_neg q1, Option.bind_some]
          rfl
      · refine ⟨μ, ⟨Sm.rf h, FRm.rf h⟩, ?_⟩
        rw [if_neg q, if_neg (show ¬ 0 < nI (tv μ 4 t) - nI (tv μ 5 t) * (nI (nw μ + k) - nI (tv μ 7 t)) from q)]
    · refine ⟨μ, ⟨Sm.rf h, FRm.rf h⟩, ?_⟩
      rw [if_pos (c6.mpr (by omega)), if_neg q6]
  · refine ⟨μ, ⟨Sm.rf h, FRm.rf h⟩, ?_⟩
    rw [if_neg (fun z => q8 (c8.mp z)), if_neg q8]
def PKm (μ : Mem) (p : Nat) (ν : Mem) : Prop := mI ν 134 41 = nI (pK μ p) ∧ ∀ k, k < pK μ p → mI ν 166 k = nI (pA μ p k)
theorem cor41 : cor 134 41 = false := rfl
theorem corM {a : Nat} (h : 166 ≤ a ∧ a ≤ 169) (k : Nat) : cor a k = false := by
  unfold cor
  have h1 : coA a = false := by
    unfold coA
    rw [decide_eq_false_iff_not]
    omega
  have h2 : coF a k = false := by
    rcases (show a = 166 ∨ a = 167 ∨ a = 168 ∨ a = 169 by omega) with rfl | rfl | rfl | rfl <;> rfl
  rw [h1, h2]
  rfl
theorem pickM {μ ν0 : Mem} (I : Inv μ) {p : Nat} (hp : p < 4) (s0 : Sm μ ν0) (z0 : mI ν0 134 41 = nI 0) (x2 : Int32) : ∃ ν x, (Sm μ ν ∧ PKm μ p ν) ∧ X11_findPlans_L7 134 (nI p) x2 FU 0 ν0 = some (x, ν) := by
  obtain ⟨o, W, C, T, S, X, L⟩ := I
  have hn := T.1.2.2
  obtain ⟨b, Q, e⟩ := loopE (F := fun m (ν : Mem) i => X11_findPlans_L7 134 (nI p) x2 m (nI i) ν) (P := fun i ν => Sm μ ν ∧ mI ν 134 41 = nI (pS μ p i).1 ∧ ∀ k, k < (pS μ p i).1 → mI ν 166 k = nI ((pS μ p i).2 k)) (Q := fun b => Sm μ b.2 ∧ PKm μ p b.2) (n := tn μ) (by omega) (fun m ν i hi P => by
    obtain ⟨s, pc, pa⟩ := P
    have oν := s.1
    have Tν := Onl.T s T
    have i10 : i < 10 := by omega
    obtain ⟨q6, q7, q8⟩ := pS_ok μ p i
    have ct : mI ν 134 12 = nI (tn μ) := (s.fld (a := 134) (k := 12) rfl).trans T.1.2.1
    have f0 : mI ν 145 i = nI (tv μ 0 i) := by rw [s.row (a := 145) rfl]; exact (T.2.1 0 i (by decide) i10).2.1
    have b0 : tv μ 0 i ≤ 15 := (T.2.1 0 i (by decide) i10).2.2
    have st := stand_m oν (W.sm s) Tν (Onl.S s S) i10
    rw [stV_sm s] at st
    have sl := stV_le μ i
    have cs0 : (nI (stV μ i) = 0) = (stV μ i = 0) := n_eq (b := 0) (by omega) (by decide)
    show (∃ a', _ ∧ X11_findPlans_L7 134 (nI p) x2 (m + 1) (nI i) ν = _) ∨ ∃ b, _ ∧ X11_findPlans_L7 134 (nI p) x2 (m + 1) (nI i) ν = some b
    rw [X11_findPlans_L7, gi_134 oν, ct, Option.bind_some, if_neg (nI_ge hi (by omega)), gi_134 oν, pc, Option.bind_some]
    have c6 : ((6 : Int32) ≤ nI (pS μ p i).1) = (6 ≤ (pS μ p i).1) := n_le (a := 6) (by decide) (by omega)
    simp only [c6]
    by_cases z6 : 6 ≤ (pS μ p i).1
    · refine Or.inr ⟨(nI i, ν), ⟨s, ?_, ?_⟩, by rw [if_pos z6]⟩
      · rw [pc]
        unfold pK
        rw [show tn μ = i + (tn μ - i) by omega, pS_st (by omega)]
      · intro k hk
        unfold pK at hk
        unfold pA
        rw [show tn μ = i + (tn μ - i) by omega, pS_st (by omega)] at hk ⊢
        exact pa k hk
    · rw [if_neg z6]
      simp only [Option.bind_some, vo_134 oν, st, cs0, r_134_13 oν, ai_145 oν i10, f0, bt_1, bt_t1 (show tv μ 0 i < 2 ^ 31 by omega) (show p < 31 by omega), gi_134 oν, pc, r_134_40 oν, si_166 oν (show (pS μ p i).1 < 6 by omega)]
      by_cases q : stV μ i = 0 ∧ (tv μ 0 i).testBit p = true
      · refine Or.inl ⟨wI (wI ν 166 (pS μ p i).1 (nI i)) 134 41 (nI ((pS μ p i).1 + 1)), ⟨(s.wI (corM (by decide) _)).wI cor41, ?_, fun k hk => ?_⟩, ?_⟩
        · rw [fld_eq, pS, if_pos ⟨by omega, q⟩]
        · rw [pS, if_pos ⟨by omega, q⟩] at hk ⊢
          have hk : k < (pS μ p i).1 + 1 := hk
          show mI _ 166 k = nI (if k = (pS μ p i).1 then i else (pS μ p i).2 k)
          rw [row_ne (by decide)]
          by_cases e : k = (pS μ p i).1
          · rw [if_pos e, e, fld_eq]
          · rw [if_neg e, fld_ne (by omega)]
            exact pa k (by omega)
        · rw [if_pos q.1, if_pos q.2, gi_134 oν.wI, row_ne (by decide), pc, Option.bind_some, nI_add1, pi_134 oν.wI, Option.bind_some, Option.bind_some, nI_add1]
      · refine Or.inl ⟨ν, ⟨s, ?_, ?_⟩, ?_⟩
        · rw [pS, if_neg (fun z => q z.2)]
          exact pc
        · rw [pS, if_neg (fun z => q z.2)]
          exact pa
        · by_cases qb : stV μ i = 0
          · rw [if_pos qb, if_neg (fun z => q ⟨qb, z⟩), Option.bind_some, nI_add1]
          · rw [if_neg qb, Option.bind_some, nI_add1]) (fun m ν P => by
    obtain ⟨s, pc, pa⟩ := P
    have ct : mI ν 134 12 = nI (tn μ) := (s.fld (a := 134) (k := 12) rfl).trans T.1.2.1
    refine ⟨(nI (tn μ), ν), ⟨s, pc, pa⟩, ?_⟩
    show X11_findPlans_L7 134 (nI p) x2 (m + 1) (nI (tn μ)) ν = _
    rw [X11_findPlans_L7, gi_134 s.1, ct, Option.bind_some, if_pos (nI_le (Nat.le_refl _) (by omega))]) ν0 ⟨s0, z0, fun k hk => absurd hk (by rw [pS]; omega)⟩
  exact ⟨b.2, b.1, Q, e⟩
theorem sh0 : ∀ t, t < 31 → nI 0 <<< (nI t &&& 31) = 0 := by decide +kernel
theorem sh1 : ∀ t, t < 31 → nI 1 <<< (nI t &&& 31) = nI (2 ^ t) := by decide +kernel
theorem setOf_m {μ ν : Mem} {p x : Nat} (hT : tn μ ≤ 10) (o : Ok ν) (pk : PKm μ p ν) (hx : x < 64) : X11_setOf 134 (nI x) ν = some (nI (rS μ p x)) := by
  have hK := pK_le μ p
  obtain ⟨a, P, e⟩ := loopF (F := fun m (a : Nat) i => X11_setOf_L4 134 (nI x) ν m (nI a) (nI i)) (P := fun i a => a = rN μ p x i) (n := pK μ p) (r := fun a => (nI a, nI (pK μ p))) (by omega) (fun m a i hi P => by
    subst P
    have ti := pA_lt hi
    refine ⟨_, rfl, ?_⟩
    show X11_setOf_L4 134 (nI x) ν (m + 1) (nI (rN μ p x i)) (nI i) = X11_setOf_L4 134 (nI x) ν m (nI (rN μ p x (i + 1))) (nI (i + 1))
    rw [X11_setOf_L4, gi_134 o, pk.1, Option.bind_some, if_neg (nI_ge hi (by omega)), r_134_40 o, Option.bind_some, ai_166 o (by omega), pk.2 i hi, Option.bind_some, Option.bind_some, nI_add1, bt_eq, rN]
    by_cases q : x.testBit i = true
    · have b1 : bt (nI x) i = 1 := by rw [bt_t1 (by omega) (by omega)]; exact q
      rw [b1, sh1 _ (by omega), fa_or, if_pos q]
    · have b0 : bt (nI x) i = 0 := by
        rw [bt_t (by omega) (by omega)]
        cases z : x.testBit i
        · rfl
        · exact absurd z q
      rw [b0, sh0 _ (by omega), Int32.or_zero, if_neg q]) (fun m a P => by
    show X11_setOf_L4 134 (nI x) ν (m + 1) (nI a) (nI (pK μ p)) = _
    rw [X11_setOf_L4, gi_134 o, pk.1, Option.bind_some, if_pos (nI_le (Nat.le_refl _) (by omega))]) 0 rfl
  subst P
  have e : X11_setOf_L4 134 (nI x) ν FU 0 0 = _ := e
  unfold X11_setOf
  rw [e, Option.bind_some]
  rfl
/-! one MATTER, both ways -/
theorem rN_bit {μ : Mem} {p x : Nat} : ∀ k t, (rN μ p x k).testBit t = true ↔ ∃ i, i < k ∧ x.testBit i = true ∧ pA μ p i = t
  | 0, t => by
    rw [rN, Nat.zero_testBit]
    exact ⟨fun h => absurd h (by decide), fun ⟨i, hi, _⟩ => by omega⟩
  | k + 1, t => by
    have ih := rN_bit (μ := μ) (p := p) (x := x) k t
    rw [rN]
    by_cases q : x.testBit k = true
    · rw [if_pos q, or_put_bit, Bool.or_eq_true, ih, decide_eq_true_eq]
      constructor
      · rintro (⟨i, h1, h2, h3⟩ | h)
        · exact ⟨i, by omega, h2, h3⟩
        · exact ⟨k, by omega, q, h⟩
      · rintro ⟨i, h1, h2, h3⟩
        by_cases e : i = k
        · subst e
          exact Or.inr h3
        · exact Or.inl ⟨i, by omega, h2, h3⟩
    · rw [if_neg q, ih]
      constructor
      · rintro ⟨i, h1, h2, h3⟩
        exact ⟨i, by omega, h2, h3⟩
      · rintro ⟨i, h1, h2, h3⟩
        by_cases e : i = k
        · subst e
          exact absurd h2 q
        · exact ⟨i, by omega, h2, h3⟩
theorem neg1_nI {c : Nat} (h : c ≤ 5) : ¬ nI c = -1 := fun z => by
  have := congrArg Int32.toInt z
  rw [nI_toInt (by omega)] at this
  have e : (-1 : Int32).toInt = -1 := rfl
  omega
theorem mN_sp {μ : Mem} (T : RelT μ) {p x : Nat} : ∀ k, k ≤ pK μ p → ((∀ i, i < k → x.testBit i = false) ∧ mN' μ p x k = -1) ∨ ((∃ i, i < k ∧ x.testBit i = true) ∧ ((∃ c, c ≤ 5 ∧ mN' μ p x k = nI c ∧ ∀ i, i < k → x.testBit i = true → tv μ 2 (pA μ p i) = c) ∨ (mN' μ p x k = -1 ∧ ∃ i j, i < k ∧ j < k ∧ x.testBit i = true ∧ x.testBit j = true ∧ tv μ 2 (pA μ p i) ≠ tv μ 2 (pA μ p j))))
  | 0, _ => Or.inl ⟨fun i hi => by omega, rfl⟩
  | k + 1, hk => by
    have hn := T.1.2.2
    have tk := pA_lt (μ := μ) (p := p) (k := k) (by omega)
    have bm : tv μ 2 (pA μ p k) ≤ 5 := (T.2.1 2 (pA μ p k) (by decide) (by omega)).2.2
    have mz : x % 2 ^ k = 0 ↔ ∀ i, i < k → x.testBit i = false := by
      constructor
      · intro h i hi
        have := congrArg (fun z => z.testBit i) h
        simp only [Nat.testBit_mod_two_pow, decide_eq_true hi, Bool.true_and, Nat.zero_testBit] at this
        exact this
      · intro h
        apply Nat.eq_of_testBit_eq
        intro i
        rw [Nat.testBit_mod_two_pow, Nat.zero_testBit]
        by_cases q : i < k
        · rw [h i q, Bool.and_false]
        · rw [decide_eq_false q, Bool.false_and]
    rw [mN']
    rcases mN_sp T (p := p) (x := x) k (by omega) with ⟨h1, h2⟩ | ⟨⟨i0, hi0, hb0⟩, h2⟩
    · by_cases q : x.testBit k = true
      · right
        rw [if_pos q, if_pos (Or.inl (mz.mpr h1))]
        refine ⟨⟨k, by omega, q⟩, Or.inl ⟨_, bm, rfl, fun i hi hb => ?_⟩⟩
        by_cases e : i = k
        · rw [e]
        · have := h1 i (by omega)
          rw [this] at hb
          cases hb
      · left
        rw [if_neg q]
        refine ⟨fun i hi => ?_, h2⟩
        by_cases e : i = k
        · subst e
          cases z : x.testBit i
          · rfl
          · exact absurd z q
        · exact h1 i (by omega)
    · right
      refine ⟨⟨i0, by omega, hb0⟩, ?_⟩
      have nz : ¬ x % 2 ^ k = 0 := fun w => by
        have := mz.mp w i0 hi0
        rw [this] at hb0
        cases hb0
      by_cases q : x.testBit k = true
      · rw [if_pos q]
        rcases h2 with ⟨c, hc, e1, e2⟩ | ⟨e1, i, j, hi, hj, bi, bj, ne⟩
        · by_cases z : nI c = nI (tv μ 2 (pA μ p k))
          · rw [if_pos (Or.inr (by rw [e1]; exact z))]
            have ec : c = tv μ 2 (pA μ p k) := (n_eq (by omega) (by omega)).mp z
            refine Or.inl ⟨_, bm, rfl, fun i hi hb => ?_⟩
            by_cases e : i = k
            · rw [e]
            · rw [e2 i (by omega) hb, ec]
          · rw [if_neg (fun w => w.elim nz (fun v => z (by rw [← e1]; exact v)))]
            refine Or.inr ⟨rfl, i0, k, by omega, by omega, hb0, q, ?_⟩
            rw [e2 i0 hi0 hb0]
            exact fun w => z (by rw [w])
        · rw [if_neg (fun w => w.elim nz (fun v => by rw [e1] at v; exact neg1_nI bm v.symm))]
          exact Or.inr ⟨rfl, i, j, by omega, by omega, bi, bj, ne⟩
      · rw [if_neg q]
        rcases h2 with ⟨c, hc, e1, e2⟩ | ⟨e1, i, j, hi, hj, bi, bj, ne⟩
        · refine Or.inl ⟨c, hc, e1, fun i hi hb => ?_⟩
          by_cases e : i = k
          · subst e
            exact absurd hb q
          · exact e2 i (by omega) hb
        · exact Or.inr ⟨e1, i, j, by omega, by omega, bi, bj, ne⟩
theorem isM_sp {μ : Mem} (T : RelT μ) {set : Nat} : ∀ n, n ≤ 10 → (isM μ set n = true ∧ (((∀ t, t < n → set.testBit t = false) ∧ lm μ set n = -1) ∨ (∃ c, c ≤ 5 ∧ lm μ set n = nI c ∧ ∀ t, t < n → set.testBit t = true → tv μ 2 t = c))) ∨ (isM μ set n = false ∧ ∃ t u, t < n ∧ u < n ∧ set.testBit t = true ∧ set.testBit u = true ∧ tv μ 2 t ≠ tv μ 2 u)
  | 0, _ => Or.inl ⟨rfl, Or.inl ⟨fun t ht => by omega, rfl⟩⟩
  | n + 1, h => by
    have bm : tv μ 2 n ≤ 5 := (T.2.1 2 n (by decide) (by omega)).2.2
    rw [isM, lm]
    by_cases q : set.testBit n = true
    · rw [if_pos q, if_pos q]
      rcases isM_sp T (set := set) n (by omega) with ⟨h1, ⟨h2, h3⟩ | ⟨c, hc, e1, e2⟩⟩ | ⟨h1, t, u, ht, hu, bt', bu, ne⟩
      · left
        rw [h1, h3]
        refine ⟨rfl, Or.inr ⟨_, bm, rfl, fun t ht hb => ?_⟩⟩
        by_cases e : t = n
        · rw [e]
        · have := h2 t (by omega)
          rw [this] at hb
          cases hb
      · rw [h1, e1, decide_eq_false (neg1_nI hc), Bool.false_or, Bool.true_and]
        by_cases z : nI c = nI (tv μ 2 n)
        · left
          have ec : c = tv μ 2 n := (n_eq (by omega) (by omega)).mp z
          rw [decide_eq_true z]
          refine ⟨rfl, Or.inr ⟨_, bm, rfl, fun t ht hb => ?_⟩⟩
          by_cases e : t = n
          · rw [e]
          · rw [e2 t (by omega) hb, ec]
        · right
          rw [decide_eq_false z]
          refine ⟨rfl, ?_⟩
          by_cases w : ∃ t, t < n ∧ set.testBit t = true
          · obtain ⟨t, ht, hb⟩ := w
            refine ⟨t, n, by omega, by omega, hb, q, ?_⟩
            rw [e2 t ht hb]
            exact fun v => z (by rw [v])
          · exfalso
            have lm1 : ∀ k, k ≤ n → lm μ set k = -1 := fun k => by
              induction k with
              | zero => intro _; rfl
              | succ k ih =>
                intro hk
                rw [lm, if_neg (fun v => w ⟨k, by omega, v⟩)]
                exact ih (by omega)
            rw [lm1 n (Nat.le_refl _)] at e1
            exact neg1_nI hc e1.symm
      · right
        rw [h1, Bool.false_and]
        exact ⟨rfl, t, u, by omega, by omega, bt', bu, ne⟩
    · rw [if_neg q, if_neg q]
      rcases isM_sp T (set := set) n (by omega) with ⟨h1, ⟨h2, h3⟩ | ⟨c, hc, e1, e2⟩⟩ | ⟨h1, t, u, ht, hu, bt', bu, ne⟩
      · left
        refine ⟨h1, Or.inl ⟨fun t ht => ?_, h3⟩⟩
        by_cases e : t = n
        · subst e
          cases z : set.testBit t
          · rfl
          · exact absurd z q
        · exact h2 t (by omega)
      · left
        refine ⟨h1, Or.inr ⟨c, hc, e1, fun t ht hb => ?_⟩⟩
        by_cases e : t = n
        · subst e
          exact absurd hb q
        · exact e2 t (by omega) hb
      · right
        exact ⟨h1, t, u, by omega, by omega, bt', bu, ne⟩
theorem one_eq {μ : Mem} (T : RelT μ) {p x : Nat} (hx0 : x ≠ 0) (hx : x < 2 ^ pK μ p) : (isM μ (rS μ p x) (tn μ) = false) = (mS' μ p x = -1) := by
  have hn := T.1.2.2
  have mem : ∀ t, (rS μ p x).testBit t = true ↔ ∃ i, i < pK μ p ∧ x.testBit i = true ∧ pA μ p i = t := fun t => rN_bit (pK μ p) t
  have some1 : ∃ i, i < pK μ p ∧ x.testBit i = true := by
    by_cases w : ∃ i, i < pK μ p ∧ x.testBit i = true
    · exact w
    · exfalso
      apply hx0
      apply Nat.eq_of_testBit_eq
      intro i
      rw [Nat.zero_testBit]
      by_cases q : i < pK μ p
      · cases z : x.testBit i
        · rfl
        · exact absurd ⟨i, q, z⟩ w
      · rw [show i = pK μ p + (i - pK μ p) by omega, tb_hi hx]
  refine propext ⟨fun h => ?_, fun h => ?_⟩
  · rcases isM_sp T (set := rS μ p x) (tn μ) hn with ⟨h1, -⟩ | ⟨-, t, u, ht, hu, bt', bu, ne⟩
    · rw [h1] at h
      cases h
    · obtain ⟨i, hi, bi, rfl⟩ := (mem t).mp bt'
      obtain ⟨j, hj, bj, rfl⟩ := (mem u).mp bu
      rcases mN_sp T (p := p) (x := x) (pK μ p) (Nat.le_refl _) with ⟨-, e⟩ | ⟨-, ⟨c, hc, e1, e2⟩ | ⟨e, -⟩⟩
      · exact e
      · exact absurd ((e2 i hi bi).trans (e2 j hj bj).symm) ne
      · exact e
  · rcases mN_sp T (p := p) (x := x) (pK μ p) (Nat.le_refl _) with ⟨e, -⟩ | ⟨-, ⟨c, hc, e1, e2⟩ | ⟨-, i, j, hi, hj, bi, bj, ne⟩⟩
    · obtain ⟨i, hi, bi⟩ := some1
      have := e i hi
      rw [this] at bi
      cases bi
    · have h : mN' μ p x (pK μ p) = -1 := h
      rw [e1] at h
      exact absurd h (neg1_nI hc)
    · rcases isM_sp T (set := rS μ p x) (tn μ) hn with ⟨-, ⟨h2, -⟩ | ⟨c, hc, e1, e2⟩⟩ | ⟨h1, -⟩
      · have := h2 (pA μ p i) (pA_lt hi)
        rw [(mem _).mpr ⟨i, hi, bi, rfl⟩] at this
        cases this
      · exact absurd ((e2 _ (pA_lt hi) ((mem _).mpr ⟨i, hi, bi, rfl⟩)).trans (e2 _ (pA_lt hj) ((mem _).mpr ⟨j, hj, bj, rfl⟩)).symm) ne
      · exact h1
end
section
/-! ===== gains, of the reference ===== -/
theorem oV_m {μ ν : Mem} (I : Inv μ) (s : Sm μ ν) {p t k : Nat} (hp : p < 4) (ht : t < 10) (hk : k ≤ 8) : ∃ ν', (Sm μ ν' ∧ FRm ν ν') ∧ X11_valueOf 134 (nI t) (nI p) (nI k) ν = some (nI (vW μ t k (sS μ (odd μ p (nw μ) k))), ν') := by
  have Iν := I.sm s
  obtain ⟨ν', ⟨s', f'⟩, e⟩ := val_fr Iν.1 Iν.2.1 Iν.2.2.2.1 (p := p) (t := t) (k := k) hp ht hk
  rw [valV_sm s, nw_sm s, sS_odd_sm s, (vW_ok I.2.2.2.1 ht hk sS_le I.2.1.2.2.2.2.2.2.2).1] at e
  exact ⟨ν', ⟨s.tr s', f'⟩, e⟩
def Fm (ν ν' : Mem) : Prop := ∀ a, ¬ (141 ≤ a ∧ a ≤ 144) → mI ν' a = mI ν a
theorem PKm.fm {μ ν ν' : Mem} {p : Nat} (h : PKm μ p ν) (f : Fm ν ν') : PKm μ p ν' := by
  unfold PKm
  rw [f 134 (by omega), f 166 (by omega)]
  exact h
theorem gain60 {μ ν : Mem} (I : Inv μ) {p st x : Nat} (hp : p < 4) (hst : st < 6) (hx : x < 64) (s : Sm μ ν) (pk : PKm μ p ν) (x4 x5 : Int32) : ∃ ν', (Sm μ ν' ∧ Fm ν ν') ∧ X11_findGain_L60 134 (nI p) (nI st) (nI x) x4 x5 FU 0 0 ν = some (nI (vs μ p st x (pK μ p)), nI (pK μ p), ν') := by
  have I0 := I
  obtain ⟨o, W, C, T, S, X, L⟩ := I
  have hn := W.2.2.2.2.2.2.2
  have hT := T.1.2.2
  have hK := pK_le μ p
  obtain ⟨b, ⟨P1, P2, P3⟩, e⟩ := loopF (F := fun m (b : Nat × Mem) i => X11_findGain_L60 134 (nI p) (nI st) (nI x) x4 x5 m (nI b.1) (nI i) b.2) (P := fun i b => b.1 = vs μ p st x i ∧ Sm μ b.2 ∧ Fm ν b.2) (n := pK μ p) (r := fun b => (nI b.1, nI (pK μ p), b.2)) (by omega) (fun m b i hi P => by
    obtain ⟨a, ν1⟩ := b
    obtain ⟨rfl, s1, f1⟩ : a = vs μ p st x i ∧ Sm μ ν1 ∧ Fm ν ν1 := P
    have o1 := s1.1
    have pk1 := pk.fm f1
    have ti := pA_lt hi
    have t10 : pA μ p i < 10 := by omega
    obtain ⟨ν2, ⟨s2, f2⟩, e2⟩ := oV_m I0 s1 (p := p) (t := pA μ p i) (k := st) hp t10 (by omega)
    have T2 := Onl.T s2 T
    have mu := must_m s2.1 T2 t10
    rw [muV_sm s2] at mu
    have ml := muV_le μ (pA μ p i)
    have cm : (nI (muV μ (pA μ p i)) = 0) = (muV μ (pA μ p i) = 0) := n_eq (b := 0) (by omega) (by decide)
    have f6 : mI ν2 151 (pA μ p i) = nI (tv μ 6 (pA μ p i)) := by rw [s2.row (a := 151) rfl]; exact (T.2.1 6 _ (by decide) t10).2.1
    have b6 : tv μ 6 (pA μ p i) ≤ 60 := (T.2.1 6 _ (by decide) t10).2.2
    have w5 : mI ν2 134 5 = nI (nw μ) := (s2.fld (a := 134) (k := 5) rfl).trans W.2.2.2.2.2.2.1
    have c6 : (nI (tv μ 6 (pA μ p i)) < nI (nw μ + st)) = (tv μ 6 (pA μ p i) < nw μ + st) := n_lt (by omega) (by omega)
    refine ⟨(vs μ p st x (i + 1), ν2), ⟨rfl, s2, fun a q => (f2.2 a q).trans (f1 a q)⟩, ?_⟩
    show X11_findGain_L60 134 (nI p) (nI st) (nI x) x4 x5 (m + 1) (nI (vs μ p st x i)) (nI i) ν1 = X11_findGain_L60 134 (nI p) (nI st) (nI x) x4 x5 m (nI (vs μ p st x (i + 1))) (nI (i + 1)) ν2
    have eb : ((if nI (muV μ (pA μ p i)) = 0 then some 0 else (gI 11 5 134 ν2).bind fun v10 => (gR 11 19 134 ν2).bind fun v11 => (aI v11 (nI (pA μ p i)) ν2).bind fun v12 => if v12 < v10 + nI st then some 0 else some 2000 : Option Int32)) = some (nI (if muV μ (pA μ p i) = 1 ∧ nw μ + st ≤ tv μ 6 (pA μ p i) then 2000 else 0)) := by
      rw [gi_134 s2.1, w5, Option.bind_some, r_134_19 s2.1, Option.bind_some, ai_151 s2.1 t10, f6, Option.bind_some, nI_add]
      simp only [cm, c6]
      by_cases q1 : muV μ (pA μ p i) = 0
      · rw [if_pos q1, if_neg (by omega)]
        rfl
      · rw [if_neg q1]
        by_cases q2 : tv μ 6 (pA μ p i) < nw μ + st
        · rw [if_pos q2, if_neg (by omega)]
          rfl
        · rw [if_neg q2, if_pos (by omega)]
          rfl
    rw [X11_findGain_L60, gi_134 o1, pk1.1, Option.bind_some, if_neg (nI_ge hi (by omega)), r_134_40 o1, Option.bind_some, ai_166 o1 (by omega), pk1.2 i hi, Option.bind_some, vo_134 o1, Option.bind_some, e2, Option.bind_some, vo_134 s2.1, Option.bind_some, mu, Option.bind_some]
    rw [eb, Option.bind_some, nI_add, Option.bind_some, Option.bind_some, Option.bind_some, nI_add1, vs]
    simp only [bt_1, bt_t1 (show x < 2 ^ 31 by omega) (show i < 31 by omega)]
    by_cases q : x.testBit i = true
    · rw [if_pos q, if_pos q, nI_add]
      rfl
    · rw [if_neg q, if_neg q, Int32.add_zero]) (fun m b P => by
    have pk1 := pk.fm P.2.2
    show X11_findGain_L60 134 (nI p) (nI st) (nI x) x4 x5 (m + 1) (nI b.1) (nI (pK μ p)) b.2 = _
    rw [X11_findGain_L60, gi_134 P.2.1.1, pk1.1, Option.bind_some, if_pos (nI_le (Nat.le_refl _) (by omega))]) (0, ν) ⟨rfl, s, fun _ _ => rfl⟩
  refine ⟨b.2, ⟨P2, P3⟩, ?_⟩
  rw [← P1]
  exact e
/-- the reference's gain and way beside the class's -/
def RI (rg rw' : Int32) (c : Nat × Int32) : Prop := (rw' = -1 ∧ rg = -1000000000 ∧ c.1 = 0 ∧ c.2 = -1) ∨ (∃ w a b, w < 4 ∧ rw' = nI w ∧ rg = nI a - nI b ∧ a ≤ b ∧ b ≤ 3996 ∧ c.1 = 0 ∧ c.2 = -1) ∨ (∃ w, w < 4 ∧ rw' = nI w ∧ c.2 = nI w ∧ rg = nI c.1 ∧ 0 < c.1)
theorem gg_le {a b c d : Nat} (ha : a < 2 ^ 20) (hb : b < 2 ^ 20) (hc : c < 2 ^ 20) (hd : d < 2 ^ 20) : (nI a - nI b ≤ nI c - nI d) = (a + d ≤ c + b) := by
  refine propext ?_
  rw [Int32.le_iff_toInt_le, pk_sub_toInt (by omega) (by omega), pk_sub_toInt (by omega) (by omega)]
  omega
theorem gain151 {μ ν : Mem} (I : Inv μ) {p st x : Nat} (hp : p < 4) (hst : st < 6) (hx : x < 64) (s : Sm μ ν) (kb : rS μ p x &&& kT μ p (nw μ + st) (tn μ) = 0) (g0 : mI ν 168 (64 * st + x) = -1000000000) (w0 : mI ν 169 (64 * st + x) = -1) : ∃ ν' z, (Sm μ ν' ∧ (∀ a, ¬ (141 ≤ a ∧ a ≤ 144) → a ≠ 168 → a ≠ 169 → mI ν' a = mI ν a) ∧ (∀ a j, a = 168 ∨ a = 169 → j ≠ 64 * st + x → mI ν' a j = mI ν a j) ∧ RI (mI ν' 168 (64 * st + x)) (mI ν' 169 (64 * st + x)) (cF μ p st x 4)) ∧ X11_findGain_L151 134 (nI p) (nI st) (nI (rS μ p x)) (nI (64 * st + x)) (nI (vs μ p st x (pK μ p))) FU 0 ν = some (z, ν') := by
  have I0 := I
  obtain ⟨o, W, C, T, S, X, L⟩ := I
  have hn := W.2.2.2.2.2.2.2
  have hix : 64 * st + x < 384 := by omega
  obtain ⟨ν', P, e⟩ := loopF (F := fun m (ν' : Mem) i => X11_findGain_L151 134 (nI p) (nI st) (nI (rS μ p x)) (nI (64 * st + x)) (nI (vs μ p st x (pK μ p))) m (nI i) ν') (P := fun i ν' => Sm μ ν' ∧ (∀ a, ¬ (141 ≤ a ∧ a ≤ 144) → a ≠ 168 → a ≠ 169 → mI ν' a = mI ν a) ∧ (∀ a j, a = 168 ∨ a = 169 → j ≠ 64 * st + x → mI ν' a j = mI ν a j) ∧ RI (mI ν' 168 (64 * st + x)) (mI ν' 169 (64 * st + x)) (cF μ p st x i)) (n := 4) (r := fun ν' => (nI 4, ν')) (by decide) (fun m ν1 i hi P => by
    obtain ⟨s1, f1, j1, ri⟩ := P
    have o1 := s1.1
    have I1 := I0.sm s1
    have e155 : mI ν1 155 i = nI (sn μ i) := by rw [s1.row (a := 155) rfl]; exact (C.2 i hi).2.1
    have w5 : mI ν1 134 5 = nI (nw μ) := (s1.fld (a := 134) (k := 5) rfl).trans W.2.2.2.2.2.2.1
    have va := vs_le I0 (p := p) (st := st) (by omega) x (pK μ p) (Nat.le_refl _)
    have hK := pK_le μ p
    have vb := (C.2 i hi).2.2
    have vm : vs μ p st x (pK μ p) * sn μ i ≤ 17994 * 100 := Nat.mul_le_mul (by omega) vb
    have vl := lw_le C (p := p) (st := st) hi
    have ga := gA_le I0 (p := p) (st := st) (x := x) (by omega) hi
    have cl := cF_le I0 (p := p) (st := st) (x := x) (by omega) i (by omega)
    obtain ⟨ν2, s2, e2⟩ := loss_m o1 I1.2.1 I1.2.2.1 (p := p) (t := nw μ) (k := st) (w := i) hp (by omega) (by omega) hi
    have fr2 := (fr_loss e2 o1).2
    rw [lsS_sm s1, show odd ν1 p (nw μ) st = odd μ p (nw μ) st from funext (odd_sm s1 p (nw μ) st)] at e2
    have e2 : X11_lossOf 134 (nI p) (nI i) (nI (nw μ)) (nI st) ν1 = some (nI (lw μ p st i), ν2) := e2
    have s02 := s1.tr s2
    have I2 := I0.sm s02
    have al := areAl_m s02.1 I2.2.2.2.1 I2.2.2.2.2.2.2 (p := p) (set := rS μ p x) hp (by rw [tn_sm s02]; exact rS_lt μ p x)
    rw [tn_sm s02, aT_sm s02] at al
    have al : X11_areAlways 134 (nI p) (nI (rS μ p x)) ν2 = some (b01 (aw μ p x)) := al
    obtain ⟨ν3, ⟨s3, fr3⟩, e3⟩ := wayB_m I2.m (p := p) (way := i) (k := st) hp hi (by omega)
    rw [nw_sm s02, lc_sm s02, bW_sm s02, show odd ν2 p (nw μ) st = odd μ p (nw μ) st from funext (odd_sm s02 p (nw μ) st)] at e3
    -- whether the way is let, and the memory then
    have lt : ∃ ν4, Sm μ ν4 ∧ Fm ν1 ν4 ∧ ((if b01 (aw μ p x) = 0 then (vO 11 134 ν2).bind fun g12 => (X11_isWayBarred 134 (nI p) (nI i) (nI st) ν2).bind fun z13 => if z13.1 = 0 then some ((1, z13.2)) else some ((0, z13.2)) else some ((1, ν2)) : Option (Int32 × Mem))) = some (b01 (okW μ p st x i), ν4) := by
      simp only [b01_z]
      unfold okW
      rw [decide_eq_true kb, Bool.true_and]
      cases qa : aw μ p x
      · refine ⟨ν3, s02.tr s3, fun a q => (fr3 a q).trans (fr2 a q), ?_⟩
        rw [if_pos rfl, vo_134 s02.1, Option.bind_some, e3, Option.bind_some, Bool.false_or]
        simp only [b01_z]
        cases (bW μ p (odd μ p (nw μ) st) (lc μ p)).testBit i
        · rw [if_pos rfl]
          rfl
        · rw [if_neg (by decide)]
          rfl
      · refine ⟨ν2, s02, fun a q => fr2 a q, ?_⟩
        rw [if_neg (by decide), Bool.true_or]
        rfl
    obtain ⟨ν4, s4, f4, e4⟩ := lt
    rw [vo_134 s02.1] at e4
    have o4 := s4.1
    have g4 : mI ν4 168 = mI ν1 168 := f4 168 (by omega)
    have w4 : mI ν4 169 = mI ν1 169 := f4 169 (by omega)
    show ∃ a', _ ∧ X11_findGain_L151 134 (nI p) (nI st) (nI (rS μ p x)) (nI (64 * st + x)) (nI (vs μ p st x (pK μ p))) (m + 1) (nI i) ν1 = _
    rw [X11_findGain_L151, if_neg (ge4 hi), r_134_23 o1, Option.bind_some, ai_155 o1 hi, e155, Option.bind_some, pk_mul, show (100 : Int32) = nI 100 from rfl, dvI_eq (by omega) (by decide) (by decide), Option.bind_some, gi_134 o1, w5, Option.bind_some, vo_134 o1, Option.bind_some, e2, Option.bind_some, Option.bind_some, vo_134 s02.1, Option.bind_some, al, Option.bind_some]
    rw [e4, Option.bind_some]
    simp only [b01_z]
    have keep : RI (mI ν4 168 (64 * st + x)) (mI ν4 169 (64 * st + x)) (cF μ p st x (i + 1)) → ∃ a', (Sm μ a' ∧ (∀ a, ¬ (141 ≤ a ∧ a ≤ 144) → a ≠ 168 → a ≠ 169 → mI a' a = mI ν a) ∧ (∀ a j, a = 168 ∨ a = 169 → j ≠ 64 * st + x → mI a' a j = mI ν a j) ∧ RI (mI a' 168 (64 * st + x)) (mI a' 169 (64 * st + x)) (cF μ p st x (i + 1))) ∧ ((some ν4 : Option Mem).bind fun z24 => X11_findGain_L151 134 (nI p) (nI st) (nI (rS μ p x)) (nI (64 * st + x)) (nI (vs μ p st x (pK μ p))) m (nI i + 1) z24) = X11_findGain_L151 134 (nI p) (nI st) (nI (rS μ p x)) (nI (64 * st + x)) (nI (vs μ p st x (pK μ p))) m (nI (i + 1)) a' := fun h => by
      refine ⟨ν4, ⟨s4, fun a q1 q2 q3 => (f4 a q1).trans (f1 a q1 q2 q3), fun a j ha hj => ?_, h⟩, by rw [Option.bind_some, nI_add1]⟩
      rw [f4 a (by omega)]
      exact j1 a j ha hj
    by_cases y : okW μ p st x i = true
    · have y' : ¬ okW μ p st x i = false := by rw [y]; decide
      rw [if_neg y', r_134_43 o4, Option.bind_some, ai_168 o4 hix, g4, Option.bind_some, Option.bind_some, si_168 o4 hix, Option.bind_some, r_134_44 o4.wI, Option.bind_some, si_169 o4.wI hix, Option.bind_some]
      have put : RI (nI (vs μ p st x (pK μ p) * sn μ i / 100) - nI (lw μ p st i)) (nI i) (cF μ p st x (i + 1)) → ∃ a', (Sm μ a' ∧ (∀ a, ¬ (141 ≤ a ∧ a ≤ 144) → a ≠ 168 → a ≠ 169 → mI a' a = mI ν a) ∧ (∀ a j, a = 168 ∨ a = 169 → j ≠ 64 * st + x → mI a' a j = mI ν a j) ∧ RI (mI a' 168 (64 * st + x)) (mI a' 169 (64 * st + x)) (cF μ p st x (i + 1))) ∧ ((some (wI (wI ν4 168 (64 * st + x) (nI (vs μ p st x (pK μ p) * sn μ i / 100) - nI (lw μ p st i))) 169 (64 * st + x) (nI i)) : Option Mem).bind fun z24 => X11_findGain_L151 134 (nI p) (nI st) (nI (rS μ p x)) (nI (64 * st + x)) (nI (vs μ p st x (pK μ p))) m (nI i + 1) z24) = X11_findGain_L151 134 (nI p) (nI st) (nI (rS μ p x)) (nI (64 * st + x)) (nI (vs μ p st x (pK μ p))) m (nI (i + 1)) a' := fun h => by
        refine ⟨wI (wI ν4 168 (64 * st + x) (nI (vs μ p st x (pK μ p) * sn μ i / 100) - nI (lw μ p st i))) 169 (64 * st + x) (nI i), ⟨(s4.wI (corM (by decide) _)).wI (corM (by decide) _), fun a q1 q2 q3 => ?_, fun a j ha hj => ?_, ?_⟩, by rw [Option.bind_some, nI_add1]⟩
        · rw [row_ne q3, row_ne q2]
          exact (f4 a q1).trans (f1 a q1 q2 q3)
        · rw [fld_ne (by omega), fld_ne (by omega), f4 a (by omega)]
          exact j1 a j ha hj
        · rw [row_ne (a := 169) (b := 168) (by decide), fld_eq, fld_eq]
          exact h
      have egA : gA μ p st x i = vs μ p st x (pK μ p) * sn μ i / 100 - lw μ p st i := rfl
      rcases ri with ⟨r1, r2, r3, r4⟩ | ⟨w, a, b, hw, r1, r2, ab, b4, r3, r4⟩ | ⟨w, hw, r1, r4, r2, r3⟩
      · -- none so far
        rw [r2, if_neg (by
          rw [Int32.le_iff_toInt_le, pk_sub_toInt (by omega) (by omega)]
          have : (-1000000000 : Int32).toInt = -1000000000 := rfl
          omega)]
        refine put ?_
        rw [cF]
        by_cases z : lw μ p st i < vs μ p st x (pK μ p) * sn μ i / 100
        · rw [if_pos ⟨y, by rw [r3, egA]; omega⟩]
          exact Or.inr (Or.inr ⟨i, hi, rfl, rfl, by rw [pk_sub (by omega)]; rfl, by rw [egA]; omega⟩)
        · rw [if_neg (fun w => by have := w.2; rw [egA] at this; omega)]
          exact Or.inr (Or.inl ⟨i, _, _, hi, rfl, rfl, by omega, vl, r3, r4⟩)
      · rw [r2]
        simp only [gg_le (show vs μ p st x (pK μ p) * sn μ i / 100 < 2 ^ 20 by omega) (show lw μ p st i < 2 ^ 20 by omega) (show a < 2 ^ 20 by omega) (show b < 2 ^ 20 by omega)]
        by_cases z : vs μ p st x (pK μ p) * sn μ i / 100 + b ≤ a + lw μ p st i
        · rw [if_pos z]
          refine keep ?_
          rw [g4, w4, cF, if_neg (fun w => by have := w.2; rw [egA] at this; omega)]
          exact Or.inr (Or.inl ⟨w, a, b, hw, r1, r2, ab, b4, r3, r4⟩)
        · rw [if_neg z]
          refine put ?_
          rw [cF]
          by_cases z2 : lw μ p st i < vs μ p st x (pK μ p) * sn μ i / 100
          · rw [if_pos ⟨y, by rw [r3, egA]; omega⟩]
            exact Or.inr (Or.inr ⟨i, hi, rfl, rfl, by rw [pk_sub (by omega)]; rfl, by rw [egA]; omega⟩)
          · rw [if_neg (fun w => by have := w.2; rw [egA] at this; omega)]
            exact Or.inr (Or.inl ⟨i, _, _, hi, rfl, rfl, by omega, vl, r3, r4⟩)
      · rw [r2]
        simp only [gn_le (show vs μ p st x (pK μ p) * sn μ i / 100 < 2 ^ 20 by omega) (show lw μ p st i < 2 ^ 20 by omega) (show (cF μ p st x i).1 < 2 ^ 20 by omega)]
        by_cases z : (cF μ p st x i).1 < vs μ p st x (pK μ p) * sn μ i / 100 - lw μ p st i
        · rw [if_neg (fun w => w z)]
          refine put ?_
          rw [cF, if_pos ⟨y, z⟩]
          exact Or.inr (Or.inr ⟨i, hi, rfl, rfl, by rw [pk_sub (by omega)]; rfl, by rw [egA]; omega⟩)
        · rw [if_pos z]
          refine keep ?_
          rw [g4, w4, cF, if_neg (fun w => z w.2)]
          exact Or.inr (Or.inr ⟨w, hw, r1, r4, r2, r3⟩)
    · have y' : okW μ p st x i = false := by
        cases q : okW μ p st x i
        · rfl
        · exact absurd q y
      rw [if_pos y']
      refine keep ?_
      rw [g4, w4, cF, if_neg (fun w => y w.1)]
      exact ri) (fun m ν' P => by
    show X11_findGain_L151 134 (nI p) (nI st) (nI (rS μ p x)) (nI (64 * st + x)) (nI (vs μ p st x (pK μ p))) (m + 1) (nI 4) ν' = _
    rw [X11_findGain_L151, if_pos (by decide)]) ν ⟨s, fun _ _ _ _ => rfl, fun _ _ _ _ => rfl, Or.inl ⟨w0, g0, rfl, rfl⟩⟩
  exact ⟨ν', _, P, e⟩
theorem gain_m {μ ν : Mem} (I : Inv μ) {p st x : Nat} (hp : p < 4) (hst : st < 6) (hx0 : x ≠ 0) (hx : x < 2 ^ pK μ p) (s : Sm μ ν) (pk : PKm μ p ν) : ∃ ν', (Sm μ ν' ∧ (∀ a, ¬ (141 ≤ a ∧ a ≤ 144) → a ≠ 168 → a ≠ 169 → mI ν' a = mI ν a) ∧ (∀ a j, a = 168 ∨ a = 169 → j ≠ 64 * st + x → mI ν' a j = mI ν a j) ∧ RI (mI ν' 168 (64 * st + x)) (mI ν' 169 (64 * st + x)) (cGW μ p st x)) ∧ X11_findGain 134 (nI p) (nI st) (nI x) ν = some ν' := by
  have I0 := I
  obtain ⟨o, W, C, T, S, X, L⟩ := I
  have hT := T.1.2.2
  have hK := pK_le μ p
  have x64 : x < 64 := Nat.lt_of_lt_of_le hx (show 2 ^ pK μ p ≤ 2 ^ 6 from Nat.pow_le_pow_right (by decide) hK)
  have hix : 64 * st + x < 384 := by omega
  have oν := s.1
  have hs10 : rS μ p x < 2 ^ 10 := Nat.lt_of_lt_of_le (rS_lt μ p x) (Nat.pow_le_pow_right (by decide) hT)
  have ⟨ν1, e1⟩ : ∃ m, m = wI (wI ν 169 (64 * st + x) (-1)) 168 (64 * st + x) (-1000000000) := ⟨_, rfl⟩
  have s1 : Sm μ ν1 := by
    rw [e1]
    exact (s.wI (corM (by decide) _)).wI (corM (by decide) _)
  have f1 : ∀ a, a ≠ 168 → a ≠ 169 → mI ν1 a = mI ν a := fun a q1 q2 => by rw [e1, row_ne q1, row_ne q2]
  have j1 : ∀ a j, j ≠ 64 * st + x → mI ν1 a j = mI ν a j := fun a j hj => by rw [e1, fld_ne (by omega), fld_ne (by omega)]
  have g1 : mI ν1 168 (64 * st + x) = -1000000000 := by rw [e1, fld_eq]
  have w1 : mI ν1 169 (64 * st + x) = -1 := by rw [e1, row_ne (by decide), fld_eq]
  have pk1 : PKm μ p ν1 := by
    unfold PKm
    rw [f1 134 (by decide) (by decide), f1 166 (by decide) (by decide)]
    exact pk
  have I1 := I0.sm s1
  have om := oneM_m (set := rS μ p x) s1.1 I1.2.2.2.1 hs10
  rw [tn_sm s1, isM_sm s1] at om
  have kb := kindB_m I1.m (p := p) (set := rS μ p x) (k := st) hp (by omega) hs10
  rw [tn_sm s1, nw_sm s1, kT_sm s1] at kb
  unfold X11_findGain
  rw [vo_134 oν, Option.bind_some, setOf_m hT oν pk x64, Option.bind_some, show (64 : Int32) = nI 64 from rfl, pk_mul, nI_add, Option.bind_some, r_134_44 oν, Option.bind_some, si_169 oν hix, Option.bind_some, r_134_43 oν.wI, Option.bind_some, si_168 oν.wI hix, Option.bind_some, ← e1, vo_134 s1.1, Option.bind_some, om, Option.bind_some]
  simp only [b01_z]
  have stop : cGW μ p st x = (0, -1) → ∃ ν', (Sm μ ν' ∧ (∀ a, ¬ (141 ≤ a ∧ a ≤ 144) → a ≠ 168 → a ≠ 169 → mI ν' a = mI ν a) ∧ (∀ a j, a = 168 ∨ a = 169 → j ≠ 64 * st + x → mI ν' a j = mI ν a j) ∧ RI (mI ν' 168 (64 * st + x)) (mI ν' 169 (64 * st + x)) (cGW μ p st x)) ∧ some ν1 = some ν' := fun h => by
    refine ⟨ν1, ⟨s1, fun a _ q2 q3 => f1 a q2 q3, fun a j _ hj => j1 a j hj, ?_⟩, rfl⟩
    rw [h]
    exact Or.inl ⟨w1, g1, rfl, rfl⟩
  by_cases z1 : isM μ (rS μ p x) (tn μ) = false
  · rw [if_pos z1]
    rw [one_eq T hx0 hx] at z1
    exact stop (by unfold cGW; rw [if_pos z1])
  · rw [if_neg z1, Option.bind_some, kb, Option.bind_some]
    rw [one_eq T hx0 hx] at z1
    simp only [b01_z, decide_eq_false_iff_not, Decidable.not_not]
    by_cases z2 : rS μ p x &&& kT μ p (nw μ + st) (tn μ) = 0
    · rw [if_pos z2]
      obtain ⟨ν2, ⟨s2, f2⟩, e2⟩ := gain60 I0 hp hst x64 s1 pk1 (nI (rS μ p x)) (nI (64 * st + x))
      obtain ⟨ν3, zz', ⟨s3, f3, j3, ri⟩, e3⟩ := gain151 I0 hp hst x64 s2 z2 (by rw [f2 168 (by omega)]; exact g1) (by rw [f2 169 (by omega)]; exact w1)
      rw [e2, Option.bind_some, e3, Option.bind_some]
      refine ⟨ν3, ⟨s3, fun a q1 q2 q3 => ?_, fun a j ha hj => ?_, ?_⟩, rfl⟩
      · rw [f3 a q1 q2 q3, f2 a q1, f1 a q2 q3]
      · rw [j3 a j ha hj, f2 a (by omega), j1 a j hj]
      · unfold cGW
        rw [if_neg z1]
        exact ri
    · rw [if_neg z2]
      refine stop ?_
      unfold cGW
      rw [if_neg z1]
      have : ∀ w, cF μ p st x w = (0, -1) := fun w => by
        induction w with
        | zero => rfl
        | succ w ih =>
          rw [cF, if_neg (fun v => by
            have := v.1
            unfold okW at this
            rw [decide_eq_false z2, Bool.false_and] at this
            cases this)]
          exact ih
      exact this 4
end
section
/-! ===== the best plans, of the reference ===== -/
section MP
variable {μ : Mem} {p n : Nat}
def Gs (μ : Mem) (p s : Nat) (ν : Mem) : Prop := ∀ x, 1 ≤ x → x < 2 ^ pK μ p → RI (mI ν 168 (64 * s + x)) (mI ν 169 (64 * s + x)) (cGW μ p s x)
def Bt (μ : Mem) (p n s : Nat) (ν : Mem) : Prop := ∀ left, left < 2 ^ pK μ p → ∀ pl, pl < 2 ^ s → mI ν 167 (4096 * s + 64 * left + pl) = nI (BP μ p n (n - s) left pl)
theorem place_n (s l q : Nat) : X11_place (nI s) (nI l) (nI q) = nI (4096 * s + 64 * l + q) := by
  unfold X11_place
  rw [show (4096 : Int32) = nI 4096 from rfl, show (64 : Int32) = nI 64 from rfl, pk_mul, pk_mul, nI_add, nI_add]
theorem p2_s {s : Nat} (h : s ≤ 6) : 2 ^ s ≤ 64 := show 2 ^ s ≤ 2 ^ 6 from Nat.pow_le_pow_right (by decide) h
/-- what the reference says of a set that the class may not or need not say -/
def NoB (μ : Mem) (p n st left pl x : Nat) (y : Int32) : Prop := y = -1000000000 ∨ ∃ a b, a ≤ b ∧ b ≤ 3996 ∧ y = nI a - nI b + nI (BP μ p n (n - st - 1) (nd left x) (pl ||| 2 ^ st))
theorem by_m (I : Inv μ) (hp : p < 4) (hn : n ≤ 6) {ν : Mem} {st left pl x : Nat} (hst : st < n) (s : Sm μ ν) (pk : PKm μ p ν) (g : Gs μ p st ν) (b : Bt μ p n (st + 1) ν) (hl : left < 2 ^ pK μ p) (hpl : pl < 2 ^ st) (hx1 : 1 ≤ x) (hx : x &&& left = x) : ∃ y, X11_by 134 (nI p) (nI st) (nI left) (nI pl) (nI x) ν = some y ∧ ((elB (cG μ p) (aw μ p) (mo μ p) st pl left x = true ∧ y = nI (cG μ p st x + BP μ p n (n - st - 1) (nd left x) (pl ||| 2 ^ st))) ∨ (elB (cG μ p) (aw μ p) (mo μ p) st pl left x = false ∧ NoB μ p n st left pl x y)) := by
  obtain ⟨a1, a2, a3⟩ := allK (μ := μ) (p := p)
  have hT := I.2.2.2.1.1.2.2
  have oν := s.1
  have Iν := I.sm s
  have xl := sub_le hx
  have xK : x < 2 ^ pK μ p := by omega
  have h6 := p2_s (show st ≤ 6 by omega)
  have h7 : 2 ^ (st + 1) ≤ 64 := p2_s (by omega)
  have hor : pl ||| 2 ^ st < 2 ^ (st + 1) := Nat.or_lt_two_pow (Nat.lt_of_lt_of_le hpl (Nat.pow_le_pow_right (by decide) (by omega))) (Nat.pow_lt_pow_right (by decide) (by omega))
  have hnd : nd left x < 2 ^ pK μ p := nd_lt x hl
  have bb := b (nd left x) hnd (pl ||| 2 ^ st) hor
  rw [show n - (st + 1) = n - st - 1 by omega] at bb
  have al := areAl_m oν Iν.2.2.2.1 Iν.2.2.2.2.2.2 (p := p) (set := rS μ p x) hp (by rw [tn_sm s]; exact rS_lt μ p x)
  rw [tn_sm s, aT_sm s] at al
  have al : X11_areAlways 134 (nI p) (nI (rS μ p x)) ν = some (b01 (aw μ p x)) := al
  have am := areM_m Iν.m (p := p) (step := st) (pb := pl) hp (by omega) (by omega)
  rw [lc_sm s, gM_sm s, mB_sm s] at am
  have am : X11_areMost 134 (nI p) (nI st) (nI pl) ν = some (nI (mo μ p st pl)) := am
  have ml : mo μ p st pl ≤ 1 := mB_le _ _ _ _
  have cm : (nI (mo μ p st pl) = 0) = (mo μ p st pl = 0) := n_eq (b := 0) (by omega) (by decide)
  have hix : 64 * st + x < 384 := by omega
  have ri := g x hx1 xK
  have cge : (cGW μ p st x).1 = cG μ p st x := rfl
  unfold X11_by
  rw [show (64 : Int32) = nI 64 from rfl, pk_mul, nI_add, Option.bind_some, r_134_44 oν, Option.bind_some, ai_169 oν hix, Option.bind_some, vo_134 oν, Option.bind_some, setOf_m hT oν pk (by omega), Option.bind_some, Option.bind_some, al, Option.bind_some, Option.bind_some, am, Option.bind_some, r_134_43 oν, Option.bind_some, ai_168 oν hix, Option.bind_some, r_134_42 oν, Option.bind_some, nd_eq (by omega), nI_add1, sh31 st (by omega), fa_or, place_n, ai_167 oν (by omega), bb, Option.bind_some]
  simp only [cm, b01_z]
  have neg : mI ν 169 (64 * st + x) = -1 → (mI ν 169 (64 * st + x) < 0) := fun h => by rw [h]; decide
  have pos : ∀ w, w < 4 → mI ν 169 (64 * st + x) = nI w → ¬ (mI ν 169 (64 * st + x) < 0) := fun w hw h => by rw [h]; exact nI_pos (by omega)
  rcases ri with ⟨r1, r2, r3, r4⟩ | ⟨w, a, b', hw, r1, r2, ab, b4, r3, r4⟩ | ⟨w, hw, r1, r4, r2, r3⟩
  · rw [if_pos (neg r1), Option.bind_some, if_pos rfl, Option.bind_some]
    refine ⟨_, rfl, Or.inr ⟨?_, Or.inl rfl⟩⟩
    unfold elB
    rw [← cge, r3, decide_eq_false (Nat.lt_irrefl 0), Bool.false_and, Bool.and_false]
  · rw [if_neg (pos w hw r1)]
    have ef : elB (cG μ p) (aw μ p) (mo μ p) st pl left x = false := by
      unfold elB
      rw [← cge, r3, decide_eq_false (Nat.lt_irrefl 0), Bool.false_and, Bool.and_false]
    by_cases z1 : aw μ p x = false
    · rw [if_pos z1]
      by_cases z2 : mo μ p st pl = 0
      · rw [if_pos z2, Option.bind_some, if_neg (by decide), Option.bind_some, r2]
        exact ⟨_, rfl, Or.inr ⟨ef, Or.inr ⟨a, b', ab, b4, rfl⟩⟩⟩
      · rw [if_neg z2, Option.bind_some, if_pos rfl, Option.bind_some]
        exact ⟨_, rfl, Or.inr ⟨ef, Or.inl rfl⟩⟩
    · rw [if_neg z1, Option.bind_some, if_neg (by decide), Option.bind_some, r2]
      exact ⟨_, rfl, Or.inr ⟨ef, Or.inr ⟨a, b', ab, b4, rfl⟩⟩⟩
  · rw [if_neg (pos w hw r1)]
    have r3 : 0 < cG μ p st x := r3
    have r2 : mI ν 168 (64 * st + x) = nI (cG μ p st x) := r2
    have ee : elB (cG μ p) (aw μ p) (mo μ p) st pl left x = (aw μ p x || decide (mo μ p st pl = 0)) := by
      unfold elB
      rw [decide_eq_true hx, decide_eq_true r3, Bool.true_and, Bool.true_and]
    rw [ee]
    by_cases z1 : aw μ p x = false
    · rw [if_pos z1, z1, Bool.false_or]
      by_cases z2 : mo μ p st pl = 0
      · rw [if_pos z2, Option.bind_some, if_neg (by decide), Option.bind_some, r2, nI_add]
        exact ⟨_, rfl, Or.inl ⟨decide_eq_true z2, rfl⟩⟩
      · rw [if_neg z2, Option.bind_some, if_pos rfl, Option.bind_some]
        exact ⟨_, rfl, Or.inr ⟨decide_eq_false z2, Or.inl rfl⟩⟩
    · have z1' : aw μ p x = true := by
        cases q : aw μ p x
        · exact absurd q z1
        · rfl
      rw [if_neg z1, Option.bind_some, if_neg (by decide), Option.bind_some, r2, nI_add, z1', Bool.true_or]
      exact ⟨_, rfl, Or.inl ⟨rfl, rfl⟩⟩
theorem NoB_le (I : Inv μ) (hn : n ≤ 6) {st left pl x V : Nat} {y : Int32} (hl : left < 64) (h : NoB μ p n st left pl x y) (hV : BP μ p n (n - st - 1) left pl ≤ V) (V20 : V < 2 ^ 20) : y ≤ nI V := by
  rcases h with rfl | ⟨a, b, ab, b4, rfl⟩
  · rw [Int32.le_iff_toInt_le, nI_toInt (by omega)]
    have : (-1000000000 : Int32).toInt = -1000000000 := rfl
    omega
  · have bd := BP_bd I (p := p) hn (r := n - st - 1) (by omega) (nd left x) (pl ||| 2 ^ st)
    have mn : BP μ p n (n - st - 1) (nd left x) (pl ||| 2 ^ st) ≤ BP μ p n (n - st - 1) left pl := BB_mono (mo_mono μ p) _ _ _ _ _ hl (nd_self hl) (by
      apply Nat.eq_of_testBit_eq
      intro i
      rw [Nat.testBit_and, Nat.testBit_or]
      cases pl.testBit i <;> rfl)
    rw [show nI a - nI b + nI (BP μ p n (n - st - 1) (nd left x) (pl ||| 2 ^ st)) = nI (a + BP μ p n (n - st - 1) (nd left x) (pl ||| 2 ^ st)) - nI b by
      rw [← nI_add, Int32.sub_eq_add_neg, Int32.sub_eq_add_neg, Int32.add_assoc, Int32.add_comm (-nI b), ← Int32.add_assoc]]
    rw [gn_le (by omega) (by omega) (by omega)]
    omega
theorem foP_bd (I : Inv μ) (hn : n ≤ 6) {st : Nat} (hst : st < n) (left pl m : Nat) : (foP μ p n st left pl m).2 < 2 ^ 20 := by
  have bdB : ∀ l q, BP μ p n (n - st - 1) l q ≤ 17994 * 9 * 6 := fun l q => BP_bd I hn (by omega) l q
  rcases (fo_sp (elB (cG μ p) (aw μ p) (mo μ p) st pl left) (fun x => cG μ p st x + BP μ p n (n - st - 1) (nd left x) (pl ||| 2 ^ st)) (BP μ p n (n - st - 1) left pl) m).2.2 with ⟨-, e⟩ | ⟨-, -, -, e, -⟩
  · unfold foP
    rw [e]
    have := bdB left pl
    omega
  · unfold foP
    rw [e]
    have h1 := bdB (nd left (fo (elB (cG μ p) (aw μ p) (mo μ p) st pl left) (fun x => cG μ p st x + BP μ p n (n - st - 1) (nd left x) (pl ||| 2 ^ st)) (BP μ p n (n - st - 1) left pl) m).1) (pl ||| 2 ^ st)
    have h2 := cG_le I (p := p) (st := st) (x := (fo (elB (cG μ p) (aw μ p) (mo μ p) st pl left) (fun x => cG μ p st x + BP μ p n (n - st - 1) (nd left x) (pl ||| 2 ^ st)) (BP μ p n (n - st - 1) left pl) m).1) (by omega)
    show cG μ p st _ + BP μ p n (n - st - 1) _ _ < _
    omega
theorem sub191 (I : Inv μ) (hp : p < 4) (hn : n ≤ 6) {ν : Mem} {st left pl : Nat} (hst : st < n) (s : Sm μ ν) (pk : PKm μ p ν) (g : Gs μ p st ν) (b : Bt μ p n (st + 1) ν) (hl : left < 2 ^ pK μ p) (hpl : pl < 2 ^ st) (x3 : Int32) : ∀ N c k V, c ≤ N → c &&& left = c → BP μ p n (n - st - 1) left pl ≤ V → V ≤ (foP μ p n st left pl 63).2 → (∀ x, c < x → x ≤ 63 → elB (cG μ p) (aw μ p) (mo μ p) st pl left x = true → cG μ p st x + BP μ p n (n - st - 1) (nd left x) (pl ||| 2 ^ st) ≤ V) → X11_findPlans_L191 134 (nI p) x3 (nI st) (nI pl) (nI left) ν (k + c + 1) (nI V) (nI c) = some (nI (foP μ p n st left pl 63).2, nI 0) := by
  obtain ⟨a1, a2, a3⟩ := allK (μ := μ) (p := p)
  have fb := foP_bd I (p := p) hn hst left pl 63
  have sp := fo_sp (elB (cG μ p) (aw μ p) (mo μ p) st pl left) (fun x => cG μ p st x + BP μ p n (n - st - 1) (nd left x) (pl ||| 2 ^ st)) (BP μ p n (n - st - 1) left pl) 63
  intro N
  induction N with
  | zero =>
    intro c k V hc hsub h1 h2 h3
    have c0 : c = 0 := by omega
    subst c0
    have eV : V = (foP μ p n st left pl 63).2 := by
      have : (foP μ p n st left pl 63).2 ≤ V := by
        rcases sp.2.2 with ⟨-, e⟩ | ⟨y1, y2, y3, e, -⟩
        · unfold foP
          rw [e]
          exact h1
        · have := h3 _ (by omega) y2 y3
          unfold foP
          rw [e]
          exact this
      omega
    rw [X11_findPlans_L191, if_pos (by decide), eV]
  | succ N ih =>
    intro c k V hc hsub h1 h2 h3
    by_cases c0 : c = 0
    · subst c0
      exact ih 0 k V (by omega) hsub h1 h2 h3
    · have c64 : c < 64 := by have := sub_le hsub; omega
      obtain ⟨d1, d2, d3⟩ := dn_up (show left < 64 by omega) c64 hsub c0
      obtain ⟨y, ey, hy⟩ := by_m I hp hn hst s pk g b hl hpl (show 1 ≤ c by omega) hsub
      have c1 : nI c - 1 = nI (c - 1) := pk_sub (b := 1) (by omega)
      have cle : ¬ nI c ≤ 0 := fun w => c0 ((nI_0le (show c < 2 ^ 31 by omega)).mp w)
      have step : ∀ V', V ≤ V' → V' ≤ (foP μ p n st left pl 63).2 → (elB (cG μ p) (aw μ p) (mo μ p) st pl left c = true → cG μ p st c + BP μ p n (n - st - 1) (nd left c) (pl ||| 2 ^ st) ≤ V') → (if y ≤ nI V then nI V else y) = nI V' → X11_findPlans_L191 134 (nI p) x3 (nI st) (nI pl) (nI left) ν (k + c + 1) (nI V) (nI c) = some (nI (foP μ p n st left pl 63).2, nI 0) := fun V' v1 v2 v3 v4 => by
        rw [X11_findPlans_L191, if_neg cle, vo_134 s.1, Option.bind_some, ey, Option.bind_some, v4, Option.bind_some, c1, fa_and, Option.bind_some]
        have := ih ((c - 1) &&& left) (k + c - 1 - ((c - 1) &&& left)) V' (by omega) d2 (by omega) v2 (fun x x1 x2 hx => by
          by_cases z : x = c
          · subst z
            exact v3 hx
          · have xs : x &&& left = x := by
              unfold elB at hx
              rw [Bool.and_eq_true, decide_eq_true_eq] at hx
              exact hx.1
            by_cases z2 : x < c
            · have := dn_lst (show left < 64 by omega) c64 hsub c0 xs z2
              omega
            · exact Nat.le_trans (h3 x (by omega) x2 hx) v1)
        rw [show k + c - 1 - ((c - 1) &&& left) + ((c - 1) &&& left) + 1 = k + c by omega] at this
        exact this
      rcases hy with ⟨e1, rfl⟩ | ⟨e1, nb⟩
      · have bl : cG μ p st c + BP μ p n (n - st - 1) (nd left c) (pl ||| 2 ^ st) ≤ (foP μ p n st left pl 63).2 := sp.2.1 c (by omega) (by omega) e1
        by_cases z : cG μ p st c + BP μ p n (n - st - 1) (nd left c) (pl ||| 2 ^ st) ≤ V
        · exact step V (Nat.le_refl _) h2 (fun _ => z) (if_pos ((n_le (by omega) (by omega)).mpr z))
        · exact step _ (by omega) bl (fun _ => Nat.le_refl _) (if_neg (fun w => z ((n_le (by omega) (by omega)).mp w)))
      · exact step V (Nat.le_refl _) h2 (fun w => by rw [e1] at w; cases w) (if_pos (NoB_le I hn (by omega) nb h1 (by omega)))
/-- what the reference's plans stand on -/
def FPm (μ : Mem) (p n r : Nat) (ν : Mem) : Prop := Sm μ ν ∧ PKm μ p ν ∧ (∀ s, r ≤ s → s < n → Gs μ p s ν) ∧ ∀ s, r ≤ s → s ≤ n → Bt μ p n s ν
theorem left163 (I : Inv μ) (hp : p < 4) (hn : n ≤ 6) {ν : Mem} {st pl : Nat} (hst : st < n) (s : Sm μ ν) (pk : PKm μ p ν) (g : Gs μ p st ν) (b : Bt μ p n (st + 1) ν) (hpl : pl < 2 ^ st) : ∃ ν' x, (Sm μ ν' ∧ (∀ a, a ≠ 167 → mI ν' a = mI ν a) ∧ (∀ j, ¬ (4096 * st ≤ j ∧ j < 4096 * st + 4096 ∧ j % 64 = pl) → mI ν' 167 j = mI ν 167 j) ∧ ∀ left, left < 2 ^ pK μ p → mI ν' 167 (4096 * st + 64 * left + pl) = nI (BP μ p n (n - st) left pl)) ∧ X11_findPlans_L163 134 (nI p) (nI (2 ^ pK μ p)) (nI st) (nI pl) FU 0 ν = some (x, ν') := by
  obtain ⟨a1, a2, a3⟩ := allK (μ := μ) (p := p)
  have h6 := p2_s (show st ≤ 6 by omega)
  have h7 : 2 ^ (st + 1) = 2 ^ st * 2 := Nat.pow_succ ..
  obtain ⟨ν', P, e⟩ := loopF (F := fun m (ν' : Mem) i => X11_findPlans_L163 134 (nI p) (nI (2 ^ pK μ p)) (nI st) (nI pl) m (nI i) ν') (P := fun i ν' => Sm μ ν' ∧ (∀ a, a ≠ 167 → mI ν' a = mI ν a) ∧ (∀ j, ¬ (4096 * st ≤ j ∧ j < 4096 * st + 4096 ∧ j % 64 = pl) → mI ν' 167 j = mI ν 167 j) ∧ ∀ left, left < i → mI ν' 167 (4096 * st + 64 * left + pl) = nI (BP μ p n (n - st) left pl)) (n := 2 ^ pK μ p) (r := fun ν' => (nI (2 ^ pK μ p), ν')) (by omega) (fun m ν' i hi P => by
    obtain ⟨s1, fa, fj, c⟩ := P
    have o1 := s1.1
    have pk1 : PKm μ p ν' := by
      unfold PKm
      rw [fa 134 (by decide), fa 166 (by decide)]
      exact pk
    have g1 : Gs μ p st ν' := by
      unfold Gs
      rw [fa 168 (by decide), fa 169 (by decide)]
      exact g
    have b1 : Bt μ p n (st + 1) ν' := fun l hl q hq => by
      rw [fj _ (by omega)]
      exact b l hl q hq
    have sk := b1 i hi pl (by omega)
    rw [show n - (st + 1) = n - st - 1 by omega] at sk
    have sp := fo_sp (elB (cG μ p) (aw μ p) (mo μ p) st pl i) (fun x => cG μ p st x + BP μ p n (n - st - 1) (nd i x) (pl ||| 2 ^ st)) (BP μ p n (n - st - 1) i pl) 63
    have l191 := sub191 I hp hn hst s1 pk1 g1 b1 hi hpl (nI (2 ^ pK μ p)) i i (99999 - i) (BP μ p n (n - st - 1) i pl) (Nat.le_refl _) (Nat.and_self _) (Nat.le_refl _) sp.1 (fun x x1 x2 hx => by
      have xs : x &&& i = x := by
        unfold elB at hx
        rw [Bool.and_eq_true, decide_eq_true_eq] at hx
        exact hx.1
      have := sub_le xs
      omega)
    rw [show 99999 - i + i + 1 = FU by unfold FU; omega] at l191
    refine ⟨wI ν' 167 (4096 * st + 64 * i + pl) (nI (foP μ p n st i pl 63).2), ⟨s1.wI (corM (by decide) _), fun a q => ?_, fun j q => ?_, fun l hl => ?_⟩, ?_⟩
    · rw [row_ne q]
      exact fa a q
    · rw [fld_ne (by omega)]
      exact fj j q
    · by_cases z : l = i
      · subst z
        rw [fld_eq, BP_s _ _ hst]
      · rw [fld_ne (by omega)]
        exact c l (by omega)
    · show X11_findPlans_L163 134 (nI p) (nI (2 ^ pK μ p)) (nI st) (nI pl) (m + 1) (nI i) ν' = _
      rw [X11_findPlans_L163, if_neg (nI_ge hi (by omega)), r_134_42 o1, Option.bind_some, nI_add1, place_n, ai_167 o1 (by omega), sk, Option.bind_some, l191, Option.bind_some, Option.bind_some, place_n, si_167 o1 (by omega), Option.bind_some, nI_add1]) (fun m ν' P => by
    show X11_findPlans_L163 134 (nI p) (nI (2 ^ pK μ p)) (nI st) (nI pl) (m + 1) (nI (2 ^ pK μ p)) ν' = _
    rw [X11_findPlans_L163, if_pos (nI_le (Nat.le_refl _) (by omega))]) ν ⟨s, fun _ _ => rfl, fun _ _ => rfl, fun left hl => by omega⟩
  exact ⟨ν', _, P, e⟩
theorem pl151 (I : Inv μ) (hp : p < 4) (hn : n ≤ 6) {ν : Mem} {st : Nat} (hst : st < n) (s : Sm μ ν) (pk : PKm μ p ν) (g : Gs μ p st ν) (b : Bt μ p n (st + 1) ν) : ∃ ν' x, (Sm μ ν' ∧ (∀ a, a ≠ 167 → mI ν' a = mI ν a) ∧ (∀ j, ¬ (4096 * st ≤ j ∧ j < 4096 * st + 4096) → mI ν' 167 j = mI ν 167 j) ∧ Bt μ p n st ν') ∧ X11_findPlans_L151 134 (nI p) (nI (2 ^ pK μ p)) (nI st) FU 0 ν = some (x, ν') := by
  obtain ⟨a1, a2, a3⟩ := allK (μ := μ) (p := p)
  have h6 := p2_s (show st ≤ 6 by omega)
  have h7 : 2 ^ (st + 1) = 2 ^ st * 2 := Nat.pow_succ ..
  have h8 := p2_s (show st + 1 ≤ 6 by omega)
  obtain ⟨ν', ⟨P1, P2, P3, P4⟩, e⟩ := loopF (F := fun m (ν' : Mem) i => X11_findPlans_L151 134 (nI p) (nI (2 ^ pK μ p)) (nI st) m (nI i) ν') (P := fun i ν' => Sm μ ν' ∧ (∀ a, a ≠ 167 → mI ν' a = mI ν a) ∧ (∀ j, ¬ (4096 * st ≤ j ∧ j < 4096 * st + 4096) → mI ν' 167 j = mI ν 167 j) ∧ ∀ left pl, left < 2 ^ pK μ p → pl < i → mI ν' 167 (4096 * st + 64 * left + pl) = nI (BP μ p n (n - st) left pl)) (n := 2 ^ st) (r := fun ν' => (nI (2 ^ st), ν')) (by omega) (fun m ν' i hi P => by
    obtain ⟨s1, fa, fj, c⟩ := P
    have pk1 : PKm μ p ν' := by
      unfold PKm
      rw [fa 134 (by decide), fa 166 (by decide)]
      exact pk
    have g1 : Gs μ p st ν' := by
      unfold Gs
      rw [fa 168 (by decide), fa 169 (by decide)]
      exact g
    have b1 : Bt μ p n (st + 1) ν' := fun l hl q hq => by
      rw [fj _ (by omega)]
      exact b l hl q hq
    obtain ⟨ν2, x2, ⟨s2, fa2, fj2, c2⟩, e2⟩ := left163 I hp hn hst s1 pk1 g1 b1 hi
    refine ⟨ν2, ⟨s2, fun a q => (fa2 a q).trans (fa a q), fun j q => ?_, fun left pl hl hq => ?_⟩, ?_⟩
    · rw [fj2 j (by omega)]
      exact fj j q
    · by_cases z : pl = i
      · subst z
        exact c2 left hl
      · rw [fj2 _ (by omega)]
        exact c left pl hl (by omega)
    · show X11_findPlans_L151 134 (nI p) (nI (2 ^ pK μ p)) (nI st) (m + 1) (nI i) ν' = _
      rw [X11_findPlans_L151, sh31 st (by omega), if_neg (nI_ge hi (by omega)), e2, Option.bind_some, nI_add1]) (fun m ν' P => by
    show X11_findPlans_L151 134 (nI p) (nI (2 ^ pK μ p)) (nI st) (m + 1) (nI (2 ^ st)) ν' = _
    rw [X11_findPlans_L151, sh31 st (by omega), if_pos (nI_le (Nat.le_refl _) (by omega))]) ν ⟨s, fun _ _ => rfl, fun _ _ => rfl, fun left pl hl hq => by omega⟩
  exact ⟨ν', _, ⟨P1, P2, P3, fun left hl pl hq => P4 left pl hl hq⟩, e⟩
theorem gain127 (I : Inv μ) (hp : p < 4) {ν : Mem} {st : Nat} (hst : st < 6) (s : Sm μ ν) (pk : PKm μ p ν) : ∃ ν' x, (Sm μ ν' ∧ (∀ a, ¬ (141 ≤ a ∧ a ≤ 144) → a ≠ 168 → a ≠ 169 → mI ν' a = mI ν a) ∧ (∀ a j, a = 168 ∨ a = 169 → ¬ (64 * st ≤ j ∧ j < 64 * st + 64) → mI ν' a j = mI ν a j) ∧ Gs μ p st ν') ∧ X11_findPlans_L127 134 (nI p) (nI (2 ^ pK μ p)) (nI st) FU 1 ν = some (x, ν') := by
  obtain ⟨a1, a2, a3⟩ := allK (μ := μ) (p := p)
  obtain ⟨ν', ⟨P1, P2, P3, P4⟩, e⟩ := loopG (F := fun m (ν' : Mem) i => X11_findPlans_L127 134 (nI p) (nI (2 ^ pK μ p)) (nI st) m (nI i) ν') (P := fun i ν' => Sm μ ν' ∧ (∀ a, ¬ (141 ≤ a ∧ a ≤ 144) → a ≠ 168 → a ≠ 169 → mI ν' a = mI ν a) ∧ (∀ a j, a = 168 ∨ a = 169 → ¬ (64 * st ≤ j ∧ j < 64 * st + 64) → mI ν' a j = mI ν a j) ∧ ∀ x, 1 ≤ x → x < i → RI (mI ν' 168 (64 * st + x)) (mI ν' 169 (64 * st + x)) (cGW μ p st x)) (i0 := 1) (n := 2 ^ pK μ p) (r := fun ν' => (nI (2 ^ pK μ p), ν')) (by omega) a2 (fun m ν' i i1 hi P => by
    obtain ⟨s1, fa, fj, c⟩ := P
    have pk1 : PKm μ p ν' := by
      unfold PKm
      rw [fa 134 (by decide) (by decide) (by decide), fa 166 (by decide) (by decide) (by decide)]
      exact pk
    obtain ⟨ν2, ⟨s2, fa2, fj2, c2⟩, e2⟩ := gain_m I hp hst (show i ≠ 0 by omega) hi s1 pk1
    refine ⟨ν2, ⟨s2, fun a q1 q2 q3 => (fa2 a q1 q2 q3).trans (fa a q1 q2 q3), fun a j ha hj => ?_, fun x x1 x2 => ?_⟩, ?_⟩
    · rw [fj2 a j ha (by omega)]
      exact fj a j ha hj
    · by_cases z : x = i
      · subst z
        exact c2
      · rw [fj2 168 _ (Or.inl rfl) (by omega), fj2 169 _ (Or.inr rfl) (by omega)]
        exact c x x1 (by omega)
    · show X11_findPlans_L127 134 (nI p) (nI (2 ^ pK μ p)) (nI st) (m + 1) (nI i) ν' = _
      rw [X11_findPlans_L127, if_neg (nI_ge hi (by omega)), vo_134 s1.1, Option.bind_some, e2, Option.bind_some, nI_add1]) (fun m ν' P => by
    show X11_findPlans_L127 134 (nI p) (nI (2 ^ pK μ p)) (nI st) (m + 1) (nI (2 ^ pK μ p)) ν' = _
    rw [X11_findPlans_L127, if_pos (nI_le (Nat.le_refl _) (by omega))]) ν ⟨s, fun _ _ _ _ => rfl, fun _ _ _ _ => rfl, fun x x1 x2 => by omega⟩
  exact ⟨ν', _, ⟨P1, P2, P3, P4⟩, e⟩
theorem st119 (I : Inv μ) (hp : p < 4) (hn : n ≤ 6) : ∀ r k ν, r ≤ n → FPm μ p n r ν → ∃ ν' x, FPm μ p n 0 ν' ∧ X11_findPlans_L119 134 (nI p) (nI (2 ^ pK μ p)) (k + r + 1) (nI r + (-1)) ν = some (x, ν')
  | 0, k, ν, _, h => by
    refine ⟨ν, nI 0 + (-1), h, ?_⟩
    rw [X11_findPlans_L119, if_pos (by decide)]
  | r + 1, k, ν, hr, h => by
    obtain ⟨s, pk, g, b⟩ := h
    obtain ⟨a1, a2, a3⟩ := allK (μ := μ) (p := p)
    have h6 := p2_s (show r ≤ 6 by omega)
    obtain ⟨ν1, x1, ⟨s1, fa1, fj1, g1⟩, e1⟩ := gain127 I hp (st := r) (by omega) s pk
    have pk1 : PKm μ p ν1 := by
      unfold PKm
      rw [fa1 134 (by decide) (by decide) (by decide), fa1 166 (by decide) (by decide) (by decide)]
      exact pk
    have b1 : ∀ s, r + 1 ≤ s → s ≤ n → Bt μ p n s ν1 := fun s q1 q2 => by
      unfold Bt
      rw [fa1 167 (by decide) (by decide) (by decide)]
      exact b s q1 q2
    obtain ⟨ν2, x2, ⟨s2, fa2, fj2, b2⟩, e2⟩ := pl151 I hp hn (st := r) (by omega) s1 pk1 g1 (b1 (r + 1) (Nat.le_refl _) hr)
    have h2 : FPm μ p n r ν2 := by
      refine ⟨s2, ?_, fun s q1 q2 => ?_, fun s q1 q2 => ?_⟩
      · unfold PKm
        rw [fa2 134 (by decide), fa2 166 (by decide)]
        exact pk1
      · unfold Gs
        rw [fa2 168 (by decide), fa2 169 (by decide)]
        by_cases z : s = r
        · subst z
          exact g1
        · intro x y1 y2
          rw [fj1 168 _ (Or.inl rfl) (by omega), fj1 169 _ (Or.inr rfl) (by omega)]
          exact g s (by omega) q2 x y1 y2
      · by_cases z : s = r
        · subst z
          exact b2
        · intro left hl pl hq
          have hs6 := p2_s (show s ≤ 6 by omega)
          rw [fj2 _ (by omega)]
          exact b1 s (by omega) q2 left hl pl hq
    obtain ⟨ν3, x3, h3, e3⟩ := st119 I hp hn r k ν2 (by omega) h2
    refine ⟨ν3, x3, h3, ?_⟩
    rw [show k + (r + 1) + 1 = k + r + 1 + 1 by omega, X11_findPlans_L119, pk_m1, if_neg (nI_pos (by omega)), e1, Option.bind_some, e2, Option.bind_some]
    exact e3
theorem fill86 (hn : n ≤ 6) {ν : Mem} (s : Sm μ ν) (x1 x3 : Int32) : ∃ ν' x, (Sm μ ν' ∧ (∀ a, a ≠ 167 → mI ν' a = mI ν a) ∧ ∀ j, 4096 * n ≤ j → j < 4096 * n + 4096 → mI ν' 167 j = nI 0) ∧ X11_findPlans_L86 134 x1 (nI n) x3 FU (nI (4096 * n)) ν = some (x, ν') := by
  obtain ⟨ν', P, e⟩ := loopG (F := fun m (ν' : Mem) i => X11_findPlans_L86 134 x1 (nI n) x3 m (nI i) ν') (P := fun i ν' => Sm μ ν' ∧ (∀ a, a ≠ 167 → mI ν' a = mI ν a) ∧ ∀ j, 4096 * n ≤ j → j < i → mI ν' 167 j = nI 0) (i0 := 4096 * n) (n := 4096 * n + 4096) (r := fun ν' => (nI (4096 * n + 4096), ν')) (by omega) (by omega) (fun m ν' i i1 hi P => by
    obtain ⟨s1, fa, c⟩ := P
    refine ⟨wI ν' 167 i 0, ⟨s1.wI (corM (by decide) _), fun a q => ?_, fun j j1 j2 => ?_⟩, ?_⟩
    · rw [row_ne q]
      exact fa a q
    · by_cases z : j = i
      · subst z
        rw [fld_eq]
        rfl
      · rw [fld_ne (by omega)]
        exact c j j1 (by omega)
    · show X11_findPlans_L86 134 x1 (nI n) x3 (m + 1) (nI i) ν' = _
      rw [X11_findPlans_L86, show (4096 : Int32) = nI 4096 from rfl, pk_mul, nI_add, if_neg (nI_ge hi (by omega)), r_134_42 s1.1, Option.bind_some, si_167 s1.1 (by omega), Option.bind_some, nI_add1]) (fun m ν' P => by
    show X11_findPlans_L86 134 x1 (nI n) x3 (m + 1) (nI (4096 * n + 4096)) ν' = _
    rw [X11_findPlans_L86, show (4096 : Int32) = nI 4096 from rfl, pk_mul, nI_add, if_pos (nI_le (Nat.le_refl _) (by omega))]) ν ⟨s, fun _ _ => rfl, fun j j1 j2 => by omega⟩
  exact ⟨ν', _, P, e⟩
theorem plans_m (I : Inv μ) (hp : p < 4) (hn1 : 1 ≤ n) (hn : n ≤ 6) {ν : Mem} (s : Sm μ ν) : ∃ ν', FPm μ p n 0 ν' ∧ X11_findPlans 134 (nI p) (nI n) ν = some ν' := by
  obtain ⟨a1, a2, a3⟩ := allK (μ := μ) (p := p)
  have hK := pK_le μ p
  obtain ⟨ν1, x1, ⟨s1, pk1⟩, e1⟩ := pickM I hp (ν0 := wI ν 134 41 0) (s.wI cor41) fld_eq (nI n)
  obtain ⟨ν2, x2, ⟨s2, fa2, c2⟩, e2⟩ := fill86 (n := n) hn s1 (nI p) (nI (2 ^ pK μ p))
  have h2 : FPm μ p n n ν2 := by
    refine ⟨s2, ?_, fun s q1 q2 => by omega, fun s q1 q2 => ?_⟩
    · unfold PKm
      rw [fa2 134 (by decide), fa2 166 (by decide)]
      exact pk1
    · have e : s = n := by omega
      subst e
      intro left hl pl hq
      have h6 := p2_s (show s ≤ 6 by omega)
      rw [c2 _ (by omega) (by omega), Nat.sub_self]
      rfl
  obtain ⟨ν3, x3, h3, e3⟩ := st119 I hp hn n (99999 - n) ν2 (Nat.le_refl _) h2
  rw [show 99999 - n + n + 1 = FU by unfold FU; omega] at e3
  refine ⟨ν3, h3, ?_⟩
  unfold X11_findPlans
  rw [pi_134 s.1, Option.bind_some, e1, Option.bind_some, gi_134 s1.1, pk1.1, Option.bind_some, sh31 _ (by omega), Option.bind_some, show (4096 : Int32) = nI 4096 from rfl, pk_mul, Option.bind_some, e2, Option.bind_some, show nI n - 1 = nI n + (-1) from Int32.sub_eq_add_neg .., Option.bind_some, e3, Option.bind_some]
end MP
end
