/-! ===== the script ===== -/
def SX (G : GL) (X : CX) (b nx : Nat) (xs : Nat → Int32) : Prop := va_X b nx xs (xS X) (xS X).heap ∧ b < (xS X).heap.size ∧ ¬ gA G b
theorem aw_xs {G : GL} {X : CX} {cc : ByteArray} {nL : Nat} {own : String} {rm : Room} {cells slots pc b nx : Nat} {L : List (Nat × Value)} {st : List Value} {μ : Mem} {xs : Nat → Int32} (C : Ctx G X cc nL own rm) (hX : SX G X b nx xs) {i v : Int32} (h : xsA xs nx i = some v) (d : decode cc pc = .ok (.iaload, 1)) (k : AW G nL X cells slots (pc + 1) L (.int v :: st) μ) : AW G nL X cells slots pc L (.int i :: .ref b :: st) μ := by
  unfold xsA at h
  split at h
  · rename_i hi
    cases h
    exact fun H locs ls a1 b1 e => va_sld C.1 C.2.1 hX.1 hX.2.1 hX.2.2 e hi d (k H locs ls a1 b1 e)
  · cases h
theorem aw_xl {G : GL} {X : CX} {cc : ByteArray} {nL : Nat} {own : String} {rm : Room} {cells slots pc b nx : Nat} {L : List (Nat × Value)} {st : List Value} {μ : Mem} {xs : Nat → Int32} (C : Ctx G X cc nL own rm) (hX : SX G X b nx xs) (d : decode cc pc = .ok (.arraylength, 1)) (k : AW G nL X cells slots (pc + 1) L (.int (Int32.ofNat nx) :: st) μ) : AW G nL X cells slots pc L (.ref b :: st) μ := fun H locs ls a1 b1 e => va_slen C.1 C.2.1 hX.1 hX.2.1 hX.2.2 e d (k H locs ls a1 b1 e)
