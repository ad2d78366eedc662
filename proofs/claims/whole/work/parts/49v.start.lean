/-! ===== the memory behind the two constructors, looked at ===== -/
def m9 : Option Mem := (nO 10 0 mE).bind fun μ1 => (X10_init 0 μ1).bind fun μ3 => (nO 11 134 μ3).bind fun μ4 => X11_init 134 μ4
def all' (f : Nat → Bool) : Nat → Bool
  | 0 => true
  | n + 1 => f n && all' f n
theorem all_sp {f : Nat → Bool} : ∀ {n}, all' f n = true → ∀ i, i < n → f i = true
  | 0, _, i, hi => by omega
  | n + 1, h, i, hi => by
    rw [all', Bool.and_eq_true] at h
    by_cases z : i = n
    · rw [z]
      exact h.1
    · exact all_sp h.2 i (by omega)
def chN (μ : Mem) : Bool := mN μ == 175
def chS (μ : Mem) : Bool := all' (fun a => decide (mS μ a = S0 a)) 175
def chR (μ : Mem) : Bool := all' (fun a => quiet (S0 a) || all' (fun k => dynR a k || decide (mR μ a k = R0 a k)) 64) 175
def chD (μ : Mem) : Bool := decide (mR μ 1 6 = some 28) && (decide (mR μ 1 7 = some 29) && (decide (mR μ 0 9 = some 109) && all' (fun p => decide (mR μ 92 p = some (114 + 5 * p))) 4))
theorem ch_N : (m9.elim false chN) = true := by decide +kernel
theorem ch_S : (m9.elim false chS) = true := by decide +kernel
theorem ch_R : (m9.elim false chR) = true := by decide +kernel
theorem ch_D : (m9.elim false chD) = true := by decide +kernel
