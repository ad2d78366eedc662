/-! ===== the memory behind the two constructors, looked at ===== -/
def m9 : Option Mem := (nO 10 0 mE).bind fun μ1 => (X10_init 0 μ1).bind fun μ3 => (nO 11 134 μ3).bind fun μ4 => X11_init 134 μ4
def all' (f : Nat → Bool) : Nat → Bool
  | 0 => true
  | n + 1 => f n && all' f n
theorem all_sp {f : Nat → Bool} : ∀ {n}, all' f n = true → ∀ i, i < n → f i = true
  | 0, _, i, hi => by omega
  | n + 1, h, i, hi => by
    rw [all', Bool.and_eq_true] at h
    by_cases z : i = n
    · rw [z]
      exact h.1
    · exact all_sp h.2 i (by omega)
def chN (μ : Mem) : Bool := mN μ == 175
def chS (μ : Mem) : Bool := all' (fun a => decide (mS μ a = S0 a)) 175
def chR (μ : Mem) : Bool := all' (fun a => quiet (S0 a) || all' (fun k => dynR a k || decide (mR μ a k = R0 a k)) 64) 175
def chD (μ : Mem) : Bool := decide (mR μ 1 6 = some 28) && (decide (mR μ 1 7 = some 29) && (decide (mR μ 0 9 = some 109) && all' (fun p => decide (mR μ 92 p = some (114 + 5 * p))) 4))
theorem ch_N : (m9.elim false chN) = true := by decide +kernel
theorem ch_S : (m9.elim false chS) = true := by decide +kernel
theorem ch_R : (m9.elim false chR) = true := by decide +kernel
theorem ch_D : (m9.elim false chD) = true := by decide +kernel
def chW1 (μ : Mem) : Bool := all' (fun i => all' (fun j => decide (mI μ (3 + i) j = nI (mv μ i j) ∧ mI μ 135 (4 * i + j) = nI (mv μ i j) ∧ mv μ i j ≤ 4)) 4) 4
def chW2 (μ : Mem) : Bool := all' (fun i => all' (fun j => decide (mI μ (8 + i) j = nI (sw μ i j) ∧ mI μ 136 (4 * i + j) = nI (sw μ i j) ∧ sw μ i j ≤ 4)) 4) 4
def chW3 (μ : Mem) : Bool := all' (fun i => decide (mI μ 12 i = nI (bg μ i) ∧ mI μ 137 i = nI (bg μ i) ∧ bg μ i ≤ 4)) 4
def chW4 (μ : Mem) : Bool := decide (mI μ 1 5 = ss μ ∧ ss μ = nI 0)
def chW5 (μ : Mem) : Bool := all' (fun p => all' (fun t => decide (mI μ (14 + p) t = sg μ p t ∧ sg μ p t = -1)) 61) 4
def chW6 (μ : Mem) : Bool := decide (mI μ 0 10 = nI (nw μ) ∧ mI μ 134 5 = nI (nw μ) ∧ nw μ ≤ 60)
def chC1 (μ : Mem) : Bool := all' (fun w => all' (fun s => decide (mI μ (32 + w) s = nI (cs μ w s) ∧ mI μ 154 (4 * w + s) = nI (cs μ w s) ∧ cs μ w s ≤ 999)) 4) 4
def chC2 (μ : Mem) : Bool := all' (fun w => decide (mI μ 36 w = nI (sn μ w) ∧ mI μ 155 w = nI (sn μ w) ∧ sn μ w ≤ 100)) 4
def chT1 (μ : Mem) : Bool := decide (mI μ 37 2 = nI (tn μ) ∧ mI μ 134 12 = nI (tn μ) ∧ tn μ ≤ 10)
def chT2 (μ : Mem) : Bool := all' (fun c => all' (fun t => decide (mI μ (40 + t) c = nI (tv μ c t) ∧ mI μ (145 + c) t = nI (tv μ c t) ∧ tv μ c t = 0)) 10) 9
def chS1 (μ : Mem) : Bool := decide (mI μ 37 3 = nI (sc μ) ∧ mI μ 134 45 = nI (sc μ) ∧ sc μ ≤ 40)
def chS2 (μ : Mem) : Bool := all' (fun c => all' (fun s => decide (mI μ (50 + s) c = nI (sv μ c s) ∧ mI μ (170 + c) s = nI (sv μ c s) ∧ sv μ c s = 0)) 40) 5
def chX1 (μ : Mem) : Bool := decide ((mI μ 90 0 = nI (tl μ) ∧ mI μ 134 34 = nI (tl μ) ∧ tl μ ≤ 160) ∧ mI μ 90 2 = mI μ 134 35)
def chX2 (μ : Mem) : Bool := all' (fun k => decide (mI μ 91 k = nI (tx μ k) ∧ mI μ 165 k = nI (tx μ k) ∧ tx μ k ≤ 255)) 160
def chL (μ : Mem) : Bool := all' (fun p => decide (mI μ (114 + 5 * p) 0 = nI (lc μ p) ∧ mI μ 156 p = nI (lc μ p) ∧ lc μ p = 0)) 4
theorem ch_W1 : (m9.elim false chW1) = true := by decide +kernel
theorem ch_W2 : (m9.elim false chW2) = true := by decide +kernel
theorem ch_W3 : (m9.elim false chW3) = true := by decide +kernel
theorem ch_W4 : (m9.elim false chW4) = true := by decide +kernel
theorem ch_W5 : (m9.elim false chW5) = true := by decide +kernel
theorem ch_W6 : (m9.elim false chW6) = true := by decide +kernel
theorem ch_C1 : (m9.elim false chC1) = true := by decide +kernel
theorem ch_C2 : (m9.elim false chC2) = true := by decide +kernel
theorem ch_T1 : (m9.elim false chT1) = true := by decide +kernel
theorem ch_T2 : (m9.elim false chT2) = true := by decide +kernel
theorem ch_S1 : (m9.elim false chS1) = true := by decide +kernel
theorem ch_S2 : (m9.elim false chS2) = true := by decide +kernel
theorem ch_X1 : (m9.elim false chX1) = true := by decide +kernel
theorem ch_X2 : (m9.elim false chX2) = true := by decide +kernel
theorem ch_L : (m9.elim false chL) = true := by decide +kernel
