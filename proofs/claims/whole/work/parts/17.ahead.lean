/-! ===== the class looks ahead ===== -/
def HI (μ : Mem) (a n : Nat) (f : Nat → Nat) : Prop := ∀ i, i < n → mI μ a i = nI (f i)
/-- only the ints of one row are written -/
def Onl (r : Nat) (μ μ' : Mem) : Prop := Ok μ' ∧ mR μ' = mR μ ∧ mJ μ' = mJ μ ∧ ∀ b, b ≠ r → mI μ' b = mI μ b
theorem Onl.rf {r : Nat} {μ : Mem} (h : Ok μ) : Onl r μ μ := ⟨h, rfl, rfl, fun _ _ => rfl⟩
theorem Onl.tr {r : Nat} {μ μ' μ'' : Mem} (h : Onl r μ μ') (h2 : Onl r μ' μ'') : Onl r μ μ'' := ⟨h2.1, h2.2.1.trans h.2.1, h2.2.2.1.trans h.2.2.1, fun b hb => (h2.2.2.2 b hb).trans (h.2.2.2 b hb)⟩
theorem Onl.wI {r k : Nat} {v : Int32} {μ μ' : Mem} (h : Onl r μ μ') : Onl r μ (wI μ' r k v) := ⟨h.1, h.2.1, h.2.2.1, fun b hb => (funext fun j => by rw [mI_wI, if_neg (fun q => hb q.1)]).trans (h.2.2.2 b hb)⟩
theorem Onl.sm {r : Nat} {μ μ' : Mem} (h : Onl r μ μ') (hr : ∀ k, cor r k = false) : Sm μ μ' := by
  refine ⟨h.1, fun a k q => ?_, by rw [h.2.1], by rw [h.2.1]⟩
  rw [h.2.2.2 a (fun e => by rw [e, hr k] at q; cases q)]
theorem HI.put {μ : Mem} {a n : Nat} {f : Nat → Nat} {v : Int32} (h : HI μ a n f) (hv : v = nI (f n)) : HI (wI μ a n v) a (n + 1) f := by
  intro i hi
  rw [mI_wI]
  by_cases e : i = n
  · subst e
    rw [if_pos ⟨rfl, rfl⟩, hv]
  · rw [if_neg (fun q => e q.2)]
    exact h i (by omega)
theorem HI.oth {r a n : Nat} {f : Nat → Nat} {μ μ' : Mem} (h : HI μ a n f) (o : Onl r μ μ') (hr : a ≠ r) : HI μ' a n f := by
  intro i hi
  rw [o.2.2.2 a hr]
  exact h i hi
theorem cor_ahead {s : Nat} (hs : s < 9) (k : Nat) : cor (19 + s) k = false := by
  rcases (show s = 0 ∨ s = 1 ∨ s = 2 ∨ s = 3 ∨ s = 4 ∨ s = 5 ∨ s = 6 ∨ s = 7 ∨ s = 8 by omega) with rfl | rfl | rfl | rfl | rfl | rfl | rfl | rfl | rfl <;> rfl
theorem ge4 {i : Nat} (hi : i < 4) : ¬ (4 : Int32) ≤ nI i := by
  rw [show (4 : Int32) = nI 4 from rfl, n_le (by decide) (by omega)]
  omega
theorem lN_pos {A : Nat} (hA : A < 2 ^ 63) : (0 < lg_cmp (lN A) 0) = (0 < A) := by
  rw [lg_cmp_gt, ← lN_0, pk_lLT (by decide) hA]
theorem lN_iz {A : Nat} (hA : A < 2 ^ 63) : (lg_cmp (lN A) 0 = 0) = (A = 0) := by
  rw [lg_cmp_eq, ← lN_0, pk_lEQ hA (by decide)]
theorem dvJ_eq {a b : Nat} (ha : a < 2 ^ 63) (h0 : 0 < b) (hb : b < 2 ^ 63) : dvJ (lN a) (lN b) = some (lN (a / b)) := by
  unfold dvJ
  rw [if_neg (fun q => by rw [← lN_0, pk_lEQ hb (by decide)] at q; omega), pk_lDiv ha h0 hb]
theorem dvI_eq {a b : Nat} (ha : a < 2 ^ 31) (h0 : 0 < b) (hb : b < 2 ^ 31) : dvI (nI a) (nI b) = some (nI (a / b)) := by
  unfold dvI
  rw [if_neg (fun q => by rw [← nI_0, n_eq hb (by decide)] at q; omega), pk_div ha h0 hb]
theorem look16 {μ : Mem} (h : Ok μ) {f : Nat → Nat} (hf : HJ μ (wtA μ) 4 f) (hb : ∀ i, i < 4 → f i ≤ 16 * 64 ^ 6) (x3 : Int32) (k : Nat) : ∃ μ', (Onl 19 μ μ' ∧ HI μ' 19 4 (fun i => if f 0 + f 1 + f 2 + f 3 = 0 then 0 else f i * 1000000 / (f 0 + f 1 + f 2 + f 3))) ∧ X9_lookAhead_L16 1 x3 (lN (f 0 + f 1 + f 2 + f 3)) (k + 1 + 4) 0 μ = some (nI 4, μ') := by
  have hA : f 0 + f 1 + f 2 + f 3 ≤ 64 * 64 ^ 6 := by
    have h0 := hb 0 (by decide)
    have h1 := hb 1 (by decide)
    have h2 := hb 2 (by decide)
    have h3 := hb 3 (by decide)
    omega
  have key := loopP (F := fun k (a : Mem) i => X9_lookAhead_L16 1 x3 (lN (f 0 + f 1 + f 2 + f 3)) k (nI i) a) (P := fun i a => Onl 19 μ a ∧ HI a 19 i (fun i => if f 0 + f 1 + f 2 + f 3 = 0 then 0 else f i * 1000000 / (f 0 + f 1 + f 2 + f 3))) (n := 4) (fun k a i hi P => by
    obtain ⟨o, hj⟩ := P
    have ha := o.1
    have w := wt_s ha
    have ewt : wtA a = wtA μ := by unfold wtA; rw [o.2.1]
    have eJ : aJ (wtA a) (nI i) a = some (lN (f i)) := (aJ_eq ha w.2.2.1 w.1 hi (by decide)).trans (by rw [ewt, o.2.2.1, hf i hi])
    have hfi := hb i hi
    have er : ((if (0 : Int32) < lg_cmp (lN (f 0 + f 1 + f 2 + f 3)) 0 then (gR 9 6 1 a).bind fun v5 => (aJ v5 (nI i) a).bind fun v6 => (dvJ (v6 * 1000000) (lN (f 0 + f 1 + f 2 + f 3))).bind fun v7 => some v7.toInt32 else some 0) : Option Int32) = some (nI (if f 0 + f 1 + f 2 + f 3 = 0 then 0 else f i * 1000000 / (f 0 + f 1 + f 2 + f 3))) := by
      by_cases q : f 0 + f 1 + f 2 + f 3 = 0
      · rw [if_neg (by rw [lN_pos (by omega)]; omega), if_pos q]
        rfl
      · rw [if_pos (by rw [lN_pos (by omega)]; omega), if_neg q, r_w6 ha, Option.bind_some, eJ, Option.bind_some, show (1000000 : Int64) = lN 1000000 from rfl, lN_mul, dvJ_eq (by omega) (by omega) (by omega), Option.bind_some, lN_i]
    refine ⟨wI a 19 i (nI (if f 0 + f 1 + f 2 + f 3 = 0 then 0 else f i * 1000000 / (f 0 + f 1 + f 2 + f 3))), ⟨o.wI, hj.put rfl⟩, ?_⟩
    show X9_lookAhead_L16 1 x3 (lN (f 0 + f 1 + f 2 + f 3)) (k + 1) (nI i) a = _
    rw [X9_lookAhead_L16, if_neg (ge4 hi), r_1_4 ha, Option.bind_some, show (0 : Int32) = nI 0 from rfl, ar_ahead ha (by decide), Option.bind_some, show nI 0 = (0 : Int32) from rfl, er, Option.bind_some, sI_eq ha (by decide) rfl hi (by decide), Option.bind_some, nI_add1]) 4 (k + 1) μ 0 rfl ⟨Onl.rf h, fun i hi => absurd hi (Nat.not_lt_zero i)⟩
  obtain ⟨μ', P, e⟩ := key
  refine ⟨μ', P, ?_⟩
  rw [← nI_0]
  refine e.trans ?_
  show X9_lookAhead_L16 1 x3 (lN (f 0 + f 1 + f 2 + f 3)) (k + 1) (nI 4) μ' = _
  rw [X9_lookAhead_L16, if_pos (by decide)]
def psm (μ : Mem) (f : Nat → Nat) (j : Nat) : Nat → Nat
  | 0 => 0
  | i + 1 => psm μ f j i + mvS μ f i j
section MOV
variable {μ : Mem} {r1 r2 : Nat} {f : Nat → Nat}
theorem move2 (h : Ok μ) (h2 : r2 < 175) (s2 : S0 r2 = (1, 4)) (k : Nat) : ∃ μ', (Onl r2 μ μ' ∧ HI μ' r2 4 (fun _ => 0)) ∧ X9_moveOn_L2 1 r1 r2 (k + 1 + 4) 0 μ = some (nI 4, μ') := by
  have key := loopP (F := fun k (a : Mem) i => X9_moveOn_L2 1 r1 r2 k (nI i) a) (P := fun i a => Onl r2 μ a ∧ HI a r2 i (fun _ => 0)) (n := 4) (fun k a i hi P => by
    obtain ⟨o, hj⟩ := P
    refine ⟨wI a r2 i 0, ⟨o.wI, hj.put rfl⟩, ?_⟩
    show X9_moveOn_L2 1 r1 r2 (k + 1) (nI i) a = _
    rw [X9_moveOn_L2, if_neg (ge4 hi), sI_eq o.1 h2 s2 hi (by decide), Option.bind_some, nI_add1]) 4 (k + 1) μ 0 rfl ⟨Onl.rf h, fun i hi => absurd hi (Nat.not_lt_zero i)⟩
  obtain ⟨μ', P, e⟩ := key
  refine ⟨μ', P, ?_⟩
  rw [← nI_0]
  refine e.trans ?_
  show X9_moveOn_L2 1 r1 r2 (k + 1) (nI 4) μ' = _
  rw [X9_moveOn_L2, if_pos (by decide)]
theorem move69 (h : Ok μ) (R : RelW μ) (h1 : r1 < 175) (h2 : r2 < 175) (s1 : S0 r1 = (1, 4)) (s2 : S0 r2 = (1, 4)) (hne : r1 ≠ r2) (hsc : ∀ k, cor r2 k = false) (hf : HI μ r1 4 f) (fb : ∀ i, i < 4 → f i ≤ 1000000) {g : Nat → Nat} (hg : HI μ r2 4 g) {i : Nat} (hi : i < 4) (ht : ¬ tot μ i = 0) (k : Nat) : ∃ μ', (Onl r2 μ μ' ∧ HI μ' r2 4 (fun j => g j + mvS μ f i j)) ∧ X9_moveOn_L69 1 r1 r2 (nI i) (nI (tot μ i)) (k + 1 + 4) 0 μ = some (nI 4, μ') := by
  have htt : tot μ i ≤ 16 := by
    have a0 := (R.1 i 0 hi (by decide)).2.2
    have a1 := (R.1 i 1 hi (by decide)).2.2
    have a2 := (R.1 i 2 hi (by decide)).2.2
    have a3 := (R.1 i 3 hi (by decide)).2.2
    unfold tot
    omega
  have key := loopP (F := fun k (a : Mem) j => X9_moveOn_L69 1 r1 r2 (nI i) (nI (tot μ i)) k (nI j) a) (P := fun j a => Onl r2 μ a ∧ HI a r2 j (fun j => g j + mvS μ f i j) ∧ ∀ j', j ≤ j' → j' < 4 → mI a r2 j' = nI (g j')) (n := 4) (fun k a j hj P => by
    obtain ⟨o, hp, hq⟩ := P
    have ha := o.1
    have Ra := R.sm (o.sm hsc)
    have emv : mv a = mv μ := mv_sm (o.sm hsc)
    refine ⟨wI a r2 j (nI (g j) + nI (f i * mv μ i j / tot μ i)), ⟨o.wI, hp.put ?_, fun j' q1 q2 => ?_⟩, ?_⟩
    · rw [nI_add]
      unfold mvS
      rw [if_neg ht]
    · rw [mI_wI, if_neg (fun q => by omega)]
      exact hq j' (by omega) q2
    · show X9_moveOn_L69 1 r1 r2 (nI i) (nI (tot μ i)) (k + 1) (nI j) a = _
      have m1 := (Ra.1 i j hi hj)
      rw [emv] at m1
      have m2 := fb i hi
      have m3 := m1.2.2
      have m4 : f i * mv μ i j ≤ 1000000 * 4 := Nat.mul_le_mul m2 m3
      rw [X9_moveOn_L69, if_neg (ge4 hj), aI_eq ha h2 s2 hj (by decide), hq j (Nat.le_refl _) hj, Option.bind_some, aI_eq ha h1 s1 hi (by decide), (hf.oth o hne) i hi, Option.bind_some, r_1_0 ha, Option.bind_some, ar_next ha hi, Option.bind_some, aI_eq ha (by omega) (s_next hi) hj (by decide), m1.1, Option.bind_some, pk_mul, dvI_eq (by omega) (by omega) (by omega), Option.bind_some, sI_eq ha h2 s2 hj (by decide), Option.bind_some, nI_add1]) 4 (k + 1) μ 0 rfl ⟨Onl.rf h, fun i hi => absurd hi (Nat.not_lt_zero i), fun j' _ q => hg j' q⟩
  obtain ⟨μ', P, e⟩ := key
  refine ⟨μ', ⟨P.1, P.2.1⟩, ?_⟩
  rw [← nI_0]
  refine e.trans ?_
  show X9_moveOn_L69 1 r1 r2 (nI i) (nI (tot μ i)) (k + 1) (nI 4) μ' = _
  rw [X9_moveOn_L69, if_pos (by decide)]
theorem move_ok (h : Ok μ) (R : RelW μ) (h1 : r1 < 175) (h2 : r2 < 175) (s1 : S0 r1 = (1, 4)) (s2 : S0 r2 = (1, 4)) (hne : r1 ≠ r2) (hsc : ∀ k, cor r2 k = false) (hf : HI μ r1 4 f) (fb : ∀ i, i < 4 → f i ≤ 1000000) : ∃ μ', (Onl r2 μ μ' ∧ HI μ' r2 4 (fun j => mvS μ f 0 j + mvS μ f 1 j + mvS μ f 2 j + mvS μ f 3 j)) ∧ X9_moveOn 1 r1 r2 μ = some μ' := by
  obtain ⟨a, ⟨oa, ga⟩, ea⟩ := move2 (r1 := r1) h h2 s2 99995
  have key := loopP (F := fun k (b : Mem) i => X9_moveOn_L19 1 r1 r2 k (nI i) b) (P := fun i b => Onl r2 μ b ∧ HI b r2 4 (fun j => psm μ f j i)) (n := 4) (fun k b i hi P => by
    obtain ⟨o, hp⟩ := P
    have hb := o.1
    have Rb := R.sm (o.sm hsc)
    have emv : mv b = mv μ := mv_sm (o.sm hsc)
    have etot : tot b i = tot μ i := by unfold tot; rw [emv]
    have htt : tot μ i ≤ 16 := by
      have a0 := (R.1 i 0 hi (by decide)).2.2
      have a1 := (R.1 i 1 hi (by decide)).2.2
      have a2 := (R.1 i 2 hi (by decide)).2.2
      have a3 := (R.1 i 3 hi (by decide)).2.2
      unfold tot
      omega
    have rd : ∀ j, j < 4 → aI (3 + i) (nI j) b = some (nI (mv μ i j)) := fun j hj => (aI_eq hb (by omega) (s_next hi) hj (by decide)).trans (by rw [(Rb.1 i j hi hj).1, emv])
    have st : X9_moveOn_L19 1 r1 r2 (k + 1) (nI i) b = (if nI (tot μ i) ≤ 0 then some b else (X9_moveOn_L69 1 r1 r2 (nI i) (nI (tot μ i)) FU 0 b).bind fun z16 => some z16.2).bind fun z17 => X9_moveOn_L19 1 r1 r2 k (nI (i + 1)) z17 := by
      rw [X9_moveOn_L19, if_neg (ge4 hi), show (0 : Int32) = nI 0 from rfl, show (1 : Int32) = nI 1 from rfl, show (2 : Int32) = nI 2 from rfl, show (3 : Int32) = nI 3 from rfl]
      simp only [r_1_0 hb, ar_next hb hi, rd 0 (by decide), rd 1 (by decide), rd 2 (by decide), rd 3 (by decide), Option.bind_some, nI_add]
      rfl
    by_cases q : tot μ i = 0
    · refine ⟨b, ⟨o, fun j hj => ?_⟩, ?_⟩
      · rw [hp j hj]
        show nI _ = nI (psm μ f j i + mvS μ f i j)
        unfold mvS
        rw [if_pos q]
        rfl
      · show X9_moveOn_L19 1 r1 r2 (k + 1) (nI i) b = _
        rw [st, if_pos (by rw [q]; decide), Option.bind_some]
    · obtain ⟨d, ⟨od, gd⟩, ed⟩ := move69 hb Rb h1 h2 s1 s2 hne hsc (hf.oth o hne) fb hp hi (by rw [etot]; exact q) 99995
      refine ⟨d, ⟨o.tr od, fun j hj => ?_⟩, ?_⟩
      · rw [gd j hj]
        show nI _ = nI (psm μ f j i + mvS μ f i j)
        unfold mvS
        rw [etot, emv]
      · show X9_moveOn_L19 1 r1 r2 (k + 1) (nI i) b = _
        rw [etot, show 99995 + 1 + 4 = FU from rfl] at ed
        rw [st, if_neg (by rw [← nI_0, n_le (by omega) (by decide)]; omega), ed]
        rfl) 4 99996 a 0 rfl ⟨oa, fun j hj => ga j hj⟩
  obtain ⟨μ', P, e⟩ := key
  refine ⟨μ', ⟨P.1, fun j hj => ?_⟩, ?_⟩
  · rw [P.2 j hj]
    show nI (0 + mvS μ f 0 j + mvS μ f 1 j + mvS μ f 2 j + mvS μ f 3 j) = _
    rw [Nat.zero_add]
  · have e2 : X9_moveOn_L19 1 r1 r2 FU 0 a = some (nI 4, μ') := by
      rw [← nI_0]
      refine e.trans ?_
      show X9_moveOn_L19 1 r1 r2 (99995 + 1) (nI 4) μ' = _
      rw [X9_moveOn_L19, if_pos (by decide)]
    rw [show 99995 + 1 + 4 = FU from rfl] at ea
    unfold X9_moveOn
    rw [ea, Option.bind_some, e2, Option.bind_some]
end MOV
