theorem lN_0 : lN 0 = 0 := rfl
theorem weigh93 {μ : Mem} (h : Ok μ) (R : RelW μ) {j : Nat} (hj : j < 4) {f : Nat → Nat} (hf : HJ μ (wtA μ) 4 f) (c : Bool) (x1 x2 x5 : Int32) (k : Nat) : X9_weigh_L93 1 x1 x2 (cI c) x5 (nI j) μ (k + 1 + 4) 0 0 = some (lN (f 0 * fac c (mv μ 0 j) + f 1 * fac c (mv μ 1 j) + f 2 * fac c (mv μ 2 j) + f 3 * fac c (mv μ 3 j)), nI 4) := by
  have key := loopA (F := fun k (a : Int64) i => X9_weigh_L93 1 x1 x2 (cI c) x5 (nI j) μ k a (nI i)) (f := fun i a => a + lN (f i * fac c (mv μ i j))) (n := 4) (fun k a i hi => by
    have w := wt_s h
    show X9_weigh_L93 1 x1 x2 (cI c) x5 (nI j) μ (k + 1) a (nI i) = _
    rw [X9_weigh_L93, if_neg (by rw [show (4 : Int32) = nI 4 from rfl, n_le (by decide) (by omega)]; omega)]
    simp only [r_w6 h, aJ_eq h w.2.2.1 w.1 hi (by decide), hf i hi, r_1_0 h, ar_next h hi, aI_eq h (by omega) (s_next hi) hj (by decide), (R.1 i j hi hj).1, Option.bind_some, factor_eq (show mv μ i j < 2 ^ 31 by have := (R.1 i j hi hj).2.2; omega), lN_mul, nI_add1]) 4 (k + 1) 0 0 rfl
  rw [show X9_weigh_L93 1 x1 x2 (cI c) x5 (nI j) μ (k + 1 + 4) 0 0 = X9_weigh_L93 1 x1 x2 (cI c) x5 (nI j) μ (k + 1 + 4) 0 (nI 0) from rfl]
  refine key.trans ?_
  show X9_weigh_L93 1 x1 x2 (cI c) x5 (nI j) μ (k + 1) _ (nI 4) = _
  rw [X9_weigh_L93, if_pos (by decide)]
  simp only [itr, ← lN_0, lN_add, Nat.zero_add]
theorem weigh81 {μ : Mem} (h : Ok μ) (R : RelW μ) {p u : Nat} (hp : p < 4) (hu : u < 61) {f : Nat → Nat} (hf : HJ μ (wtA μ) 4 f) (c : Bool) (x2 : Int32) (k : Nat) : ∃ μ', (Sm μ μ' ∧ wtA μ' = wtA μ ∧ wtB μ' = wtB μ ∧ HJ μ' (wtB μ) 4 (fun j => (f 0 * fac c (mv μ 0 j) + f 1 * fac c (mv μ 1 j) + f 2 * fac c (mv μ 2 j) + f 3 * fac c (mv μ 3 j)) * psi μ c j (sg μ p u))) ∧ X9_weigh_L81 1 (nI p) x2 (cI c) (nI u) (k + 1 + 4) 0 μ = some (nI 4, μ') := by
  have key := loopP (F := fun k (a : Mem) i => X9_weigh_L81 1 (nI p) x2 (cI c) (nI u) k (nI i) a) (P := fun i a => Sm μ a ∧ wtA a = wtA μ ∧ wtB a = wtB μ ∧ HJ a (wtA μ) 4 f ∧ HJ a (wtB μ) i (fun j => (f 0 * fac c (mv μ 0 j) + f 1 * fac c (mv μ 1 j) + f 2 * fac c (mv μ 2 j) + f 3 * fac c (mv μ 3 j)) * psi μ c j (sg μ p u))) (n := 4) (fun k a i hi P => by
    obtain ⟨s, ea, eb, hfa, hj⟩ := P
    have ha := s.1
    have Ra := R.sm s
    have w := wt_s ha
    have e2 := aI_eq ha (by omega) (s_signs hp) hu (by decide)
    have e3 := signF (c := c) ha Ra.2.1 hi (Ra.2.2.2.2.1 p u hp hu).2
    have e4 := weigh93 ha Ra hi (f := f) (by rw [ea]; exact hfa) c (nI p) x2 (nI u) 99995
    refine ⟨wJ a (wtB a) i (lN (f 0 * fac c (mv a 0 i) + f 1 * fac c (mv a 1 i) + f 2 * fac c (mv a 2 i) + f 3 * fac c (mv a 3 i)) * lN (psi a c i (sg a p u))), ⟨s.wJ, ea, eb, ?_, ?_⟩, ?_⟩
    rotate_left 2
    · show X9_weigh_L81 1 (nI p) x2 (cI c) (nI u) (k + 1) (nI i) a = _
      rw [X9_weigh_L81, if_neg (by rw [show (4 : Int32) = nI 4 from rfl, n_le (by decide) (by omega)]; omega), show FU = 99995 + 1 + 4 from rfl]
      simp only [e4, r_w7 ha, r_1_3 ha, ar_signs ha hp, vO_eq (c := 9) (a := 1) ha (by decide) rfl, e2, (Ra.2.2.2.2.1 p u hp hu).1, e3, Option.bind_some, sJ_eq ha w.2.2.2.1 w.2.1 hi (by decide), nI_add1]
    · rw [eb]
      exact hfa.oth (by rw [← ea, ← eb]; exact w.2.2.2.2)
    · rw [eb]
      refine hj.put ?_
      rw [lN_mul, mv_sm s, psi_sm s, sg_sm s]) 4 (k + 1) μ 0 rfl ⟨Sm.rf h, rfl, rfl, hf, fun i hi => absurd hi (Nat.not_lt_zero i)⟩
  obtain ⟨μ', P, e⟩ := key
  refine ⟨μ', ⟨P.1, P.2.1, P.2.2.1, P.2.2.2.2⟩, ?_⟩
  rw [← nI_0]
  refine e.trans ?_
  show X9_weigh_L81 1 (nI p) x2 (cI c) (nI u) (k + 1) (nI 4) μ' = _
  rw [X9_weigh_L81, if_pos (by decide)]
/-- the two rows of weights change places -/
def swp (μ : Mem) : Mem := wR (wR μ 1 6 (wtB μ)) 1 7 (wtA μ)
theorem swp_R {μ : Mem} {a k : Nat} (hd : ¬ (a = 1 ∧ (k = 6 ∨ k = 7))) : mR (swp μ) a k = mR μ a k := by
  unfold swp
  rw [mR_wR, if_neg (fun q => hd ⟨q.1, Or.inr q.2⟩), mR_wR, if_neg (fun q => hd ⟨q.1, Or.inl q.2⟩)]
theorem swp_6 {μ : Mem} : mR (swp μ) 1 6 = some (wtB μ) := rfl
theorem swp_7 {μ : Mem} : mR (swp μ) 1 7 = some (wtA μ) := rfl
theorem Ok.swp {μ : Mem} (h : Ok μ) : Ok (swp μ) := by
  obtain ⟨h1, h2, h3, ⟨h4, h5, h6⟩, h7⟩ := h
  refine ⟨h1, h2, fun a k hd => ?_, ⟨rfl, rfl, ?_⟩, ?_⟩
  · rw [swp_R (fun q => ?_)]
    · exact h3 a k hd
    · obtain ⟨rfl, rfl | rfl⟩ := q <;> cases hd
  · show (wtB μ = 28 ∧ wtA μ = 29) ∨ (wtB μ = 29 ∧ wtA μ = 28)
    omega
  · exact h7
theorem Sm.swp {μ μ' : Mem} (h : Sm μ μ') : Sm μ (swp μ') := ⟨h.1.swp, h.2.1, h.2.2.1, h.2.2.2⟩
theorem weigh72 {μ : Mem} (h : Ok μ) (R : RelW μ) {p st D : Nat} (hp : p < 4) (ht : st + D < 61) (c : Bool) (hf : HJ μ (wtA μ) 4 (wN μ c p st 0)) (k : Nat) : ∃ μ', (Sm μ μ' ∧ HJ μ' (wtA μ') 4 (wN μ c p st D)) ∧ X9_weigh_L72 1 (nI p) (nI (st + D)) (cI c) (k + 1 + D) (nI (st + 1)) μ = some (nI (st + 1 + D), μ') := by
  have key := loopP (F := fun k (a : Mem) d => X9_weigh_L72 1 (nI p) (nI (st + D)) (cI c) k (nI (st + 1 + d)) a) (P := fun d a => Sm μ a ∧ HJ a (wtA a) 4 (wN μ c p st d)) (n := D) (fun k a d hd P => by
    obtain ⟨s, hj⟩ := P
    have ha := s.1
    have Ra := R.sm s
    obtain ⟨b, ⟨sb, eA, eB, hb⟩, e⟩ := weigh81 ha Ra hp (u := st + 1 + d) (by omega) hj c (nI (st + D)) 99995
    refine ⟨swp b, ⟨(s.tr sb).swp, ?_⟩, ?_⟩
    · show HJ b (wtB b) 4 _
      rw [eB]
      intro i hi
      rw [hb i hi, mv_sm s, psi_sm s, sg_sm s, show st + 1 + d = st + d + 1 by omega]
      rfl
    · show X9_weigh_L72 1 (nI p) (nI (st + D)) (cI c) (k + 1) (nI (st + 1 + d)) a = _
      have hb1 := sb.1
      have hb2 : Ok (wR b 1 6 (wtB b)) → True := fun _ => trivial
      rw [X9_weigh_L72, if_neg (by rw [n_lt (by omega) (by omega)]; omega), show FU = 99995 + 1 + 4 from rfl]
      have p1 : pR 9 6 1 (wtB b) b = some (wR b 1 6 (wtB b)) := pR_eq hb1 (by decide) rfl
      have p2 : pR 9 7 1 (wtA b) (wR b 1 6 (wtB b)) = some (swp b) := if_pos ⟨hb1.1 ▸ (by decide), by show mS b 1 = _; rw [hb1.2.1]; rfl⟩
      simp only [e, Option.bind_some, r_w6 hb1, r_w7 hb1, p1, p2, nI_add1]
      rfl) D (k + 1) μ 0 (by omega) ⟨Sm.rf h, hf⟩
  obtain ⟨μ', P, e⟩ := key
  refine ⟨μ', P, ?_⟩
  refine e.trans ?_
  show X9_weigh_L72 1 (nI p) (nI (st + D)) (cI c) (k + 1) (nI (st + 1 + D)) μ' = _
  rw [X9_weigh_L72, if_pos (by rw [n_lt (by omega) (by omega)]; omega)]
theorem weigh_ok {μ : Mem} (h : Ok μ) (R : RelW μ) {p t : Nat} (hp : p < 4) (ht : t < 61) (c : Bool) : ∃ μ', (Sm μ μ' ∧ HJ μ' (wtA μ') 4 (wgt μ c p t)) ∧ X9_weigh 1 (nI p) (nI t) (cI c) μ = some μ' := by
  obtain ⟨a, ⟨sa, ea, eb, hja⟩, e1⟩ := weigh19 h R hp (st := t - 6) (by omega) c (nI t) 99995
  obtain ⟨b, ⟨sb, hjb⟩, e2⟩ := weigh72 sa.1 (R.sm sa) hp (st := t - 6) (D := t - (t - 6)) (by omega) c (by rw [ea]; intro i hi; rw [hja i hi, wN_sm sa]) (99999 - (t - (t - 6)))
  refine ⟨b, ⟨sa.tr sb, fun i hi => ?_⟩, ?_⟩
  · rw [hjb i hi, wN_sm sa]
    rfl
  · rw [show t - 6 + (t - (t - 6)) = t by omega, show 99999 - (t - (t - 6)) + 1 + (t - (t - 6)) = FU by unfold FU; omega] at e2
    have e0 : (if nI t ≤ 6 then 0 else nI t - 6 : Int32) = nI (t - 6) := by
      by_cases q : t ≤ 6
      · rw [if_pos (by rw [show (6 : Int32) = nI 6 from rfl, n_le (by omega) (by decide)]; exact q), show t - 6 = 0 by omega]
        rfl
      · rw [if_neg (by rw [show (6 : Int32) = nI 6 from rfl, n_le (by omega) (by decide)]; exact q), show (6 : Int32) = nI 6 from rfl, pk_sub (by omega)]
    rw [show 99995 + 1 + 4 = FU from rfl] at e1
    unfold X9_weigh
    simp only [e0, Option.bind_some, e1, nI_add1, e2]
