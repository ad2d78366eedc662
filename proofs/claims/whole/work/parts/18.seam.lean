theorem look66 {μ : Mem} (h : Ok μ) (R : RelW μ) {p t k : Nat} (hk : k ≤ 8) (h0 : HI μ 19 4 (odd μ p t 0)) (m : Nat) : ∃ μ', (Sm μ μ' ∧ ∀ s, s ≤ k → HI μ' (19 + s) 4 (odd μ p t s)) ∧ X9_lookAhead_L66 1 (nI k) (m + 1 + k) 1 μ = some (nI (k + 1), μ') := by
  have key := loopP (F := fun m (a : Mem) d => X9_lookAhead_L66 1 (nI k) m (nI (d + 1)) a) (P := fun d a => Sm μ a ∧ ∀ s, s ≤ d → HI a (19 + s) 4 (odd μ p t s)) (n := k) (fun m a d hd P => by
    obtain ⟨s, hh⟩ := P
    have ha := s.1
    have Ra := R.sm s
    obtain ⟨b, ⟨ob, gb⟩, eb⟩ := move_ok (r1 := 19 + d) (r2 := 19 + (d + 1)) ha Ra (by omega) (by omega) (s_ahead (by omega)) (s_ahead (by omega)) (by omega) (cor_ahead (by omega)) (hh d (Nat.le_refl d)) (fun i hi => odd_le hi)
    refine ⟨b, ⟨s.tr (ob.sm (cor_ahead (by omega))), fun q hq => ?_⟩, ?_⟩
    · by_cases e : q = d + 1
      · subst e
        intro j hj
        rw [gb j hj]
        have emv := mv_sm s
        have etot : tot a = tot μ := funext fun i => by unfold tot; rw [emv]
        show nI _ = nI (mvS μ (odd μ p t d) 0 j + mvS μ (odd μ p t d) 1 j + mvS μ (odd μ p t d) 2 j + mvS μ (odd μ p t d) 3 j)
        unfold mvS
        rw [emv, etot]
      · exact (hh q (by omega)).oth ob (by omega)
    · show X9_lookAhead_L66 1 (nI k) (m + 1) (nI (d + 1)) a = _
      rw [X9_lookAhead_L66, if_neg (by rw [n_lt (by omega) (by omega)]; omega), if_neg (by rw [show (8 : Int32) = nI 8 from rfl, n_lt (by decide) (by omega)]; omega), r_1_4 ha, Option.bind_some, nI_pred, ar_ahead ha (by omega), Option.bind_some, Option.bind_some, ar_ahead ha (by omega), Option.bind_some, vO_eq (c := 9) (a := 1) ha (by decide) rfl, Option.bind_some, eb, Option.bind_some, nI_add1]) k (m + 1) μ 0 (by omega) ⟨Sm.rf h, fun q hq => by
      have : q = 0 := by omega
      subst this
      exact h0⟩
  obtain ⟨μ', P, e⟩ := key
  refine ⟨μ', P, ?_⟩
  refine e.trans ?_
  show X9_lookAhead_L66 1 (nI k) (m + 1) (nI (k + 1)) μ' = _
  rw [X9_lookAhead_L66, if_pos (by rw [n_lt (by omega) (by omega)]; omega)]
theorem look_ok {μ : Mem} (h : Ok μ) (R : RelW μ) {p t k : Nat} (hp : p < 4) (ht : t < 61) (hk : k ≤ 8) : ∃ μ', (Sm μ μ' ∧ ∀ s, s ≤ k → HI μ' (19 + s) 4 (odd μ p t s)) ∧ X9_lookAhead 1 (nI p) (nI t) (nI k) μ = some μ' := by
  obtain ⟨a, ⟨sa, hj⟩, ea⟩ := weigh_ok h R hp ht false
  have ew : allW μ false p t = wgt μ false p t 0 + wgt μ false p t 1 + wgt μ false p t 2 + wgt μ false p t 3 := rfl
  obtain ⟨b, ⟨ob, gb⟩, eb⟩ := look16 sa.1 hj (fun i hi => wgt_le R hp ht hi) (nI k) 99995
  have sb := sa.tr (ob.sm (cor_ahead (s := 0) (by decide)))
  obtain ⟨d, ⟨sd, gd⟩, ed⟩ := look66 sb.1 (R.sm sb) (p := p) (t := t) hk (by
    intro i hi
    rw [gb i hi, odd_sm sb]
    rfl) (99999 - k)
  refine ⟨d, ⟨sb.tr sd, fun s hs i hi => ?_⟩, ?_⟩
  · rw [gd s hs i hi, odd_sm sb]
  · rw [show 99995 + 1 + 4 = FU from rfl] at eb
    rw [show 99999 - k + 1 + k = FU by unfold FU; omega] at ed
    unfold X9_lookAhead
    rw [show (0 : Int32) = cI false from rfl, vO_eq (c := 9) (a := 1) h (by decide) rfl, Option.bind_some, ea, Option.bind_some, vO_eq (c := 9) (a := 1) sa.1 (by decide) rfl, Option.bind_some, allW_eq sa.1 hj, Option.bind_some, show cI false = (0 : Int32) from rfl, eb, Option.bind_some, ed, Option.bind_some]
/-! ===== bits ===== -/
def bt (x : Int32) (i : Nat) : Nat := if (x >>> (nI i &&& 31)) &&& 1 = 0 then 0 else 1
theorem and1 (x : Int32) : x &&& 1 = nI (if x &&& 1 = 0 then 0 else 1) := by
  have h := pk_and x (m := 1) 1 rfl
  rcases Nat.mod_two_eq_zero_or_one x.toBitVec.toNat with e | e
  · rw [e] at h
    rw [h]
    rfl
  · rw [e] at h
    rw [h]
    rfl
theorem bt_eq (x : Int32) (i : Nat) : (x >>> (nI i &&& 31)) &&& 1 = nI (bt x i) := and1 _
theorem bt_le (x : Int32) (i : Nat) : bt x i ≤ 1 := by
  unfold bt
  split <;> omega
theorem bt_z (x : Int32) (i : Nat) : ((x >>> (nI i &&& 31)) &&& 1 = 0) = (bt x i = 0) := by
  unfold bt
  split <;> simp_all
theorem bt_1 (x : Int32) (i : Nat) : ((x >>> (nI i &&& 31)) &&& 1 = 1) = (bt x i = 1) := by
  rw [bt_eq, show (1 : Int32) = nI 1 from rfl, n_eq (by have := bt_le x i; omega) (by decide)]
theorem has_eq (x : Int32) (i : Nat) : X10_contains x (nI i) = nI (bt x i) := by
  unfold X10_contains bt
  split <;> rfl
theorem has_z (x : Int32) (i : Nat) : (X10_contains x (nI i) = 0) = (bt x i = 0) := by
  rw [has_eq, ← nI_0, n_eq (by have := bt_le x i; omega) (by decide)]
/-- SEAM ODDS out of a row of odds -/
def sS (μ : Mem) (f : Nat → Nat) : Nat := bt (ss μ) 0 * f 0 + bt (ss μ) 1 * f 1 + bt (ss μ) 2 * f 2 + bt (ss μ) 3 * f 3
theorem sS_sm {μ μ' : Mem} (h : Sm μ μ') : sS μ' = sS μ := by
  funext f
  unfold sS
  rw [ss_sm h]
theorem bt_mul_le (x : Int32) (i y : Nat) : bt x i * y ≤ y := by
  have := Nat.mul_le_mul_right y (bt_le x i)
  omega
theorem sS_le {μ : Mem} {p t k : Nat} : sS μ (odd μ p t k) ≤ 1000000 := by
  have h := odd_sum (μ := μ) p t k
  have h0 := bt_mul_le (ss μ) 0 (odd μ p t k 0)
  have h1 := bt_mul_le (ss μ) 1 (odd μ p t k 1)
  have h2 := bt_mul_le (ss μ) 2 (odd μ p t k 2)
  have h3 := bt_mul_le (ss μ) 3 (odd μ p t k 3)
  unfold sum4 at h
  unfold sS
  omega
theorem seam_c {μ : Mem} (h : Ok μ) (R : RelW μ) {s : Nat} (hs : s < 9) {f : Nat → Nat} (hf : HI μ (19 + s) 4 f) : X9_seamOdds 1 (nI s) μ = some (nI (sS μ f)) := by
  have key := loopA (F := fun k (a : Int32) i => X9_seamOdds_L4 1 (nI s) μ k a (nI i)) (f := fun i a => a + nI (bt (ss μ) i * f i)) (n := 4) (fun k a i hi => by
    show X9_seamOdds_L4 1 (nI s) μ (k + 1) a (nI i) = _
    rw [X9_seamOdds_L4, if_neg (ge4 hi), gI_eq (a := 1) h (by decide) rfl, R.2.2.2.1.1, Option.bind_some]
    by_cases q : bt (ss μ) i = 0
    · rw [if_pos (by rw [has_z]; exact q), Option.bind_some, nI_add1, q, Nat.zero_mul, nI_0, Int32.add_zero]
    · have q1 : bt (ss μ) i = 1 := by have := bt_le (ss μ) i; omega
      rw [if_neg (by rw [has_z]; exact q), r_1_4 h, Option.bind_some, ar_ahead h hs, Option.bind_some, aI_eq h (by omega) (s_ahead hs) hi (by decide), Option.bind_some, Option.bind_some, hf i hi, nI_add1, q1, Nat.one_mul]) 4 99996 0 0 rfl
  have e : X9_seamOdds_L4 1 (nI s) μ FU 0 0 = some (nI (sS μ f), nI 4) := by
    refine (show X9_seamOdds_L4 1 (nI s) μ FU 0 0 = X9_seamOdds_L4 1 (nI s) μ (99996 + 4) 0 (nI 0) from rfl).trans (key.trans ?_)
    show X9_seamOdds_L4 1 (nI s) μ (99995 + 1) _ (nI 4) = _
    rw [X9_seamOdds_L4, if_pos (by decide)]
    simp only [itr, ← nI_0, nI_add, Nat.zero_add]
    rfl
  unfold X9_seamOdds
  rw [e, Option.bind_some]
