/-! ===== the reference's rows ===== -/
def sgn (x : Nat) : Nat := if x = 0 then 0 else 1
theorem fac_t (x : Nat) : fac true x = sgn x := by
  unfold fac sgn
  by_cases h : x = 0
  · subst h
    rfl
  · rw [if_pos ⟨rfl, by omega⟩, if_neg h]
theorem fac_f (x : Nat) : fac false x = x := rfl
theorem sgn_mul (a b : Nat) : sgn (a * b) = sgn a * sgn b := by
  unfold sgn
  by_cases ha : a = 0
  · subst ha
    simp
  · by_cases hb : b = 0
    · subst hb
      simp
    · rw [if_neg ha, if_neg hb, if_neg (Nat.mul_ne_zero ha hb)]
theorem psi_t (μ : Mem) (i : Nat) (s : Int32) : psi μ true i s = sgn (psi μ false i s) := by
  unfold psi
  split
  · rfl
  · exact fac_t _
theorem shows_m {μ : Mem} (h : Ok μ) (R : RelW μ) {p t i : Nat} (hp : p < 4) (ht : t < 61) (hi : i < 4) : X11_showsAt 134 (nI p) (nI t) (nI i) μ = some (nI (psi μ false i (sg μ p t))) := by
  unfold X11_showsAt
  rw [r_134_4 h, Option.bind_some, show (61 : Int32) = nI 61 from rfl, pk_mul, nI_add, aI_eq (a := 138) h (by decide) rfl (by omega) (by decide), Option.bind_some]
  show ((if (0 : Int32) ≤ sg μ p t then _ else _ : Option Int32)).bind _ = _
  unfold psi
  rcases (R.2.2.2.2.1 p t hp ht).2 with e | ⟨s, hs, e⟩
  · have e1 : mI μ 138 (61 * p + t) = -1 := e
    rw [e, if_neg (by decide), if_pos (by decide)]
    rfl
  · have e1 : mI μ 138 (61 * p + t) = nI s := e
    rw [e, if_pos (nI_pos' (by omega)), if_neg (nI_pos (by omega)), r_134_1 h, Option.bind_some, e1, show (4 : Int32) = nI 4 from rfl, pk_mul, nI_add, aI_eq (a := 136) h (by decide) rfl (by omega) (by decide), Option.bind_some, Option.bind_some, (R.2.1 i s hi hs).2.1, vN_nI (by omega), fac_f]
theorem scr_m {r k : Nat} (hr : r = 139 ∨ r = 140 ∨ r = 141 ∨ r = 142 ∨ r = 143 ∨ r = 144) : cor r k = false := by
  rcases hr with rfl | rfl | rfl | rfl | rfl | rfl <;> rfl
theorem HJ.wI {μ : Mem} {a n b k : Nat} {f : Nat → Nat} {v : Int32} (h : HJ μ a n f) : HJ (wI μ b k v) a n f := h
theorem HI.wJ {μ : Mem} {a n b k : Nat} {f : Nat → Nat} {v : Int64} (h : HI μ a n f) : HI (wJ μ b k v) a n f := h
theorem HI.oth2 {μ : Mem} {a b n k : Nat} {f : Nat → Nat} {v : Int32} (h : HI μ a n f) (hb : a ≠ b) : HI (wI μ b k v) a n f := by
  intro i hi
  rw [mI_wI, if_neg (fun q => hb q.1)]
  exact h i hi
theorem HJ.hi {μ : Mem} {a n k : Nat} {f : Nat → Nat} {v : Int64} (h : HJ μ a n f) (hk : n ≤ k) : HJ (wJ μ a k v) a n f := by
  intro i hi
  rw [mJ_wJ, if_neg (fun q => by omega)]
  exact h i hi
theorem HI.hi {μ : Mem} {a n k : Nat} {f : Nat → Nat} {v : Int32} (h : HI μ a n f) (hk : n ≤ k) : HI (wI μ a k v) a n f := by
  intro i hi
  rw [mI_wI, if_neg (fun q => by omega)]
  exact h i hi
def psF (f b : Nat → Nat) : Nat → Nat
  | 0 => 0
  | i + 1 => psF f b i + f i * b i
theorem rows18 {μ : Mem} (h : Ok μ) (R : RelW μ) {p st : Nat} (hp : p < 4) (hst : st < 61) (x2 : Int32) (k : Nat) : ∃ μ', (Sm μ μ' ∧ HJ μ' 139 4 (wN μ false p st 0) ∧ HI μ' 141 4 (wN μ true p st 0)) ∧ X11_findRows_L18 134 (nI p) x2 (nI st) (k + 1 + 4) 0 μ = some (nI 4, μ') := by
  have key := loopP (F := fun k (a : Mem) i => X11_findRows_L18 134 (nI p) x2 (nI st) k (nI i) a) (P := fun i a => Sm μ a ∧ HJ a 139 i (wN μ false p st 0) ∧ HI a 141 i (wN μ true p st 0)) (n := 4) (fun k a i hi P => by
    obtain ⟨s, hj, hr⟩ := P
    have ha := s.1
    have Ra := R.sm s
    have e0 : bg μ i ≤ 4 := (R.2.2.1 i hi).2.2
    have e1 : psi μ false i (sg μ p st) ≤ 4 := psi_le R hi hp hst
    have e2 : bg μ i * psi μ false i (sg μ p st) ≤ 4 * 4 := Nat.mul_le_mul e0 e1
    have ew : wN μ false p st 0 i = bg μ i * psi μ false i (sg μ p st) := rfl
    have ec : wN μ true p st 0 i = sgn (bg μ i * psi μ false i (sg μ p st)) := by
      show fac true (bg μ i) * psi μ true i (sg μ p st) = _
      rw [fac_t, psi_t, sgn_mul]
    refine ⟨wI (wJ a 139 i (lN (bg μ i * psi μ false i (sg μ p st)))) 141 i (nI (sgn (bg μ i * psi μ false i (sg μ p st)))), ⟨(s.wJ).wI (scr_m (by decide)), (hj.put (by rw [ew])).wI, (hr.wJ).put (by rw [ec])⟩, ?_⟩
    show X11_findRows_L18 134 (nI p) x2 (nI st) (k + 1) (nI i) a = _
    have hb : Ok (wJ a 139 i (lN (bg μ i * psi μ false i (sg μ p st)))) := ha
    rw [X11_findRows_L18, if_neg (ge4 hi), r_134_6 ha, Option.bind_some, r_134_2 ha, Option.bind_some, aI_eq (a := 137) ha (by decide) rfl hi (by decide), (Ra.2.2.1 i hi).2.1, bg_sm s, Option.bind_some, vO_eq (c := 11) (a := 134) ha (by decide) rfl, Option.bind_some, shows_m ha Ra hp hst hi, psi_sm s, sg_sm s, Option.bind_some, nI_l (by omega), nI_l (by omega), lN_mul, sJ_eq (a := 139) ha (by decide) rfl hi (by decide), Option.bind_some, r_134_8 hb, Option.bind_some, r_134_6 hb, Option.bind_some, aJ_eq (a := 139) hb (by decide) rfl hi (by decide), mJ_wJ, if_pos ⟨rfl, rfl⟩, Option.bind_some, Option.bind_some]
    have es : (if lg_cmp (lN (bg μ i * psi μ false i (sg μ p st))) 0 ≤ 0 then 0 else 1 : Int32) = nI (sgn (bg μ i * psi μ false i (sg μ p st))) := by
      unfold sgn
      by_cases q : bg μ i * psi μ false i (sg μ p st) = 0
      · rw [q]
        rfl
      · rw [if_neg q, if_neg (by rw [lg_cmp_le, ← lN_0, pk_lLE (by omega) (by decide)]; omega)]
        rfl
    rw [es, sI_eq (a := 141) hb (by decide) rfl hi (by decide), Option.bind_some, nI_add1]) 4 (k + 1) μ 0 rfl ⟨Sm.rf h, fun i hi => absurd hi (Nat.not_lt_zero i), fun i hi => absurd hi (Nat.not_lt_zero i)⟩
  obtain ⟨μ', P, e⟩ := key
  refine ⟨μ', P, ?_⟩
  rw [← nI_0]
  refine e.trans ?_
  show X11_findRows_L18 134 (nI p) x2 (nI st) (k + 1) (nI 4) μ' = _
  rw [X11_findRows_L18, if_pos (by decide)]
