section MR
variable {μ : Mem} {p u : Nat} {f g : Nat → Nat}
/-- one more tick: what comes behind, by the reference -/
def nxW (μ : Mem) (f : Nat → Nat) (p u j : Nat) : Nat := psF f (fun i => mv μ i j * psi μ false j (sg μ p u)) 4
def nxR (μ : Mem) (g : Nat → Nat) (p u j : Nat) : Nat := psF g (fun i => sgn (mv μ i j * psi μ false j (sg μ p u))) 4
theorem rows118 (h : Ok μ) (R : RelW μ) (hp : p < 4) (hu : u < 61) {j : Nat} (hj : j < 4) (hf : HJ μ 139 4 f) (hg : HI μ 141 4 g) (z1 : mJ μ 140 j = lN 0) (z2 : mI μ 142 j = nI 0) {F G : Nat → Nat} (hF : HJ μ 140 j F) (hG : HI μ 142 j G) (x2 : Int32) (k : Nat) : ∃ μ', (Sm μ μ' ∧ HJ μ' 139 4 f ∧ HI μ' 141 4 g ∧ HJ μ' 140 j F ∧ HI μ' 142 j G ∧ mJ μ' 140 j = lN (nxW μ f p u j) ∧ mI μ' 142 j = nI (nxR μ g p u j)) ∧ X11_findRows_L118 134 (nI p) x2 (nI u) (nI j) (k + 1 + 4) 0 μ = some (nI 4, μ') := by
  have key := loopP (F := fun k (a : Mem) i => X11_findRows_L118 134 (nI p) x2 (nI u) (nI j) k (nI i) a) (P := fun i a => Sm μ a ∧ HJ a 139 4 f ∧ HI a 141 4 g ∧ HJ a 140 j F ∧ HI a 142 j G ∧ mJ a 140 j = lN (psF f (fun i => mv μ i j * psi μ false j (sg μ p u)) i) ∧ mI a 142 j = nI (psF g (fun i => sgn (mv μ i j * psi μ false j (sg μ p u))) i)) (n := 4) (fun k a i hi P => by
    obtain ⟨s, q1, q2, q3, q4, q5, q6⟩ := P
    have ha := s.1
    have Ra := R.sm s
    have b1 : mv μ i j ≤ 4 := (R.1 i j hi hj).2.2
    have b2 : psi μ false j (sg μ p u) ≤ 4 := psi_le R hj hp hu
    have b3 : mv μ i j * psi μ false j (sg μ p u) ≤ 4 * 4 := Nat.mul_le_mul b1 b2
    generalize hB : mv μ i j * psi μ false j (sg μ p u) = B at b3
    have hb : Ok (wJ a 140 j (lN (psF f (fun i => mv μ i j * psi μ false j (sg μ p u)) (i + 1)))) := ha
    refine ⟨wI (wJ a 140 j (lN (psF f (fun i => mv μ i j * psi μ false j (sg μ p u)) (i + 1)))) 142 j (nI (psF g (fun i => sgn (mv μ i j * psi μ false j (sg μ p u))) (i + 1))), ⟨(s.wJ).wI (scr_m (by decide)), (q1.oth (by decide)).wI, (q2.wJ).oth2 (by decide), (q3.hi (Nat.le_refl _)).wI, (q4.wJ).hi (Nat.le_refl _), ?_, ?_⟩, ?_⟩
    · show mJ (wJ a 140 j _) 140 j = _
      rw [mJ_wJ, if_pos ⟨rfl, rfl⟩]
    · rw [mI_wI, if_pos ⟨rfl, rfl⟩]
    · show X11_findRows_L118 134 (nI p) x2 (nI u) (nI j) (k + 1) (nI i) a = _
      rw [X11_findRows_L118, if_neg (ge4 hi), r_134_0 ha, Option.bind_some, show (4 : Int32) = nI 4 from rfl, pk_mul, nI_add, aI_eq (a := 135) ha (by decide) rfl (by omega) (by decide), (Ra.1 i j hi hj).2.1, mv_sm s, Option.bind_some, vO_eq (c := 11) (a := 134) ha (by decide) rfl, Option.bind_some, shows_m ha Ra hp hu hj, psi_sm s, sg_sm s, Option.bind_some, pk_mul, hB, Option.bind_some, r_134_7 ha, Option.bind_some, aJ_eq (a := 140) ha (by decide) rfl hj (by decide), q5, Option.bind_some, r_134_6 ha, Option.bind_some, aJ_eq (a := 139) ha (by decide) rfl hi (by decide), q1 i hi, Option.bind_some, nI_l (by omega), lN_mul, lN_add]
      have e1 : psF f (fun i => mv μ i j * psi μ false j (sg μ p u)) i + f i * B = psF f (fun i => mv μ i j * psi μ false j (sg μ p u)) (i + 1) := by rw [← hB]; rfl
      rw [e1, sJ_eq (a := 140) ha (by decide) rfl hj (by decide), Option.bind_some, r_134_9 hb, Option.bind_some, aI_eq (a := 142) hb (by decide) rfl hj (by decide)]
      have e2 : mI (wJ a 140 j (lN (psF f (fun i => mv μ i j * psi μ false j (sg μ p u)) (i + 1)))) 142 j = nI (psF g (fun i => sgn (mv μ i j * psi μ false j (sg μ p u))) i) := q6
      have e3 : ((if nI B ≤ 0 then some 0 else (gR 11 8 134 (wJ a 140 j (lN (psF f (fun i => mv μ i j * psi μ false j (sg μ p u)) (i + 1))))).bind fun v15 => (aI v15 (nI i) (wJ a 140 j (lN (psF f (fun i => mv μ i j * psi μ false j (sg μ p u)) (i + 1))))).bind fun v16 => some v16) : Option Int32) = some (nI (g i * sgn B)) := by
        unfold sgn
        by_cases q : B = 0
        · rw [q, if_pos (by decide), if_pos rfl]
          rfl
        · rw [if_neg (by rw [← nI_0, n_le (by omega) (by decide)]; omega), if_neg q, r_134_8 hb, Option.bind_some, aI_eq (a := 141) hb (by decide) rfl hi (by decide), Option.bind_some, Nat.mul_one]
          exact congrArg some (q2 i hi)
      have e4 : psF g (fun i => sgn (mv μ i j * psi μ false j (sg μ p u))) i + g i * sgn B = psF g (fun i => sgn (mv μ i j * psi μ false j (sg μ p u))) (i + 1) := by rw [← hB]; rfl
      rw [e2, Option.bind_some, e3, Option.bind_some, nI_add, e4, sI_eq (a := 142) hb (by decide) rfl hj (by decide), Option.bind_some, nI_add1]) 4 (k + 1) μ 0 rfl ⟨Sm.rf h, hf, hg, hF, hG, z1, z2⟩
  obtain ⟨μ', P, e⟩ := key
  refine ⟨μ', P, ?_⟩
  rw [← nI_0]
  refine e.trans ?_
  show X11_findRows_L118 134 (nI p) x2 (nI u) (nI j) (k + 1) (nI 4) μ' = _
  rw [X11_findRows_L118, if_pos (by decide)]
theorem nx_sm {μ' : Mem} (s : Sm μ μ') : nxW μ' = nxW μ ∧ nxR μ' = nxR μ := by
  constructor
  · funext f p u j
    unfold nxW
    rw [mv_sm s, psi_sm s, sg_sm s]
  · funext f p u j
    unfold nxR
    rw [mv_sm s, psi_sm s, sg_sm s]
theorem rows93 (h : Ok μ) (R : RelW μ) (hp : p < 4) (hu : u < 61) (hf : HJ μ 139 4 f) (hg : HI μ 141 4 g) (x2 : Int32) (k : Nat) : ∃ μ', (Sm μ μ' ∧ HJ μ' 140 4 (nxW μ f p u) ∧ HI μ' 142 4 (nxR μ g p u)) ∧ X11_findRows_L93 134 (nI p) x2 (nI u) (k + 1 + 4) 0 μ = some (nI 4, μ') := by
  have key := loopP (F := fun k (a : Mem) j => X11_findRows_L93 134 (nI p) x2 (nI u) k (nI j) a) (P := fun j a => Sm μ a ∧ HJ a 139 4 f ∧ HI a 141 4 g ∧ HJ a 140 j (nxW μ f p u) ∧ HI a 142 j (nxR μ g p u)) (n := 4) (fun k a j hj P => by
    obtain ⟨s, q1, q2, q3, q4⟩ := P
    have ha := s.1
    have hb : Ok (wJ a 140 j (lN 0)) := ha
    have sc : Sm μ (wI (wJ a 140 j (lN 0)) 142 j (nI 0)) := (s.wJ).wI (scr_m (by decide))
    obtain ⟨b, ⟨s2, r1, r2, r3, r4, r5, r6⟩, eb⟩ := rows118 sc.1 (R.sm sc) hp hu hj (f := f) (g := g) ((q1.oth (by decide)).wI) ((q2.wJ).oth2 (by decide)) (by show mJ (wJ a 140 j _) 140 j = _; rw [mJ_wJ, if_pos ⟨rfl, rfl⟩]) (by rw [mI_wI, if_pos ⟨rfl, rfl⟩]) (F := nxW μ f p u) (G := nxR μ g p u) ((q3.hi (Nat.le_refl _)).wI) ((q4.wJ).hi (Nat.le_refl _)) x2 99995
    rw [(nx_sm sc).1] at r5
    rw [(nx_sm sc).2] at r6
    refine ⟨b, ⟨sc.tr s2, r1, r2, fun i hi => ?_, fun i hi => ?_⟩, ?_⟩
    · by_cases e : i = j
      · subst e
        exact r5
      · exact r3 i (by omega)
    · by_cases e : i = j
      · subst e
        exact r6
      · exact r4 i (by omega)
    · show X11_findRows_L93 134 (nI p) x2 (nI u) (k + 1) (nI j) a = _
      rw [X11_findRows_L93, if_neg (ge4 hj), r_134_7 ha, Option.bind_some, ← lN_0, sJ_eq (a := 140) ha (by decide) rfl hj (by decide), Option.bind_some, r_134_9 hb, Option.bind_some, ← nI_0, sI_eq (a := 142) hb (by decide) rfl hj (by decide), Option.bind_some, show nI 0 = (0 : Int32) from rfl, show FU = 99995 + 1 + 4 from rfl]
      rw [show (nI 0 : Int32) = 0 from rfl] at eb
      rw [eb, Option.bind_some, nI_add1]) 4 (k + 1) μ 0 rfl ⟨Sm.rf h, hf, hg, fun i hi => absurd hi (Nat.not_lt_zero i), fun i hi => absurd hi (Nat.not_lt_zero i)⟩
  obtain ⟨μ', P, e⟩ := key
  refine ⟨μ', ⟨P.1, P.2.2.2⟩, ?_⟩
  rw [← nI_0]
  refine e.trans ?_
  show X11_findRows_L93 134 (nI p) x2 (nI u) (k + 1) (nI 4) μ' = _
  rw [X11_findRows_L93, if_pos (by decide)]
theorem rows210 (h : Ok μ) (hf : HJ μ 140 4 f) (hg : HI μ 142 4 g) (x1 x2 x4 : Int32) (k : Nat) : ∃ μ', (Sm μ μ' ∧ HJ μ' 139 4 f ∧ HI μ' 141 4 g) ∧ X11_findRows_L210 134 x1 x2 x4 (k + 1 + 4) 0 μ = some (nI 4, μ') := by
  have key := loopP (F := fun k (a : Mem) j => X11_findRows_L210 134 x1 x2 x4 k (nI j) a) (P := fun j a => Sm μ a ∧ HJ a 140 4 f ∧ HI a 142 4 g ∧ HJ a 139 j f ∧ HI a 141 j g) (n := 4) (fun k a j hj P => by
    obtain ⟨s, q1, q2, q3, q4⟩ := P
    have ha := s.1
    have hb : Ok (wJ a 139 j (lN (f j))) := ha
    refine ⟨wI (wJ a 139 j (lN (f j))) 141 j (nI (g j)), ⟨(s.wJ).wI (scr_m (by decide)), (q1.oth (by decide)).wI, (q2.wJ).oth2 (by decide), (q3.put rfl).wI, (q4.wJ).put rfl⟩, ?_⟩
    show X11_findRows_L210 134 x1 x2 x4 (k + 1) (nI j) a = _
    rw [X11_findRows_L210, if_neg (ge4 hj), r_134_6 ha, Option.bind_some, r_134_7 ha, Option.bind_some, aJ_eq (a := 140) ha (by decide) rfl hj (by decide), q1 j hj, Option.bind_some, sJ_eq (a := 139) ha (by decide) rfl hj (by decide), Option.bind_some, r_134_8 hb, Option.bind_some, r_134_9 hb, Option.bind_some, aI_eq (a := 142) hb (by decide) rfl hj (by decide), show mI (wJ a 139 j (lN (f j))) 142 j = nI (g j) from q2 j hj, Option.bind_some, sI_eq (a := 141) hb (by decide) rfl hj (by decide), Option.bind_some, nI_add1]) 4 (k + 1) μ 0 rfl ⟨Sm.rf h, hf, hg, fun i hi => absurd hi (Nat.not_lt_zero i), fun i hi => absurd hi (Nat.not_lt_zero i)⟩
  obtain ⟨μ', P, e⟩ := key
  refine ⟨μ', ⟨P.1, P.2.2.2⟩, ?_⟩
  rw [← nI_0]
  refine e.trans ?_
  show X11_findRows_L210 134 x1 x2 x4 (k + 1) (nI 4) μ' = _
  rw [X11_findRows_L210, if_pos (by decide)]
theorem nxW_eq (c : Nat → Nat) (st d : Nat) (hc : ∀ i, i < 4 → c i = wN μ false p st d i) (j : Nat) : nxW μ c p (st + d + 1) j = wN μ false p st (d + 1) j := by
  have h0 := hc 0 (by decide)
  have h1 := hc 1 (by decide)
  have h2 := hc 2 (by decide)
  have h3 := hc 3 (by decide)
  show 0 + c 0 * (mv μ 0 j * psi μ false j (sg μ p (st + d + 1))) + c 1 * (mv μ 1 j * psi μ false j (sg μ p (st + d + 1))) + c 2 * (mv μ 2 j * psi μ false j (sg μ p (st + d + 1))) + c 3 * (mv μ 3 j * psi μ false j (sg μ p (st + d + 1))) = (wN μ false p st d 0 * mv μ 0 j + wN μ false p st d 1 * mv μ 1 j + wN μ false p st d 2 * mv μ 2 j + wN μ false p st d 3 * mv μ 3 j) * psi μ false j (sg μ p (st + d + 1))
  rw [h0, h1, h2, h3, Nat.zero_add, Nat.add_mul, Nat.add_mul, Nat.add_mul, Nat.mul_assoc, Nat.mul_assoc, Nat.mul_assoc, Nat.mul_assoc]
theorem nxR_eq (c : Nat → Nat) (st d : Nat) (hc : ∀ i, i < 4 → c i = wN μ true p st d i) (j : Nat) : nxR μ c p (st + d + 1) j = wN μ true p st (d + 1) j := by
  have h0 := hc 0 (by decide)
  have h1 := hc 1 (by decide)
  have h2 := hc 2 (by decide)
  have h3 := hc 3 (by decide)
  show 0 + c 0 * sgn (mv μ 0 j * psi μ false j (sg μ p (st + d + 1))) + c 1 * sgn (mv μ 1 j * psi μ false j (sg μ p (st + d + 1))) + c 2 * sgn (mv μ 2 j * psi μ false j (sg μ p (st + d + 1))) + c 3 * sgn (mv μ 3 j * psi μ false j (sg μ p (st + d + 1))) = (wN μ true p st d 0 * fac true (mv μ 0 j) + wN μ true p st d 1 * fac true (mv μ 1 j) + wN μ true p st d 2 * fac true (mv μ 2 j) + wN μ true p st d 3 * fac true (mv μ 3 j)) * psi μ true j (sg μ p (st + d + 1))
  rw [h0, h1, h2, h3, Nat.zero_add, Nat.add_mul, Nat.add_mul, Nat.add_mul, fac_t, fac_t, fac_t, fac_t, psi_t, sgn_mul, sgn_mul, sgn_mul, sgn_mul, Nat.mul_assoc, Nat.mul_assoc, Nat.mul_assoc, Nat.mul_assoc]
theorem rows84 (h : Ok μ) (R : RelW μ) {st D : Nat} (hp : p < 4) (ht : st + D < 61) (hf : HJ μ 139 4 (wN μ false p st 0)) (hg : HI μ 141 4 (wN μ true p st 0)) (k : Nat) : ∃ μ', (Sm μ μ' ∧ HJ μ' 139 4 (wN μ false p st D) ∧ HI μ' 141 4 (wN μ true p st D)) ∧ X11_findRows_L84 134 (nI p) (nI (st + D)) (k + 1 + D) (nI (st + 1)) μ = some (nI (st + 1 + D), μ') := by
  have key := loopP (F := fun k (a : Mem) d => X11_findRows_L84 134 (nI p) (nI (st + D)) k (nI (st + 1 + d)) a) (P := fun d a => Sm μ a ∧ HJ a 139 4 (wN μ false p st d) ∧ HI a 141 4 (wN μ true p st d)) (n := D) (fun k a d hd P => by
    obtain ⟨s, q1, q2⟩ := P
    obtain ⟨b, ⟨sb, r1, r2⟩, eb⟩ := rows93 s.1 (R.sm s) hp (u := st + 1 + d) (by omega) q1 q2 (nI (st + D)) 99995
    obtain ⟨c, ⟨sc, t1, t2⟩, ec⟩ := rows210 sb.1 r1 r2 (nI p) (nI (st + D)) (nI (st + 1 + d)) 99995
    refine ⟨c, ⟨(s.tr sb).tr sc, fun i hi => ?_, fun i hi => ?_⟩, ?_⟩
    · rw [t1 i hi, (nx_sm s).1, show st + 1 + d = st + d + 1 by omega, nxW_eq _ st d (fun _ _ => rfl)]
    · rw [t2 i hi, (nx_sm s).2, show st + 1 + d = st + d + 1 by omega, nxR_eq _ st d (fun _ _ => rfl)]
    · show X11_findRows_L84 134 (nI p) (nI (st + D)) (k + 1) (nI (st + 1 + d)) a = _
      rw [X11_findRows_L84, if_neg (by rw [n_lt (by omega) (by omega)]; omega), show FU = 99995 + 1 + 4 from rfl, eb, Option.bind_some, ec, Option.bind_some, nI_add1]
      rfl) D (k + 1) μ 0 (by omega) ⟨Sm.rf h, hf, hg⟩
  obtain ⟨μ', P, e⟩ := key
  refine ⟨μ', P, ?_⟩
  refine e.trans ?_
  show X11_findRows_L84 134 (nI p) (nI (st + D)) (k + 1) (nI (st + 1 + D)) μ' = _
  rw [X11_findRows_L84, if_pos (by rw [n_lt (by omega) (by omega)]; omega)]
theorem rows_ok (h : Ok μ) (R : RelW μ) {t : Nat} (hp : p < 4) (ht : t < 61) : ∃ μ', (Sm μ μ' ∧ HJ μ' 139 4 (wgt μ false p t) ∧ HI μ' 141 4 (wgt μ true p t)) ∧ X11_findRows 134 (nI p) (nI t) μ = some μ' := by
  obtain ⟨a, ⟨sa, hj, hr⟩, e1⟩ := rows18 h R hp (st := t - 6) (by omega) (nI t) 99995
  obtain ⟨b, ⟨sb, hjb, hrb⟩, e2⟩ := rows84 sa.1 (R.sm sa) hp (st := t - 6) (D := t - (t - 6)) (by omega) (by intro i hi; rw [hj i hi, wN_sm sa]) (by intro i hi; rw [hr i hi, wN_sm sa]) (99999 - (t - (t - 6)))
  refine ⟨b, ⟨sa.tr sb, fun i hi => ?_, fun i hi => ?_⟩, ?_⟩
  · rw [hjb i hi, wN_sm sa]
    rfl
  · rw [hrb i hi, wN_sm sa]
    rfl
  · rw [show t - 6 + (t - (t - 6)) = t by omega, show 99999 - (t - (t - 6)) + 1 + (t - (t - 6)) = FU by unfold FU; omega] at e2
    have e0 : (if (6 : Int32) ≤ nI t then nI t - 6 else 0 : Int32) = nI (t - 6) := by
      by_cases q : 6 ≤ t
      · rw [if_pos (by rw [show (6 : Int32) = nI 6 from rfl, n_le (by decide) (by omega)]; exact q), show (6 : Int32) = nI 6 from rfl, pk_sub q]
      · rw [if_neg (by rw [show (6 : Int32) = nI 6 from rfl, n_le (by decide) (by omega)]; exact q), show t - 6 = 0 by omega]
        rfl
    rw [show 99995 + 1 + 4 = FU from rfl] at e1
    unfold X11_findRows
    simp only [e0, Option.bind_some, e1, nI_add1, e2]
end MR
