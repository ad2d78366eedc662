/-! ===== all prices of the class ===== -/
theorem pr25 {μ ν : Mem} (I : Inv μ) {p st : Nat} (hst : st < 6) (h : Bq μ p st ν) (x2 : Int32) : ∃ ν', (Fq ν ν' ∧ (∀ a, a ≠ 102 → mI ν' a = mI ν a) ∧ ∀ w, w < 4 → mI ν' 102 w = nI (lw μ p st w)) ∧ X4_price_L25 94 (nI st) x2 FU 0 ν = some (nI 4, ν') := by
  obtain ⟨o, W, C, T, S, X, L⟩ := I
  obtain ⟨ν', ⟨P1, P2, P3⟩, e⟩ := loopF (F := fun m (ν' : Mem) i => X4_price_L25 94 (nI st) x2 m (nI i) ν') (P := fun i ν' => Fq ν ν' ∧ (∀ a, a ≠ 102 → mI ν' a = mI ν a) ∧ ∀ w, w < i → mI ν' 102 w = nI (lw μ p st w)) (n := 4) (r := fun ν' => (nI 4, ν')) (by decide) (fun m ν' i hi P => by
    obtain ⟨f, fr, c⟩ := P
    have hB := h.fq (by omega) f
    have o' := hB.1.1
    have s' := hB.1
    have C' : RelC ν' := C.cg (fun q hq => s'.row (coA_4 (by omega) hq)) (s'.row rfl) (s'.row rfl) (s'.row rfl)
    have ls := loss_c o' C' (w := i) (r := 19 + st) hi (by omega) (s_ahead (by omega)) hB.2.2.2 (fun q hq => odd_le hq)
    rw [lsS_sm s'] at ls
    refine ⟨wI ν' 102 i (nI (lw μ p st i)), ⟨f.w (by omega), fun a q => ?_, fun w hw => ?_⟩, ?_⟩
    · rw [row_ne q]
      exact fr a q
    · by_cases z : w = i
      · subst z
        exact fld_eq
      · rw [fld_ne (by omega)]
        exact c w (by omega)
    · show X4_price_L25 94 (nI st) x2 (m + 1) (nI i) ν' = _
      rw [X4_price_L25, if_neg (ge4 hi), r_94_11 o', Option.bind_some, r_94_4 o', Option.bind_some, r_94_3 o', Option.bind_some, r_1_4 o', Option.bind_some, ar_ahead o' (by omega), Option.bind_some, vo_30 o', Option.bind_some, ls, Option.bind_some, si_102 o' hi, Option.bind_some, nI_add1]
      rfl) (fun m ν' P => by
    show X4_price_L25 94 (nI st) x2 (m + 1) (nI 4) ν' = _
    rw [X4_price_L25, if_pos (by decide)]) ν ⟨Fq.rf h.1.1, fun _ _ => rfl, fun w hw => by omega⟩
  exact ⟨ν', ⟨P1, P2, P3⟩, e⟩
theorem pr113 {μ ν : Mem} {p st j : Nat} (x1 x2 : Int32) (hj : j < pK μ p) (h : Bq μ p st ν) (hst : st < 6) (hv : ∀ x, x < 2 ^ j → mI ν 101 x = nI (vs μ p st x j)) : ∃ ν' z, (Fq ν ν' ∧ (∀ a, a ≠ 101 → mI ν' a = mI ν a) ∧ ∀ x, x < 2 ^ (j + 1) → mI ν' 101 x = nI (vs μ p st x (j + 1))) ∧ X4_price_L113 94 x1 x2 (nI j) (nI (oV μ p (pA μ p j) st)) FU 0 ν = some (z, ν') := by
  have hK := pK_le μ p
  have p6 : 2 ^ j ≤ 2 ^ 5 := Nat.pow_le_pow_right (by decide) (by omega)
  obtain ⟨ν', ⟨f, fr, lo, hi⟩, e⟩ := loopF (F := fun m (ν' : Mem) i => X4_price_L113 94 x1 x2 (nI j) (nI (oV μ p (pA μ p j) st)) m (nI i) ν') (P := fun i ν' => Fq ν ν' ∧ (∀ a, a ≠ 101 → mI ν' a = mI ν a) ∧ (∀ x, x < 2 ^ j → mI ν' 101 x = mI ν 101 x) ∧ ∀ r, r < i → mI ν' 101 (r ||| 2 ^ j) = nI (vs μ p st (r ||| 2 ^ j) (j + 1))) (n := 2 ^ j) (r := fun ν' => (nI (2 ^ j), ν')) (by omega) (fun m ν' i hi P => by
    obtain ⟨f, fr, lo, hiR⟩ := P
    obtain ⟨b1, b2, b3⟩ := or_rng hi hj hK
    have o' := f.1.1
    have ev : vs μ p st (i ||| 2 ^ j) (j + 1) = vs μ p st i j + oV μ p (pA μ p j) st := by rw [vs, if_pos tb_self, vs_or hi j (Nat.le_refl _)]
    refine ⟨wI ν' 101 (i ||| 2 ^ j) (nI (vs μ p st (i ||| 2 ^ j) (j + 1))), ⟨f.w (by omega), fun a q => ?_, fun x hx => ?_, fun r hr => ?_⟩, ?_⟩
    · rw [row_ne q]
      exact fr a q
    · rw [fld_ne (by omega)]
      exact lo x hx
    · by_cases z : r = i
      · subst z
        exact fld_eq
      · obtain ⟨-, -, c3⟩ := or_rng (show r < 2 ^ j by omega) hj hK
        rw [fld_ne (by omega)]
        exact hiR r (by omega)
    · show X4_price_L113 94 x1 x2 (nI j) (nI (oV μ p (pA μ p j) st)) (m + 1) (nI i) ν' = _
      rw [X4_price_L113, sh31 j (by omega), if_neg (nI_ge hi (by omega)), r_94_10 o', Option.bind_some, Option.bind_some, ai_101 o' (by omega), lo i hi, hv i hi, Option.bind_some, fa_or, nI_add, si_101 o' b2, Option.bind_some, nI_add1, ev]) (fun m ν' P => by
    show X4_price_L113 94 x1 x2 (nI j) (nI (oV μ p (pA μ p j) st)) (m + 1) (nI (2 ^ j)) ν' = _
    rw [X4_price_L113, sh31 j (by omega), if_pos (nI_le (Nat.le_refl _) (by omega))]) ν ⟨Fq.rf h.1.1, fun _ _ => rfl, fun _ _ => rfl, fun r hr => by omega⟩
  refine ⟨ν', _, ⟨f, fr, fun x hx => ?_⟩, e⟩
  by_cases z : x < 2 ^ j
  · rw [lo x z, hv x z, vs_hi z 1]
  · obtain ⟨r, hr, rfl⟩ : ∃ r, r < 2 ^ j ∧ x = r ||| 2 ^ j := by
      have hx2 : x < 2 ^ j * 2 := by rw [← Nat.pow_succ]; exact hx
      refine ⟨x - 2 ^ j, by omega, ?_⟩
      have := (or_rng (show x - 2 ^ j < 2 ^ j by omega) hj hK).2.2
      omega
    exact hi r hr
theorem price_c {μ ν : Mem} (I : Inv μ) {p st : Nat} (hp : p < 4) (hst : st < 6) (h : Bq μ p st ν) : ∃ ν', (Fq ν ν' ∧ (∀ a j, (a = 103 ∨ a = 104) → ¬ (st * 64 < j ∧ j < st * 64 + 2 ^ pK μ p) → mI ν' a j = mI ν a j) ∧ (∀ x, 1 ≤ x → x < 2 ^ pK μ p → mI ν' 103 (st * 64 + x) = nI (cG μ p st x) ∧ mI ν' 104 (st * 64 + x) = cW μ p st x) ∧ mI ν' 97 0 = nI (aT μ p (tn μ))) ∧ X4_price 94 (nI st) (nI (nw μ + st)) (lwA ν p) ν = some ν' := by
  have I0 := I
  obtain ⟨o, W, C, T, S, X, L⟩ := I
  have hn := W.2.2.2.2.2.2.2
  have hT := T.1.2.2
  have hK := pK_le μ p
  have p6 : 2 ^ pK μ p ≤ 2 ^ 6 := Nat.pow_le_pow_right (by decide) hK
  have oν := h.1.1
  have Iν := I0.sm h.1
  obtain ⟨a, ⟨oa, ga⟩, ea⟩ := open_c Iν (G := 97) (p := p) (u := nw μ + st) (r := 19 + st) (Or.inr rfl) hp (by omega) (by omega) (s_ahead (by omega)) h.2.2.2 (fun j hj => odd_le hj)
  have ga' : Gt μ 97 p (nw μ + st) (odd μ p (nw μ) st) a := by
    unfold Gt at ga ⊢
    rw [aT_sm h.1, kT_sm h.1, bW_sm h.1, lc_sm h.1, tn_sm h.1] at ga
    exact ga
  have fa : Fq ν a := ⟨oa.sm (isGt (Or.inr rfl)).2.2, fun b q1 _ _ _ _ => oa.2.2.2 b q1⟩
  have hBa := h.fq (by omega) fa
  obtain ⟨b, ⟨fb, frb, lb⟩, eb⟩ := pr25 I0 hst hBa (nI (nw μ + st))
  have ob := fb.1.1
  have fc : Fq a (wI b 101 0 0) := fb.w (by omega)
  have hBc := hBa.fq (by omega) fc
  obtain ⟨d, ⟨fd, frd, vd⟩, ed⟩ := loopF (F := fun m (ν' : Mem) i => X4_price_L72 94 (nI st) (nI (nw μ + st)) m (nI i) ν') (P := fun i ν' => Fq (wI b 101 0 0) ν' ∧ (∀ a', a' ≠ 101 → mI ν' a' = mI b a') ∧ ∀ x, x < 2 ^ i → mI ν' 101 x = nI (vs μ p st x i)) (n := pK μ p) (r := fun ν' => (nI (pK μ p), ν')) (by omega) (fun m ν' i hi P => by
    obtain ⟨f, fr, c⟩ := P
    have hB := hBc.fq (by omega) f
    have o' := hB.1.1
    have ti := pA_lt hi
    have se := seam_c o' (W.sm hB.1) (s := st) (by omega) hB.2.2.2
    rw [sS_sm hB.1] at se
    obtain ⟨ν2, z2, ⟨f2, fr2, c2⟩, e2⟩ := pr113 (nI st) (nI (nw μ + st)) hi hB hst c
    refine ⟨ν2, ⟨f.tr f2, fun a' q => (fr2 a' q).trans (fr a' q), c2⟩, ?_⟩
    show X4_price_L72 94 (nI st) (nI (nw μ + st)) (m + 1) (nI i) ν' = _
    rw [X4_price_L72, gi_94 o', hB.2.1.1, Option.bind_some, if_neg (nI_ge hi (by omega)), r_94_5 o', Option.bind_some, r_37_0 o', Option.bind_some, r_94_7 o', Option.bind_some, ai_98 o' (by omega), hB.2.1.2 i hi, Option.bind_some, ar_things o' (by omega), Option.bind_some, r_94_3 o', Option.bind_some, vo_1 o', Option.bind_some, se, Option.bind_some, vo_T o' (by omega), Option.bind_some, planV_c I0 hB.1 (by omega) (by omega), Option.bind_some, e2, Option.bind_some, nI_add1]) (fun m ν' P => by
    have hB := hBc.fq (by omega) P.1
    show X4_price_L72 94 (nI st) (nI (nw μ + st)) (m + 1) (nI (pK μ p)) ν' = _
    rw [X4_price_L72, gi_94 hB.1.1, hB.2.1.1, Option.bind_some, if_pos (nI_le (Nat.le_refl _) (by omega))]) (wI b 101 0 0) ⟨Fq.rf ob, fun a' q => row_ne q, fun x hx => by
      have : x = 0 := by
        have : x < 1 := hx
        omega
      subst this
      exact fld_eq⟩
  have ed : X4_price_L72 94 (nI st) (nI (nw μ + st)) FU 0 (wI b 101 0 0) = _ := ed
  have hBd := hBc.fq (by omega) fd
  have gd' : Gt μ 97 p (nw μ + st) (odd μ p (nw μ) st) d := by
    unfold Gt
    rw [frd 97 (by decide), frb 97 (by decide)]
    exact ga'
  have ld : ∀ w, w < 4 → mI d 102 w = nI (lw μ p st w) := fun w hw => by rw [frd 102 (by decide)]; exact lb w hw
  obtain ⟨e', ⟨fe, fre, gje, ge⟩, ee⟩ := loopG (F := fun m (ν' : Mem) i => X4_price_L159 94 (nI st) m (nI i) ν') (P := fun i ν' => Fq d ν' ∧ (∀ a', a' ≠ 103 → a' ≠ 104 → mI ν' a' = mI d a') ∧ (∀ a' j, ¬ (st * 64 < j ∧ j < st * 64 + 2 ^ pK μ p) → mI ν' a' j = mI d a' j) ∧ ∀ x, 1 ≤ x → x < i → mI ν' 103 (st * 64 + x) = nI (cG μ p st x) ∧ mI ν' 104 (st * 64 + x) = cW μ p st x) (i0 := 1) (n := 2 ^ pK μ p) (r := fun ν' => (nI (2 ^ pK μ p), ν')) (by omega) (Nat.one_le_two_pow) (fun m ν' i h1 hi P => by
    obtain ⟨f, fr, fj, c⟩ := P
    have hB := hBd.fq (by omega) f
    have o' := hB.1.1
    obtain ⟨ν2, ⟨f2, fr2, fj2, c1, c2⟩, e2⟩ := pset_c I0 hp hst (by omega) hi hB (by unfold Gt; rw [fr 97 (by decide) (by decide)]; exact gd') (by rw [fr 101 (by decide) (by decide)]; exact vd i hi) (fun w hw => by rw [fr 102 (by decide) (by decide)]; exact ld w hw)
    refine ⟨ν2, ⟨f.tr f2, fun a' q1 q2 => (fr2 a' q1 q2).trans (fr a' q1 q2), fun a' j q => (fj2 a' j (by omega)).trans (fj a' j q), fun x x1 x2 => ?_⟩, ?_⟩
    · by_cases z : x = i
      · subst z
        exact ⟨c1, c2⟩
      · rw [fj2 103 _ (by omega), fj2 104 _ (by omega)]
        exact c x x1 (by omega)
    · show X4_price_L159 94 (nI st) (m + 1) (nI i) ν' = _
      rw [X4_price_L159, gi_94 o', hB.2.1.1, Option.bind_some, sh31 _ (by omega), if_neg (nI_ge hi (by omega)), vo_94 o', Option.bind_some, show (64 : Int32) = nI 64 from rfl, pk_mul, nI_add, e2, Option.bind_some, nI_add1]) (fun m ν' P => by
    have hB := hBd.fq (by omega) P.1
    show X4_price_L159 94 (nI st) (m + 1) (nI (2 ^ pK μ p)) ν' = _
    rw [X4_price_L159, gi_94 hB.1.1, hB.2.1.1, Option.bind_some, sh31 _ (by omega), if_pos (nI_le (Nat.le_refl _) (by omega))]) d ⟨Fq.rf fd.1.1, fun _ _ _ => rfl, fun _ _ _ => rfl, fun x h1 h2 => by omega⟩
  have ee : X4_price_L159 94 (nI st) FU 1 d = _ := ee
  refine ⟨e', ⟨((fa.tr fc).tr fd).tr fe, fun a' j ha q => ?_, fun x h1 h2 => ge x h1 h2, ?_⟩, ?_⟩
  · rw [gje a' j q, frd a' (by omega), frb a' (by omega), oa.2.2.2 a' (by omega)]
  · rw [fre 97 (by decide) (by decide)]
    exact gd'.1
  · have s01 : sI 101 0 0 b = some (wI b 101 0 0) := si_101 (i := 0) ob (by decide)
    unfold X4_price
    rw [r_94_6 oν, Option.bind_some, r_94_5 oν, Option.bind_some, r_94_3 oν, Option.bind_some, r_1_4 oν, Option.bind_some, ar_ahead oν (by omega), Option.bind_some, vo_97 oν, Option.bind_some, ea, Option.bind_some, eb, Option.bind_some, r_94_10 ob, Option.bind_some, s01, Option.bind_some, ed, Option.bind_some, ee, Option.bind_some]
