/-! ===== the class's plan, step by step ===== -/
section TL
variable {μ : Mem} {p n : Nat}
theorem make156 (I : Inv μ) (hn : n ≤ 6) {st node : Nat} (hst : st < n) (hv : NV μ p st node) (x3 x5 x7 : Int32) (a4 : Nat) {ν : Mem} (h : Zp μ p n ν) (ht : ∀ s, st < s → Tt μ p n s ν) : ∃ ν' x, (Zp μ p n ν' ∧ (∀ s, st < s → Tt μ p n s ν') ∧ (∀ a, a ≠ 105 → mI ν' a = mI ν a) ∧ (∀ j, ¬ (node * 64 ≤ j ∧ j < node * 64 + 64) → mI ν' 105 j = mI ν 105 j) ∧ ∀ used, used < 2 ^ pK μ p → mI ν' 105 (node * 64 + used) = nI (BP μ p n (n - st) (nd (2 ^ pK μ p - 1) used) (plN st node))) ∧ X4_make_L156 94 x3 a4 x5 (nI st) x7 (nI node) (nI (mo μ p st (plN st node))) FU 0 ν = some (x, ν') := by
  obtain ⟨a1, a2, a3⟩ := allK (μ := μ) (p := p)
  have hK := pK_le μ p
  have rg := hv.rg
  obtain ⟨ν', P, e⟩ := loopF (F := fun m (ν' : Mem) i => X4_make_L156 94 x3 a4 x5 (nI st) x7 (nI node) (nI (mo μ p st (plN st node))) m (nI i) ν') (P := fun i ν' => Zp μ p n ν' ∧ (∀ s, st < s → Tt μ p n s ν') ∧ (∀ a, a ≠ 105 → mI ν' a = mI ν a) ∧ (∀ j, ¬ (node * 64 ≤ j ∧ j < node * 64 + 64) → mI ν' 105 j = mI ν 105 j) ∧ ∀ used, used < i → mI ν' 105 (node * 64 + used) = nI (BP μ p n (n - st) (nd (2 ^ pK μ p - 1) used) (plN st node))) (n := 2 ^ pK μ p) (r := fun ν' => (nI (2 ^ pK μ p), ν')) (by omega) (fun m ν' i hi P => by
    obtain ⟨zp, tt, fr, fj, c⟩ := P
    have d := decide_c I hn hst zp (tt (st + 1) (by omega)) hv hi rfl
    refine ⟨_, ⟨zp.w (a := 105) (k := node * 64 + i) (v := nI (foP μ p n st (nd (2 ^ pK μ p - 1) i) (plN st node) 63).2) (by omega), fun s hs => ?_, fun a q => ?_, fun j q => ?_, fun used hu => ?_⟩, ?_⟩
    · intro hsn node' hv' used hu
      have rg' := hv'.rg
      have hpw : 2 ^ (st + 1) ≤ 2 ^ s := Nat.pow_le_pow_right (by decide) (by omega)
      rw [fld_ne (by omega)]
      exact tt s hs hsn node' hv' used hu
    · rw [row_ne q]
      exact fr a q
    · rw [fld_ne (by omega)]
      exact fj j q
    · by_cases z : used = i
      · subst z
        rw [fld_eq, BP_s _ _ hst]
      · rw [fld_ne (by omega)]
        exact c used (by omega)
    · show X4_make_L156 94 x3 a4 x5 (nI st) x7 (nI node) (nI (mo μ p st (plN st node))) (m + 1) (nI i) ν' = _
      rw [X4_make_L156, gi_94 zp.1.1, zp.2.1.1.1, Option.bind_some, sh31 _ (by omega), if_neg (nI_ge hi (by omega)), vo_94 zp.1.1, Option.bind_some, d, Option.bind_some, nI_add1]) (fun m ν' P => by
    show X4_make_L156 94 x3 a4 x5 (nI st) x7 (nI node) (nI (mo μ p st (plN st node))) (m + 1) (nI (2 ^ pK μ p)) ν' = _
    rw [X4_make_L156, gi_94 P.1.1.1, P.1.2.1.1.1, Option.bind_some, sh31 _ (by omega), if_pos (nI_le (Nat.le_refl _) (by omega))]) ν ⟨h, ht, fun _ _ => rfl, fun _ _ => rfl, fun used hu => by omega⟩
  exact ⟨ν', _, P, e⟩
theorem make126 (I : Inv μ) (hp : p < 4) (hn : n ≤ 6) {st : Nat} (hst : st < n) {ν : Mem} (h : Zp μ p n ν) (ht : ∀ s, st < s → Tt μ p n s ν) : ∃ ν' x, (Zp μ p n ν' ∧ (∀ s, st ≤ s → Tt μ p n s ν') ∧ ∀ a, a ≠ 105 → a ≠ 106 → mI ν' a = mI ν a) ∧ X4_make_L126 94 (nI (nw μ)) (lwA ν p) (nI (ct μ p (nw μ) (sc μ))) (nI st) (nI (if cS μ p (lc μ p) = 0 then 1 else 2 ^ st)) FU (nI (2 ^ st)) ν = some (x, ν') := by
  have hp6 := p2_6 (show st < 6 by omega)
  have h2 : 2 ^ (st + 1) = 2 ^ st * 2 := Nat.pow_succ ..
  have h1 := Nat.two_pow_pos st
  have ⟨N, hN⟩ : ∃ N, N = 2 ^ st + (if cS μ p (lc μ p) = 0 then 1 else 2 ^ st) := ⟨_, rfl⟩
  have hN2 : N ≤ 2 ^ (st + 1) ∧ 2 ^ st < N := by
    rw [hN]
    split <;> omega
  have nv : ∀ i, 2 ^ st ≤ i → i < N → NV μ p st i := fun i i1 i2 => by
    unfold NV
    by_cases z : cS μ p (lc μ p) = 0
    · rw [if_pos z]
      rw [if_pos z] at hN
      omega
    · rw [if_neg z]
      rw [if_neg z] at hN
      omega
  have vn : ∀ i, NV μ p st i → i < N := fun i hi => by
    unfold NV at hi
    by_cases z : cS μ p (lc μ p) = 0
    · rw [if_pos z] at hi hN
      omega
    · rw [if_neg z] at hi hN
      omega
  obtain ⟨ν', ⟨zp, tt, fr, c⟩, e⟩ := loopG (F := fun m (ν' : Mem) i => X4_make_L126 94 (nI (nw μ)) (lwA ν p) (nI (ct μ p (nw μ) (sc μ))) (nI st) (nI (if cS μ p (lc μ p) = 0 then 1 else 2 ^ st)) m (nI i) ν') (P := fun i ν' => Zp μ p n ν' ∧ (∀ s, st < s → Tt μ p n s ν') ∧ (∀ a, a ≠ 105 → a ≠ 106 → mI ν' a = mI ν a) ∧ ∀ node, NV μ p st node → node < i → ∀ used, used < 2 ^ pK μ p → mI ν' 105 (node * 64 + used) = nI (BP μ p n (n - st) (nd (2 ^ pK μ p - 1) used) (plN st node))) (i0 := 2 ^ st) (n := N) (r := fun ν' => (nI N, ν')) (by omega) (by omega) (fun m ν' i i1 hi P => by
    obtain ⟨zp, tt, fr, c⟩ := P
    have hv := nv i i1 hi
    obtain ⟨a1, a2, a3⟩ := allK (μ := μ) (p := p)
    have lwe : lwA ν' p = lwA ν p := by rw [lw_sm zp.1, lw_sm h.1]
    obtain ⟨ν2, ⟨z2, fr2⟩, e2⟩ := mostAt_c I (st := st) (node := i) hp hst hn (by omega) zp
    rw [lwe] at e2
    have tt2 : ∀ s, st < s → Tt μ p n s ν2 := fun s hs => by
      unfold Tt
      rw [fr2 105 (by decide)]
      exact tt s hs
    obtain ⟨ν3, x3', ⟨z3, tt3, fr3, fj3, c3⟩, e3⟩ := make156 I hn hst hv (nI (nw μ)) (nI (ct μ p (nw μ) (sc μ))) (nI (if cS μ p (lc μ p) = 0 then 1 else 2 ^ st)) (lwA ν p) z2 tt2
    refine ⟨ν3, ⟨z3, tt3, fun a q1 q2 => ?_, fun node hv' hlt used hu => ?_⟩, ?_⟩
    · rw [fr3 a q1, fr2 a q2]
      exact fr a q1 q2
    · by_cases y : node = i
      · subst y
        exact c3 used hu
      · rw [fj3 _ (by omega), fr2 105 (by decide)]
        exact c node hv' (by omega) used hu
    · show X4_make_L126 94 (nI (nw μ)) (lwA ν p) (nI (ct μ p (nw μ) (sc μ))) (nI st) (nI (if cS μ p (lc μ p) = 0 then 1 else 2 ^ st)) (m + 1) (nI i) ν' = _
      rw [X4_make_L126, sh31 st (by omega), nI_add, ← hN, if_neg (nI_ge hi (by omega)), vo_94 zp.1.1, Option.bind_some, e2, Option.bind_some, e3, Option.bind_some, nI_add1]) (fun m ν' P => by
    show X4_make_L126 94 (nI (nw μ)) (lwA ν p) (nI (ct μ p (nw μ) (sc μ))) (nI st) (nI (if cS μ p (lc μ p) = 0 then 1 else 2 ^ st)) (m + 1) (nI N) ν' = _
    rw [X4_make_L126, sh31 st (by omega), nI_add, ← hN, if_pos (nI_le (Nat.le_refl _) (by omega))]) ν ⟨h, ht, fun _ _ _ => rfl, fun node hv hlt => by have := hv.rg; omega⟩
  refine ⟨ν', _, ⟨zp, fun s hs => ?_, fr⟩, e⟩
  by_cases y : s = st
  · subst y
    exact fun _ node hv used hu => c node hv (vn node hv) used hu
  · exact tt s (by omega)
theorem make98 (I : Inv μ) (hp : p < 4) (hn : n ≤ 6) (l0 : Nat) : ∀ r k ν, r ≤ n → lwA ν p = l0 → Zp μ p n ν → (∀ s, r ≤ s → Tt μ p n s ν) → ∃ ν' x, (Zp μ p n ν' ∧ (∀ s, Tt μ p n s ν') ∧ ∀ a, a ≠ 105 → a ≠ 106 → mI ν' a = mI ν a) ∧ X4_make_L98 94 (nI (nw μ)) l0 (nI (ct μ p (nw μ) (sc μ))) (k + r + 1) (nI r + (-1)) ν = some (x, ν')
  | 0, k, ν, _, _, h, ht => by
    refine ⟨ν, nI 0 + (-1), ⟨h, fun s => ht s (Nat.zero_le _), fun _ _ _ => rfl⟩, ?_⟩
    rw [X4_make_L98, if_pos (by decide)]
  | r + 1, k, ν, hr, hl, h, ht => by
    obtain ⟨ν1, x1, ⟨z1, t1, f1⟩, e1⟩ := make126 I hp hn (st := r) (by omega) h (fun s hs => ht s (by omega))
    have lwe : lwA ν1 p = l0 := by rw [lw_sm z1.1, ← lw_sm h.1, hl]
    obtain ⟨ν2, x2, ⟨z2, t2, f2⟩, e2⟩ := make98 I hp hn l0 r k ν1 (by omega) lwe z1 t1
    refine ⟨ν2, x2, ⟨z2, t2, fun a q1 q2 => (f2 a q1 q2).trans (f1 a q1 q2)⟩, ?_⟩
    have cl := cS_le μ p (lc μ p)
    have cc : (nI (cS μ p (lc μ p)) = 0) = (cS μ p (lc μ p) = 0) := n_eq (b := 0) (by omega) (by decide)
    rw [hl] at e1
    have ev : (if nI (cS μ p (lc μ p)) = 0 then (1 : Int32) else nI (2 ^ r)) = nI (if cS μ p (lc μ p) = 0 then 1 else 2 ^ r) := by
      simp only [cc]
      split <;> rfl
    rw [show k + (r + 1) + 1 = k + r + 1 + 1 by omega, X4_make_L98, pk_m1, if_neg (nI_pos (by omega)), gi_94 h.1.1, h.2.2.1.2, Option.bind_some, sh31 r (by omega), ev, Option.bind_some, Option.bind_some, e1, Option.bind_some]
    exact e2
/-- the walk along the best plan: what is left, in which steps something was said -/
noncomputable def chP (μ : Mem) (p n st left pl : Nat) : Nat := (foP μ p n st left pl 63).1
noncomputable def wk (μ : Mem) (p n : Nat) : Nat → Nat × Nat
  | 0 => (2 ^ pK μ p - 1, 0)
  | st + 1 => (nd (wk μ p n st).1 (chP μ p n st (wk μ p n st).1 (wk μ p n st).2), if chP μ p n st (wk μ p n st).1 (wk μ p n st).2 = 0 then (wk μ p n st).2 else (wk μ p n st).2 ||| 2 ^ st)
noncomputable def chW (μ : Mem) (p n st : Nat) : Nat := chP μ p n st (wk μ p n st).1 (wk μ p n st).2
theorem foP_nc (z : cS μ p (lc μ p) = 0) (st left pl pl' : Nat) : ∀ m, foP μ p n st left pl m = foP μ p n st left pl' m := fun m => by
  unfold foP
  rw [nc_eq z (n - st - 1) left pl pl']
  exact fo_cg m (fun x _ _ => by unfold elB; rw [mo_nc z, mo_nc z]) (fun x _ _ _ => by rw [nc_eq z (n - st - 1) (nd left x) (pl ||| 2 ^ st) (pl' ||| 2 ^ st)])
theorem chP_sub (st left pl : Nat) : chP μ p n st left pl &&& left = chP μ p n st left pl := by
  unfold chP foP
  rcases (fo_sp (elB (cG μ p) (aw μ p) (mo μ p) st pl left) (fun x => cG μ p st x + BP μ p n (n - st - 1) (nd left x) (pl ||| 2 ^ st)) (BP μ p n (n - st - 1) left pl) 63).2.2 with ⟨e, -⟩ | ⟨-, -, e, -⟩
  · rw [e, Nat.zero_and]
  · unfold elB at e
    rw [Bool.and_eq_true, decide_eq_true_eq] at e
    exact e.1
theorem wk_lt (st : Nat) : (wk μ p n st).1 < 2 ^ pK μ p := by
  obtain ⟨a1, a2, a3⟩ := allK (μ := μ) (p := p)
  induction st with
  | zero =>
    show 2 ^ pK μ p - 1 < 2 ^ pK μ p
    omega
  | succ st ih =>
    rw [wk]
    exact nd_lt _ ih
noncomputable def wyV (μ : Mem) (p n st : Nat) : Int32 := if chW μ p n st = 0 then -1 else cW μ p st (chW μ p n st)
theorem nd_zero_r {a : Nat} (ha : a < 64) : nd a 0 = a := by
  apply Nat.eq_of_testBit_eq
  intro i
  by_cases q : i < 31
  · rw [nd_bit q, Nat.zero_testBit, Bool.not_false, Bool.and_true]
  · have h1 : ∀ y, y < 64 → y.testBit i = false := fun y hy => Nat.testBit_lt_two_pow (Nat.lt_of_lt_of_le hy (show 2 ^ 6 ≤ 2 ^ i from Nat.pow_le_pow_right (by decide) (by omega)))
    rw [h1 _ (nd_lt _ ha), h1 _ ha]
theorem tell_c (I : Inv μ) (hp : p < 4) (hn : n ≤ 6) {ν : Mem} (h : Zp μ p n ν) (ht : ∀ s, Tt μ p n s ν) : ∃ ν', (Sm μ ν' ∧ mI ν' 94 0 = mI ν 94 0 ∧ ∀ s, s < n → mI ν' 95 s = nI (rS μ p (chW μ p n s)) ∧ mI ν' 96 s = wyV μ p n s) ∧ X4_tell 94 (nI (nw μ)) (nI (ct μ p (nw μ) (sc μ))) (lwA ν p) ν = some ν' := by
  obtain ⟨a1, a2, a3⟩ := allK (μ := μ) (p := p)
  have hK := pK_le μ p
  obtain ⟨b, P, e⟩ := loopF (F := fun m (b : (Nat × Nat) × Mem) i => X4_tell_L9 94 (nI (nw μ)) (nI (ct μ p (nw μ) (sc μ))) (lwA ν p) m (nI b.1.1) (nI b.1.2) (nI i) b.2) (P := fun i b => Zp μ p n b.2 ∧ (∀ s, Tt μ p n s b.2) ∧ mI b.2 94 0 = mI ν 94 0 ∧ NV μ p i b.1.1 ∧ b.1.2 < 2 ^ pK μ p ∧ nd (2 ^ pK μ p - 1) b.1.2 = (wk μ p n i).1 ∧ (¬ cS μ p (lc μ p) = 0 → plN i b.1.1 = (wk μ p n i).2) ∧ ∀ s, s < i → mI b.2 95 s = nI (rS μ p (chW μ p n s)) ∧ mI b.2 96 s = wyV μ p n s) (n := n) (r := fun b => (nI b.1.1, nI b.1.2, nI n, b.2)) (by omega) (fun m b i hi P => by
    obtain ⟨⟨node, used⟩, ν1⟩ := b
    obtain ⟨zp, tt, f0, hv, hu, hl, hpl, c⟩ : Zp μ p n ν1 ∧ (∀ s, Tt μ p n s ν1) ∧ mI ν1 94 0 = mI ν 94 0 ∧ NV μ p i node ∧ used < 2 ^ pK μ p ∧ nd (2 ^ pK μ p - 1) used = (wk μ p n i).1 ∧ (¬ cS μ p (lc μ p) = 0 → plN i node = (wk μ p n i).2) ∧ ∀ s, s < i → mI ν1 95 s = nI (rS μ p (chW μ p n s)) ∧ mI ν1 96 s = wyV μ p n s := P
    have rg := hv.rg
    have hp6 := p2_6 (show i < 6 by omega)
    have pl0 := plN_ok (st := i) (node := node) (by omega) (by omega) rg.1 rg.2
    have lwe : lwA ν1 p = lwA ν p := by rw [lw_sm zp.1, lw_sm h.1]
    obtain ⟨ν2, ⟨z2, fr2⟩, e2⟩ := mostAt_c I (st := i) (node := node) hp hi hn (by omega) zp
    rw [lwe] at e2
    have tt2 : ∀ s, Tt μ p n s ν2 := fun s => by
      unfold Tt
      rw [fr2 105 (by decide)]
      exact tt s
    have d := decide_c I hn hi z2 (tt2 (i + 1)) hv hu rfl
    have ef : foP μ p n i (nd (2 ^ pK μ p - 1) used) (plN i node) 63 = foP μ p n i (wk μ p n i).1 (wk μ p n i).2 63 := by
      rw [hl]
      by_cases z : cS μ p (lc μ p) = 0
      · exact foP_nc z _ _ _ _ _
      · rw [hpl z]
    have ech : (foP μ p n i (nd (2 ^ pK μ p - 1) used) (plN i node) 63).1 = chW μ p n i := by
      rw [ef]
      rfl
    have chs : chW μ p n i &&& (wk μ p n i).1 = chW μ p n i := chP_sub _ _ _
    have chK : chW μ p n i < 2 ^ pK μ p := Nat.lt_of_le_of_lt (sub_le chs) (wk_lt i)
    have z3 : Zp μ p n (wI ν2 105 (node * 64 + used) (nI (foP μ p n i (nd (2 ^ pK μ p - 1) used) (plN i node) 63).2)) := z2.w (by omega)
    have tt3 : ∀ s, Tt μ p n s (wI ν2 105 (node * 64 + used) (nI (foP μ p n i (nd (2 ^ pK μ p - 1) used) (plN i node) 63).2)) := fun s hsn node' hv' used' hu' => by
      by_cases y : node' * 64 + used' = node * 64 + used
      · have en : node' = node := by omega
        have eu : used' = used := by omega
        subst en
        subst eu
        have es : s = i := by
          have r1 := hv'.rg
          by_cases q1 : s < i
          · have : 2 ^ (s + 1) ≤ 2 ^ i := Nat.pow_le_pow_right (by decide) (by omega)
            omega
          · by_cases q2 : i < s
            · have : 2 ^ (i + 1) ≤ 2 ^ s := Nat.pow_le_pow_right (by decide) (by omega)
              omega
            · omega
        subst es
        rw [fld_eq, BP_s _ _ hi]
      · rw [fld_ne (by omega)]
        exact tt2 s hsn node' hv' used' hu'
    have cz : (nI (chW μ p n i) = 0) = (chW μ p n i = 0) := n_eq (b := 0) (by omega) (by decide)
    have ⟨ν5, e5⟩ : ∃ m, m = wI (wI (wI ν2 105 (node * 64 + used) (nI (foP μ p n i (nd (2 ^ pK μ p - 1) used) (plN i node) 63).2)) 95 i (nI (rS μ p (chW μ p n i)))) 96 i (wyV μ p n i) := ⟨_, rfl⟩
    have z4 : Zp μ p n (wI (wI ν2 105 (node * 64 + used) (nI (foP μ p n i (nd (2 ^ pK μ p - 1) used) (plN i node) 63).2)) 95 i (nI (rS μ p (chW μ p n i)))) := z3.w (by omega)
    have z5 : Zp μ p n ν5 := by
      rw [e5]
      exact z4.w (by omega)
    have ew : ((if nI (chW μ p n i) = 0 then some (-1) else (gR 4 13 94 (wI (wI ν2 105 (node * 64 + used) (nI (foP μ p n i (nd (2 ^ pK μ p - 1) used) (plN i node) 63).2)) 95 i (nI (rS μ p (chW μ p n i))))).bind fun v13 => (aI v13 (nI i * 64 + nI (chW μ p n i)) (wI (wI ν2 105 (node * 64 + used) (nI (foP μ p n i (nd (2 ^ pK μ p - 1) used) (plN i node) 63).2)) 95 i (nI (rS μ p (chW μ p n i))))).bind fun v14 => some v14 : Option Int32)) = some (wyV μ p n i) := by
      simp only [cz]
      unfold wyV
      by_cases y : chW μ p n i = 0
      · rw [if_pos y, if_pos y]
      · rw [if_neg y, if_neg y, r_94_13 z4.1.1, Option.bind_some, show (64 : Int32) = nI 64 from rfl, pk_mul, nI_add, ai_104 z4.1.1 (by omega), (z4.2.2.2.1 i (chW μ p n i) hi (by omega) chK).2, Option.bind_some]
    have e99 : mI (wI ν2 105 (node * 64 + used) (nI (foP μ p n i (nd (2 ^ pK μ p - 1) used) (plN i node) 63).2)) 99 (chW μ p n i) = nI (rS μ p (chW μ p n i)) := (z3.2.1.2 (chW μ p n i) chK).1
    have nb : X4_nodeBehind 94 (nI node) (if nI (chW μ p n i) = 0 then 0 else 1) ν5 = some (nI (if chW μ p n i = 0 then 2 * node else if cS μ p (lc μ p) = 0 then 2 * node else 2 * node + 1)) := by
      simp only [cz]
      by_cases y : chW μ p n i = 0
      · rw [if_pos y, if_pos y, behind0]
      · rw [if_neg y, if_neg y, behind1 z5]
    refine ⟨((if chW μ p n i = 0 then 2 * node else if cS μ p (lc μ p) = 0 then 2 * node else 2 * node + 1, used ||| chW μ p n i), ν5), ⟨z5, fun s => ?_, ?_, ?_, ?_, ?_, fun z => ?_, fun s hs => ?_⟩, ?_⟩
    · show Tt μ p n s ν5
      unfold Tt
      rw [e5, row_ne (by decide), row_ne (by decide)]
      exact tt3 s
    · show mI ν5 94 0 = _
      rw [e5, row_ne (by decide), row_ne (by decide), row_ne (by decide), fr2 94 (by decide)]
      exact f0
    · show NV μ p (i + 1) (if chW μ p n i = 0 then 2 * node else if cS μ p (lc μ p) = 0 then 2 * node else 2 * node + 1)
      by_cases y : chW μ p n i = 0
      · rw [if_pos y]
        exact hv.two
      · rw [if_neg y]
        by_cases y2 : cS μ p (lc μ p) = 0
        · rw [if_pos y2]
          exact hv.two
        · rw [if_neg y2]
          exact hv.one y2
    · exact Nat.or_lt_two_pow hu chK
    · show nd (2 ^ pK μ p - 1) (used ||| chW μ p n i) = (wk μ p n (i + 1)).1
      rw [nd_or a1, hl]
      rfl
    · show plN (i + 1) (if chW μ p n i = 0 then 2 * node else if cS μ p (lc μ p) = 0 then 2 * node else 2 * node + 1) = (wk μ p n (i + 1)).2
      show _ = if chW μ p n i = 0 then (wk μ p n i).2 else (wk μ p n i).2 ||| 2 ^ i
      by_cases y : chW μ p n i = 0
      · rw [if_pos y, if_pos y, pl0.2.1, hpl z]
      · rw [if_neg y, if_neg y, if_neg z, pl0.2.2, hpl z]
    · show mI ν5 95 s = _ ∧ mI ν5 96 s = _
      by_cases y : s = i
      · subst y
        rw [e5, row_ne (a := 96) (b := 95) (by decide), fld_eq, fld_eq]
        exact ⟨rfl, rfl⟩
      · have := c s (by omega)
        rw [e5, row_ne (a := 96) (b := 95) (by decide), fld_ne (by omega), row_ne (by decide), fr2 95 (by decide), fld_ne (by omega), row_ne (by decide), row_ne (by decide), fr2 96 (by decide)]
        exact this
    · show X4_tell_L9 94 (nI (nw μ)) (nI (ct μ p (nw μ) (sc μ))) (lwA ν p) (m + 1) (nI node) (nI used) (nI i) ν1 = _
      rw [X4_tell_L9, gi_94 zp.1.1, zp.2.2.1.1, Option.bind_some, if_neg (nI_ge hi (by omega)), vo_94 zp.1.1, Option.bind_some, e2, Option.bind_some, vo_94 z2.1.1, Option.bind_some, d, Option.bind_some, ech, r_94_1 z3.1.1, Option.bind_some, r_94_8 z3.1.1, Option.bind_some, ai_99 z3.1.1 (by omega), e99, Option.bind_some, si_95 z3.1.1 (by omega), Option.bind_some, r_94_2 z4.1.1, Option.bind_some]
      rw [ew, Option.bind_some, si_96 z4.1.1 (by omega), Option.bind_some, ← e5, fa_or, Option.bind_some, Option.bind_some, vo_94 z5.1.1, Option.bind_some, nb, Option.bind_some, nI_add1]) (fun m b P => by
    show X4_tell_L9 94 (nI (nw μ)) (nI (ct μ p (nw μ) (sc μ))) (lwA ν p) (m + 1) (nI b.1.1) (nI b.1.2) (nI n) b.2 = _
    rw [X4_tell_L9, gi_94 P.1.1.1, P.1.2.2.1.1, Option.bind_some, if_pos (nI_le (Nat.le_refl _) (by omega))]) ((1, 0), ν) ⟨h, ht, rfl, by
      show NV μ p 0 1
      unfold NV
      split
      · rfl
      · exact ⟨by decide, by decide⟩, a2, nd_zero_r a1, fun _ => rfl, fun s hs => by omega⟩
  have e : X4_tell_L9 94 (nI (nw μ)) (nI (ct μ p (nw μ) (sc μ))) (lwA ν p) FU 1 0 0 ν = _ := e
  refine ⟨b.2, ⟨P.1.1, P.2.2.1, P.2.2.2.2.2.2.2⟩, ?_⟩
  unfold X4_tell
  rw [e, Option.bind_some]
end TL
