/-! ===== the class decides ===== -/
def cS (μ : Mem) (p : Nat) : Nat → Nat
  | 0 => 0
  | k + 1 => if cS μ p k = 1 then 1 else if lv μ 0 p k = 3 then 1 else 0
theorem cS_le (μ : Mem) (p : Nat) : ∀ n, cS μ p n ≤ 1
  | 0 => by rw [cS]; omega
  | n + 1 => by
    rw [cS]
    split
    · omega
    · split <;> omega
theorem cS_mono {μ : Mem} {p k : Nat} (h : cS μ p k = 1) : ∀ d, cS μ p (k + d) = 1
  | 0 => h
  | d + 1 => by rw [show k + (d + 1) = k + d + 1 by omega, cS, if_pos (cS_mono h d)]
theorem cS_mB {μ : Mem} {p : Nat} (g : Nat → Nat) : ∀ k, cS μ p k = 0 → mB μ p g k = 0
  | 0, _ => rfl
  | k + 1, h => by
    rw [cS] at h
    by_cases q : cS μ p k = 1
    · rw [if_pos q] at h
      exact absurd h (by decide)
    · have h0 : cS μ p k = 0 := by have := cS_le μ p k; omega
      rw [if_neg q] at h
      have ih := cS_mB g k h0
      rw [mB, if_neg (by omega), if_neg (fun z => by rw [if_pos z.1] at h; exact absurd h (by decide))]
theorem counts_c {μ : Mem} (o : Ok μ) (L : RelL μ) {p : Nat} (hp : p < 4) : X3_countsSayings (lwA μ p) μ = some (nI (cS μ p (lc μ p))) := by
  have il := lw_is o hp
  obtain ⟨⟨l0, -, l8⟩, hk⟩ := L p hp
  obtain ⟨b, Q, e⟩ := loopE (F := fun k (_ : Unit) i => X3_countsSayings_L2 (lwA μ p) μ k (nI i)) (P := fun i _ => cS μ p i = 0) (Q := fun b => b = nI (cS μ p (lc μ p))) (n := lc μ p) (by omega) (fun k _ i hi P => by
    obtain ⟨A0, -, -, -⟩ := hk i hi
    have c3 : (nI (lv μ 0 p i) = 3) = (lv μ 0 p i = 3) := n_eq (b := 3) (by omega) (by decide)
    show (∃ a', cS μ p (i + 1) = 0 ∧ X3_countsSayings_L2 (lwA μ p) μ (k + 1) (nI i) = _) ∨ ∃ b, _ ∧ X3_countsSayings_L2 (lwA μ p) μ (k + 1) (nI i) = some b
    rw [X3_countsSayings_L2, gi_l o il, l0, Option.bind_some, if_neg (nI_ge hi (by omega)), rl_1 o il, Option.bind_some, al_1 o il (by omega), A0.1, Option.bind_some]
    simp only [c3]
    by_cases q : lv μ 0 p i = 3
    · refine Or.inr ⟨1, ?_, by rw [if_pos q]⟩
      have h1 : cS μ p (i + 1) = 1 := by rw [cS, if_neg (by omega), if_pos q]
      have := cS_mono h1 (lc μ p - (i + 1))
      rw [show i + 1 + (lc μ p - (i + 1)) = lc μ p by omega] at this
      rw [this]
      rfl
    · refine Or.inl ⟨(), ?_, by rw [if_neg q, nI_add1]⟩
      rw [cS, if_neg (by omega), if_neg q]) (fun k _ P => by
    refine ⟨0, by rw [P]; rfl, ?_⟩
    show X3_countsSayings_L2 (lwA μ p) μ (k + 1) (nI (lc μ p)) = _
    rw [X3_countsSayings_L2, gi_l o il, l0, Option.bind_some, if_pos (nI_le (Nat.le_refl _) (by omega))]) () rfl
  subst Q
  exact e
def mo (μ : Mem) (p st pl : Nat) : Nat := mB μ p (gM μ p pl st) (lc μ p)
noncomputable def BP (μ : Mem) (p n r left pl : Nat) : Nat := BB n (cG μ p) (aw μ p) (mo μ p) r left pl
theorem plC_mono {a b now lo : Nat} (h : a &&& b = a) : ∀ n, plC a now lo n ≤ plC b now lo n
  | 0 => Nat.le_refl _
  | n + 1 => by
    have ih := plC_mono (now := now) (lo := lo) h n
    rw [plC, plC]
    by_cases q : a.testBit n = true ∧ lo ≤ now + n
    · have hb : b.testBit n = true := by
        have := congrArg (fun z => z.testBit n) h
        simp only [Nat.testBit_and, q.1, Bool.true_and] at this
        exact this
      rw [if_pos q, if_pos ⟨hb, q.2⟩]
      omega
    · rw [if_neg q]
      split <;> omega
theorem mB_gmono {μ : Mem} {p : Nat} {g g' : Nat → Nat} (h : ∀ b, g b ≤ g' b) : ∀ n, mB μ p g' n = 0 → mB μ p g n = 0
  | 0, _ => rfl
  | n + 1, z => by
    rw [mB] at z
    by_cases q : mB μ p g' n = 1
    · rw [if_pos q] at z
      exact absurd z (by decide)
    · rw [if_neg q] at z
      have h0 : mB μ p g' n = 0 := by have := mB_le μ p g' n; omega
      have ih := mB_gmono h n h0
      rw [mB, if_neg (by omega), if_neg (fun w => by rw [if_pos ⟨w.1, Nat.le_trans w.2 (h _)⟩] at z; exact absurd z (by decide))]
theorem mo_mono (μ : Mem) (p : Nat) : ∀ st a b, a &&& b = a → mo μ p st b = 0 → mo μ p st a = 0 := fun st a b h z => by
  refine mB_gmono (fun c => ?_) _ z
  unfold gM
  have := plC_mono (now := nw μ) (lo := nw μ + st + 1 - c) h st
  omega
theorem mo_nc {μ : Mem} {p : Nat} (h : cS μ p (lc μ p) = 0) (st pl : Nat) : mo μ p st pl = 0 := cS_mB _ _ h
theorem plf_eq (pb now : Nat) : ∀ n u, plf pb now n u = if now ≤ u ∧ u < now + n ∧ pb.testBit (u - now) = true then 1 else 0
  | 0, u => by rw [plf, if_neg (by omega)]
  | n + 1, u => by
    rw [plf, plf_eq pb now n u]
    by_cases q : u = now + n
    · subst q
      rw [if_neg (by omega)]
      by_cases z : pb.testBit n = true
      · rw [if_pos ⟨z, rfl⟩, if_pos ⟨by omega, by omega, by rw [show now + n - now = n by omega]; exact z⟩]
      · rw [if_neg (fun w => z w.1), if_neg (fun w => z (by have := w.2.2; rwa [show now + n - now = n by omega] at this))]
    · rw [if_neg (show ¬ (pb.testBit n = true ∧ u = now + n) from fun w => q w.2), Nat.add_zero]
      by_cases z : now ≤ u ∧ u < now + n ∧ pb.testBit (u - now) = true
      · rw [if_pos z, if_pos ⟨z.1, by omega, z.2.2⟩]
      · rw [if_neg z, if_neg (fun w => z ⟨w.1, by omega, w.2.2⟩)]
theorem ct_0 {μ : Mem} (S : RelS μ) {p u : Nat} (hu : nw μ < u) : ∀ n, n ≤ 40 → ct μ p u n = 0
  | 0, _ => rfl
  | n + 1, h => by
    have := S.2.2.1 n (by omega)
    rw [ct, if_neg (by omega), ct_0 S hu n (by omega)]
/-- the planner's cells behind the prices -/
def Zp (μ : Mem) (p n : Nat) (ν : Mem) : Prop := Sm μ ν ∧ (PK μ p ν ∧ PR μ p (pK μ p) ν) ∧ (mI ν 94 17 = nI n ∧ mI ν 94 18 = nI (cS μ p (lc μ p))) ∧ (∀ st x, st < n → 1 ≤ x → x < 2 ^ pK μ p → mI ν 103 (st * 64 + x) = nI (cG μ p st x) ∧ mI ν 104 (st * 64 + x) = cW μ p st x) ∧ mI ν 97 0 = nI (aT μ p (tn μ)) ∧ ∀ u, u < nw μ → mI ν 106 u = nI (ct μ p u (sc μ))
theorem Zp.cg {μ ν ν' : Mem} {p n : Nat} (h : Zp μ p n ν) (s : Sm ν ν') (e94 : ∀ k, k ≠ 0 → mI ν' 94 k = mI ν 94 k) (er : ∀ a, a = 97 ∨ a = 98 ∨ a = 99 ∨ a = 100 ∨ a = 103 ∨ a = 104 → mI ν' a = mI ν a) (e6 : ∀ u, u < nw μ → mI ν' 106 u = mI ν 106 u) : Zp μ p n ν' := by
  obtain ⟨s0, ⟨k, r⟩, ⟨h1, h2⟩, g, a0, c⟩ := h
  refine ⟨s0.tr s, ⟨⟨by rw [e94 16 (by decide)]; exact k.1, fun j hj => by rw [er 98 (by decide)]; exact k.2 j hj⟩, fun x hx => by rw [er 99 (by decide), er 100 (by decide)]; exact r x hx⟩, ⟨by rw [e94 17 (by decide)]; exact h1, by rw [e94 18 (by decide)]; exact h2⟩, fun st x a1 a2 a3 => by rw [er 103 (by decide), er 104 (by decide)]; exact g st x a1 a2 a3, by rw [er 97 (by decide)]; exact a0, fun u hu => by rw [e6 u hu]; exact c u hu⟩
theorem Zp.w {μ ν : Mem} {p n a k : Nat} {v : Int32} (h : Zp μ p n ν) (ha : a = 105 ∨ a = 95 ∨ a = 96 ∨ (a = 106 ∧ nw μ ≤ k)) : Zp μ p n (wI ν a k v) := h.cg ((Sm.rf h.1.1).wI (corP (by omega) _)) (fun j _ => by rw [row_ne (by omega)]) (fun b hb => row_ne (by omega)) (fun u hu => fld_ne (by omega))
theorem mostAt_c {μ ν : Mem} (I : Inv μ) {p n st node : Nat} (hp : p < 4) (hst : st < n) (hn6 : n ≤ 6) (hnode : node < 64) (h : Zp μ p n ν) : ∃ ν', (Zp μ p n ν' ∧ ∀ a, a ≠ 106 → mI ν' a = mI ν a) ∧ X4_mostBarsAt 94 (nI node) (nI st) (nI (nw μ)) (nI (ct μ p (nw μ) (sc μ))) (lwA ν p) ν = some (nI (mo μ p st (plN st node)), ν') := by
  have I0 := I
  obtain ⟨o, W, C, T, S, X, L⟩ := I
  have hn := W.2.2.2.2.2.2.2
  have hc := S.1.2.2
  have oν := h.1.1
  have cl := cS_le μ p (lc μ p)
  have cc : (nI (cS μ p (lc μ p)) = 0) = (cS μ p (lc μ p) = 0) := n_eq (b := 0) (by omega) (by decide)
  unfold X4_mostBarsAt
  rw [gi_94 oν, h.2.2.1.2, Option.bind_some]
  simp only [cc]
  by_cases z : cS μ p (lc μ p) = 0
  · refine ⟨ν, ⟨h, fun _ _ => rfl⟩, ?_⟩
    rw [if_pos z, mo_nc z]
    rfl
  · rw [if_neg z, r_94_15 oν, Option.bind_some, al_66a oν, Option.bind_some, nI_add, if_pos (nI_lt (by omega) (by decide))]
    obtain ⟨ν1, ⟨z1, fr1, b1⟩, e1⟩ := loopF (F := fun m (ν' : Mem) i => X4_mostBarsAt_L23 94 (nI node) (nI st) (nI (nw μ)) (nI (ct μ p (nw μ) (sc μ))) (lwA ν p) m (nI i) ν') (P := fun i ν' => Zp μ p n ν' ∧ (∀ a, a ≠ 106 → mI ν' a = mI ν a) ∧ ∀ j, j < i → mI ν' 106 (nw μ + j) = nI (node / 2 ^ (st - 1 - j) % 2)) (n := st) (r := fun ν' => (nI st, ν')) (by omega) (fun m ν' i hi P => by
      obtain ⟨zp, fr, b⟩ := P
      refine ⟨wI ν' 106 (nw μ + i) (nI (node / 2 ^ (st - 1 - i) % 2)), ⟨zp.w (by omega), fun a q => ?_, fun j hj => ?_⟩, ?_⟩
      · rw [row_ne q]
        exact fr a q
      · by_cases y : j = i
        · subst y
          exact fld_eq
        · rw [fld_ne (by omega)]
          exact b j (by omega)
      · have e : (nI node >>> ((nI st - 1 - nI i) &&& 31)) &&& 1 = nI (node / 2 ^ (st - 1 - i) % 2) := by
          rw [show nI st - 1 = nI (st - 1) from pk_sub (b := 1) (by omega), pk_sub (by omega), bt_eq, bt_n (by omega) (by omega)]
        show X4_mostBarsAt_L23 94 (nI node) (nI st) (nI (nw μ)) (nI (ct μ p (nw μ) (sc μ))) (lwA ν p) (m + 1) (nI i) ν' = _
        rw [X4_mostBarsAt_L23, if_neg (nI_ge hi (by omega)), r_94_15 zp.1.1, Option.bind_some, nI_add, e, si_106 zp.1.1 (by omega), Option.bind_some, nI_add1]) (fun m ν' P => by
      show X4_mostBarsAt_L23 94 (nI node) (nI st) (nI (nw μ)) (nI (ct μ p (nw μ) (sc μ))) (lwA ν p) (m + 1) (nI st) ν' = _
      rw [X4_mostBarsAt_L23, if_pos (nI_le (Nat.le_refl _) (by omega))]) ν ⟨h, fun _ _ => rfl, fun j hj => by omega⟩
    have e1 : X4_mostBarsAt_L23 94 (nI node) (nI st) (nI (nw μ)) (nI (ct μ p (nw μ) (sc μ))) (lwA ν p) FU 0 ν = _ := e1
    have z2 : Zp μ p n (wI ν1 106 (nw μ + st) 0) := z1.w (by omega)
    have z3 : Zp μ p n (wI (wI ν1 106 (nw μ + st) 0) 106 (nw μ) (mI (wI ν1 106 (nw μ + st) 0) 106 (nw μ) + nI (ct μ p (nw μ) (sc μ)))) := z2.w (by omega)
    have lw3 : lwA (wI (wI ν1 106 (nw μ + st) 0) 106 (nw μ) (mI (wI ν1 106 (nw μ + st) 0) 106 (nw μ) + nI (ct μ p (nw μ) (sc μ)))) p = lwA ν p := by
      rw [lw_sm z3.1, lw_sm h.1]
    have I3 := I0.sm z3.1
    have row : ∀ i, i ≤ nw μ + st → mI (wI (wI ν1 106 (nw μ + st) 0) 106 (nw μ) (mI (wI ν1 106 (nw μ + st) 0) 106 (nw μ) + nI (ct μ p (nw μ) (sc μ)))) 106 i = nI (ct μ p i (sc μ) + plf (plN st node) (nw μ) st i) := fun i hi => by
      rw [plf_eq]
      by_cases q1 : i < nw μ
      · rw [fld_ne (by omega), fld_ne (by omega), z1.2.2.2.2.2 i q1, if_neg (by omega), Nat.add_zero]
      · by_cases q2 : i = nw μ
        · subst q2
          rw [fld_eq]
          by_cases q3 : st = 0
          · subst q3
            rw [Nat.add_zero, fld_eq, if_neg (by omega), Nat.add_zero, Int32.zero_add]
          · rw [fld_ne (by omega), show nw μ = nw μ + 0 from rfl, b1 0 (by omega), Nat.add_zero, nI_add, Nat.sub_self]
            have pb := plN_bit (st := st) (node := node) (j := 0) (by omega) hnode (by omega)
            have ml := Nat.mod_lt (node / 2 ^ (st - 1 - 0)) (show 0 < 2 by decide)
            by_cases q4 : (plN st node).testBit 0 = true
            · rw [if_pos ⟨Nat.le_refl _, by omega, q4⟩, pb.mp q4, Nat.add_comm]
            · have : ¬ node / 2 ^ (st - 1 - 0) % 2 = 1 := fun w => q4 (pb.mpr w)
              rw [if_neg (fun w => q4 w.2.2), show node / 2 ^ (st - 1 - 0) % 2 = 0 by omega, Nat.add_comm]
        · rw [fld_ne (by omega), ct_0 S (by omega) _ hc, Nat.zero_add]
          by_cases q3 : i = nw μ + st
          · subst q3
            rw [fld_eq, if_neg (by omega)]
            rfl
          · obtain ⟨j, rfl⟩ : ∃ j, i = nw μ + j := ⟨i - nw μ, by omega⟩
            rw [fld_ne (by omega), b1 j (by omega), show nw μ + j - nw μ = j by omega]
            have pb := plN_bit (st := st) (node := node) (j := j) (by omega) hnode (by omega)
            have ml := Nat.mod_lt (node / 2 ^ (st - 1 - j)) (show 0 < 2 by decide)
            by_cases q4 : (plN st node).testBit j = true
            · rw [if_pos ⟨by omega, by omega, q4⟩, pb.mp q4]
            · have : ¬ node / 2 ^ (st - 1 - j) % 2 = 1 := fun w => q4 (pb.mpr w)
              rw [if_neg (fun w => q4 w.2.2), show node / 2 ^ (st - 1 - j) % 2 = 0 by omega]
    have fb : ∀ i, ct μ p i (sc μ) + plf (plN st node) (nw μ) st i ≤ 1000 := fun i => by
      have h1 := ct_le μ p i (sc μ)
      rw [plf_eq]
      split <;> omega
    have mb := most_c z3.1.1 I3.2.2.2.2.2.2 (r := 106) (u := nw μ + st) (p := p) hp (Or.inl rfl) (by omega) row fb
    rw [lw3, lc_sm z3.1, mB_sm z3.1] at mb
    have ew : wnd (fun u => ct μ p u (sc μ) + plf (plN st node) (nw μ) st u) (nw μ + st) = gM μ p (plN st node) st := funext (wnd_eq μ p (plN st node) st)
    have mb : X3_mostBars (lwA ν p) 106 (nI (nw μ + st)) _ = some (nI (mB μ p (wnd (fun u => ct μ p u (sc μ) + plf (plN st node) (nw μ) st u) (nw μ + st)) (lc μ p))) := mb
    rw [ew] at mb
    have il : isLw (lwA ν p) := lw_is oν hp
    refine ⟨_, ⟨z3, fun a q => ?_⟩, ?_⟩
    · rw [row_ne q, row_ne q]
      exact fr1 a q
    · have ml := mB_le μ p (gM μ p (plN st node) st) (lc μ p)
      have zm : zz (nI (mB μ p (gM μ p (plN st node) st) (lc μ p))) = some (nI (mB μ p (gM μ p (plN st node) st) (lc μ p))) := by
        rcases (show mB μ p (gM μ p (plN st node) st) (lc μ p) = 0 ∨ mB μ p (gM μ p (plN st node) st) (lc μ p) = 1 by omega) with q | q
        · rw [q]
          rfl
        · rw [q]
          rfl
      rw [e1, Option.bind_some, r_94_15 z1.1.1, Option.bind_some, si_106 z1.1.1 (by omega), Option.bind_some, r_94_15 z2.1.1, Option.bind_some, ai_106 z2.1.1 (by omega), Option.bind_some, si_106 z2.1.1 (by omega), Option.bind_some, r_94_15 z3.1.1, Option.bind_some, vo_l z3.1.1 il, Option.bind_some, mb, Option.bind_some, zm, Option.bind_some]
      rfl
