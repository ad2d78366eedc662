theorem InvM.wS {μ μ' : Mem} (h : InvM μ) (o : Ok μ') (eR : mR μ' 92 = mR μ 92) (e : ∀ a k, ¬ (50 ≤ a ∧ a < 90) → ¬ (a = 37 ∧ k = 3) → mI μ' a k = mI μ a k) : InvM μ' := by
  obtain ⟨o0, ⟨w1, w2, w3, w4, w5, w6⟩, hC, hT, hS, hX, hL⟩ := h
  have er : ∀ a, ¬ (50 ≤ a ∧ a < 90) → a ≠ 37 → mI μ' a = mI μ a := fun a q1 q3 => funext fun k => e a k q1 (fun z => q3 z.1)
  exact ⟨o, ⟨w1.cg (fun q hq => er _ (by omega) (by omega)) (er _ (by omega) (by omega)), w2.cg (fun q hq => er _ (by omega) (by omega)) (er _ (by omega) (by omega)), w3.cg (er _ (by omega) (by omega)) (er _ (by omega) (by omega)), w4.cg (e _ _ (by omega) (by omega)) (e _ _ (by omega) (by omega)), w5.cg (fun q hq => er _ (by omega) (by omega)) (er _ (by omega) (by omega)), w6.cg (e _ _ (by omega) (by omega)) (e _ _ (by omega) (by omega))⟩, hC.cg (fun q hq => er _ (by omega) (by omega)) (er _ (by omega) (by omega)) (er _ (by omega) (by omega)) (er _ (by omega) (by omega)), hT.cg (e _ _ (by omega) (by omega)) (e _ _ (by omega) (by omega)) (fun q hq => er _ (by omega) (by omega)) (fun q hq => er _ (by omega) (by omega)) (nw_le (e _ _ (by omega) (by omega))), hS.cg (e _ _ (by omega) (by omega)) (fun q hq => er _ (by omega) (by omega)), hX.cg (e _ _ (by omega) (by omega)) (e _ _ (by omega) (by omega)) (er _ (by omega) (by omega)) (er _ (by omega) (by omega)) (e _ _ (by omega) (by omega)) (e _ _ (by omega) (by omega)), hL.cg o0 eR (fun l c hl hc => er _ (by unfold isLw at hl; omega) (by unfold isLw at hl; omega)) (fun c hc => er _ (by omega) (by omega))⟩
/-- the spec of a refusal of say -/
noncomputable def sayB (μ : Mem) (p set w : Nat) : Nat := barV μ p (nw μ) (odd μ p (nw μ) 0) set w (mB μ p (gM μ p 0 0) (lc μ p))
theorem barV_le (μ : Mem) (p u : Nat) (od : Nat → Nat) (set w m : Nat) : barV μ p u od set w m ≤ 3 := by
  unfold barV
  split
  · split <;> omega
  · split
    · omega
    · split
      · split <;> omega
      · omega
theorem sayB_c {μ a : Mem} (p set w : Nat) (e : ∀ b k, 134 ≤ b → mI a b k = mI μ b k) : sayB a p set w = sayB μ p set w := by
  have eA : ∀ b, 134 ≤ b → mI a b = mI μ b := fun b hb => funext fun k => e b k hb
  have e1 : nw a = nw μ := by unfold nw; rw [eA 134 (by decide)]
  have e2 : tn a = tn μ := by unfold tn; rw [eA 134 (by decide)]
  have e3 : sc a = sc μ := by unfold sc; rw [eA 134 (by decide)]
  have e4 : lc a = lc μ := by funext p; unfold lc; rw [eA 156 (by decide)]
  have e5 : lv a = lv μ := by funext c p k; unfold lv; rw [eA (157 + c) (by omega)]
  have e6 : tv a = tv μ := by funext c t; unfold tv; rw [eA (145 + c) (by omega)]
  have e7 : sv a = sv μ := by funext c t; unfold sv; rw [eA (170 + c) (by omega)]
  have e8 : mv a = mv μ := by funext c t; unfold mv; rw [eA 135 (by decide)]
  have e9 : sw a = sw μ := by funext c t; unfold sw; rw [eA 136 (by decide)]
  have e10 : bg a = bg μ := by funext c; unfold bg; rw [eA 137 (by decide)]
  have e11 : sg a = sg μ := by funext c t; unfold sg; rw [eA 138 (by decide)]
  have f1 : psi a = psi μ := by funext c i s; unfold psi; rw [e9]
  have f2 : ∀ c p st d i, wN a c p st d i = wN μ c p st d i := fun c p st d => by
    induction d with
    | zero => intro i; rw [wN, wN, f1, e10, e11]
    | succ d ih => intro i; rw [wN, wN, f1, e8, e11, ih, ih, ih, ih]
  have f3 : wgt a = wgt μ := by funext c p t i; unfold wgt; rw [f2]
  have f4 : ∀ p t k i, odd a p t k i = odd μ p t k i := fun p t k => by
    induction k with
    | zero => intro i; rw [odd, odd, f3]; unfold allW; rw [f3]
    | succ k ih =>
      intro i
      have g1 : odd a p t k = odd μ p t k := funext ih
      have g2 : tot a = tot μ := by funext i; unfold tot; rw [e8]
      rw [odd, odd, g1]
      unfold mvS
      rw [g2, e8]
  have h1 : ∀ p n, aF a p n = aF μ p n := fun p n => by
    induction n with
    | zero => rfl
    | succ n ih => rw [aF, aF, ih, e5]
  have h2 : ∀ p u n, bK a p u n = bK μ p u n := fun p u n => by
    induction n with
    | zero => rfl
    | succ n ih => rw [bK, bK, ih, e5]
  have h3 : ∀ p od n, bW a p od n = bW μ p od n := fun p od n => by
    have g : ∀ k, bWc a p od k = bWc μ p od k := fun k => by unfold bWc; rw [e5]
    induction n with
    | zero => rfl
    | succ n ih =>
      rcases bWd μ p od n with q | q
      · rw [bW_pos q, bW_pos (by rw [g]; exact q), ih, e5]
      · rw [bW_neg q, bW_neg (by rw [g]; exact q), ih]
  have h4 : alT a = alT μ := by funext p t; unfold alT; rw [h1, e4, e6]
  have h5 : kdT a = kdT μ := by funext p u t; unfold kdT; rw [h4, h2, e4, e6]
  have h6 : ∀ p n, aT a p n = aT μ p n := fun p n => Nat.eq_of_testBit_eq (fun i => by rw [aT_bit, aT_bit, h4])
  have h7 : ∀ p u n, kT a p u n = kT μ p u n := fun p u n => Nat.eq_of_testBit_eq (fun i => by rw [kT_bit, kT_bit, h5])
  have h8 : ∀ p lo hi n, cR a p lo hi n = cR μ p lo hi n := fun p lo hi n => by
    induction n with
    | zero => rfl
    | succ n ih => rw [cR, cR, ih, e7]
  have h9 : gM a = gM μ := by funext p pb st b; unfold gM; rw [e1, e3, h8]
  have h10 : ∀ p g n, mB a p g n = mB μ p g n := fun p g n => by
    induction n with
    | zero => rfl
    | succ n ih => rw [mB, mB, ih, e5]
  unfold sayB barV
  rw [e1, e2, e4, h6, h7, h3, h9, h10, show odd a p (nw μ) 0 = odd μ p (nw μ) 0 from funext (f4 p (nw μ) 0)]
theorem p_say (x1 x2 x3 : Int32) : Pair (X10_say 0 x1 x2 x3) (X11_say 134 x1 x2 x3) := by
  intro μ I
  have I0 := I
  obtain ⟨o, W, C, T, S, X, L⟩ := I
  have w6 := W.2.2.2.2.2
  have hn := w6.2.2
  have hT := T.1.2.2
  have hc := S.1.2.2
  rcases gd x1 3 (by decide) with ⟨g1, k1⟩ | ⟨g1, k1, p, hp, rfl⟩
  · exact pairR I0 (by unfold X10_say; rw [if_pos (show X10_isPerson x1 = 0 from g1)]) (by unfold X11_say; rw [if_pos (show X11_isPerson x1 = 0 from k1)])
  rcases gTs o T x2 with ⟨g2, k2⟩ | ⟨g2, k2, set, hs0, hs, rfl⟩
  · exact pairR I0 (r := -1001) (by unfold X10_say; rw [if_neg (show ¬ X10_isPerson (nI p) = 0 from g1), r_0_2 o, Option.bind_some, vo_37 o, Option.bind_some, g2, Option.bind_some, if_pos rfl]) (by unfold X11_say; rw [if_neg (show ¬ X11_isPerson (nI p) = 0 from k1), vo_134 o, Option.bind_some, k2, Option.bind_some, if_pos rfl])
  rcases gd x3 3 (by decide) with ⟨g3, k3⟩ | ⟨g3, k3, w, hw, rfl⟩
  · exact pairR I0 (r := -1002) (by unfold X10_say; rw [if_neg (show ¬ X10_isPerson (nI p) = 0 from g1), r_0_2 o, Option.bind_some, vo_37 o, Option.bind_some, g2, Option.bind_some, if_neg (by decide), if_pos (show X10_isWay x3 = 0 from g3)]) (by unfold X11_say; rw [if_neg (show ¬ X11_isPerson (nI p) = 0 from k1), vo_134 o, Option.bind_some, k2, Option.bind_some, if_neg (by decide), if_pos (show X11_isWay x3 = 0 from k3)])
  have hs10 : set < 2 ^ 10 := Nat.lt_of_lt_of_le hs (Nat.pow_le_pow_right (by decide) hT)
  have headC : X10_say 0 (nI p) (nI set) (nI w) μ = (X10_barNow 0 (nI p) (nI set) (nI w) μ).bind fun z8 => if z8.1 = 0 then (gR 10 2 0 z8.2).bind fun v10 => (vO 0 v10 z8.2).bind fun g11 => (X0_canBeSaid v10 (nI set) (nI p) z8.2).bind fun v12 => if v12 = 0 then some ((-1003), z8.2) else (gR 10 2 0 z8.2).bind fun v14 => (gI 0 3 v14 z8.2).bind fun v15 => if v15 < 40 then (gR 10 2 0 z8.2).bind fun v17 => (gR 0 1 v17 z8.2).bind fun v18 => (gR 10 2 0 z8.2).bind fun v19 => (gI 0 3 v19 z8.2).bind fun v20 => (aR 5 v18 v20 z8.2).bind fun v21 => (pI 5 0 v21 (nI p) z8.2).bind fun μ22 => (pI 5 1 v21 (nI set) μ22).bind fun μ23 => (pI 5 2 v21 (nI w) μ23).bind fun μ24 => (gI 10 10 0 μ24).bind fun v25 => (pI 5 3 v21 v25 μ24).bind fun μ26 => (gR 10 2 0 μ26).bind fun v27 => (gI 0 3 v27 μ26).bind fun v28 => (pI 0 3 v27 (v28 + 1) μ26).bind fun μ29 => (gR 10 2 0 μ29).bind fun v30 => (gI 0 3 v30 μ29).bind fun v31 => some (v31 - 1, μ29) else some ((-1004), z8.2) else some ((-1003), z8.2) := by
    unfold X10_say
    rw [if_neg (show ¬ X10_isPerson (nI p) = 0 from g1), r_0_2 o, Option.bind_some, vo_37 o, Option.bind_some, g2, Option.bind_some, if_neg (by decide), if_neg (show ¬ X10_isWay (nI w) = 0 from g3), vo_0 o, Option.bind_some]
  obtain ⟨a, sa, ea⟩ := barNow_c I0 (p := p) (set := set) (way := w) (by omega) hs (by omega)
  have Ia := I0.sm sa
  have Ta := Ia.2.2.2.1
  have Sa := Ia.2.2.2.2.1
  have ea : X10_barNow 0 (nI p) (nI set) (nI w) μ = some (nI (sayB μ p set w), a) := ea
  have bl : sayB μ p set w ≤ 3 := barV_le _ _ _ _ _ _ _
  have cb : (nI (sayB μ p set w) = 0) = (sayB μ p set w = 0) := n_eq (b := 0) (by omega) (by decide)
  have cs0 : X0_canBeSaid 37 (nI set) (nI p) a = some (b01 (cbs μ p set (tn μ))) := by
    rw [canS_c sa.1 Ta (by omega) hs10, cbs_eq, cbs_eq, dS_sm sa, frB_sm sa, isM_sm sa, tn_sm sa]
  -- the reference, on a memory that differs in the class's SAYINGS alone
  have ref : ∀ m, Ok m → mR m 92 = mR a 92 → (∀ b k, ¬ (50 ≤ b ∧ b < 90) → ¬ (b = 37 ∧ k = 3) → mI m b k = mI a b k) → ∃ b, Sm m b ∧ X11_say 134 (nI p) (nI set) (nI w) m = if ¬ sayB μ p set w = 0 then some ((-1003), b) else if cbs μ p set (tn μ) = false then some ((-1003), b) else (gI 11 45 134 b).bind fun v18 => if v18 = 40 then some ((-1004), b) else (gR 11 46 134 b).bind fun v20 => (gI 11 45 134 b).bind fun v21 => (sI v20 v21 (nI p) b).bind fun μ22 => (gR 11 47 134 μ22).bind fun v23 => (gI 11 45 134 μ22).bind fun v24 => (sI v23 v24 (nI set) μ22).bind fun μ25 => (gR 11 48 134 μ25).bind fun v26 => (gI 11 45 134 μ25).bind fun v27 => (sI v26 v27 (nI w) μ25).bind fun μ28 => (gR 11 49 134 μ28).bind fun v29 => (gI 11 45 134 μ28).bind fun v30 => (gI 11 5 134 μ28).bind fun v31 => (sI v29 v30 v31 μ28).bind fun μ32 => (gR 11 50 134 μ32).bind fun v33 => (gI 11 45 134 μ32).bind fun v34 => (sI v33 v34 0 μ32).bind fun μ35 => (gI 11 45 134 μ35).bind fun v36 => (pI 11 45 134 (v36 + 1) μ35).bind fun μ37 => (gI 11 45 134 μ37).bind fun v38 => some (v38 - 1, μ37) := by
    intro m om eR em
    have IM : InvM m := Ia.m.wS om eR em
    have emA : ∀ b, ¬ (50 ≤ b ∧ b < 90) → b ≠ 37 → mI m b = mI a b := fun b q1 q2 => funext fun k => em b k q1 (fun z => q2 z.1)
    have tnm : tn m = tn μ := by
      unfold tn
      rw [emA 134 (by omega) (by omega)]
      exact tn_sm sa
    have tvm : ∀ c t, c < 9 → tv m c t = tv μ c t := fun c t hc => by
      unfold tv
      rw [emA (145 + c) (by omega) (by omega)]
      exact tv_sm sa hc
    obtain ⟨b, sb, eb⟩ := barring_m IM (p := p) (set := set) (way := w) (k := 0) (pb := 0) (by omega) (by rw [tnm]; exact hs) (by omega) (by decide) (by decide)
    have eb : X11_barring 134 (nI p) (nI set) (nI w) 0 0 m = some (nI (sayB μ p set w), b) := by
      have e1 : sayB m p set w = sayB a p set w := sayB_c p set w (fun b k hb => em b k (by omega) (by omega))
      have e2 : sayB a p set w = sayB μ p set w := by
        unfold sayB barV
        rw [aT_sm sa, kT_sm sa, bW_sm sa, lc_sm sa, tn_sm sa, nw_sm sa, mB_sm sa, gM_sm sa, show odd a p (nw μ) 0 = odd μ p (nw μ) 0 from funext (odd_sm sa p (nw μ) 0)]
      rw [← e2, ← e1]
      exact eb
    refine ⟨b, sb, ?_⟩
    have Tb := Onl.T sb IM.2.2.2.1
    have k2m : X11_areThings 134 (nI set) m = some 1 := by
      rw [← k2]
      unfold X11_areThings
      rw [gi_134 om, gi_134 o, emA 134 (by omega) (by omega), sa.fld (a := 134) (k := 12) rfl]
    have dSb : ∀ n, n ≤ 10 → dS b n = dS μ n := fun n => by
      induction n with
      | zero => intro _; rfl
      | succ n ih => intro h; rw [dS, dS, ih (by omega), tv_sm sb (by decide), tvm 8 n (by decide)]
    have frb : ∀ n, frB b p set n = frB μ p set n := fun n => by
      induction n with
      | zero => rfl
      | succ n ih => rw [frB, frB, ih, tv_sm sb (by decide), tvm 0 n (by decide)]
    have lmb : ∀ n, lm b set n = lm μ set n := fun n => by
      induction n with
      | zero => rfl
      | succ n ih => rw [lm, lm, ih, tv_sm sb (by decide), tvm 2 n (by decide)]
    have isb : ∀ n, isM b set n = isM μ set n := fun n => by
      induction n with
      | zero => rfl
      | succ n ih => rw [isM, isM, ih, lmb, tv_sm sb (by decide), tvm 2 n (by decide)]
    have tb : tn b = tn μ := (tn_sm sb).trans tnm
    have db := dead_m sb.1 Tb set
    rw [tb, dSb _ hT] at db
    have fb := areF_m (p := p) (set := set) sb.1 Tb (by omega) hs10
    rw [tb, frb] at fb
    have ob := oneM_m (set := set) sb.1 Tb hs10
    rw [tb, isb] at ob
    have dle : set &&& dS μ (tn μ) ≤ set := Nat.and_le_left
    have cd : (nI (set &&& dS μ (tn μ)) = 0) = (set &&& dS μ (tn μ) = 0) := n_eq (b := 0) (by omega) (by decide)
    have cl : ((0 : Int32) < nI (sayB μ p set w)) = ¬ sayB μ p set w = 0 := by
      rw [show ((0 : Int32) < nI (sayB μ p set w)) = (0 < sayB μ p set w) from n_lt (a := 0) (by decide) (by omega)]
      exact propext ⟨fun z => by omega, fun z => by omega⟩
    unfold X11_say
    rw [if_neg (show ¬ X11_isPerson (nI p) = 0 from k1), vo_134 om, Option.bind_some, k2m, Option.bind_some, if_neg (by decide), if_neg (show ¬ X11_isWay (nI w) = 0 from k3), Option.bind_some, eb, Option.bind_some]
    simp only [cl]
    by_cases q : sayB μ p set w = 0
    · rw [if_neg (fun z => z q), if_neg (fun z => z q), vo_134 sb.1, Option.bind_some, db, Option.bind_some, cbs_eq]
      simp only [cd]
      by_cases q1 : set &&& dS μ (tn μ) = 0
      · rw [if_pos q1, decide_eq_true q1, Bool.true_and, Option.bind_some, fb, Option.bind_some]
        simp only [b01_z]
        cases q2 : frB μ p set (tn μ)
        · rw [if_pos rfl, Bool.false_and, if_pos rfl]
        · rw [if_neg (by decide), Option.bind_some, ob, Option.bind_some, Bool.true_and]
          simp only [b01_z]
      · rw [if_neg q1, decide_eq_false q1, Bool.false_and, if_pos rfl]
    · rw [if_pos q, if_pos q]
  have refA := ref a sa.1 rfl (fun _ _ _ _ => rfl)
  by_cases qB : sayB μ p set w = 0
  · cases qC : cbs μ p set (tn μ)
    · obtain ⟨b, sb, eb⟩ := refA
      rw [if_neg (fun z => z qB), if_pos qC] at eb
      refine pairS I0 (r := -1003) (μ1 := a) (μ2 := b) ?_ sa eb sb
      rw [headC, ea, Option.bind_some]
      simp only [cb]
      rw [if_pos qB, r_0_2 sa.1, Option.bind_some, vo_37 sa.1, Option.bind_some, cs0, Option.bind_some, qC, if_pos (by rfl)]
    · have sca : mI a 37 3 = nI (sc μ) := (sa.fld (a := 37) (k := 3) rfl).trans S.1.1
      have now : mI a 0 10 = nI (nw μ) := (sa.fld (a := 0) (k := 10) rfl).trans w6.1
      by_cases qF : sc μ = 40
      · obtain ⟨b, sb, eb⟩ := refA
        have scb : mI b 134 45 = nI (sc μ) := ((sa.tr sb).fld (a := 134) (k := 45) rfl).trans S.1.2.1
        rw [if_neg (fun z => z qB), if_neg (by rw [qC]; decide), gi_134 sb.1, scb, Option.bind_some, qF, if_pos (by decide)] at eb
        refine pairS I0 (r := -1004) (μ1 := a) (μ2 := b) ?_ sa eb sb
        rw [headC, ea, Option.bind_some]
        simp only [cb]
        rw [if_pos qB, r_0_2 sa.1, Option.bind_some, vo_37 sa.1, Option.bind_some, cs0, Option.bind_some, qC, if_neg (by decide), Option.bind_some, gi_37 sa.1, sca, Option.bind_some, qF, if_neg (by decide)]
      · have n40 : sc μ < 40 := by omega
        have c40 : nI (sc μ) < 40 := (nI_ltI (b := 40) (by omega) (by decide)).mpr n40
        have d40 : ¬ nI (sc μ) = 40 := fun z => qF ((nI_eq (b := 40) (by omega) (by decide)).mp z)
        have ⟨m, em⟩ : ∃ m, m = wI (wI (wI (wI (wI a (50 + sc μ) 0 (nI p)) (50 + sc μ) 1 (nI set)) (50 + sc μ) 2 (nI w)) (50 + sc μ) 3 (nI (nw μ))) 37 3 (nI (sc μ + 1)) := ⟨_, rfl⟩
        have om : Ok m := by rw [em]; exact sa.1
        have mfr : ∀ b k, ¬ (b = 50 + sc μ ∧ k < 4) → ¬ (b = 37 ∧ k = 3) → mI m b k = mI a b k := fun b k q1 q2 => by
          rw [em, fld_ne q2, fld_ne (by omega), fld_ne (by omega), fld_ne (by omega), fld_ne (by omega)]
        obtain ⟨b, sb, eb⟩ := ref m om (by rw [em]; rfl) (fun b k q1 q2 => mfr b k (by omega) q2)
        have scb : mI b 134 45 = nI (sc μ) := by
          rw [sb.fld (a := 134) (k := 45) rfl, mfr 134 45 (by omega) (by omega), sa.fld (a := 134) (k := 45) rfl]
          exact S.1.2.1
        have nwb : mI b 134 5 = nI (nw μ) := by
          rw [sb.fld (a := 134) (k := 5) rfl, mfr 134 5 (by omega) (by omega), sa.fld (a := 134) (k := 5) rfl]
          exact w6.2.1
        have ⟨m2, em2⟩ : ∃ m2, m2 = wI (wI (wI (wI (wI (wI b 170 (sc μ) (nI p)) 171 (sc μ) (nI set)) 172 (sc μ) (nI w)) 173 (sc μ) (nI (nw μ))) 174 (sc μ) 0) 134 45 (nI (sc μ + 1)) := ⟨_, rfl⟩
        have ob := sb.1
        refine ⟨nI (sc μ), m, m2, ?_, om, ?_, ?_⟩
        · rw [headC, ea, Option.bind_some]
          simp only [cb]
          have oa := sa.1
          rw [if_pos qB, r_0_2 sa.1, Option.bind_some, vo_37 sa.1, Option.bind_some, cs0, Option.bind_some, qC, if_neg (by decide), Option.bind_some, gi_37 sa.1, sca, Option.bind_some, if_pos c40, Option.bind_some, r_37_1 oa, Option.bind_some, Option.bind_some, gi_37 oa, sca, Option.bind_some, ar_sayings oa n40, Option.bind_some, pi_S oa n40, Option.bind_some, pi_S oa.wI n40, Option.bind_some, pi_S oa.wI.wI n40, Option.bind_some, gi_0 oa.wI.wI.wI, row_ne (by omega), row_ne (by omega), row_ne (by omega), now, Option.bind_some, pi_S oa.wI.wI.wI n40, Option.bind_some, r_0_2 oa.wI.wI.wI.wI, Option.bind_some, gi_37 oa.wI.wI.wI.wI, row_ne (by omega), row_ne (by omega), row_ne (by omega), row_ne (by omega), sca, Option.bind_some, nI_add1, pi_37 oa.wI.wI.wI.wI, Option.bind_some, r_0_2 oa.wI.wI.wI.wI.wI, Option.bind_some, gi_37 oa.wI.wI.wI.wI.wI, fld_eq, Option.bind_some, nI_pred, em]
        · rw [if_neg (fun z => z qB), if_neg (by rw [qC]; decide), gi_134 ob, scb, Option.bind_some, if_neg d40, r_134_46 ob, Option.bind_some, Option.bind_some, si_170 ob n40, Option.bind_some, r_134_47 ob.wI, Option.bind_some, gi_134 ob.wI, row_ne (by omega), scb, Option.bind_some, si_171 ob.wI n40, Option.bind_some, r_134_48 ob.wI.wI, Option.bind_some, gi_134 ob.wI.wI, row_ne (by omega), row_ne (by omega), scb, Option.bind_some, si_172 ob.wI.wI n40, Option.bind_some, r_134_49 ob.wI.wI.wI, Option.bind_some, gi_134 ob.wI.wI.wI, row_ne (by omega), row_ne (by omega), row_ne (by omega), scb, Option.bind_some, gi_134 ob.wI.wI.wI, row_ne (by omega), row_ne (by omega), row_ne (by omega), nwb, Option.bind_some, si_173 ob.wI.wI.wI n40, Option.bind_some, r_134_50 ob.wI.wI.wI.wI, Option.bind_some, gi_134 ob.wI.wI.wI.wI, row_ne (by omega), row_ne (by omega), row_ne (by omega), row_ne (by omega), scb, Option.bind_some, si_174 ob.wI.wI.wI.wI n40, Option.bind_some, gi_134 ob.wI.wI.wI.wI.wI, row_ne (by omega), row_ne (by omega), row_ne (by omega), row_ne (by omega), row_ne (by omega), scb, Option.bind_some, pi_134 ob.wI.wI.wI.wI.wI, Option.bind_some, gi_134 ob.wI.wI.wI.wI.wI.wI, nI_add1, fld_eq, Option.bind_some, nI_pred] at eb
          rw [em2]
          exact eb
        · have o2 : Ok m2 := by rw [em2]; exact ob
          have R2 : mR m2 92 = mR μ 92 := by
            rw [em2]
            show mR b 92 = _
            rw [sb.2.2.1, em]
            exact sa.2.2.1
          have m2fr : ∀ c k, ¬ (170 ≤ c ∧ c < 175 ∧ k = sc μ) → ¬ (c = 134 ∧ k = 45) → mI m2 c k = mI b c k := fun c k q1 q2 => by
            rw [em2, fld_ne q2, fld_ne (by omega), fld_ne (by omega), fld_ne (by omega), fld_ne (by omega), fld_ne (by omega)]
          have core : ∀ c k, cor c k = true → ¬ (c = 50 + sc μ ∧ k < 4) → ¬ (c = 37 ∧ k = 3) → ¬ (170 ≤ c ∧ c < 175 ∧ k = sc μ) → ¬ (c = 134 ∧ k = 45) → mI m2 c k = mI μ c k := fun c k hcr q1 q2 q3 q4 => by
            rw [m2fr c k q3 q4, sb.2.1 c k hcr, mfr c k q1 q2, sa.2.1 c k hcr]
          have coS : ∀ c k, ((50 ≤ c ∧ c < 90) ∨ (170 ≤ c ∧ c < 175)) → cor c k = true := fun c k h => by
            unfold cor
            have : coA c = true := by
              unfold coA
              rw [decide_eq_true_eq]
              omega
            rw [this]
            rfl
          -- the old memory with the new rows alone; then scratch
          have ⟨m3, em3⟩ : ∃ m3 : Mem, m3 = (mN m2, mS m2, (fun c k => if cor c k = true then mI m2 c k else mI μ c k), mJ m2, mR m2) := ⟨_, rfl⟩
          have o3 : Ok m3 := by rw [em3]; exact o2
          have I3 : ∀ c k, mI m3 c k = if cor c k = true then mI m2 c k else mI μ c k := fun c k => by rw [em3]; rfl
          have s3 : Sm m3 m2 := ⟨o2, fun c k q => by rw [I3, if_pos q], by rw [em3]; rfl, by rw [em3]; rfl⟩
          refine Inv.sm ?_ s3
          have fr3 : ∀ c k, ¬ (c = 50 + sc μ ∧ k < 4) → ¬ (c = 37 ∧ k = 3) → ¬ (170 ≤ c ∧ c < 175 ∧ k = sc μ) → ¬ (c = 134 ∧ k = 45) → mI m3 c k = mI μ c k := fun c k q1 q2 q3 q4 => by
            rw [I3]
            by_cases z : cor c k = true
            · rw [if_pos z, core c k z q1 q2 q3 q4]
            · rw [if_neg z]
          refine I0.setS o3 (by rw [em3]; exact R2) (fun c k q1 q2 q3 q4 => fr3 c k (by omega) q3 (by omega) q4) (RelS.mk' (n := sc μ + 1) (fun c t' => if t' = sc μ then [p, set, w, nw μ, 0].getD c 0 else sv μ c t') ?_ ?_ n40 (fun c t' hc' ht' => ?_) (fun t' ht' => ?_) (fun t' q1 ht' => ?_))
          · rw [I3, if_pos (show cor 37 3 = true from rfl), m2fr 37 3 (by omega) (by omega), sb.2.1 37 3 rfl, em, fld_eq]
          · rw [I3, if_pos (show cor 134 45 = true from rfl), em2, fld_eq]
          · obtain ⟨z1, z2, z3⟩ := S.2.1 c t' hc' ht'
            by_cases z : t' = sc μ
            · subst z
              have z4 : mI a (50 + sc μ) 4 = 0 := by
                rw [sa.2.1 _ _ (coS _ _ (by omega)), (S.2.1 4 (sc μ) (by decide) n40).1, S.2.2.2 (sc μ) (Nat.le_refl _) n40, nI_0]
              rw [if_pos rfl, I3, I3, if_pos (coS _ _ (by omega)), if_pos (coS _ _ (by omega)), m2fr (50 + sc μ) c (by omega) (by omega), sb.2.1 _ _ (coS _ _ (by omega))]
              rcases (show c = 0 ∨ c = 1 ∨ c = 2 ∨ c = 3 ∨ c = 4 by omega) with rfl | rfl | rfl | rfl | rfl
              all_goals rw [em, em2]
              all_goals simp (disch := omega) only [row_ne, fld_eq, fld_ne]
              · exact ⟨rfl, rfl, hp⟩
              · exact ⟨rfl, rfl, (show set ≤ 1023 by omega)⟩
              · exact ⟨rfl, rfl, hw⟩
              · exact ⟨rfl, rfl, hn⟩
              · exact ⟨z4, rfl, Nat.zero_le _⟩
            · rw [if_neg z, fr3 (50 + t') c (by omega) (by omega) (by omega) (by omega), fr3 (170 + c) t' (by omega) (by omega) (by omega) (by omega)]
              exact ⟨z1, z2, z3⟩
          · have en : nw m3 = nw μ := by
              unfold nw
              rw [fr3 134 5 (by omega) (by omega) (by omega) (by omega)]
            rw [en]
            by_cases z : t' = sc μ
            · rw [if_pos z]
              exact Nat.le_refl _
            · rw [if_neg z]
              exact S.2.2.1 t' ht'
          · rw [if_neg (by omega)]
            exact S.2.2.2 t' (by omega) ht'
  · obtain ⟨b, sb, eb⟩ := refA
    rw [if_pos qB] at eb
    refine pairS I0 (r := -1003) (μ1 := a) (μ2 := b) ?_ sa eb sb
    rw [headC, ea, Option.bind_some]
    simp only [cb]
    rw [if_neg qB]
