/-! ===== tried, of the reference ===== -/
theorem tried99 {μ : Mem} (o : Ok μ) (T : RelT μ) {p u g : Nat} (hu : u < 100) (hg : g ≤ 1) {a : TS} (ha : a.1 < 2 ^ 10) (x2 x3 x4 x8 : Int32) : X11_tried_L99 134 (nI p) x2 x3 x4 x8 (nI u) (nI g) μ FU (nI a.1) (nI a.2.1) a.2.2.1 (nI a.2.2.2) 0 0 = some (nI (tA μ p u g a (tn μ)).1, nI (tA μ p u g a (tn μ)).2.1, (tA μ p u g a (tn μ)).2.2.1, nI (tA μ p u g a (tn μ)).2.2.2, if (tA μ p u g a (tn μ)).2.2.2 = a.2.2.2 then 0 else 1, nI (tn μ)) := by
  have hn := T.1.2.2
  obtain ⟨b, P, e⟩ := loopF (F := fun k (b : TS) i => X11_tried_L99 134 (nI p) x2 x3 x4 x8 (nI u) (nI g) μ k (nI b.1) (nI b.2.1) b.2.2.1 (nI b.2.2.2) (if b.2.2.2 = a.2.2.2 then 0 else 1) (nI i)) (P := fun i b => b = tA μ p u g a i) (n := tn μ) (r := fun b => (nI b.1, nI b.2.1, b.2.2.1, nI b.2.2.2, if b.2.2.2 = a.2.2.2 then 0 else 1, nI (tn μ))) (by omega) (fun k b i hi P => by
    subst P
    have i10 : i < 10 := by omega
    obtain ⟨bd, bm, -⟩ := tA_bd μ p u g a ha i (by omega)
    have f0 : mI μ 145 i = _ := (T.2.1 0 i (by decide) i10).2.1
    have f6 : mI μ 151 i = _ := (T.2.1 6 i (by decide) i10).2.1
    have f7 : mI μ 152 i = _ := (T.2.1 7 i (by decide) i10).2.1
    have b6 : tv μ 6 i ≤ 60 := (T.2.1 6 i (by decide) i10).2.2
    have b7 : tv μ 7 i ≤ 60 := (T.2.1 7 i (by decide) i10).2.2
    have c7 : (nI u < nI (tv μ 7 i)) = (u < tv μ 7 i) := n_lt (by omega) (by omega)
    have c6 : (nI (tv μ 6 i) = nI u) = (tv μ 6 i = u) := n_eq (by omega) (by omega)
    have d6 : (nI u ≤ nI (tv μ 6 i)) = (u ≤ tv μ 6 i) := n_le (by omega) (by omega)
    have cg : (nI g = 0) = (g = 0) := n_eq (b := 0) (by omega) (by decide)
    have ml := muV_le μ i
    have cm : (nI (muV μ i) = 0) = (muV μ i = 0) := n_eq (b := 0) (by omega) (by decide)
    have bl1 := bt_le (nI (tv μ 0 i)) p
    have bl2 := bt_le (nI (tA μ p u g a i).1) i
    have lt : ∀ l : Nat, nI l + (if u ≤ tv μ 6 i then 0 else 1 : Int32) = nI (l + if u ≤ tv μ 6 i then 0 else 1) := fun l => by
      split
      · rw [Int32.add_zero, Nat.add_zero]
      · rw [nI_add1]
    refine ⟨tA μ p u g a (i + 1), rfl, ?_⟩
    show X11_tried_L99 134 (nI p) x2 x3 x4 x8 (nI u) (nI g) μ (k + 1) (nI (tA μ p u g a i).1) (nI (tA μ p u g a i).2.1) (tA μ p u g a i).2.2.1 (nI (tA μ p u g a i).2.2.2) (if (tA μ p u g a i).2.2.2 = a.2.2.2 then 0 else 1) (nI i) = X11_tried_L99 134 (nI p) x2 x3 x4 x8 (nI u) (nI g) μ k (nI (tA μ p u g a (i + 1)).1) (nI (tA μ p u g a (i + 1)).2.1) (tA μ p u g a (i + 1)).2.2.1 (nI (tA μ p u g a (i + 1)).2.2.2) (if (tA μ p u g a (i + 1)).2.2.2 = a.2.2.2 then 0 else 1) (nI (i + 1))
    rw [X11_tried_L99, gi_134 o, T.1.2.1, Option.bind_some, if_neg (nI_ge hi (by omega)), tA]
    simp only [r_134_13 o, r_134_19 o, r_134_20 o, ai_145 o i10, ai_151 o i10, ai_152 o i10, f0, f6, f7, Option.bind_some, nI_add1, bt_1, bt_z, c7, c6, d6, cg, vo_134 o, must_m o T i10, cm, lt, or_put (m := (tA μ p u g a i).1) (show i < 31 by omega)]
    by_cases gb : goB μ p u g i (tA μ p u g a i).1
    · rw [tS_pos gb]
      obtain ⟨⟨q1, q2⟩, q3, q4⟩ := gb
      have q5 : ¬ u < tv μ 7 i := by omega
      have q6 : ¬ (tA μ p u g a i).2.2.2 + 1 = a.2.2.2 := by omega
      simp only [q1, q2, q5, q6, if_true, if_false, Option.bind_some, one0]
      by_cases g0 : g = 0
      · have qq : muV μ i = 1 ∧ tv μ 6 i = u := by omega
        have qm : ¬ muV μ i = 0 := by omega
        simp only [g0, qm, qq.2, if_true, if_false, Option.bind_some]
      · simp only [g0, if_false, Option.bind_some]
    · rw [tS_neg gb]
      by_cases q1 : bt (nI (tv μ 0 i)) p = 1
      · by_cases q2 : bt (nI (tA μ p u g a i).1) i = 0
        · by_cases q3 : u < tv μ 7 i
          · simp only [q1, q2, q3, if_true, Option.bind_some]
          · by_cases g0 : g = 0
            · by_cases q4 : muV μ i = 0
              · simp only [q1, q2, q3, if_true, if_false, Option.bind_some, one0]
                rw [if_pos g0, if_pos q4, Option.bind_some]
              · by_cases q5 : tv μ 6 i = u
                · exact absurd ⟨⟨q1, q2⟩, by omega, Or.inr ⟨by omega, q5⟩⟩ gb
                · simp only [q1, q2, q3, if_true, if_false, Option.bind_some, one0]
                  rw [if_pos g0, if_neg q4, if_neg q5, Option.bind_some]
            · exact absurd ⟨⟨q1, q2⟩, by omega, Or.inl (by omega)⟩ gb
        · simp only [q1, q2, if_true, if_false, Option.bind_some]
      · simp only [q1, if_true, if_false, Option.bind_some]) (fun k b P => by
    show X11_tried_L99 134 (nI p) x2 x3 x4 x8 (nI u) (nI g) μ (k + 1) (nI b.1) (nI b.2.1) b.2.2.1 (nI b.2.2.2) (if b.2.2.2 = a.2.2.2 then 0 else 1) (nI (tn μ)) = _
    rw [X11_tried_L99, gi_134 o, T.1.2.1, Option.bind_some, if_pos (nI_le (Nat.le_refl _) (by omega))]) a rfl
  subst P
  have e : X11_tried_L99 134 (nI p) x2 x3 x4 x8 (nI u) (nI g) μ FU (nI a.1) (nI a.2.1) a.2.2.1 (nI a.2.2.2) (if a.2.2.2 = a.2.2.2 then 0 else 1) (nI 0) = _ := e
  rw [if_pos rfl] at e
  exact e
theorem tried65 {μ : Mem} (I : Inv μ) {p h w : Nat} (hp : p < 4) (hh : h ≤ 1000000) (hw : w < 4) (x4 : Int32) : ∃ μ', Sm μ μ' ∧ X11_tried_L65 134 (nI p) (nI h) (nI w) x4 FU 0 0 0 0 0 0 μ = some (nI (kA μ p h w (nw μ)).1.1, nI (kA μ p h w (nw μ)).1.2.1, (kA μ p h w (nw μ)).1.2.2.1, (kA μ p h w (nw μ)).2, nI (kA μ p h w (nw μ)).1.2.2.2, nI (nw μ), μ') := by
  obtain ⟨o, W, C, T, -⟩ := I
  have hn := W.2.2.2.2.2.2.2
  obtain ⟨c, ⟨P1, P2⟩, e⟩ := loopF (F := fun k (c : (TS × Int32) × Mem) i => X11_tried_L65 134 (nI p) (nI h) (nI w) x4 k (nI c.1.1.1) (nI c.1.1.2.1) c.1.1.2.2.1 c.1.2 (nI c.1.1.2.2.2) (nI i) c.2) (P := fun i c => c.1 = kA μ p h w i ∧ Sm μ c.2) (n := nw μ) (r := fun c => (nI c.1.1.1, nI c.1.1.2.1, c.1.1.2.2.1, c.1.2, nI c.1.1.2.2.2, nI (nw μ), c.2)) (by omega) (fun k c i hi P => by
    obtain ⟨b, μ'⟩ := c
    obtain ⟨rfl, s⟩ : b = kA μ p h w i ∧ Sm μ μ' := P
    have o' := s.1
    have W' := W.sm s
    have hw5 : mI μ' 134 5 = nI (nw μ) := (s.fld (a := 134) (k := 5) rfl).trans W.2.2.2.2.2.2.1
    obtain ⟨b1, b2⟩ := kA_bd T p h w i
    obtain ⟨m4, ⟨s4, -⟩, e4⟩ := mseam_ok o' W' (p := p) (t := i) (k := 0) hp (by omega) (by omega)
    rw [sS_odd_sm s] at e4
    have s04 := s.tr s4
    have T4 := Onl.T s04 T
    have C4 : RelC m4 := C.cg (fun q hq => s04.row (coA_4 (by omega) hq)) (s04.row rfl) (s04.row rfl) (s04.row rfl)
    have hs1 : sS μ (odd μ p i 0) ≤ 1000000 := sS_le
    have cg : (if nI (sS μ (odd μ p i 0)) < nI h then (0 : Int32) else 1) = nI (gV μ p i h) := by
      unfold gV
      simp only [n_lt (show sS μ (odd μ p i 0) < 2 ^ 31 by omega) (show h < 2 ^ 31 by omega)]
      split <;> rfl
    have e9 := tried99 s4.1 T4 (p := p) (u := i) (g := gV μ p i h) (by omega) (gV_le μ p i h) b1 (nI h) (nI w) x4 (kA μ p h w i).2
    rw [tA_sm s04, tn_sm s04] at e9
    show ∃ a', _ ∧ X11_tried_L65 134 (nI p) (nI h) (nI w) x4 (k + 1) (nI (kA μ p h w i).1.1) (nI (kA μ p h w i).1.2.1) (kA μ p h w i).1.2.2.1 (kA μ p h w i).2 (nI (kA μ p h w i).1.2.2.2) (nI i) μ' = _
    rw [X11_tried_L65, gi_134 o', hw5, Option.bind_some, if_neg (nI_ge hi (by omega)), vo_134 o', Option.bind_some]
    rw [show X11_seamOdds 134 (nI p) (nI i) 0 μ' = _ from e4, Option.bind_some, cg, Option.bind_some, e9, Option.bind_some]
    by_cases q : (tA μ p i (gV μ p i h) (kA μ p h w i).1 (tn μ)).2.2.2 = (kA μ p h w i).1.2.2.2
    · refine ⟨(kA μ p h w (i + 1), m4), ⟨rfl, s04⟩, ?_⟩
      rw [if_pos q, if_pos rfl, Option.bind_some, Option.bind_some, nI_add1]
      show _ = X11_tried_L65 134 (nI p) (nI h) (nI w) x4 k (nI (kA μ p h w (i + 1)).1.1) (nI (kA μ p h w (i + 1)).1.2.1) (kA μ p h w (i + 1)).1.2.2.1 (kA μ p h w (i + 1)).2 (nI (kA μ p h w (i + 1)).1.2.2.2) (nI (i + 1)) m4
      rw [kA, if_pos q, Int32.add_zero]
    · obtain ⟨m5, s5, e5⟩ := loss_m s4.1 (W'.sm s4) C4 (p := p) (t := i) (k := 0) (w := w) hp (by omega) (by omega) hw
      rw [lsS_sm s04, show odd m4 p i 0 = odd μ p i 0 from funext (odd_sm s04 p i 0)] at e5
      refine ⟨(kA μ p h w (i + 1), m5), ⟨rfl, s04.tr s5⟩, ?_⟩
      rw [if_neg q, if_neg (show ¬ (1 : Int32) = 0 by decide), vo_134 s4.1, Option.bind_some]
      rw [show X11_lossOf 134 (nI p) (nI w) (nI i) 0 m4 = _ from e5, Option.bind_some, Option.bind_some, Option.bind_some, nI_add1]
      show _ = X11_tried_L65 134 (nI p) (nI h) (nI w) x4 k (nI (kA μ p h w (i + 1)).1.1) (nI (kA μ p h w (i + 1)).1.2.1) (kA μ p h w (i + 1)).1.2.2.1 (kA μ p h w (i + 1)).2 (nI (kA μ p h w (i + 1)).1.2.2.2) (nI (i + 1)) m5
      rw [kA, if_neg q]) (fun k c P => by
    have hw5 : mI c.2 134 5 = nI (nw μ) := (P.2.fld (a := 134) (k := 5) rfl).trans W.2.2.2.2.2.2.1
    show X11_tried_L65 134 (nI p) (nI h) (nI w) x4 (k + 1) (nI c.1.1.1) (nI c.1.1.2.1) c.1.1.2.2.1 c.1.2 (nI c.1.1.2.2.2) (nI (nw μ)) c.2 = _
    rw [X11_tried_L65, gi_134 P.2.1, hw5, Option.bind_some, if_pos (nI_le (Nat.le_refl _) (by omega))]) (((0, 0, 0, 0), 0), μ) ⟨rfl, Sm.rf o⟩
  refine ⟨c.2, P2, ?_⟩
  rw [← P1]
  exact e
theorem tried273 {μ : Mem} (I : Inv μ) {p : Nat} {a : TS} (ha : a.1 < 2 ^ 10) (x4 x7 x8 x9 : Int32) : X11_tried_L273 134 (nI p) x4 (nI a.1) x7 x8 x9 μ FU (nI a.2.1) 0 = some (nI (ltA μ p a.1 a.2.1 (tn μ)), nI (tn μ)) := by
  obtain ⟨o, W, C, T, -⟩ := I
  have hn := W.2.2.2.2.2.2.2
  have hw5 := W.2.2.2.2.2.2.1
  have hT := T.1.2.2
  obtain ⟨b, P, e⟩ := loopF (F := fun k (b : Nat) i => X11_tried_L273 134 (nI p) x4 (nI a.1) x7 x8 x9 μ k (nI b) (nI i)) (P := fun i b => b = ltA μ p a.1 a.2.1 i) (n := tn μ) (r := fun b => (nI b, nI (tn μ))) (by omega) (fun k b i hi P => by
    subst P
    have i10 : i < 10 := by omega
    have f0 : mI μ 145 i = _ := (T.2.1 0 i (by decide) i10).2.1
    have f6 : mI μ 151 i = _ := (T.2.1 6 i (by decide) i10).2.1
    have b6 : tv μ 6 i ≤ 60 := (T.2.1 6 i (by decide) i10).2.2
    have c6 : (nI (nw μ) ≤ nI (tv μ 6 i)) = (nw μ ≤ tv μ 6 i) := n_le (by omega) (by omega)
    have bl1 := bt_le (nI (tv μ 0 i)) p
    refine ⟨_, rfl, ?_⟩
    show X11_tried_L273 134 (nI p) x4 (nI a.1) x7 x8 x9 μ (k + 1) (nI (ltA μ p a.1 a.2.1 i)) (nI i) = X11_tried_L273 134 (nI p) x4 (nI a.1) x7 x8 x9 μ k (nI (ltA μ p a.1 a.2.1 (i + 1))) (nI (i + 1))
    rw [X11_tried_L273, gi_134 o, T.1.2.1, Option.bind_some, if_neg (nI_ge hi (by omega))]
    simp only [r_134_13 o, r_134_19 o, ai_145 o i10, ai_151 o i10, gi_134 o, hw5, f0, f6, Option.bind_some, nI_add1, bt_1, bt_z, c6]
    by_cases gb : ltB μ p a.1 i
    · rw [ltA_pos gb]
      obtain ⟨⟨q1, q2⟩, q3⟩ := gb
      have q4 : ¬ nw μ ≤ tv μ 6 i := by omega
      simp only [q1, q2, q4, if_true, if_false, one0, Option.bind_some, nI_add1]
    · rw [ltA_neg gb]
      by_cases q1 : bt (nI (tv μ 0 i)) p = 1
      · by_cases q2 : bt (nI a.1) i = 0
        · by_cases q3 : nw μ ≤ tv μ 6 i
          · simp only [q1, q2, q3, if_true, if_false, one0, Option.bind_some, Int32.add_zero]
          · exact absurd ⟨⟨q1, q2⟩, by omega⟩ gb
        · simp only [q1, q2, if_true, if_false, Option.bind_some, Int32.add_zero]
      · simp only [q1, if_true, if_false, Option.bind_some, Int32.add_zero]) (fun k b P => by
    show X11_tried_L273 134 (nI p) x4 (nI a.1) x7 x8 x9 μ (k + 1) (nI b) (nI (tn μ)) = _
    rw [X11_tried_L273, gi_134 o, T.1.2.1, Option.bind_some, if_pos (nI_le (Nat.le_refl _) (by omega))]) a.2.1 rfl
  subst P
  exact e
theorem p_tried (x1 x2 x3 x4 : Int32) : Pair (X10_tried 0 x1 x2 x3 x4) (X11_tried 134 x1 x2 x3 x4) := by
  intro μ I
  have I0 := I
  obtain ⟨o, W, hC, hT, hS, hX, hL⟩ := I
  have hn := W.2.2.2.2.2.2.2
  have w6 := W.2.2.2.2.2
  rcases gd x1 3 (by decide) with ⟨g1, k1⟩ | ⟨g1, k1, p, hp, rfl⟩
  · exact pairR I0 (by unfold X10_tried; rw [if_pos (show X10_isPerson x1 = 0 from g1)]) (by unfold X11_tried; rw [if_pos (show X11_isPerson x1 = 0 from k1)])
  rcases gd x2 1000000 (by decide) with ⟨g2, k2⟩ | ⟨g2, k2, h, hh, rfl⟩
  · exact pairR I0 (by unfold X10_tried; rw [if_neg (show ¬ X10_isPerson (nI p) = 0 from g1), if_pos (show X10_within x2 0 1000000 = 0 from g2)]) (by unfold X11_tried; rw [if_neg (show ¬ X11_isPerson (nI p) = 0 from k1), if_pos (show X11_in x2.toInt64 0 1000000 = 0 from k2)])
  rcases gd x3 3 (by decide) with ⟨g3, k3⟩ | ⟨g3, k3, w, hw, rfl⟩
  · exact pairR I0 (by unfold X10_tried; rw [if_neg (show ¬ X10_isPerson (nI p) = 0 from g1), if_neg (show ¬ X10_within (nI h) 0 1000000 = 0 from g2), if_pos (show X10_isWay x3 = 0 from g3)]) (by unfold X11_tried; rw [if_neg (show ¬ X11_isPerson (nI p) = 0 from k1), if_neg (show ¬ X11_in (nI h).toInt64 0 1000000 = 0 from k2), if_pos (show X11_isWay x3 = 0 from k3)])
  rcases gd x4 3 (by decide) with ⟨g4, k4⟩ | ⟨g4, k4, v, hv, rfl⟩
  · exact pairR I0 (by unfold X10_tried; rw [if_neg (show ¬ X10_isPerson (nI p) = 0 from g1), if_neg (show ¬ X10_within (nI h) 0 1000000 = 0 from g2), if_neg (show ¬ X10_isWay (nI w) = 0 from g3), if_pos (show X10_within x4 0 3 = 0 from g4)]) (by unfold X11_tried; rw [if_neg (show ¬ X11_isPerson (nI p) = 0 from k1), if_neg (show ¬ X11_in (nI h).toInt64 0 1000000 = 0 from k2), if_neg (show ¬ X11_isWay (nI w) = 0 from k3), if_pos (show X11_in x4.toInt64 0 3 = 0 from k4)])
  have ⟨m0, em0⟩ : ∃ m, m = wI (wI (wI (wI (wI μ 107 0 0) 107 1 0) 107 2 0) 107 3 0) 107 7 0 := ⟨_, rfl⟩
  have s0 : Sm μ m0 := by
    rw [em0]
    exact (((((Sm.rf o).wI rfl).wI rfl).wI rfl).wI rfl).wI rfl
  have r0 : R7 m0 (0, 0, 0, 0) 0 := by
    rw [em0]
    unfold R7
    simp (disch := omega) only [fld_ne, fld_eq]
    exact ⟨rfl, rfl, trivial, rfl, trivial⟩
  have I1 := I0.sm s0
  obtain ⟨m1, ⟨s1, r1⟩, e1⟩ := run28 I1 (p := p) (h := h) (w := w) (by omega) hh (by omega) r0
  have I2 := I1.sm s1
  rw [kA_sm s0, nw_sm s0] at r1
  rw [nw_sm s0] at e1
  obtain ⟨bd, -⟩ := kA_bd hT p h w (nw μ)
  obtain ⟨m2, ⟨s2, r2⟩, e2⟩ := run120 I2 (p := p) bd r1
  have s01 := s0.tr s1
  rw [nw_sm s01, tn_sm s01] at e2
  rw [tn_sm s01, ltA_sm s01] at r2
  have s02 := s01.tr s2
  have I3 := I0.sm s02
  obtain ⟨m3, s3, e3⟩ := tried65 I3 (p := p) (h := h) (w := w) (by omega) hh (by omega) (nI v)
  rw [kA_sm s02, nw_sm s02] at e3
  have I4 := I3.sm s3
  have e4 := tried273 I4 (p := p) bd (nI v) (kA μ p h w (nw μ)).1.2.2.1 (kA μ p h w (nw μ)).2 (nI (kA μ p h w (nw μ)).1.2.2.2)
  rw [tn_sm (s02.tr s3), ltA_sm (s02.tr s3)] at e4
  have rC : X7_run 107 (nI p) (nI h) (nI w) (nI (nw μ)) μ = some m2 := by
    unfold X7_run
    rw [pi_107 o, Option.bind_some, pi_107 o.wI, Option.bind_some, pi_107 o.wI.wI, Option.bind_some, pi_107 o.wI.wI.wI, Option.bind_some, pi_107 o.wI.wI.wI.wI, Option.bind_some, ← em0, e1, Option.bind_some, e2, Option.bind_some]
  obtain ⟨z7, z0, z1, z3, z2⟩ := r2
  have main : ∀ x : Int32, (if nI v = Int32.ofNat 0 then nI (ltA μ p (kA μ p h w (nw μ)).1.1 (kA μ p h w (nw μ)).1.2.1 (tn μ)) else if nI v = Int32.ofNat 1 then (kA μ p h w (nw μ)).1.2.2.1 else if nI v = Int32.ofNat 2 then (kA μ p h w (nw μ)).2 else nI (kA μ p h w (nw μ)).1.2.2.2) = x → ∃ r μ1 μ2, X10_tried 0 (nI p) (nI h) (nI w) (nI v) μ = some (r, μ1) ∧ Ok μ1 ∧ X11_tried 134 (nI p) (nI h) (nI w) (nI v) μ1 = some (r, μ2) ∧ Inv μ2 := by
    intro x ex
    refine pairS I0 (r := x) (μ1 := m2) (μ2 := m3) ?_ s02 ?_ s3
    · unfold X10_tried
      rw [if_neg (show ¬ X10_isPerson (nI p) = 0 from g1), if_neg (show ¬ X10_within (nI h) 0 1000000 = 0 from g2), if_neg (show ¬ X10_isWay (nI w) = 0 from g3), if_neg (show ¬ X10_within (nI v) 0 3 = 0 from g4), r_0_7 o, Option.bind_some, gi_0 o, w6.1, Option.bind_some, vo_107 o, Option.bind_some, rC, Option.bind_some]
      simp only [r_0_7 s02.1, gi_107 s02.1, Option.bind_some, z0, z1, z2, z3]
      rw [← ex]
      split
      · rfl
      · split
        · rfl
        · split <;> rfl
    · unfold X11_tried
      rw [if_neg (show ¬ X11_isPerson (nI p) = 0 from k1), if_neg (show ¬ X11_in (nI h).toInt64 0 1000000 = 0 from k2), if_neg (show ¬ X11_isWay (nI w) = 0 from k3), if_neg (show ¬ X11_in (nI v).toInt64 0 3 = 0 from k4), e3, Option.bind_some]
      rw [e4, Option.bind_some]
      rw [← ex]
      rfl
  exact main _ rfl
