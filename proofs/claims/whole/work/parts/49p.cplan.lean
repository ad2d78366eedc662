/-! ===== the class's plan as a whole ===== -/
theorem make_c {μ : Mem} (I : Inv μ) {p n : Nat} (hp : p < 4) (hn1 : 1 ≤ n) (hn6 : n ≤ 6) : ∃ ν, (Sm μ ν ∧ mI ν 94 0 = nI (BP μ p n n (2 ^ pK μ p - 1) 0) ∧ ∀ s, s < n → mI ν 95 s = nI (rS μ p (chW μ p n s)) ∧ mI ν 96 s = wyV μ p n s) ∧ X4_make 94 (nI p) (nI n) (nI (nw μ)) (lwA μ p) μ = some ν := by
  have I0 := I
  obtain ⟨o, W, C, T, S, X, L⟩ := I
  have hn := W.2.2.2.2.2.2.2
  have hc := S.1.2.2
  obtain ⟨a1, a2, a3⟩ := allK (μ := μ) (p := p)
  have e17 : (if 6 < nI n then (6 : Int32) else nI n) = nI n := if_neg (show ¬ (6 : Int32) < nI n from nI_nlt (b := n) (a := 6) (by omega) (by decide))
  have s1 : Sm μ (wI μ 94 17 (nI n)) := (Sm.rf o).wI (cor94 _)
  have I1 := I0.sm s1
  have c1 := counts_c s1.1 I1.2.2.2.2.2.2 hp
  have cse : ∀ k, cS (wI μ 94 17 (nI n)) p k = cS μ p k := fun k => by
    induction k with
    | zero => rfl
    | succ k ih => rw [cS, cS, ih, lv_sm s1 (by decide)]
  rw [cse, lc_sm s1, lw_sm s1] at c1
  have cl := cS_le μ p (lc μ p)
  have s2 : Sm μ (wI (wI μ 94 17 (nI n)) 94 18 (nI (cS μ p (lc μ p)))) := s1.wI (cor94 _)
  have pz : pZ 4 18 94 (nI (cS μ p (lc μ p))) (wI μ 94 17 (nI n)) = some (wI (wI μ 94 17 (nI n)) 94 18 (nI (cS μ p (lc μ p)))) := pZ_eq s1.1 (by decide) rfl (by
    rcases (show cS μ p (lc μ p) = 0 ∨ cS μ p (lc μ p) = 1 by omega) with q | q
    · left
      rw [q]
      rfl
    · right
      rw [q]
      rfl)
  obtain ⟨ν3, ⟨s3, f3, k3, r3⟩, e3⟩ := pick_c I0 hp s2
  have h17 : mI ν3 94 17 = nI n := by
    rw [f3 17 (by decide), fld_ne (by omega), fld_eq]
  have h18 : mI ν3 94 18 = nI (cS μ p (lc μ p)) := by
    rw [f3 18 (by decide), fld_eq]
  obtain ⟨ν4, ⟨s4, f4, h4⟩, e4⟩ := look_fr s3.1 (W.sm s3) (p := p) (t := nw μ) (k := n - 1) hp (by omega) (by omega)
  have s04 := s3.tr s4
  have h4' : ∀ s, s < n → HI ν4 (19 + s) 4 (odd μ p (nw μ) s) := fun s hs i hi => by
    rw [h4 s (by omega) i hi, odd_sm s3]
  have k4 : PK μ p ν4 := ⟨by rw [f4 94 (by omega)]; exact k3.1, fun k hk => by rw [f4 98 (by omega)]; exact k3.2 k hk⟩
  have r4 : PR μ p (pK μ p) ν4 := fun x hx => by
    rw [f4 99 (by omega), f4 100 (by omega)]
    exact r3 x hx
  have lw4 : ∀ ν, Sm μ ν → lwA ν p = lwA μ p := fun ν s => by rw [lw_sm s]
  obtain ⟨ν5, ⟨fq, gp, g97⟩, e5⟩ := loopF (F := fun m (ν' : Mem) i => X4_make_L43 94 (nI p) (nI (nw μ)) (lwA μ p) m (nI i) ν') (P := fun i ν' => Fq ν4 ν' ∧ (∀ st x, st < i → 1 ≤ x → x < 2 ^ pK μ p → mI ν' 103 (st * 64 + x) = nI (cG μ p st x) ∧ mI ν' 104 (st * 64 + x) = cW μ p st x) ∧ (0 < i → mI ν' 97 0 = nI (aT μ p (tn μ)))) (n := n) (r := fun ν' => (nI n, ν')) (by omega) (fun m ν' i hi P => by
    obtain ⟨f, g, -⟩ := P
    have hB : Bq μ p i ν' := Bq.fq (by omega) ⟨s04, k4, r4, h4' i hi⟩ f
    obtain ⟨ν2, ⟨f2, fj2, g2, a2'⟩, e2⟩ := price_c I0 hp (st := i) (by omega) hB
    rw [lw4 ν' hB.1] at e2
    refine ⟨ν2, ⟨f.tr f2, fun st x h1 h2 h3 => ?_, fun _ => a2'⟩, ?_⟩
    · by_cases z : st = i
      · subst z
        exact g2 x h2 h3
      · rw [fj2 103 _ (Or.inl rfl) (by omega), fj2 104 _ (Or.inr rfl) (by omega)]
        exact g st x (by omega) h2 h3
    · show X4_make_L43 94 (nI p) (nI (nw μ)) (lwA μ p) (m + 1) (nI i) ν' = _
      rw [X4_make_L43, gi_94 f.1.1, f.2 94 (by decide) (by decide) (by decide) (by decide) (by decide), f4 94 (by omega), h17, Option.bind_some, if_neg (nI_ge hi (by omega)), vo_94 f.1.1, Option.bind_some, nI_add, e2, Option.bind_some, nI_add1]) (fun m ν' P => by
    show X4_make_L43 94 (nI p) (nI (nw μ)) (lwA μ p) (m + 1) (nI n) ν' = _
    rw [X4_make_L43, gi_94 P.1.1.1, P.1.2 94 (by decide) (by decide) (by decide) (by decide) (by decide), f4 94 (by omega), h17, Option.bind_some, if_pos (nI_le (Nat.le_refl _) (by omega))]) ν4 ⟨Fq.rf s4.1, fun st x h1 => by omega, fun h => by omega⟩
  have e5 : X4_make_L43 94 (nI p) (nI (nw μ)) (lwA μ p) FU 0 ν4 = _ := e5
  have s05 := s04.tr fq.1
  have I5 := I0.sm s05
  obtain ⟨ν6, ⟨o6, h6⟩, e6⟩ := said_c s05.1 I5.2.2.2.2.1 (r := 106) (p := p) (Or.inl rfl) hp
  have s6 := o6.sm (isRow (Or.inl rfl)).2.2
  have s06 := s05.tr s6
  have r6 : ∀ u, u < 66 → mI ν6 106 u = nI (ct μ p u (sc μ)) := fun u hu => by
    rw [h6 u hu, sc_sm s05]
    exact congrArg nI (ct_sm s05 p u _)
  have row6 : ∀ a, a ≠ 106 → a ≠ 97 → a ≠ 101 → a ≠ 102 → a ≠ 103 → a ≠ 104 → mI ν6 a = mI ν4 a := fun a q0 q1 q2 q3 q4 q5 => by rw [o6.2.2.2 a q0, fq.2 a q1 q2 q3 q4 q5]
  have e94 : mI ν6 94 = mI ν3 94 := by rw [row6 94 (by decide) (by decide) (by decide) (by decide) (by decide) (by decide), f4 94 (by omega)]
  have z6 : Zp μ p n ν6 := by
    refine ⟨s06, ⟨⟨by rw [e94]; exact k3.1, fun k hk => ?_⟩, fun x hx => ?_⟩, ⟨by rw [e94]; exact h17, by rw [e94]; exact h18⟩, fun st x h1 h2 h3 => ?_, ?_, fun u hu => r6 u (by omega)⟩
    · rw [row6 98 (by decide) (by decide) (by decide) (by decide) (by decide) (by decide)]
      exact k4.2 k hk
    · rw [row6 99 (by decide) (by decide) (by decide) (by decide) (by decide) (by decide), row6 100 (by decide) (by decide) (by decide) (by decide) (by decide) (by decide)]
      exact r4 x hx
    · rw [o6.2.2.2 103 (by decide), o6.2.2.2 104 (by decide)]
      exact gp st x h1 h2 h3
    · rw [o6.2.2.2 97 (by decide)]
      exact g97 (by omega)
  obtain ⟨ν7, x7, ⟨z7, t7, f7⟩, e7⟩ := make98 I0 hp hn6 (lwA μ p) n (99999 - n) ν6 (Nat.le_refl _) (lw4 ν6 s06) z6 (fun s hs h => by omega)
  rw [show 99999 - n + n + 1 = FU by unfold FU; omega] at e7
  have t0 : mI ν7 105 64 = nI (BP μ p n n (2 ^ pK μ p - 1) 0) := by
    have := t7 0 (by omega) 1 (by
      unfold NV
      split
      · rfl
      · exact ⟨by decide, by decide⟩) 0 a2
    rw [nd_zero_r a1] at this
    exact this
  have z8 : Zp μ p n (wI ν7 94 0 (nI (BP μ p n n (2 ^ pK μ p - 1) 0))) := z7.cg ((Sm.rf z7.1.1).wI (cor94 _)) (fun k hk => fld_ne (by omega)) (fun a ha => row_ne (by omega)) (fun u hu => by rw [row_ne (by decide)])
  have t8 : ∀ s, Tt μ p n s (wI ν7 94 0 (nI (BP μ p n n (2 ^ pK μ p - 1) 0))) := fun s => by
    unfold Tt
    rw [row_ne (by decide)]
    exact t7 s
  obtain ⟨ν9, ⟨s9, m9, st9⟩, e9⟩ := tell_c I0 hp hn6 z8 t8
  rw [lw4 _ z8.1] at e9
  have il := lw_is s1.1 hp
  rw [lw4 _ s1] at il
  refine ⟨ν9, ⟨s9, by rw [m9, fld_eq], st9⟩, ?_⟩
  unfold X4_make
  rw [e17, pi_94 o, Option.bind_some, vo_l s1.1 il, Option.bind_some, c1, Option.bind_some, pz, Option.bind_some, vo_94 s2.1, Option.bind_some, e3, Option.bind_some, r_94_3 s3.1, Option.bind_some, gi_94 s3.1, h17, Option.bind_some, vo_1 s3.1, Option.bind_some, show nI n - 1 = nI (n - 1) from pk_sub (b := 1) hn1, e4, Option.bind_some, e5, Option.bind_some, r_94_5 s05.1, Option.bind_some, r_94_15 s05.1, Option.bind_some, vo_37 s05.1, Option.bind_some, e6, Option.bind_some, r_94_15 s06.1, Option.bind_some, ai_106 s06.1 (by omega), r6 _ (by omega), Option.bind_some, gi_94 s06.1, z6.2.2.1.1, Option.bind_some, Int32.sub_eq_add_neg, Option.bind_some]
  rw [show nI n + -1 = nI n + (-1) from rfl, e7, Option.bind_some, r_94_14 z7.1.1, Option.bind_some]
  rw [show aI 105 64 ν7 = some (mI ν7 105 64) from ai_105 (i := 64) z7.1.1 (by decide), t0, Option.bind_some, pi_94 z7.1.1, Option.bind_some, vo_94 z8.1.1, Option.bind_some, e9, Option.bind_some]
