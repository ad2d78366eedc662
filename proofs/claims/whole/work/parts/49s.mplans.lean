/-! ===== the best plans, of the reference ===== -/
section MP
variable {μ : Mem} {p n : Nat}
def Gs (μ : Mem) (p s : Nat) (ν : Mem) : Prop := ∀ x, 1 ≤ x → x < 2 ^ pK μ p → RI (mI ν 168 (64 * s + x)) (mI ν 169 (64 * s + x)) (cGW μ p s x)
def Bt (μ : Mem) (p n s : Nat) (ν : Mem) : Prop := ∀ left, left < 2 ^ pK μ p → ∀ pl, pl < 2 ^ s → mI ν 167 (4096 * s + 64 * left + pl) = nI (BP μ p n (n - s) left pl)
theorem place_n (s l q : Nat) : X11_place (nI s) (nI l) (nI q) = nI (4096 * s + 64 * l + q) := by
  unfold X11_place
  rw [show (4096 : Int32) = nI 4096 from rfl, show (64 : Int32) = nI 64 from rfl, pk_mul, pk_mul, nI_add, nI_add]
theorem p2_s {s : Nat} (h : s ≤ 6) : 2 ^ s ≤ 64 := show 2 ^ s ≤ 2 ^ 6 from Nat.pow_le_pow_right (by decide) h
/-- what the reference says of a set that the class may not or need not say -/
def NoB (μ : Mem) (p n st left pl x : Nat) (y : Int32) : Prop := y = -1000000000 ∨ ∃ a b, a ≤ b ∧ b ≤ 3996 ∧ y = nI a - nI b + nI (BP μ p n (n - st - 1) (nd left x) (pl ||| 2 ^ st))
theorem by_m (I : Inv μ) (hp : p < 4) (hn : n ≤ 6) {ν : Mem} {st left pl x : Nat} (hst : st < n) (s : Sm μ ν) (pk : PKm μ p ν) (g : Gs μ p st ν) (b : Bt μ p n (st + 1) ν) (hl : left < 2 ^ pK μ p) (hpl : pl < 2 ^ st) (hx1 : 1 ≤ x) (hx : x &&& left = x) : ∃ y, X11_by 134 (nI p) (nI st) (nI left) (nI pl) (nI x) ν = some y ∧ ((elB (cG μ p) (aw μ p) (mo μ p) st pl left x = true ∧ y = nI (cG μ p st x + BP μ p n (n - st - 1) (nd left x) (pl ||| 2 ^ st))) ∨ (elB (cG μ p) (aw μ p) (mo μ p) st pl left x = false ∧ NoB μ p n st left pl x y)) := by
  obtain ⟨a1, a2, a3⟩ := allK (μ := μ) (p := p)
  have hT := I.2.2.2.1.1.2.2
  have oν := s.1
  have Iν := I.sm s
  have xl := sub_le hx
  have xK : x < 2 ^ pK μ p := by omega
  have h6 := p2_s (show st ≤ 6 by omega)
  have h7 : 2 ^ (st + 1) ≤ 64 := p2_s (by omega)
  have hor : pl ||| 2 ^ st < 2 ^ (st + 1) := Nat.or_lt_two_pow (Nat.lt_of_lt_of_le hpl (Nat.pow_le_pow_right (by decide) (by omega))) (Nat.pow_lt_pow_right (by decide) (by omega))
  have hnd : nd left x < 2 ^ pK μ p := nd_lt x hl
  have bb := b (nd left x) hnd (pl ||| 2 ^ st) hor
  rw [show n - (st + 1) = n - st - 1 by omega] at bb
  have al := areAl_m oν Iν.2.2.2.1 Iν.2.2.2.2.2.2 (p := p) (set := rS μ p x) hp (by rw [tn_sm s]; exact rS_lt μ p x)
  rw [tn_sm s, aT_sm s] at al
  have al : X11_areAlways 134 (nI p) (nI (rS μ p x)) ν = some (b01 (aw μ p x)) := al
  have am := areM_m Iν.m (p := p) (step := st) (pb := pl) hp (by omega) (by omega)
  rw [lc_sm s, gM_sm s, mB_sm s] at am
  have am : X11_areMost 134 (nI p) (nI st) (nI pl) ν = some (nI (mo μ p st pl)) := am
  have ml : mo μ p st pl ≤ 1 := mB_le _ _ _ _
  have cm : (nI (mo μ p st pl) = 0) = (mo μ p st pl = 0) := n_eq (b := 0) (by omega) (by decide)
  have hix : 64 * st + x < 384 := by omega
  have ri := g x hx1 xK
  have cge : (cGW μ p st x).1 = cG μ p st x := rfl
  unfold X11_by
  rw [show (64 : Int32) = nI 64 from rfl, pk_mul, nI_add, Option.bind_some, r_134_44 oν, Option.bind_some, ai_169 oν hix, Option.bind_some, vo_134 oν, Option.bind_some, setOf_m hT oν pk (by omega), Option.bind_some, Option.bind_some, al, Option.bind_some, Option.bind_some, am, Option.bind_some, r_134_43 oν, Option.bind_some, ai_168 oν hix, Option.bind_some, r_134_42 oν, Option.bind_some, nd_eq (by omega), nI_add1, sh31 st (by omega), fa_or, place_n, ai_167 oν (by omega), bb, Option.bind_some]
  simp only [cm, b01_z]
  have neg : mI ν 169 (64 * st + x) = -1 → (mI ν 169 (64 * st + x) < 0) := fun h => by rw [h]; decide
  have pos : ∀ w, w < 4 → mI ν 169 (64 * st + x) = nI w → ¬ (mI ν 169 (64 * st + x) < 0) := fun w hw h => by rw [h]; exact nI_pos (by omega)
  rcases ri with ⟨r1, r2, r3, r4⟩ | ⟨w, a, b', hw, r1, r2, ab, b4, r3, r4⟩ | ⟨w, hw, r1, r4, r2, r3⟩
  · rw [if_pos (neg r1), Option.bind_some, if_pos rfl, Option.bind_some]
    refine ⟨_, rfl, Or.inr ⟨?_, Or.inl rfl⟩⟩
    unfold elB
    rw [← cge, r3, decide_eq_false (Nat.lt_irrefl 0), Bool.false_and, Bool.and_false]
  · rw [if_neg (pos w hw r1)]
    have ef : elB (cG μ p) (aw μ p) (mo μ p) st pl left x = false := by
      unfold elB
      rw [← cge, r3, decide_eq_false (Nat.lt_irrefl 0), Bool.false_and, Bool.and_false]
    by_cases z1 : aw μ p x = false
    · rw [if_pos z1]
      by_cases z2 : mo μ p st pl = 0
      · rw [if_pos z2, Option.bind_some, if_neg (by decide), Option.bind_some, r2]
        exact ⟨_, rfl, Or.inr ⟨ef, Or.inr ⟨a, b', ab, b4, rfl⟩⟩⟩
      · rw [if_neg z2, Option.bind_some, if_pos rfl, Option.bind_some]
        exact ⟨_, rfl, Or.inr ⟨ef, Or.inl rfl⟩⟩
    · rw [if_neg z1, Option.bind_some, if_neg (by decide), Option.bind_some, r2]
      exact ⟨_, rfl, Or.inr ⟨ef, Or.inr ⟨a, b', ab, b4, rfl⟩⟩⟩
  · rw [if_neg (pos w hw r1)]
    have r3 : 0 < cG μ p st x := r3
    have r2 : mI ν 168 (64 * st + x) = nI (cG μ p st x) := r2
    have ee : elB (cG μ p) (aw μ p) (mo μ p) st pl left x = (aw μ p x || decide (mo μ p st pl = 0)) := by
      unfold elB
      rw [decide_eq_true hx, decide_eq_true r3, Bool.true_and, Bool.true_and]
    rw [ee]
    by_cases z1 : aw μ p x = false
    · rw [if_pos z1, z1, Bool.false_or]
      by_cases z2 : mo μ p st pl = 0
      · rw [if_pos z2, Option.bind_some, if_neg (by decide), Option.bind_some, r2, nI_add]
        exact ⟨_, rfl, Or.inl ⟨decide_eq_true z2, rfl⟩⟩
      · rw [if_neg z2, Option.bind_some, if_pos rfl, Option.bind_some]
        exact ⟨_, rfl, Or.inr ⟨decide_eq_false z2, Or.inl rfl⟩⟩
    · have z1' : aw μ p x = true := by
        cases q : aw μ p x
        · exact absurd q z1
        · rfl
      rw [if_neg z1, Option.bind_some, if_neg (by decide), Option.bind_some, r2, nI_add, z1', Bool.true_or]
      exact ⟨_, rfl, Or.inl ⟨rfl, rfl⟩⟩
theorem NoB_le (I : Inv μ) (hn : n ≤ 6) {st left pl x V : Nat} {y : Int32} (hl : left < 64) (h : NoB μ p n st left pl x y) (hV : BP μ p n (n - st - 1) left pl ≤ V) (V20 : V < 2 ^ 20) : y ≤ nI V := by
  rcases h with rfl | ⟨a, b, ab, b4, rfl⟩
  · rw [Int32.le_iff_toInt_le, nI_toInt (by omega)]
    have : (-1000000000 : Int32).toInt = -1000000000 := rfl
    omega
  · have bd := BP_bd I (p := p) hn (r := n - st - 1) (by omega) (nd left x) (pl ||| 2 ^ st)
    have mn : BP μ p n (n - st - 1) (nd left x) (pl ||| 2 ^ st) ≤ BP μ p n (n - st - 1) left pl := BB_mono (mo_mono μ p) _ _ _ _ _ hl (nd_self hl) (by
      apply Nat.eq_of_testBit_eq
      intro i
      rw [Nat.testBit_and, Nat.testBit_or]
      cases pl.testBit i <;> rfl)
    rw [show nI a - nI b + nI (BP μ p n (n - st - 1) (nd left x) (pl ||| 2 ^ st)) = nI (a + BP μ p n (n - st - 1) (nd left x) (pl ||| 2 ^ st)) - nI b by
      rw [← nI_add, Int32.sub_eq_add_neg, Int32.sub_eq_add_neg, Int32.add_assoc, Int32.add_comm (-nI b), ← Int32.add_assoc]]
    rw [gn_le (by omega) (by omega) (by omega)]
    omega
theorem foP_bd (I : Inv μ) (hn : n ≤ 6) {st : Nat} (hst : st < n) (left pl m : Nat) : (foP μ p n st left pl m).2 < 2 ^ 20 := by
  have bdB : ∀ l q, BP μ p n (n - st - 1) l q ≤ 17994 * 9 * 6 := fun l q => BP_bd I hn (by omega) l q
  rcases (fo_sp (elB (cG μ p) (aw μ p) (mo μ p) st pl left) (fun x => cG μ p st x + BP μ p n (n - st - 1) (nd left x) (pl ||| 2 ^ st)) (BP μ p n (n - st - 1) left pl) m).2.2 with ⟨-, e⟩ | ⟨-, -, -, e, -⟩
  · unfold foP
    rw [e]
    have := bdB left pl
    omega
  · unfold foP
    rw [e]
    have h1 := bdB (nd left (fo (elB (cG μ p) (aw μ p) (mo μ p) st pl left) (fun x => cG μ p st x + BP μ p n (n - st - 1) (nd left x) (pl ||| 2 ^ st)) (BP μ p n (n - st - 1) left pl) m).1) (pl ||| 2 ^ st)
    have h2 := cG_le I (p := p) (st := st) (x := (fo (elB (cG μ p) (aw μ p) (mo μ p) st pl left) (fun x => cG μ p st x + BP μ p n (n - st - 1) (nd left x) (pl ||| 2 ^ st)) (BP μ p n (n - st - 1) left pl) m).1) (by omega)
    show cG μ p st _ + BP μ p n (n - st - 1) _ _ < _
    omega
theorem sub191 (I : Inv μ) (hp : p < 4) (hn : n ≤ 6) {ν : Mem} {st left pl : Nat} (hst : st < n) (s : Sm μ ν) (pk : PKm μ p ν) (g : Gs μ p st ν) (b : Bt μ p n (st + 1) ν) (hl : left < 2 ^ pK μ p) (hpl : pl < 2 ^ st) (x3 : Int32) : ∀ N c k V, c ≤ N → c &&& left = c → BP μ p n (n - st - 1) left pl ≤ V → V ≤ (foP μ p n st left pl 63).2 → (∀ x, c < x → x ≤ 63 → elB (cG μ p) (aw μ p) (mo μ p) st pl left x = true → cG μ p st x + BP μ p n (n - st - 1) (nd left x) (pl ||| 2 ^ st) ≤ V) → X11_findPlans_L191 134 (nI p) x3 (nI st) (nI pl) (nI left) ν (k + c + 1) (nI V) (nI c) = some (nI (foP μ p n st left pl 63).2, nI 0) := by
  obtain ⟨a1, a2, a3⟩ := allK (μ := μ) (p := p)
  have fb := foP_bd I (p := p) hn hst left pl 63
  have sp := fo_sp (elB (cG μ p) (aw μ p) (mo μ p) st pl left) (fun x => cG μ p st x + BP μ p n (n - st - 1) (nd left x) (pl ||| 2 ^ st)) (BP μ p n (n - st - 1) left pl) 63
  intro N
  induction N with
  | zero =>
    intro c k V hc hsub h1 h2 h3
    have c0 : c = 0 := by omega
    subst c0
    have eV : V = (foP μ p n st left pl 63).2 := by
      have : (foP μ p n st left pl 63).2 ≤ V := by
        rcases sp.2.2 with ⟨-, e⟩ | ⟨y1, y2, y3, e, -⟩
        · unfold foP
          rw [e]
          exact h1
        · have := h3 _ (by omega) y2 y3
          unfold foP
          rw [e]
          exact this
      omega
    rw [X11_findPlans_L191, if_pos (by decide), eV]
  | succ N ih =>
    intro c k V hc hsub h1 h2 h3
    by_cases c0 : c = 0
    · subst c0
      exact ih 0 k V (by omega) hsub h1 h2 h3
    · have c64 : c < 64 := by have := sub_le hsub; omega
      obtain ⟨d1, d2, d3⟩ := dn_up (show left < 64 by omega) c64 hsub c0
      obtain ⟨y, ey, hy⟩ := by_m I hp hn hst s pk g b hl hpl (show 1 ≤ c by omega) hsub
      have c1 : nI c - 1 = nI (c - 1) := pk_sub (b := 1) (by omega)
      have cle : ¬ nI c ≤ 0 := fun w => c0 ((nI_0le (show c < 2 ^ 31 by omega)).mp w)
      have step : ∀ V', V ≤ V' → V' ≤ (foP μ p n st left pl 63).2 → (elB (cG μ p) (aw μ p) (mo μ p) st pl left c = true → cG μ p st c + BP μ p n (n - st - 1) (nd left c) (pl ||| 2 ^ st) ≤ V') → (if y ≤ nI V then nI V else y) = nI V' → X11_findPlans_L191 134 (nI p) x3 (nI st) (nI pl) (nI left) ν (k + c + 1) (nI V) (nI c) = some (nI (foP μ p n st left pl 63).2, nI 0) := fun V' v1 v2 v3 v4 => by
        rw [X11_findPlans_L191, if_neg cle, vo_134 s.1, Option.bind_some, ey, Option.bind_some, v4, Option.bind_some, c1, fa_and, Option.bind_some]
        have := ih ((c - 1) &&& left) (k + c - 1 - ((c - 1) &&& left)) V' (by omega) d2 (by omega) v2 (fun x x1 x2 hx => by
          by_cases z : x = c
          · subst z
            exact v3 hx
          · have xs : x &&& left = x := by
              unfold elB at hx
              rw [Bool.and_eq_true, decide_eq_true_eq] at hx
              exact hx.1
            by_cases z2 : x < c
            · have := dn_lst (show left < 64 by omega) c64 hsub c0 xs z2
              omega
            · exact Nat.le_trans (h3 x (by omega) x2 hx) v1)
        rw [show k + c - 1 - ((c - 1) &&& left) + ((c - 1) &&& left) + 1 = k + c by omega] at this
        exact this
      rcases hy with ⟨e1, rfl⟩ | ⟨e1, nb⟩
      · have bl : cG μ p st c + BP μ p n (n - st - 1) (nd left c) (pl ||| 2 ^ st) ≤ (foP μ p n st left pl 63).2 := sp.2.1 c (by omega) (by omega) e1
        by_cases z : cG μ p st c + BP μ p n (n - st - 1) (nd left c) (pl ||| 2 ^ st) ≤ V
        · exact step V (Nat.le_refl _) h2 (fun _ => z) (if_pos ((n_le (by omega) (by omega)).mpr z))
        · exact step _ (by omega) bl (fun _ => Nat.le_refl _) (if_neg (fun w => z ((n_le (by omega) (by omega)).mp w)))
      · exact step V (Nat.le_refl _) h2 (fun w => by rw [e1] at w; cases w) (if_pos (NoB_le I hn (by omega) nb h1 (by omega)))
/-- what the reference's plans stand on -/
def FPm (μ : Mem) (p n r : Nat) (ν : Mem) : Prop := Sm μ ν ∧ PKm μ p ν ∧ (∀ s, r ≤ s → s < n → Gs μ p s ν) ∧ ∀ s, r ≤ s → s ≤ n → Bt μ p n s ν
theorem left163 (I : Inv μ) (hp : p < 4) (hn : n ≤ 6) {ν : Mem} {st pl : Nat} (hst : st < n) (s : Sm μ ν) (pk : PKm μ p ν) (g : Gs μ p st ν) (b : Bt μ p n (st + 1) ν) (hpl : pl < 2 ^ st) : ∃ ν' x, (Sm μ ν' ∧ (∀ a, a ≠ 167 → mI ν' a = mI ν a) ∧ (∀ j, ¬ (4096 * st ≤ j ∧ j < 4096 * st + 4096 ∧ j % 64 = pl) → mI ν' 167 j = mI ν 167 j) ∧ ∀ left, left < 2 ^ pK μ p → mI ν' 167 (4096 * st + 64 * left + pl) = nI (BP μ p n (n - st) left pl)) ∧ X11_findPlans_L163 134 (nI p) (nI (2 ^ pK μ p)) (nI st) (nI pl) FU 0 ν = some (x, ν') := by
  obtain ⟨a1, a2, a3⟩ := allK (μ := μ) (p := p)
  have h6 := p2_s (show st ≤ 6 by omega)
  have h7 : 2 ^ (st + 1) = 2 ^ st * 2 := Nat.pow_succ ..
  obtain ⟨ν', P, e⟩ := loopF (F := fun m (ν' : Mem) i => X11_findPlans_L163 134 (nI p) (nI (2 ^ pK μ p)) (nI st) (nI pl) m (nI i) ν') (P := fun i ν' => Sm μ ν' ∧ (∀ a, a ≠ 167 → mI ν' a = mI ν a) ∧ (∀ j, ¬ (4096 * st ≤ j ∧ j < 4096 * st + 4096 ∧ j % 64 = pl) → mI ν' 167 j = mI ν 167 j) ∧ ∀ left, left < i → mI ν' 167 (4096 * st + 64 * left + pl) = nI (BP μ p n (n - st) left pl)) (n := 2 ^ pK μ p) (r := fun ν' => (nI (2 ^ pK μ p), ν')) (by omega) (fun m ν' i hi P => by
    obtain ⟨s1, fa, fj, c⟩ := P
    have o1 := s1.1
    have pk1 : PKm μ p ν' := by
      unfold PKm
      rw [fa 134 (by decide), fa 166 (by decide)]
      exact pk
    have g1 : Gs μ p st ν' := by
      unfold Gs
      rw [fa 168 (by decide), fa 169 (by decide)]
      exact g
    have b1 : Bt μ p n (st + 1) ν' := fun l hl q hq => by
      rw [fj _ (by omega)]
      exact b l hl q hq
    have sk := b1 i hi pl (by omega)
    rw [show n - (st + 1) = n - st - 1 by omega] at sk
    have sp := fo_sp (elB (cG μ p) (aw μ p) (mo μ p) st pl i) (fun x => cG μ p st x + BP μ p n (n - st - 1) (nd i x) (pl ||| 2 ^ st)) (BP μ p n (n - st - 1) i pl) 63
    have l191 := sub191 I hp hn hst s1 pk1 g1 b1 hi hpl (nI (2 ^ pK μ p)) i i (99999 - i) (BP μ p n (n - st - 1) i pl) (Nat.le_refl _) (Nat.and_self _) (Nat.le_refl _) sp.1 (fun x x1 x2 hx => by
      have xs : x &&& i = x := by
        unfold elB at hx
        rw [Bool.and_eq_true, decide_eq_true_eq] at hx
        exact hx.1
      have := sub_le xs
      omega)
    rw [show 99999 - i + i + 1 = FU by unfold FU; omega] at l191
    refine ⟨wI ν' 167 (4096 * st + 64 * i + pl) (nI (foP μ p n st i pl 63).2), ⟨s1.wI (corM (by decide) _), fun a q => ?_, fun j q => ?_, fun l hl => ?_⟩, ?_⟩
    · rw [row_ne q]
      exact fa a q
    · rw [fld_ne (by omega)]
      exact fj j q
    · by_cases z : l = i
      · subst z
        rw [fld_eq, BP_s _ _ hst]
      · rw [fld_ne (by omega)]
        exact c l (by omega)
    · show X11_findPlans_L163 134 (nI p) (nI (2 ^ pK μ p)) (nI st) (nI pl) (m + 1) (nI i) ν' = _
      rw [X11_findPlans_L163, if_neg (nI_ge hi (by omega)), r_134_42 o1, Option.bind_some, nI_add1, place_n, ai_167 o1 (by omega), sk, Option.bind_some, l191, Option.bind_some, Option.bind_some, place_n, si_167 o1 (by omega), Option.bind_some, nI_add1]) (fun m ν' P => by
    show X11_findPlans_L163 134 (nI p) (nI (2 ^ pK μ p)) (nI st) (nI pl) (m + 1) (nI (2 ^ pK μ p)) ν' = _
    rw [X11_findPlans_L163, if_pos (nI_le (Nat.le_refl _) (by omega))]) ν ⟨s, fun _ _ => rfl, fun _ _ => rfl, fun left hl => by omega⟩
  exact ⟨ν', _, P, e⟩
theorem pl151 (I : Inv μ) (hp : p < 4) (hn : n ≤ 6) {ν : Mem} {st : Nat} (hst : st < n) (s : Sm μ ν) (pk : PKm μ p ν) (g : Gs μ p st ν) (b : Bt μ p n (st + 1) ν) : ∃ ν' x, (Sm μ ν' ∧ (∀ a, a ≠ 167 → mI ν' a = mI ν a) ∧ (∀ j, ¬ (4096 * st ≤ j ∧ j < 4096 * st + 4096) → mI ν' 167 j = mI ν 167 j) ∧ Bt μ p n st ν') ∧ X11_findPlans_L151 134 (nI p) (nI (2 ^ pK μ p)) (nI st) FU 0 ν = some (x, ν') := by
  obtain ⟨a1, a2, a3⟩ := allK (μ := μ) (p := p)
  have h6 := p2_s (show st ≤ 6 by omega)
  have h7 : 2 ^ (st + 1) = 2 ^ st * 2 := Nat.pow_succ ..
  have h8 := p2_s (show st + 1 ≤ 6 by omega)
  obtain ⟨ν', ⟨P1, P2, P3, P4⟩, e⟩ := loopF (F := fun m (ν' : Mem) i => X11_findPlans_L151 134 (nI p) (nI (2 ^ pK μ p)) (nI st) m (nI i) ν') (P := fun i ν' => Sm μ ν' ∧ (∀ a, a ≠ 167 → mI ν' a = mI ν a) ∧ (∀ j, ¬ (4096 * st ≤ j ∧ j < 4096 * st + 4096) → mI ν' 167 j = mI ν 167 j) ∧ ∀ left pl, left < 2 ^ pK μ p → pl < i → mI ν' 167 (4096 * st + 64 * left + pl) = nI (BP μ p n (n - st) left pl)) (n := 2 ^ st) (r := fun ν' => (nI (2 ^ st), ν')) (by omega) (fun m ν' i hi P => by
    obtain ⟨s1, fa, fj, c⟩ := P
    have pk1 : PKm μ p ν' := by
      unfold PKm
      rw [fa 134 (by decide), fa 166 (by decide)]
      exact pk
    have g1 : Gs μ p st ν' := by
      unfold Gs
      rw [fa 168 (by decide), fa 169 (by decide)]
      exact g
    have b1 : Bt μ p n (st + 1) ν' := fun l hl q hq => by
      rw [fj _ (by omega)]
      exact b l hl q hq
    obtain ⟨ν2, x2, ⟨s2, fa2, fj2, c2⟩, e2⟩ := left163 I hp hn hst s1 pk1 g1 b1 hi
    refine ⟨ν2, ⟨s2, fun a q => (fa2 a q).trans (fa a q), fun j q => ?_, fun left pl hl hq => ?_⟩, ?_⟩
    · rw [fj2 j (by omega)]
      exact fj j q
    · by_cases z : pl = i
      · subst z
        exact c2 left hl
      · rw [fj2 _ (by omega)]
        exact c left pl hl (by omega)
    · show X11_findPlans_L151 134 (nI p) (nI (2 ^ pK μ p)) (nI st) (m + 1) (nI i) ν' = _
      rw [X11_findPlans_L151, sh31 st (by omega), if_neg (nI_ge hi (by omega)), e2, Option.bind_some, nI_add1]) (fun m ν' P => by
    show X11_findPlans_L151 134 (nI p) (nI (2 ^ pK μ p)) (nI st) (m + 1) (nI (2 ^ st)) ν' = _
    rw [X11_findPlans_L151, sh31 st (by omega), if_pos (nI_le (Nat.le_refl _) (by omega))]) ν ⟨s, fun _ _ => rfl, fun _ _ => rfl, fun left pl hl hq => by omega⟩
  exact ⟨ν', _, ⟨P1, P2, P3, fun left hl pl hq => P4 left pl hl hq⟩, e⟩
theorem gain127 (I : Inv μ) (hp : p < 4) {ν : Mem} {st : Nat} (hst : st < 6) (s : Sm μ ν) (pk : PKm μ p ν) : ∃ ν' x, (Sm μ ν' ∧ (∀ a, ¬ (141 ≤ a ∧ a ≤ 144) → a ≠ 168 → a ≠ 169 → mI ν' a = mI ν a) ∧ (∀ a j, a = 168 ∨ a = 169 → ¬ (64 * st ≤ j ∧ j < 64 * st + 64) → mI ν' a j = mI ν a j) ∧ Gs μ p st ν') ∧ X11_findPlans_L127 134 (nI p) (nI (2 ^ pK μ p)) (nI st) FU 1 ν = some (x, ν') := by
  obtain ⟨a1, a2, a3⟩ := allK (μ := μ) (p := p)
  obtain ⟨ν', ⟨P1, P2, P3, P4⟩, e⟩ := loopG (F := fun m (ν' : Mem) i => X11_findPlans_L127 134 (nI p) (nI (2 ^ pK μ p)) (nI st) m (nI i) ν') (P := fun i ν' => Sm μ ν' ∧ (∀ a, ¬ (141 ≤ a ∧ a ≤ 144) → a ≠ 168 → a ≠ 169 → mI ν' a = mI ν a) ∧ (∀ a j, a = 168 ∨ a = 169 → ¬ (64 * st ≤ j ∧ j < 64 * st + 64) → mI ν' a j = mI ν a j) ∧ ∀ x, 1 ≤ x → x < i → RI (mI ν' 168 (64 * st + x)) (mI ν' 169 (64 * st + x)) (cGW μ p st x)) (i0 := 1) (n := 2 ^ pK μ p) (r := fun ν' => (nI (2 ^ pK μ p), ν')) (by omega) a2 (fun m ν' i i1 hi P => by
    obtain ⟨s1, fa, fj, c⟩ := P
    have pk1 : PKm μ p ν' := by
      unfold PKm
      rw [fa 134 (by decide) (by decide) (by decide), fa 166 (by decide) (by decide) (by decide)]
      exact pk
    obtain ⟨ν2, ⟨s2, fa2, fj2, c2⟩, e2⟩ := gain_m I hp hst (show i ≠ 0 by omega) hi s1 pk1
    refine ⟨ν2, ⟨s2, fun a q1 q2 q3 => (fa2 a q1 q2 q3).trans (fa a q1 q2 q3), fun a j ha hj => ?_, fun x x1 x2 => ?_⟩, ?_⟩
    · rw [fj2 a j ha (by omega)]
      exact fj a j ha hj
    · by_cases z : x = i
      · subst z
        exact c2
      · rw [fj2 168 _ (Or.inl rfl) (by omega), fj2 169 _ (Or.inr rfl) (by omega)]
        exact c x x1 (by omega)
    · show X11_findPlans_L127 134 (nI p) (nI (2 ^ pK μ p)) (nI st) (m + 1) (nI i) ν' = _
      rw [X11_findPlans_L127, if_neg (nI_ge hi (by omega)), vo_134 s1.1, Option.bind_some, e2, Option.bind_some, nI_add1]) (fun m ν' P => by
    show X11_findPlans_L127 134 (nI p) (nI (2 ^ pK μ p)) (nI st) (m + 1) (nI (2 ^ pK μ p)) ν' = _
    rw [X11_findPlans_L127, if_pos (nI_le (Nat.le_refl _) (by omega))]) ν ⟨s, fun _ _ _ _ => rfl, fun _ _ _ _ => rfl, fun x x1 x2 => by omega⟩
  exact ⟨ν', _, ⟨P1, P2, P3, P4⟩, e⟩
theorem st119 (I : Inv μ) (hp : p < 4) (hn : n ≤ 6) : ∀ r k ν, r ≤ n → FPm μ p n r ν → ∃ ν' x, FPm μ p n 0 ν' ∧ X11_findPlans_L119 134 (nI p) (nI (2 ^ pK μ p)) (k + r + 1) (nI r + (-1)) ν = some (x, ν')
  | 0, k, ν, _, h => by
    refine ⟨ν, nI 0 + (-1), h, ?_⟩
    rw [X11_findPlans_L119, if_pos (by decide)]
  | r + 1, k, ν, hr, h => by
    obtain ⟨s, pk, g, b⟩ := h
    obtain ⟨a1, a2, a3⟩ := allK (μ := μ) (p := p)
    have h6 := p2_s (show r ≤ 6 by omega)
    obtain ⟨ν1, x1, ⟨s1, fa1, fj1, g1⟩, e1⟩ := gain127 I hp (st := r) (by omega) s pk
    have pk1 : PKm μ p ν1 := by
      unfold PKm
      rw [fa1 134 (by decide) (by decide) (by decide), fa1 166 (by decide) (by decide) (by decide)]
      exact pk
    have b1 : ∀ s, r + 1 ≤ s → s ≤ n → Bt μ p n s ν1 := fun s q1 q2 => by
      unfold Bt
      rw [fa1 167 (by decide) (by decide) (by decide)]
      exact b s q1 q2
    obtain ⟨ν2, x2, ⟨s2, fa2, fj2, b2⟩, e2⟩ := pl151 I hp hn (st := r) (by omega) s1 pk1 g1 (b1 (r + 1) (Nat.le_refl _) hr)
    have h2 : FPm μ p n r ν2 := by
      refine ⟨s2, ?_, fun s q1 q2 => ?_, fun s q1 q2 => ?_⟩
      · unfold PKm
        rw [fa2 134 (by decide), fa2 166 (by decide)]
        exact pk1
      · unfold Gs
        rw [fa2 168 (by decide), fa2 169 (by decide)]
        by_cases z : s = r
        · subst z
          exact g1
        · intro x y1 y2
          rw [fj1 168 _ (Or.inl rfl) (by omega), fj1 169 _ (Or.inr rfl) (by omega)]
          exact g s (by omega) q2 x y1 y2
      · by_cases z : s = r
        · subst z
          exact b2
        · intro left hl pl hq
          have hs6 := p2_s (show s ≤ 6 by omega)
          rw [fj2 _ (by omega)]
          exact b1 s (by omega) q2 left hl pl hq
    obtain ⟨ν3, x3, h3, e3⟩ := st119 I hp hn r k ν2 (by omega) h2
    refine ⟨ν3, x3, h3, ?_⟩
    rw [show k + (r + 1) + 1 = k + r + 1 + 1 by omega, X11_findPlans_L119, pk_m1, if_neg (nI_pos (by omega)), e1, Option.bind_some, e2, Option.bind_some]
    exact e3
theorem fill86 (hn : n ≤ 6) {ν : Mem} (s : Sm μ ν) (x1 x3 : Int32) : ∃ ν' x, (Sm μ ν' ∧ (∀ a, a ≠ 167 → mI ν' a = mI ν a) ∧ ∀ j, 4096 * n ≤ j → j < 4096 * n + 4096 → mI ν' 167 j = nI 0) ∧ X11_findPlans_L86 134 x1 (nI n) x3 FU (nI (4096 * n)) ν = some (x, ν') := by
  obtain ⟨ν', P, e⟩ := loopG (F := fun m (ν' : Mem) i => X11_findPlans_L86 134 x1 (nI n) x3 m (nI i) ν') (P := fun i ν' => Sm μ ν' ∧ (∀ a, a ≠ 167 → mI ν' a = mI ν a) ∧ ∀ j, 4096 * n ≤ j → j < i → mI ν' 167 j = nI 0) (i0 := 4096 * n) (n := 4096 * n + 4096) (r := fun ν' => (nI (4096 * n + 4096), ν')) (by omega) (by omega) (fun m ν' i i1 hi P => by
    obtain ⟨s1, fa, c⟩ := P
    refine ⟨wI ν' 167 i 0, ⟨s1.wI (corM (by decide) _), fun a q => ?_, fun j j1 j2 => ?_⟩, ?_⟩
    · rw [row_ne q]
      exact fa a q
    · by_cases z : j = i
      · subst z
        rw [fld_eq]
        rfl
      · rw [fld_ne (by omega)]
        exact c j j1 (by omega)
    · show X11_findPlans_L86 134 x1 (nI n) x3 (m + 1) (nI i) ν' = _
      rw [X11_findPlans_L86, show (4096 : Int32) = nI 4096 from rfl, pk_mul, nI_add, if_neg (nI_ge hi (by omega)), r_134_42 s1.1, Option.bind_some, si_167 s1.1 (by omega), Option.bind_some, nI_add1]) (fun m ν' P => by
    show X11_findPlans_L86 134 x1 (nI n) x3 (m + 1) (nI (4096 * n + 4096)) ν' = _
    rw [X11_findPlans_L86, show (4096 : Int32) = nI 4096 from rfl, pk_mul, nI_add, if_pos (nI_le (Nat.le_refl _) (by omega))]) ν ⟨s, fun _ _ => rfl, fun j j1 j2 => by omega⟩
  exact ⟨ν', _, P, e⟩
theorem plans_m (I : Inv μ) (hp : p < 4) (hn1 : 1 ≤ n) (hn : n ≤ 6) {ν : Mem} (s : Sm μ ν) : ∃ ν', FPm μ p n 0 ν' ∧ X11_findPlans 134 (nI p) (nI n) ν = some ν' := by
  obtain ⟨a1, a2, a3⟩ := allK (μ := μ) (p := p)
  have hK := pK_le μ p
  obtain ⟨ν1, x1, ⟨s1, pk1⟩, e1⟩ := pickM I hp (ν0 := wI ν 134 41 0) (s.wI cor41) fld_eq (nI n)
  obtain ⟨ν2, x2, ⟨s2, fa2, c2⟩, e2⟩ := fill86 (n := n) hn s1 (nI p) (nI (2 ^ pK μ p))
  have h2 : FPm μ p n n ν2 := by
    refine ⟨s2, ?_, fun s q1 q2 => by omega, fun s q1 q2 => ?_⟩
    · unfold PKm
      rw [fa2 134 (by decide), fa2 166 (by decide)]
      exact pk1
    · have e : s = n := by omega
      subst e
      intro left hl pl hq
      have h6 := p2_s (show s ≤ 6 by omega)
      rw [c2 _ (by omega) (by omega), Nat.sub_self]
      rfl
  obtain ⟨ν3, x3, h3, e3⟩ := st119 I hp hn n (99999 - n) ν2 (Nat.le_refl _) h2
  rw [show 99999 - n + n + 1 = FU by unfold FU; omega] at e3
  refine ⟨ν3, h3, ?_⟩
  unfold X11_findPlans
  rw [pi_134 s.1, Option.bind_some, e1, Option.bind_some, gi_134 s1.1, pk1.1, Option.bind_some, sh31 _ (by omega), Option.bind_some, show (4096 : Int32) = nI 4096 from rfl, pk_mul, Option.bind_some, e2, Option.bind_some, show nI n - 1 = nI n + (-1) from Int32.sub_eq_add_neg .., Option.bind_some, e3, Option.bind_some]
end MP
