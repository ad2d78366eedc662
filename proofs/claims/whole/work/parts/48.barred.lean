/-! ===== windows: rows of TICKS and SAYINGS one by one ===== -/
theorem sumR_cg {f g : Nat → Nat} (lo : Nat) (h : ∀ i, f i = g i) : ∀ d, sumR f lo d = sumR g lo d
  | 0 => rfl
  | d + 1 => by rw [sumR, sumR, sumR_cg lo h d, h]
theorem sumR_add (f g : Nat → Nat) (lo : Nat) : ∀ d, sumR (fun i => f i + g i) lo d = sumR f lo d + sumR g lo d
  | 0 => rfl
  | d + 1 => by
    rw [sumR, sumR, sumR, sumR_add f g lo d]
    omega
theorem sumR_zero (lo : Nat) : ∀ d, sumR (fun _ => 0) lo d = 0
  | 0 => rfl
  | d + 1 => by rw [sumR, sumR_zero lo d]
theorem sumR_one (t lo : Nat) : ∀ d, sumR (fun i => if i = t then 1 else 0) lo d = if lo ≤ t ∧ t < lo + d then 1 else 0
  | 0 => by rw [sumR, if_neg (by omega)]
  | d + 1 => by
    rw [sumR, sumR_one t lo d]
    by_cases q : lo + d = t
    · rw [if_neg (by omega), if_pos q, if_pos (by omega)]
    · by_cases q2 : lo ≤ t ∧ t < lo + d
      · rw [if_pos q2, if_neg q, if_pos (by omega)]
      · rw [if_neg q2, if_neg q, if_neg (by omega)]
theorem sum_ct (μ : Mem) (p lo hi d : Nat) (h : lo + d = hi + 1) : ∀ n, sumR (fun u => ct μ p u n) lo d = cR μ p lo hi n
  | 0 => sumR_zero lo d
  | n + 1 => by
    rw [cR, ← sum_ct μ p lo hi d h n]
    by_cases q : sv μ 0 n = p
    · have e : ∀ u, ct μ p u (n + 1) = ct μ p u n + (if u = sv μ 3 n then 1 else 0) := fun u => by
        rw [ct]
        by_cases q2 : sv μ 3 n = u
        · rw [if_pos ⟨q, q2⟩, if_pos q2.symm]
        · rw [if_neg (fun z => q2 z.2), if_neg (fun z => q2 z.symm), Nat.add_zero]
      rw [sumR_cg lo e d, sumR_add, sumR_one]
      by_cases q3 : lo ≤ sv μ 3 n ∧ sv μ 3 n ≤ hi
      · rw [if_pos (by omega), if_pos ⟨q, q3⟩]
      · rw [if_neg (by omega), if_neg (fun z => q3 z.2), Nat.add_zero]
    · rw [if_neg (fun z => q z.1)]
      exact sumR_cg lo (fun u => by rw [ct, if_neg (fun z => q z.1)]) d
def plf (pb now : Nat) : Nat → Nat → Nat
  | 0, _ => 0
  | j + 1, u => plf pb now j u + (if pb.testBit j = true ∧ u = now + j then 1 else 0)
theorem sum_pl (pb now lo d : Nat) : ∀ n, now + n ≤ lo + d → sumR (plf pb now n) lo d = plC pb now lo n
  | 0, _ => sumR_zero lo d
  | n + 1, h => by
    rw [plC, ← sum_pl pb now lo d n (by omega)]
    by_cases q : pb.testBit n = true
    · have e : ∀ u, plf pb now (n + 1) u = plf pb now n u + (if u = now + n then 1 else 0) := fun u => by
        rw [plf]
        by_cases q2 : u = now + n
        · rw [if_pos ⟨q, q2⟩, if_pos q2]
        · rw [if_neg (fun z => q2 z.2), if_neg q2]
      rw [sumR_cg lo e d, sumR_add, sumR_one]
      by_cases q3 : lo ≤ now + n
      · rw [if_pos (by omega), if_pos ⟨q, q3⟩]
      · rw [if_neg (by omega), if_neg (fun z => q3 z.2), Nat.add_zero]
    · rw [if_neg (fun z => q z.1)]
      exact sumR_cg lo (fun u => by rw [plf, if_neg (fun z => q z.1), Nat.add_zero]) d
theorem wnd_eq (μ : Mem) (p pb step b : Nat) : wnd (fun u => ct μ p u (sc μ) + plf pb (nw μ) step u) (nw μ + step) b = gM μ p pb step b := by
  unfold wnd gM
  rw [sumR_add, sum_ct μ p _ (nw μ + step) _ (by omega), sum_pl pb (nw μ) _ _ step (by omega)]
theorem wnd_eq0 (μ : Mem) (p b : Nat) : wnd (fun u => ct μ p u (sc μ)) (nw μ) b = gM μ p 0 0 b := by
  unfold wnd gM
  rw [sum_ct μ p _ (nw μ) _ (by omega)]
  rfl
theorem barring_m {μ : Mem} (I : InvM μ) {p set way k pb : Nat} (hp : p < 4) (hs : set < 2 ^ tn μ) (hw : way < 4) (hk : k ≤ 8) (hpb : pb < 2 ^ 31) : ∃ ν, Sm μ ν ∧ X11_barring 134 (nI p) (nI set) (nI way) (nI k) (nI pb) μ = some (nI (barV μ p (nw μ + k) (odd μ p (nw μ) k) set way (mB μ p (gM μ p pb k) (lc μ p))), ν) := by
  have I0 := I
  obtain ⟨o, W, C, T, S, X, L⟩ := I
  have hn := T.1.2.2
  have hs10 : set < 2 ^ 10 := Nat.lt_of_lt_of_le hs (Nat.pow_le_pow_right (by decide) hn)
  have al := areAl_m o T L hp hs
  unfold X11_barring barV
  rw [vo_134 o, Option.bind_some, al, Option.bind_some]
  simp only [b01_z, decide_eq_false_iff_not]
  by_cases q : nd set (aT μ p (tn μ)) = 0
  · refine ⟨μ, Sm.rf o, ?_⟩
    rw [if_neg (fun z => z q), if_pos q, Option.bind_some, kindB_m I0 hp hk hs10, Option.bind_some]
    simp only [b01_z, decide_eq_false_iff_not, Decidable.not_not]
    by_cases q2 : set &&& kT μ p (nw μ + k) (tn μ) = 0
    · rw [if_pos q2, if_pos q2, if_neg (fun z => z q), Option.bind_some]
      rfl
    · rw [if_neg q2, if_neg q2]
      rfl
  · obtain ⟨ν, ⟨s, -⟩, ew⟩ := wayB_m I0 (p := p) (way := way) (k := k) hp hw hk
    have Iν := I0.sm s
    refine ⟨ν, s, ?_⟩
    have kb := kindB_m Iν (p := p) (set := set) (k := k) hp hk hs10
    rw [nw_sm s, tn_sm s, kT_sm s] at kb
    have am := areM_m Iν (p := p) (step := k) (pb := pb) hp (by omega) hpb
    rw [lc_sm s, gM_sm s, mB_sm s] at am
    have ml := mB_le μ p (gM μ p pb k) (lc μ p)
    have cm : (nI (mB μ p (gM μ p pb k) (lc μ p)) = 0) = (mB μ p (gM μ p pb k) (lc μ p) = 0) := n_eq (b := 0) (by omega) (by decide)
    rw [if_pos q, if_neg q, Option.bind_some, ew, Option.bind_some]
    simp only [b01_z]
    by_cases q3 : (bW μ p (odd μ p (nw μ) k) (lc μ p)).testBit way = true
    · have q3' : ¬ (bW μ p (odd μ p (nw μ) k) (lc μ p)).testBit way = false := by rw [q3]; decide
      rw [if_neg q3', if_pos q3]
      rfl
    · have q3' : (bW μ p (odd μ p (nw μ) k) (lc μ p)).testBit way = false := by
        cases z : (bW μ p (odd μ p (nw μ) k) (lc μ p)).testBit way
        · rfl
        · exact absurd z q3
      rw [if_pos q3', if_neg q3, vo_134 s.1, Option.bind_some, kb, Option.bind_some]
      simp only [b01_z, decide_eq_false_iff_not, Decidable.not_not]
      by_cases q2 : set &&& kT μ p (nw μ + k) (tn μ) = 0
      · rw [if_pos q2, if_pos q2, if_pos q, Option.bind_some, am, Option.bind_some]
        simp only [cm]
        by_cases q4 : mB μ p (gM μ p pb k) (lc μ p) = 0
        · rw [if_pos q4, if_pos q4]
          rfl
        · rw [if_neg q4, if_neg q4]
          rfl
      · rw [if_neg q2, if_neg q2]
        rfl
theorem gTs {μ : Mem} (h : Ok μ) (T : RelT μ) (x : Int32) : (X0_hasThings 37 x μ = some 0 ∧ X11_areThings 134 x μ = some 0) ∨ (X0_hasThings 37 x μ = some 1 ∧ X11_areThings 134 x μ = some 1 ∧ ∃ set, 0 < set ∧ set < 2 ^ tn μ ∧ x = nI set) := by
  have hn := T.1.2.2
  have hp : 2 ^ tn μ ≤ 2 ^ 10 := Nat.pow_le_pow_right (by decide) hn
  have hp0 : 0 < 2 ^ tn μ := Nat.two_pow_pos _
  have e : X11_in x.toInt64 1 ((((1 : Int32) <<< (nI (tn μ) &&& 31)) - 1).toInt64) = X10_within x 1 (nI (2 ^ tn μ - 1)) := by
    rw [sh31 _ (by omega), show nI (2 ^ tn μ) - 1 = nI (2 ^ tn μ - 1) from pk_sub (b := 1) hp0]
    exact in_eq x 1 _
  unfold X0_hasThings X11_areThings
  rw [gi_37 h, T.1.1, gi_134 h, T.1.2.1, Option.bind_some, Option.bind_some, e, sh31 _ (by omega)]
  by_cases q0 : x < 0
  · left
    have z1 : x ≤ 0 := by
      rw [Int32.lt_iff_toInt_lt] at q0
      rw [Int32.le_iff_toInt_le]
      omega
    have z2 : x < 1 := by
      rw [Int32.lt_iff_toInt_lt] at q0 ⊢
      have : (0 : Int32).toInt = 0 := rfl
      have : (1 : Int32).toInt = 1 := rfl
      omega
    unfold X10_within
    rw [if_pos z1, if_pos z2]
    exact ⟨rfl, rfl⟩
  · obtain ⟨j, hj, rfl⟩ := nI_of q0
    unfold X10_within
    have c1 : (nI j < 1) = (j < 1) := n_lt (b := 1) hj (by decide)
    have c2 : (nI (2 ^ tn μ - 1) < nI j) = (2 ^ tn μ - 1 < j) := n_lt (by omega) hj
    have c3 : (nI (2 ^ tn μ) ≤ nI j) = (2 ^ tn μ ≤ j) := n_le (by omega) hj
    simp only [nI_0le hj, c1, c2, c3]
    by_cases q1 : j = 0
    · left
      rw [if_pos q1, if_pos (show j < 1 by omega)]
      exact ⟨rfl, rfl⟩
    · rw [if_neg q1, if_neg (show ¬ j < 1 by omega)]
      by_cases q2 : 2 ^ tn μ ≤ j
      · left
        rw [if_pos q2, if_pos (show 2 ^ tn μ - 1 < j by omega)]
        exact ⟨rfl, rfl⟩
      · right
        rw [if_neg q2, if_neg (show ¬ 2 ^ tn μ - 1 < j by omega)]
        exact ⟨rfl, rfl, j, by omega, by omega, rfl⟩
theorem barNow_c {μ : Mem} (I : Inv μ) {p set way : Nat} (hp : p < 4) (hs : set < 2 ^ tn μ) (hw : way < 4) : ∃ ν, Sm μ ν ∧ X10_barNow 0 (nI p) (nI set) (nI way) μ = some (nI (barV μ p (nw μ) (odd μ p (nw μ) 0) set way (mB μ p (gM μ p 0 0) (lc μ p))), ν) := by
  have I0 := I
  obtain ⟨o, W, C, T, S, X, L⟩ := I
  have hn := W.2.2.2.2.2.2.2
  have w6 := W.2.2.2.2.2
  have hc := S.1.2.2
  have hT := T.1.2.2
  have hs10 : set < 2 ^ 10 := Nat.lt_of_lt_of_le hs (Nat.pow_le_pow_right (by decide) hT)
  obtain ⟨a, ⟨sa, ha⟩, ea⟩ := look_ok o W (p := p) (t := nw μ) (k := 0) hp (by omega) (by decide)
  have Ia := I0.sm sa
  obtain ⟨b, ⟨ob, gb⟩, eb⟩ := open_c Ia (G := 93) (p := p) (u := nw μ) (r := 19) (Or.inl rfl) hp (by omega) (by decide) rfl (ha 0 (Nat.le_refl _)) (fun j hj => odd_le hj)
  have sb := ob.sm (isGt (Or.inl rfl)).2.2
  have Ib := Ia.sm sb
  obtain ⟨c, ⟨oc, hcc⟩, ec⟩ := said_c sb.1 Ib.2.2.2.2.1 (r := 108) (p := p) (Or.inr rfl) hp
  have sc' := oc.sm (isRow (Or.inr rfl)).2.2
  have Ic := Ib.sm sc'
  have s3 := (sa.tr sb).tr sc'
  have gc : Gt a 93 p (nw μ) (odd μ p (nw μ) 0) c := by
    unfold Gt
    rw [oc.2.2.2 93 (by decide)]
    exact gb
  have mo := most_c sc'.1 Ic.2.2.2.2.2.2 (r := 108) (u := nw μ) (p := p) hp (Or.inr rfl) (by omega) (f := fun u => ct μ p u (sc μ)) (fun i hi => by rw [hcc i (by omega), sc_sm (sa.tr sb)]; exact congrArg nI (ct_sm (sa.tr sb) p i _)) (fun i => by have := ct_le μ p i (sc μ); omega)
  have ew : wnd (fun u => ct μ p u (sc μ)) (nw μ) = gM μ p 0 0 := funext (wnd_eq0 μ p)
  rw [ew, lc_sm s3, mB_sm s3] at mo
  have br := bar_c Ia (G := 93) (p := p) (u := nw μ) (Or.inl rfl) hp sc'.1 gc (set := set) (way := way) (m := mB μ p (gM μ p 0 0) (lc μ p)) hs10 hw (mB_le _ _ _ _)
  have ebv : barV a p (nw μ) (odd μ p (nw μ) 0) set way (mB μ p (gM μ p 0 0) (lc μ p)) = barV μ p (nw μ) (odd μ p (nw μ) 0) set way (mB μ p (gM μ p 0 0) (lc μ p)) := by
    unfold barV
    rw [aT_sm sa, kT_sm sa, bW_sm sa, lc_sm sa, tn_sm sa]
  rw [ebv] at br
  have na : mI a 0 10 = nI (nw μ) := (sa.fld (a := 0) (k := 10) rfl).trans w6.1
  have nc : mI c 0 10 = nI (nw μ) := (s3.fld (a := 0) (k := 10) rfl).trans w6.1
  refine ⟨c, s3, ?_⟩
  unfold X10_barNow
  have lc' : aR 4 92 (nI p) c = some (lwA c p) := ar_laws sc'.1 hp
  rw [r_0_0 o, Option.bind_some, gi_0 o, w6.1, Option.bind_some, vo_1 o, Option.bind_some, show (0 : Int32) = nI 0 from rfl, ea, Option.bind_some, r_0_5 sa.1, Option.bind_some, r_0_4 sa.1, Option.bind_some, ar_laws sa.1 hp, Option.bind_some, r_0_2 sa.1, Option.bind_some, gi_0 sa.1, na, Option.bind_some, r_0_0 sa.1, Option.bind_some, r_1_4 sa.1, Option.bind_some, ar_ahead sa.1 (by decide), Option.bind_some, vo_93 sa.1, Option.bind_some, eb, Option.bind_some, r_0_2 sb.1, Option.bind_some, r_0_8 sb.1, Option.bind_some, vo_37 sb.1, Option.bind_some, ec, Option.bind_some, r_0_5 sc'.1, Option.bind_some, r_0_4 sc'.1, Option.bind_some, lc', Option.bind_some, r_0_8 sc'.1, Option.bind_some, gi_0 sc'.1, nc, Option.bind_some, vo_l sc'.1 (lw_is sc'.1 hp), Option.bind_some, mo, Option.bind_some, vo_93 sc'.1, Option.bind_some, br, Option.bind_some]
theorem p_barred (x1 x2 x3 : Int32) : Pair (X10_barred 0 x1 x2 x3) (X11_barred 134 x1 x2 x3) := by
  intro μ I
  have I0 := I
  obtain ⟨o, W, C, T, S, X, L⟩ := I
  rcases gd x1 3 (by decide) with ⟨g1, k1⟩ | ⟨g1, k1, p, hp, rfl⟩
  · exact pairR I0 (by unfold X10_barred; rw [if_pos (show X10_isPerson x1 = 0 from g1)]) (by unfold X11_barred; rw [if_pos (show X11_isPerson x1 = 0 from k1)])
  rcases gTs o T x2 with ⟨g2, k2⟩ | ⟨g2, k2, set, hs0, hs, rfl⟩
  · exact pairR I0 (r := -1001) (by unfold X10_barred; rw [if_neg (show ¬ X10_isPerson (nI p) = 0 from g1), r_0_2 o, Option.bind_some, vo_37 o, Option.bind_some, g2, Option.bind_some, if_pos rfl]) (by unfold X11_barred; rw [if_neg (show ¬ X11_isPerson (nI p) = 0 from k1), vo_134 o, Option.bind_some, k2, Option.bind_some, if_pos rfl])
  rcases gd x3 3 (by decide) with ⟨g3, k3⟩ | ⟨g3, k3, w, hw, rfl⟩
  · exact pairR I0 (r := -1002) (by unfold X10_barred; rw [if_neg (show ¬ X10_isPerson (nI p) = 0 from g1), r_0_2 o, Option.bind_some, vo_37 o, Option.bind_some, g2, Option.bind_some, if_neg (by decide), if_pos (show X10_isWay x3 = 0 from g3)]) (by unfold X11_barred; rw [if_neg (show ¬ X11_isPerson (nI p) = 0 from k1), vo_134 o, Option.bind_some, k2, Option.bind_some, if_neg (by decide), if_pos (show X11_isWay x3 = 0 from k3), Option.bind_some])
  obtain ⟨a, sa, ea⟩ := barNow_c I0 (p := p) (set := set) (way := w) (by omega) hs (by omega)
  have Ia := I0.sm sa
  obtain ⟨b, sb, eb⟩ := barring_m Ia.m (p := p) (set := set) (way := w) (k := 0) (pb := 0) (by omega) (by rw [tn_sm sa]; exact hs) (by omega) (by decide) (by decide)
  have ebv : barV a p (nw a + 0) (odd a p (nw a) 0) set w (mB a p (gM a p 0 0) (lc a p)) = barV μ p (nw μ) (odd μ p (nw μ) 0) set w (mB μ p (gM μ p 0 0) (lc μ p)) := by
    unfold barV
    rw [aT_sm sa, kT_sm sa, bW_sm sa, lc_sm sa, tn_sm sa, nw_sm sa, mB_sm sa, gM_sm sa, show odd a p (nw μ) 0 = odd μ p (nw μ) 0 from funext (odd_sm sa p (nw μ) 0), Nat.add_zero]
  rw [ebv] at eb
  have k2a : X11_areThings 134 (nI set) a = some 1 := by
    rw [← k2]
    unfold X11_areThings
    rw [gi_134 sa.1, gi_134 o, sa.fld (a := 134) (k := 12) rfl]
  refine pairS I0 (r := nI (barV μ p (nw μ) (odd μ p (nw μ) 0) set w (mB μ p (gM μ p 0 0) (lc μ p)))) (μ1 := a) (μ2 := b) ?_ sa ?_ sb
  · unfold X10_barred
    rw [if_neg (show ¬ X10_isPerson (nI p) = 0 from g1), r_0_2 o, Option.bind_some, vo_37 o, Option.bind_some, g2, Option.bind_some, if_neg (by decide), if_neg (show ¬ X10_isWay (nI w) = 0 from g3), vo_0 o, Option.bind_some, ea, Option.bind_some]
  · unfold X11_barred
    rw [if_neg (show ¬ X11_isPerson (nI p) = 0 from k1), vo_134 sa.1, Option.bind_some, k2a, Option.bind_some, if_neg (by decide), if_neg (show ¬ X11_isWay (nI w) = 0 from k3), Option.bind_some]
    rw [show X11_barring 134 (nI p) (nI set) (nI w) 0 0 a = _ from eb, Option.bind_some, Option.bind_some]
