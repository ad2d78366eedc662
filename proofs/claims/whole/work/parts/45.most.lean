/-! ===== how many were said ===== -/
def ct (μ : Mem) (p u : Nat) : Nat → Nat
  | 0 => 0
  | n + 1 => if sv μ 0 n = p ∧ sv μ 3 n = u then ct μ p u n + 1 else ct μ p u n
theorem ct_le (μ : Mem) (p u : Nat) : ∀ n, ct μ p u n ≤ n
  | 0 => Nat.le_refl _
  | n + 1 => by
    have := ct_le μ p u n
    rw [ct]
    split <;> omega
theorem ct_sm {μ μ' : Mem} (s : Sm μ μ') (p u : Nat) : ∀ n, ct μ' p u n = ct μ p u n
  | 0 => rfl
  | n + 1 => by rw [ct, ct, ct_sm s p u n, sv_sm s (by decide), sv_sm s (by decide)]
theorem Onl.S {μ μ' : Mem} (s : Sm μ μ') (S : RelS μ) : RelS μ' := S.cg (s.fld (a := 37) (k := 3) rfl) (s.fld (a := 134) (k := 45) rfl) (fun q hq => by rw [show 50 + q = 40 + (10 + q) by omega]; exact s.row (coA_o (by omega))) (fun q hq => s.row (coA_s hq)) (nw_le (s.fld (a := 134) (k := 5) rfl))
theorem isRow {r : Nat} (h : r = 106 ∨ r = 108) : S0 r = (1, 66) ∧ r < 175 ∧ ∀ k, cor r k = false := by
  rcases h with rfl | rfl
  · exact ⟨rfl, by decide, fun _ => rfl⟩
  · exact ⟨rfl, by decide, fun _ => rfl⟩
theorem HI.up {μ : Mem} {a n k : Nat} {f g : Nat → Nat} {v : Int32} (h : HI μ a n f) (hv : v = nI (g k)) (hg : ∀ i, i ≠ k → g i = f i) : HI (wI μ a k v) a n g := by
  intro i hi
  by_cases q : i = k
  · subst q
    rw [fld_eq, hv]
  · rw [fld_ne (by omega), h i hi, hg i q]
theorem said_c {μ : Mem} (o : Ok μ) (S : RelS μ) {r p : Nat} (hr : r = 106 ∨ r = 108) (hp : p < 4) : ∃ ν, (Onl r μ ν ∧ HI ν r 66 (fun u => ct μ p u (sc μ))) ∧ X0_countSaid 37 (nI p) r μ = some ν := by
  obtain ⟨sr, hr2, cr⟩ := isRow hr
  have hc := S.1.2.2
  obtain ⟨ν, ⟨P1, P2⟩, e⟩ := loopF (F := fun k (ν : Mem) i => X0_countSaid_L2 37 (nI p) r k (nI i) ν) (P := fun i ν => Onl r μ ν ∧ HI ν r i (fun _ => 0)) (n := 66) (r := fun ν => (nI 66, ν)) (by decide) (fun k ν i hi P => by
    refine ⟨wI ν r i 0, ⟨P.1.wI, P.2.put rfl⟩, ?_⟩
    show X0_countSaid_L2 37 (nI p) r (k + 1) (nI i) ν = _
    rw [X0_countSaid_L2, aL_eq P.1.1 hr2 sr (by decide) (by decide), Option.bind_some, if_neg (nI_ge hi (by decide)), sI_eq P.1.1 hr2 sr hi (by decide), Option.bind_some, nI_add1]) (fun k ν P => by
    show X0_countSaid_L2 37 (nI p) r (k + 1) (nI 66) ν = _
    rw [X0_countSaid_L2, aL_eq P.1.1 hr2 sr (by decide) (by decide), Option.bind_some, if_pos (nI_le (Nat.le_refl _) (by decide))]) μ ⟨Onl.rf o, fun i hi => absurd hi (by omega)⟩
  have e : X0_countSaid_L2 37 (nI p) r FU 0 μ = _ := e
  obtain ⟨η, ⟨Q1, Q2⟩, e2⟩ := loopF (F := fun k (ν : Mem) i => X0_countSaid_L20 37 (nI p) r k (nI i) ν) (P := fun i ν => Onl r μ ν ∧ HI ν r 66 (fun u => ct μ p u i)) (n := sc μ) (r := fun ν => (nI (sc μ), ν)) (by omega) (fun k ν i hi P => by
    obtain ⟨on, hh⟩ := P
    have s := on.sm cr
    have oν := on.1
    have Sν := Onl.S s S
    have i40 : i < 40 := by omega
    have cs' : mI ν 37 3 = nI (sc μ) := (s.fld (a := 37) (k := 3) rfl).trans S.1.1
    have f3 := (Sν.2.1 3 i (by decide) i40).1
    have f0 := (Sν.2.1 0 i (by decide) i40).1
    rw [sv_sm s (by decide)] at f3 f0
    have b3 : sv μ 3 i ≤ 60 := (S.2.1 3 i (by decide) i40).2.2
    have b0 : sv μ 0 i ≤ 3 := (S.2.1 0 i (by decide) i40).2.2
    have c0 : (nI (sv μ 0 i) = nI p) = (sv μ 0 i = p) := n_eq (by omega) (by omega)
    show ∃ a', _ ∧ X0_countSaid_L20 37 (nI p) r (k + 1) (nI i) ν = _
    rw [X0_countSaid_L20, gi_37 oν, cs', Option.bind_some, if_neg (nI_ge hi (by omega))]
    simp only [r_37_1 oν, ar_sayings oν i40, gi_S oν i40, f3, f0, Option.bind_some, c0]
    by_cases q : sv μ 0 i = p
    · refine ⟨wI ν r (sv μ 3 i) (nI (ct μ p (sv μ 3 i) i) + 1), ⟨on.wI, hh.up ?_ (fun u hu => ?_)⟩, ?_⟩
      · rw [nI_add1, ct, if_pos ⟨q, rfl⟩]
      · rw [ct, if_neg (fun z => hu z.2.symm)]
      · rw [if_pos q, if_neg (nI_pos (by omega)), aL_eq oν hr2 sr (by decide) (by decide), Option.bind_some, if_neg (nI_ge (by omega) (by decide)), aI_eq oν hr2 sr (by omega) (by decide), hh _ (by omega), Option.bind_some, sI_eq oν hr2 sr (by omega) (by decide), Option.bind_some, Option.bind_some, nI_add1]
    · refine ⟨ν, ⟨on, fun u hu => ?_⟩, ?_⟩
      · show mI ν r u = nI (ct μ p u (i + 1))
        rw [hh u hu, ct, if_neg (fun z => q z.1)]
      · rw [if_neg q, Option.bind_some, nI_add1]) (fun k ν P => by
    have cs' : mI ν 37 3 = nI (sc μ) := ((P.1.sm cr).fld (a := 37) (k := 3) rfl).trans S.1.1
    show X0_countSaid_L20 37 (nI p) r (k + 1) (nI (sc μ)) ν = _
    rw [X0_countSaid_L20, gi_37 P.1.1, cs', Option.bind_some, if_pos (nI_le (Nat.le_refl _) (by omega))]) ν ⟨P1, P2⟩
  have e2 : X0_countSaid_L20 37 (nI p) r FU 0 ν = _ := e2
  refine ⟨η, ⟨Q1, Q2⟩, ?_⟩
  unfold X0_countSaid
  rw [e, Option.bind_some, e2, Option.bind_some]
/-- the sum of a row, d numbers from lo on -/
def sumR (f : Nat → Nat) (lo : Nat) : Nat → Nat
  | 0 => 0
  | d + 1 => sumR f lo d + f (lo + d)
/-- the sum of what a row has in the last b TICKS up to u -/
def wnd (f : Nat → Nat) (u b : Nat) : Nat := sumR f (u + 1 - b) (u + 1 - (u + 1 - b))
theorem sumR_le {f : Nat → Nat} {c : Nat} (lo : Nat) (h : ∀ i, f i ≤ c) : ∀ d, sumR f lo d ≤ d * c
  | 0 => Nat.zero_le _
  | d + 1 => by
    have h1 := sumR_le lo h d
    have h2 := h (lo + d)
    rw [sumR, Nat.succ_mul]
    omega
theorem within_c {μ : Mem} (o : Ok μ) {r u b : Nat} (hr : r = 106 ∨ r = 108) (hu : u < 66) (hb : b ≤ 60) {f : Nat → Nat} (hf : ∀ i, i ≤ u → mI μ r i = nI (f i)) : X3_saidWithin r (nI u - nI b + 1) (nI u) μ = some (nI (wnd f u b)) := by
  obtain ⟨sr, hr2, cr⟩ := isRow hr
  have e0 : (if (0 : Int32) < nI u - nI b + 1 then nI u - nI b + 1 else 0) = nI (u + 1 - b) := by
    by_cases q : b ≤ u
    · rw [pk_sub q, nI_add1, if_pos (show (0 : Int32) < _ from nI_lt (a := 0) (by omega) (by omega)), show u - b + 1 = u + 1 - b by omega]
    · obtain ⟨d, hd⟩ : ∃ d, b = u + 1 + d := ⟨b - (u + 1), by omega⟩
      have e2 : nI u - nI b + 1 = nI 0 - nI d := by
        have xy : ∀ x y : Int32, x - (x + y) = 0 - y := fun x y => by rw [Int32.sub_eq_add_neg, Int32.neg_add, Int32.sub_eq_add_neg, ← Int32.add_assoc, Int32.add_right_neg, Int32.sub_eq_add_neg]
        rw [hd, Int32.sub_eq_add_neg, Int32.add_assoc, Int32.add_comm _ 1, ← Int32.add_assoc, nI_add1, ← Int32.sub_eq_add_neg, ← nI_add (u + 1) d, xy, nI_0]
      rw [e2, if_neg (by rw [Int32.lt_iff_toInt_lt, pk_sub_toInt (by decide) (by omega)]; have : (0 : Int32).toInt = 0 := rfl; omega), show u + 1 - b = 0 by omega]
      rfl
  obtain ⟨a, P, e⟩ := loopG (F := fun k (a : Nat) i => X3_saidWithin_L9 r (nI u) μ k (nI a) (nI i)) (P := fun i a => a = sumR f (u + 1 - b) (i - (u + 1 - b))) (i0 := u + 1 - b) (n := u + 1) (r := fun a => (nI a, nI (u + 1))) (by omega) (by omega) (fun k a i h1 hi P => by
    subst P
    refine ⟨_, rfl, ?_⟩
    show X3_saidWithin_L9 r (nI u) μ (k + 1) (nI (sumR f (u + 1 - b) (i - (u + 1 - b)))) (nI i) = X3_saidWithin_L9 r (nI u) μ k (nI (sumR f (u + 1 - b) (i + 1 - (u + 1 - b)))) (nI (i + 1))
    rw [X3_saidWithin_L9, if_neg (nI_nlt (by omega) (by omega)), aL_eq o hr2 sr (by decide) (by decide), Option.bind_some, if_neg (nI_ge (by omega) (by decide)), aI_eq o hr2 sr (by omega) (by decide), hf i (by omega), Option.bind_some, Option.bind_some, nI_add, nI_add1, show i + 1 - (u + 1 - b) = i - (u + 1 - b) + 1 by omega, sumR, show u + 1 - b + (i - (u + 1 - b)) = i by omega]) (fun k a P => by
    show X3_saidWithin_L9 r (nI u) μ (k + 1) (nI a) (nI (u + 1)) = _
    rw [X3_saidWithin_L9, if_pos (nI_lt (by omega) (by omega))]) 0 (by rw [Nat.sub_self]; rfl)
  subst P
  have e : X3_saidWithin_L9 r (nI u) μ FU 0 (nI (u + 1 - b)) = _ := e
  unfold X3_saidWithin
  rw [e0, Option.bind_some, e, Option.bind_some]
  rfl
/-- a clause 'most' among the first n bars, by what its window holds -/
def mB (μ : Mem) (p : Nat) (g : Nat → Nat) : Nat → Nat
  | 0 => 0
  | k + 1 => if mB μ p g k = 1 then 1 else if lv μ 0 p k = 3 ∧ lv μ 1 p k ≤ g (lv μ 2 p k) then 1 else 0
theorem mB_le (μ : Mem) (p : Nat) (g : Nat → Nat) : ∀ n, mB μ p g n ≤ 1
  | 0 => by rw [mB]; omega
  | n + 1 => by
    rw [mB]
    split
    · omega
    · split <;> omega
theorem mB_mono {μ : Mem} {p : Nat} {g : Nat → Nat} {k : Nat} (h : mB μ p g k = 1) : ∀ d, mB μ p g (k + d) = 1
  | 0 => h
  | d + 1 => by rw [show k + (d + 1) = k + d + 1 by omega, mB, if_pos (mB_mono h d)]
theorem mB_sm {μ μ' : Mem} (s : Sm μ μ') (p : Nat) (g : Nat → Nat) : ∀ n, mB μ' p g n = mB μ p g n
  | 0 => rfl
  | n + 1 => by rw [mB, mB, mB_sm s p g n, lv_sm s (by decide), lv_sm s (by decide), lv_sm s (by decide)]
theorem mB_cg {μ : Mem} {p : Nat} {g g' : Nat → Nat} : ∀ n, (∀ k, k < n → lv μ 0 p k = 3 → g (lv μ 2 p k) = g' (lv μ 2 p k)) → mB μ p g n = mB μ p g' n
  | 0, _ => rfl
  | n + 1, h => by
    rw [mB, mB, mB_cg n (fun k hk => h k (by omega))]
    by_cases q : lv μ 0 p n = 3
    · rw [h n (by omega) q]
    · rw [if_neg (show ¬ (lv μ 0 p n = 3 ∧ _) from fun z => q z.1), if_neg (show ¬ (lv μ 0 p n = 3 ∧ _) from fun z => q z.1)]
theorem most_c {μ : Mem} (o : Ok μ) (L : RelL μ) {r u p : Nat} (hp : p < 4) (hr : r = 106 ∨ r = 108) (hu : u < 66) {f : Nat → Nat} (hf : ∀ i, i ≤ u → mI μ r i = nI (f i)) (fb : ∀ i, f i ≤ 1000) : X3_mostBars (lwA μ p) r (nI u) μ = some (nI (mB μ p (wnd f u) (lc μ p))) := by
  have il := lw_is o hp
  obtain ⟨⟨l0, -, l8⟩, hk⟩ := L p hp
  obtain ⟨b, Q, e⟩ := loopE (F := fun k (_ : Unit) i => X3_mostBars_L2 (lwA μ p) r (nI u) μ k (nI i)) (P := fun i _ => mB μ p (wnd f u) i = 0) (Q := fun b => b = nI (mB μ p (wnd f u) (lc μ p))) (n := lc μ p) (by omega) (fun k _ i hi P => by
    have i8 : i < 8 := by omega
    obtain ⟨A0, A1, A2, -⟩ := hk i hi
    have c3 : (nI (lv μ 0 p i) = 3) = (lv μ 0 p i = 3) := n_eq (b := 3) (by omega) (by decide)
    have fin : mB μ p (wnd f u) (i + 1) = 1 → mB μ p (wnd f u) (lc μ p) = 1 := fun h => by
      have := mB_mono h (lc μ p - (i + 1))
      rwa [show i + 1 + (lc μ p - (i + 1)) = lc μ p by omega] at this
    show (∃ a', mB μ p (wnd f u) (i + 1) = 0 ∧ X3_mostBars_L2 (lwA μ p) r (nI u) μ (k + 1) (nI i) = _) ∨ ∃ b, _ ∧ X3_mostBars_L2 (lwA μ p) r (nI u) μ (k + 1) (nI i) = some b
    rw [X3_mostBars_L2, gi_l o il, l0, Option.bind_some, if_neg (nI_ge hi (by omega))]
    simp only [rl_1 o il, rl_2 o il, rl_3 o il, al_1 o il i8, al_2 o il i8, al_3 o il i8, A0.1, A1.1, Option.bind_some, c3, nI_add1]
    by_cases q : lv μ 0 p i = 3
    · obtain ⟨z1, -, z3, -⟩ := A2 (by omega) (by omega)
      have wb : wnd f u (lv μ 2 p i) ≤ 66 * 1000 := Nat.le_trans (sumR_le _ fb _) (Nat.mul_le_mul (by omega) (Nat.le_refl _))
      rw [if_pos q, z1, within_c o hr hu z3 hf, Option.bind_some]
      simp only [n_lt (show wnd f u (lv μ 2 p i) < 2 ^ 31 by omega) (show lv μ 1 p i < 2 ^ 31 by omega)]
      by_cases q2 : wnd f u (lv μ 2 p i) < lv μ 1 p i
      · refine Or.inl ⟨(), ?_, ?_⟩
        · rw [mB, if_neg (by omega), if_neg (by omega)]
        · rw [if_pos q2]
      · refine Or.inr ⟨1, ?_, ?_⟩
        · rw [fin (by rw [mB, if_neg (by omega), if_pos ⟨q, by omega⟩])]
          rfl
        · rw [if_neg q2]
    · refine Or.inl ⟨(), ?_, ?_⟩
      · rw [mB, if_neg (by omega), if_neg (fun z => q z.1)]
      · rw [if_neg q]) (fun k _ P => by
    refine ⟨0, ?_, ?_⟩
    · rw [P]
      rfl
    · show X3_mostBars_L2 (lwA μ p) r (nI u) μ (k + 1) (nI (lc μ p)) = _
      rw [X3_mostBars_L2, gi_l o il, l0, Option.bind_some, if_pos (nI_le (Nat.le_refl _) (by omega))]) () rfl
  subst Q
  exact e
