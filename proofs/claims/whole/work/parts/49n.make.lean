/-! ===== the class's plan ===== -/
/-- nodes of a step -/
def NV (μ : Mem) (p st node : Nat) : Prop := if cS μ p (lc μ p) = 0 then node = 2 ^ st else 2 ^ st ≤ node ∧ node < 2 ^ (st + 1)
theorem NV.rg {μ : Mem} {p st node : Nat} (h : NV μ p st node) : 2 ^ st ≤ node ∧ node < 2 ^ (st + 1) := by
  unfold NV at h
  have : 2 ^ (st + 1) = 2 ^ st * 2 := Nat.pow_succ ..
  have := Nat.two_pow_pos st
  split at h
  · omega
  · exact h
theorem p2_6 {st : Nat} (h : st < 6) : 2 ^ (st + 1) ≤ 64 := show 2 ^ (st + 1) ≤ 2 ^ 6 from Nat.pow_le_pow_right (by decide) (by omega)
theorem NV.two {μ : Mem} {p st node : Nat} (h : NV μ p st node) : NV μ p (st + 1) (2 * node) := by
  have rg := h.rg
  unfold NV at h ⊢
  have h1 : 2 ^ (st + 1) = 2 ^ st * 2 := Nat.pow_succ ..
  have h2 : 2 ^ (st + 1 + 1) = 2 ^ (st + 1) * 2 := Nat.pow_succ ..
  by_cases z : cS μ p (lc μ p) = 0
  · rw [if_pos z] at h ⊢
    omega
  · rw [if_neg z] at h ⊢
    omega
theorem NV.one {μ : Mem} {p st node : Nat} (z : ¬ cS μ p (lc μ p) = 0) (h : NV μ p st node) : NV μ p (st + 1) (2 * node + 1) := by
  have rg := h.rg
  unfold NV
  have h1 : 2 ^ (st + 1) = 2 ^ st * 2 := Nat.pow_succ ..
  have h2 : 2 ^ (st + 1 + 1) = 2 ^ (st + 1) * 2 := Nat.pow_succ ..
  rw [if_neg z]
  omega
/-- totals of a step -/
def Tt (μ : Mem) (p n st : Nat) (ν : Mem) : Prop := st < n → ∀ node, NV μ p st node → ∀ used, used < 2 ^ pK μ p → mI ν 105 (node * 64 + used) = nI (BP μ p n (n - st) (nd (2 ^ pK μ p - 1) used) (plN st node))
noncomputable def foP (μ : Mem) (p n st left pl : Nat) : Nat → Nat × Nat := fo (elB (cG μ p) (aw μ p) (mo μ p) st pl left) (fun x => cG μ p st x + BP μ p n (n - st - 1) (nd left x) (pl ||| 2 ^ st)) (BP μ p n (n - st - 1) left pl)
theorem BP_s {μ : Mem} {p n st : Nat} (left pl : Nat) (h : st < n) : BP μ p n (n - st) left pl = (foP μ p n st left pl 63).2 := by
  unfold BP foP
  rw [show n - st = n - st - 1 + 1 by omega, BB, show n - (n - st - 1 + 1) = st by omega]
  rfl
section MK
variable {μ : Mem} {p n : Nat}
theorem BP_bd (I : Inv μ) (hn : n ≤ 6) {r : Nat} (hr : r ≤ 6) (left pl : Nat) : BP μ p n r left pl ≤ 17994 * 9 * 6 := by
  have cb : ∀ s x, (fun s x => if s ≤ 8 then cG μ p s x else 0) s x ≤ 17994 := fun s x => by
    show (if s ≤ 8 then cG μ p s x else 0) ≤ _
    by_cases z : s ≤ 8
    · rw [if_pos z]
      exact cG_le I z
    · rw [if_neg z]
      exact Nat.zero_le _
  have eq : ∀ r left pl, BB n (cG μ p) (aw μ p) (mo μ p) r left pl = BB n (fun s x => if s ≤ 8 then cG μ p s x else 0) (aw μ p) (mo μ p) r left pl := fun r => by
    induction r with
    | zero => intro _ _; rfl
    | succ r ih =>
      intro left pl
      have e8 : ∀ x, cG μ p (n - (r + 1)) x = (fun s x => if s ≤ 8 then cG μ p s x else 0) (n - (r + 1)) x := fun x => (if_pos (by omega)).symm
      rw [BB, BB, ih]
      rw [fo_cg (el' := elB (fun s x => if s ≤ 8 then cG μ p s x else 0) (aw μ p) (mo μ p) (n - (r + 1)) pl left) (bv' := fun x => (fun s x => if s ≤ 8 then cG μ p s x else 0) (n - (r + 1)) x + BB n (fun s x => if s ≤ 8 then cG μ p s x else 0) (aw μ p) (mo μ p) r (nd left x) (pl ||| 2 ^ (n - (r + 1)))) 63 (fun x _ _ => by unfold elB; rw [e8]) (fun x _ _ _ => by rw [ih, e8])]
  have := BB_bd (n := n) (al := aw μ p) (mo := mo μ p) cb r left pl
  unfold BP
  rw [eq]
  omega
theorem nc_eq (z : cS μ p (lc μ p) = 0) (r left pl pl' : Nat) : BP μ p n r left pl = BP μ p n r left pl' := BB_nc (fun st pl => mo_nc z st pl) r left pl pl'
theorem allK : 2 ^ pK μ p - 1 < 64 ∧ 1 ≤ 2 ^ pK μ p ∧ 2 ^ pK μ p ≤ 64 := by
  have h1 : 2 ^ pK μ p ≤ 2 ^ 6 := Nat.pow_le_pow_right (by decide) (pK_le μ p)
  have h2 := Nat.two_pow_pos (pK μ p)
  omega
theorem behind0 {ν : Mem} (node : Nat) : X4_nodeBehind 94 (nI node) 0 ν = some (nI (2 * node)) := by
  unfold X4_nodeBehind
  rw [if_pos rfl, Option.bind_some, show (2 : Int32) = nI 2 from rfl, pk_mul, Int32.add_zero, Nat.mul_comm]
theorem behind1 {ν : Mem} (h : Zp μ p n ν) (node : Nat) : X4_nodeBehind 94 (nI node) 1 ν = some (nI (if cS μ p (lc μ p) = 0 then 2 * node else 2 * node + 1)) := by
  have cl := cS_le μ p (lc μ p)
  have cc : (nI (cS μ p (lc μ p)) = 0) = (cS μ p (lc μ p) = 0) := n_eq (b := 0) (by omega) (by decide)
  unfold X4_nodeBehind
  rw [if_neg (by decide), gi_94 h.1.1, h.2.2.1.2, Option.bind_some]
  simp only [cc]
  by_cases z : cS μ p (lc μ p) = 0
  · rw [if_pos z, if_pos z, Option.bind_some, show (2 : Int32) = nI 2 from rfl, pk_mul, Int32.add_zero, Nat.mul_comm]
  · rw [if_neg z, if_neg z, Option.bind_some, show (2 : Int32) = nI 2 from rfl, pk_mul, nI_add1, Nat.mul_comm]
theorem total_c {ν : Mem} (hn : n ≤ 6) {st node used : Nat} (hst : st ≤ n) (h : Zp μ p n ν) (ht : Tt μ p n st ν) (hv : NV μ p st node) (hu : used < 2 ^ pK μ p) : X4_total 94 (nI node) (nI used) ν = some (nI (BP μ p n (n - st) (nd (2 ^ pK μ p - 1) used) (plN st node))) := by
  obtain ⟨a1, a2, a3⟩ := allK (μ := μ) (p := p)
  have rg := hv.rg
  have hp6 : 2 ^ (st + 1) ≤ 2 ^ 7 := Nat.pow_le_pow_right (by decide) (by omega)
  have hp2 : 2 ^ n ≤ 2 ^ 6 := Nat.pow_le_pow_right (by decide) hn
  unfold X4_total
  rw [gi_94 h.1.1, h.2.2.1.1, Option.bind_some, sh31 n (by omega)]
  by_cases z : st = n
  · subst z
    rw [if_neg (nI_nlt rg.1 (by omega)), Option.bind_some, Nat.sub_self]
    rfl
  · have h1 : 2 ^ (st + 1) ≤ 2 ^ n := Nat.pow_le_pow_right (by decide) (by omega)
    rw [if_pos (nI_lt (by omega) (by omega)), r_94_14 h.1.1, Option.bind_some, show (64 : Int32) = nI 64 from rfl, pk_mul, nI_add, ai_105 h.1.1 (by omega), ht (by omega) node hv used hu, Option.bind_some, Option.bind_some]
theorem always_z {ν : Mem} (h : Zp μ p n ν) {x : Nat} (hx : x < 2 ^ pK μ p) (hT : tn μ ≤ 10) : X1_isAlways 97 (nI (rS μ p x)) ν = some (b01 (aw μ p x)) := by
  have hs : rS μ p x < 2 ^ 31 := Nat.lt_of_lt_of_le (rS_lt μ p x) (Nat.pow_le_pow_right (by decide) (by omega))
  have nb := nd_le (rS μ p x) (aT μ p (tn μ))
  have c1 : (nI (nd (rS μ p x) (aT μ p (tn μ))) = 0) = (nd (rS μ p x) (aT μ p (tn μ)) = 0) := n_eq (b := 0) (by omega) (by decide)
  unfold X1_isAlways aw
  rw [gi_97 h.1.1, h.2.2.2.2.1, Option.bind_some, nd_eq hs]
  simp only [c1]
  by_cases q : nd (rS μ p x) (aT μ p (tn μ)) = 0
  · rw [if_pos q, decide_eq_true q]
    rfl
  · rw [if_neg q, decide_eq_false q]
    rfl
theorem nd_or {a u x : Nat} (ha : a < 64) : nd a (u ||| x) = nd (nd a u) x := by
  apply Nat.eq_of_testBit_eq
  intro i
  by_cases q : i < 31
  · rw [nd_bit q, nd_bit q, nd_bit q, Nat.testBit_or]
    cases a.testBit i <;> cases u.testBit i <;> cases x.testBit i <;> rfl
  · have h1 : ∀ y, y < 64 → y.testBit i = false := fun y hy => Nat.testBit_lt_two_pow (Nat.lt_of_lt_of_le hy (show 2 ^ 6 ≤ 2 ^ i from Nat.pow_le_pow_right (by decide) (by omega)))
    rw [h1 _ (nd_lt _ ha), h1 _ (nd_lt _ (nd_lt _ ha))]
theorem sub_K {x K : Nat} (hx : x &&& (2 ^ K - 1) = x) : x < 2 ^ K := by
  have h1 := sub_le hx
  have h2 := Nat.two_pow_pos K
  omega
theorem K_sub {x K : Nat} (hx : x < 2 ^ K) : x &&& (2 ^ K - 1) = x := by
  rw [Nat.and_two_pow_sub_one_eq_mod, Nat.mod_eq_of_lt hx]
theorem fo_nx (st left pl : Nat) {s s' : Nat} (h1 : s < s') (hno : ∀ x, s < x → x < s' → ¬ x &&& left = x) : foP μ p n st left pl (s' - 1) = foP μ p n st left pl s := by
  unfold foP
  have := fo_no (el := elB (cG μ p) (aw μ p) (mo μ p) st pl left) (bv := fun x => cG μ p st x + BP μ p n (n - st - 1) (nd left x) (pl ||| 2 ^ st)) (skip := BP μ p n (n - st - 1) left pl) (a := s) (s' - 1 - s) (fun x x1 x2 => by
    unfold elB
    rw [decide_eq_false (hno x x1 (by omega)), Bool.false_and])
  rw [show s + (s' - 1 - s) = s' - 1 by omega] at this
  exact this
theorem decide_c {ν : Mem} (I : Inv μ) (hn : n ≤ 6) {st node used m : Nat} (hst : st < n) (h : Zp μ p n ν) (ht : Tt μ p n (st + 1) ν) (hv : NV μ p st node) (hu : used < 2 ^ pK μ p) (hm : m = mo μ p st (plN st node)) : X4_decide 94 (nI node) (nI st) (nI used) (nI m) ν = some (nI (foP μ p n st (nd (2 ^ pK μ p - 1) used) (plN st node) 63).1, wI ν 105 (node * 64 + used) (nI (foP μ p n st (nd (2 ^ pK μ p - 1) used) (plN st node) 63).2)) := by
  obtain ⟨a1, a2, a3⟩ := allK (μ := μ) (p := p)
  have hT := I.2.2.2.1.1.2.2
  have hK := pK_le μ p
  have rg := hv.rg
  have hp6 := p2_6 (show st < 6 by omega)
  have node64 : node < 64 := by omega
  have pl0 := plN_ok (st := st) (node := node) (by omega) node64 rg.1 rg.2
  have oν := h.1.1
  have left64 : nd (2 ^ pK μ p - 1) used < 64 := nd_lt used a1
  have leftK : nd (2 ^ pK μ p - 1) used &&& (2 ^ pK μ p - 1) = nd (2 ^ pK μ p - 1) used := nd_self a1
  have ml : m ≤ 1 := by rw [hm]; exact mB_le _ _ _ _
  have bdB : ∀ l q, BP μ p n (n - st - 1) l q ≤ 17994 * 9 * 6 := fun l q => BP_bd I hn (by omega) l q
  have fb : ∀ s, (foP μ p n st (nd (2 ^ pK μ p - 1) used) (plN st node) s).2 ≤ 17994 * 9 * 6 + 17994 := fun s => by
    rcases (fo_sp (elB (cG μ p) (aw μ p) (mo μ p) st (plN st node) (nd (2 ^ pK μ p - 1) used)) (fun x => cG μ p st x + BP μ p n (n - st - 1) (nd (nd (2 ^ pK μ p - 1) used) x) (plN st node ||| 2 ^ st)) (BP μ p n (n - st - 1) (nd (2 ^ pK μ p - 1) used) (plN st node)) s).2.2 with ⟨-, e⟩ | ⟨-, -, -, e, -⟩
    · unfold foP
      rw [e]
      have := bdB (nd (2 ^ pK μ p - 1) used) (plN st node)
      omega
    · unfold foP
      rw [e]
      have h1 := bdB (nd (nd (2 ^ pK μ p - 1) used) (fo (elB (cG μ p) (aw μ p) (mo μ p) st (plN st node) (nd (2 ^ pK μ p - 1) used)) (fun x => cG μ p st x + BP μ p n (n - st - 1) (nd (nd (2 ^ pK μ p - 1) used) x) (plN st node ||| 2 ^ st)) (BP μ p n (n - st - 1) (nd (2 ^ pK μ p - 1) used) (plN st node)) s).1) (plN st node ||| 2 ^ st)
      have h2 := cG_le I (p := p) (st := st) (x := (fo (elB (cG μ p) (aw μ p) (mo μ p) st (plN st node) (nd (2 ^ pK μ p - 1) used)) (fun x => cG μ p st x + BP μ p n (n - st - 1) (nd (nd (2 ^ pK μ p - 1) used) x) (plN st node ||| 2 ^ st)) (BP μ p n (n - st - 1) (nd (2 ^ pK μ p - 1) used) (plN st node)) s).1) (by omega)
      show cG μ p st _ + BP μ p n (n - st - 1) _ _ ≤ _
      omega
  have sk : X4_total 94 (nI (2 * node)) (nI used) ν = some (nI (BP μ p n (n - st - 1) (nd (2 ^ pK μ p - 1) used) (plN st node))) := by
    rw [total_c hn (by omega) h ht hv.two hu, pl0.2.1]
    rfl
  have tot : ∀ x, x &&& nd (2 ^ pK μ p - 1) used = x → X4_total 94 (nI (if cS μ p (lc μ p) = 0 then 2 * node else 2 * node + 1)) (nI (used ||| x)) ν = some (nI (BP μ p n (n - st - 1) (nd (nd (2 ^ pK μ p - 1) used) x) (plN st node ||| 2 ^ st))) := fun x hx => by
    have hxK : x < 2 ^ pK μ p := sub_K (sub_tr hx leftK)
    have hor : used ||| x < 2 ^ pK μ p := Nat.or_lt_two_pow hu hxK
    by_cases z : cS μ p (lc μ p) = 0
    · rw [if_pos z, total_c hn (by omega) h ht hv.two hor, nd_or a1]
      exact congrArg (fun y => some (nI y)) (nc_eq z _ _ _ _)
    · rw [if_neg z, total_c hn (by omega) h ht (hv.one z) hor, nd_or a1, pl0.2.2]
      rfl
  obtain ⟨rkA, rk64⟩ := rk_all (nd (2 ^ pK μ p - 1) used) left64
  generalize hleft : nd (2 ^ pK μ p - 1) used = left at *
  generalize hpl : plN st node = pl at *
  obtain ⟨b, P, e⟩ := loopG (F := fun k (b : (Nat × Nat) × Nat) i => X4_decide_L45 94 (nI node) (nI st) (nI used) (nI m) (nI left) (nI (rk left left + 1)) ν k (nI b.1.1) (nI b.1.2) (nI b.2) (nI i)) (P := fun i b => b.1 = foP μ p n st left pl b.2 ∧ b.2 < 64 ∧ b.2 &&& left = b.2 ∧ rk left b.2 = i - 1) (i0 := 1) (n := rk left left + 1) (r := fun b => (nI b.1.1, nI b.1.2, nI b.2, nI (rk left left + 1))) (by omega) (by omega) (fun k b i h1 hi P => by
    obtain ⟨b1, s⟩ := b
    obtain ⟨rfl, s64, ssub, srk⟩ : b1 = foP μ p n st left pl s ∧ s < 64 ∧ s &&& left = s ∧ rk left s = i - 1 := P
    have sne : s ≠ left := fun w => by
      rw [w] at srk
      omega
    obtain ⟨n1, n2, n3, n4⟩ := nx_up left64 s64 ssub sne
    have xK : nx s left < 2 ^ pK μ p := sub_K (sub_tr n3 leftK)
    have g := h.2.2.2.1 st (nx s left) hst (by omega) xK
    have gb := cG_le I (p := p) (st := st) (x := nx s left) (by omega)
    have cg0 : (nI (cG μ p st (nx s left)) ≤ 0) = (cG μ p st (nx s left) = 0) := nI_0le (by omega)
    have cm : (nI m = 0) = (m = 0) := n_eq (b := 0) (by omega) (by decide)
    have e99 : mI ν 99 (nx s left) = nI (rS μ p (nx s left)) := (h.2.1.2 (nx s left) xK).1
    have fs : foP μ p n st left pl (nx s left) = if elB (cG μ p) (aw μ p) (mo μ p) st pl left (nx s left) = true ∧ (foP μ p n st left pl s).2 < cG μ p st (nx s left) + BP μ p n (n - st - 1) (nd left (nx s left)) (pl ||| 2 ^ st) then (nx s left, cG μ p st (nx s left) + BP μ p n (n - st - 1) (nd left (nx s left)) (pl ||| 2 ^ st)) else foP μ p n st left pl s := by
      rw [← fo_nx (μ := μ) (p := p) (n := n) st left pl n1 (fun x x1 x2 w => by have := nx_lst left64 s64 ssub sne w x1; omega)]
      obtain ⟨y, hy⟩ : ∃ y, nx s left = y + 1 := ⟨nx s left - 1, by omega⟩
      rw [hy, show y + 1 - 1 = y from rfl]
      rfl
    have el : (elB (cG μ p) (aw μ p) (mo μ p) st pl left (nx s left) = true) = (¬ cG μ p st (nx s left) = 0 ∧ (aw μ p (nx s left) = true ∨ m = 0)) := by
      unfold elB
      rw [decide_eq_true n3, Bool.true_and, Bool.and_eq_true, Bool.or_eq_true, decide_eq_true_eq, decide_eq_true_eq, ← hm]
      exact propext ⟨fun ⟨u, v⟩ => ⟨by omega, v⟩, fun ⟨u, v⟩ => ⟨by omega, v⟩⟩
    have bb := bdB (nd left (nx s left)) (pl ||| 2 ^ st)
    have fbs := fb s
    have cc : (nI (cG μ p st (nx s left) + BP μ p n (n - st - 1) (nd left (nx s left)) (pl ||| 2 ^ st)) ≤ nI (foP μ p n st left pl s).2) = ¬ ((foP μ p n st left pl s).2 < cG μ p st (nx s left) + BP μ p n (n - st - 1) (nd left (nx s left)) (pl ||| 2 ^ st)) := by
      rw [n_le (by omega) (by omega)]
      exact propext ⟨fun w => by omega, fun w => by omega⟩
    refine ⟨(foP μ p n st left pl (nx s left), nx s left), ⟨rfl, n2, n3, (show rk left (nx s left) = i + 1 - 1 by omega)⟩, ?_⟩
    show X4_decide_L45 94 (nI node) (nI st) (nI used) (nI m) (nI left) (nI (rk left left + 1)) ν (k + 1) (nI (foP μ p n st left pl s).1) (nI (foP μ p n st left pl s).2) (nI s) (nI i) = X4_decide_L45 94 (nI node) (nI st) (nI used) (nI m) (nI left) (nI (rk left left + 1)) ν k (nI (foP μ p n st left pl (nx s left)).1) (nI (foP μ p n st left pl (nx s left)).2) (nI (nx s left)) (nI (i + 1))
    rw [X4_decide_L45, if_neg (nI_ge hi (by omega)), nx_I s s64 left left64, Option.bind_some, r_94_12 oν, Option.bind_some, show (64 : Int32) = nI 64 from rfl, pk_mul, nI_add, ai_103 oν (by omega), g.1, Option.bind_some, nI_add1, vo_94 oν, behind1 h, r_94_6 oν, r_94_8 oν]
    simp only [Option.bind_some, ai_99 oν n2, e99, vo_97 oν, always_z h xK hT, fa_or, tot (nx s left) n3, nI_add, cg0, cm, cc, b01_z]
    by_cases z1 : cG μ p st (nx s left) = 0
    · rw [if_pos z1, Option.bind_some, fs, if_neg (fun w => by rw [el] at w; exact w.1.1 z1)]
    · rw [if_neg z1]
      by_cases z2 : m = 0
      · rw [if_pos z2]
        by_cases z3 : (foP μ p n st left pl s).2 < cG μ p st (nx s left) + BP μ p n (n - st - 1) (nd left (nx s left)) (pl ||| 2 ^ st)
        · rw [if_neg (fun w => w z3), Option.bind_some, fs, if_pos ⟨by rw [el]; exact ⟨z1, Or.inr z2⟩, z3⟩]
        · rw [if_pos z3, Option.bind_some, fs, if_neg (fun w => z3 w.2)]
      · rw [if_neg z2]
        cases z4 : aw μ p (nx s left)
        · rw [if_pos rfl, Option.bind_some, fs, if_neg (fun w => by
            rw [el, z4] at w
            exact w.1.2.elim (fun v => absurd v (by decide)) z2)]
        · rw [if_neg (show ¬ (true : Bool) = false by decide)]
          by_cases z3 : (foP μ p n st left pl s).2 < cG μ p st (nx s left) + BP μ p n (n - st - 1) (nd left (nx s left)) (pl ||| 2 ^ st)
          · rw [if_neg (fun w => w z3), Option.bind_some, fs, if_pos ⟨by rw [el]; exact ⟨z1, Or.inl z4⟩, z3⟩]
          · rw [if_pos z3, Option.bind_some, fs, if_neg (fun w => z3 w.2)]) (fun k b P => by
    show X4_decide_L45 94 (nI node) (nI st) (nI used) (nI m) (nI left) (nI (rk left left + 1)) ν (k + 1) (nI b.1.1) (nI b.1.2) (nI b.2) (nI (rk left left + 1)) = _
    rw [X4_decide_L45, if_pos (nI_le (Nat.le_refl _) (by omega))]) ((foP μ p n st left pl 0), 0) ⟨rfl, (show 0 < 64 by decide), Nat.zero_and _, rfl⟩
  obtain ⟨P1, P2, P3, P4⟩ := P
  have bl : b.2 = left := by
    by_cases w : b.2 = left
    · exact w
    · have hle := sub_le P3
      have hm' := rk_mono left (b.2 + 1) (left - (b.2 + 1))
      rw [show b.2 + 1 + (left - (b.2 + 1)) = left by omega, rk, if_pos P3] at hm'
      omega
  have f63 : foP μ p n st left pl 63 = b.1 := by
    have := fo_nx (μ := μ) (p := p) (n := n) st left pl (s := left) (s' := 64) left64 (fun x x1 x2 w => by have := sub_le w; omega)
    rw [P1, bl]
    exact this
  have e : X4_decide_L45 94 (nI node) (nI st) (nI used) (nI m) (nI left) (nI (rk left left + 1)) ν FU 0 (nI (BP μ p n (n - st - 1) left pl)) 0 1 = _ := e
  have hall : nI (2 ^ pK μ p) - 1 = nI (2 ^ pK μ p - 1) := pk_sub (b := 1) a2
  unfold X4_decide
  rw [gi_94 oν, h.2.1.1.1, Option.bind_some, sh31 _ (by omega), hall, nd_eq (by omega), hleft, Option.bind_some, vo_94 oν, Option.bind_some, behind0, Option.bind_some, Option.bind_some, sk, Option.bind_some, rkA, Option.bind_some, e, Option.bind_some, r_94_14 oν, Option.bind_some, show (64 : Int32) = nI 64 from rfl, pk_mul, nI_add, si_105 oν (by omega), Option.bind_some, f63]
end MK
