/-! ===== the best plan, in numbers ===== -/
/-- the first best of the sets 1 .. m that may be said, with its sum; 0: nothing -/
def fo (el : Nat → Bool) (bv : Nat → Nat) (skip : Nat) : Nat → Nat × Nat
  | 0 => (0, skip)
  | m + 1 => if el (m + 1) = true ∧ (fo el bv skip m).2 < bv (m + 1) then (m + 1, bv (m + 1)) else fo el bv skip m
theorem fo_sp (el : Nat → Bool) (bv : Nat → Nat) (skip : Nat) : ∀ m, skip ≤ (fo el bv skip m).2 ∧ (∀ x, 1 ≤ x → x ≤ m → el x = true → bv x ≤ (fo el bv skip m).2) ∧ (((fo el bv skip m).1 = 0 ∧ (fo el bv skip m).2 = skip) ∨ (1 ≤ (fo el bv skip m).1 ∧ (fo el bv skip m).1 ≤ m ∧ el (fo el bv skip m).1 = true ∧ (fo el bv skip m).2 = bv (fo el bv skip m).1 ∧ skip < (fo el bv skip m).2 ∧ ∀ x, 1 ≤ x → x < (fo el bv skip m).1 → el x = true → bv x < (fo el bv skip m).2))
  | 0 => ⟨Nat.le_refl _, fun x h1 h2 => by omega, Or.inl ⟨rfl, rfl⟩⟩
  | m + 1 => by
    obtain ⟨h1, h2, h3⟩ := fo_sp el bv skip m
    rw [fo]
    by_cases q : el (m + 1) = true ∧ (fo el bv skip m).2 < bv (m + 1)
    · rw [if_pos q]
      refine ⟨(by omega : skip ≤ bv (m + 1)), fun x x1 x2 hx => ?_, Or.inr ⟨(by omega : 1 ≤ m + 1), Nat.le_refl _, q.1, rfl, (by omega : skip < bv (m + 1)), fun x x1 x2 hx => ?_⟩⟩
      · show bv x ≤ bv (m + 1)
        by_cases e : x = m + 1
        · subst e
          exact Nat.le_refl _
        · have := h2 x x1 (by omega) hx
          omega
      · have x2 : x < m + 1 := x2
        have := h2 x x1 (by omega) hx
        show bv x < bv (m + 1)
        omega
    · rw [if_neg q]
      refine ⟨h1, fun x x1 x2 hx => ?_, h3.imp id (fun ⟨a, b, c⟩ => ⟨a, by omega, c⟩)⟩
      by_cases e : x = m + 1
      · subst e
        have : ¬ (fo el bv skip m).2 < bv (m + 1) := fun w => q ⟨hx, w⟩
        omega
      · exact h2 x x1 (by omega) hx
theorem fo_no {el : Nat → Bool} {bv : Nat → Nat} {skip a : Nat} : ∀ d, (∀ x, a < x → x ≤ a + d → el x = false) → fo el bv skip (a + d) = fo el bv skip a
  | 0, _ => rfl
  | d + 1, h => by
    rw [show a + (d + 1) = a + d + 1 by omega, fo, if_neg (fun w => by rw [h (a + d + 1) (by omega) (by omega)] at w; exact absurd w.1 (by decide))]
    exact fo_no d (fun x h1 h2 => h x h1 (by omega))
theorem fo_cg {el el' : Nat → Bool} {bv bv' : Nat → Nat} {skip : Nat} : ∀ m, (∀ x, 1 ≤ x → x ≤ m → el x = el' x) → (∀ x, 1 ≤ x → x ≤ m → el x = true → bv x = bv' x) → fo el bv skip m = fo el' bv' skip m
  | 0, _, _ => rfl
  | m + 1, h1, h2 => by
    rw [fo, fo, fo_cg m (fun x a b => h1 x a (by omega)) (fun x a b => h2 x a (by omega)), ← h1 (m + 1) (by omega) (by omega)]
    cases he : el (m + 1)
    · rw [if_neg (fun w => absurd w.1 (by decide)), if_neg (fun w => absurd w.1 (by decide))]
    · rw [h2 (m + 1) (by omega) (by omega) he]
section BE
variable (n : Nat) (cG : Nat → Nat → Nat) (al : Nat → Bool) (mo : Nat → Nat → Nat)
def elB (st pl left x : Nat) : Bool := decide (x &&& left = x) && (decide (0 < cG st x) && (al x || decide (mo st pl = 0)))
def BB : Nat → Nat → Nat → Nat
  | 0, _, _ => 0
  | r + 1, left, pl => (fo (elB cG al mo (n - (r + 1)) pl left) (fun x => cG (n - (r + 1)) x + BB r (nd left x) (pl ||| 2 ^ (n - (r + 1)))) (BB r left pl) 63).2
end BE
theorem sub_tr {a b c : Nat} (h1 : a &&& b = a) (h2 : b &&& c = b) : a &&& c = a := by
  rw [← h1, Nat.and_assoc, h2]
theorem sub_or {a b : Nat} (c : Nat) (h : a &&& b = a) : (a ||| c) &&& (b ||| c) = a ||| c := by
  apply Nat.eq_of_testBit_eq
  intro i
  have hi : (a.testBit i && b.testBit i) = a.testBit i := by rw [← Nat.testBit_and, h]
  rw [Nat.testBit_and, Nat.testBit_or, Nat.testBit_or]
  cases ha : a.testBit i <;> cases hb : b.testBit i <;> cases c.testBit i <;> simp_all
theorem sub_le {a b : Nat} (h : a &&& b = a) : a ≤ b := by
  rw [← h]
  exact Nat.and_le_right
theorem nd_lt {a : Nat} (b : Nat) {c : Nat} (h : a < c) : nd a b < c := Nat.lt_of_le_of_lt (nd_le a b) h
theorem nd_sub {a b : Nat} (x : Nat) (ha : a < 64) (hb : b < 64) (h : a &&& b = a) : nd a x &&& nd b x = nd a x := by
  apply Nat.eq_of_testBit_eq
  intro i
  rw [Nat.testBit_and]
  by_cases q : i < 31
  · rw [nd_bit q, nd_bit q]
    have hi : (a.testBit i && b.testBit i) = a.testBit i := by rw [← Nat.testBit_and, h]
    cases ha : a.testBit i <;> cases hb : b.testBit i <;> cases x.testBit i <;> simp_all
  · have : (nd a x).testBit i = false := Nat.testBit_lt_two_pow (Nat.lt_of_lt_of_le (nd_lt x ha) (show 2 ^ 6 ≤ 2 ^ i from Nat.pow_le_pow_right (by decide) (by omega)))
    rw [this, Bool.false_and]
theorem nd_self {a b : Nat} (ha : a < 64) : nd a b &&& a = nd a b := by
  unfold nd
  rw [Nat.and_comm a, Nat.and_assoc, Nat.and_self]
theorem BB_bd {n : Nat} {cG : Nat → Nat → Nat} {al : Nat → Bool} {mo : Nat → Nat → Nat} {c : Nat} (h : ∀ s x, cG s x ≤ c) : ∀ r left pl, BB n cG al mo r left pl ≤ c * r
  | 0, _, _ => Nat.zero_le _
  | r + 1, left, pl => by
    have ih := BB_bd (n := n) (al := al) (mo := mo) h r
    have sp := fo_sp (elB cG al mo (n - (r + 1)) pl left) (fun x => cG (n - (r + 1)) x + BB n cG al mo r (nd left x) (pl ||| 2 ^ (n - (r + 1)))) (BB n cG al mo r left pl) 63
    rw [BB, Nat.mul_succ]
    rcases sp.2.2 with ⟨-, e⟩ | ⟨-, -, -, e, -⟩
    · rw [e]
      have := ih left pl
      omega
    · rw [e]
      have h1 := ih (nd left (fo (elB cG al mo (n - (r + 1)) pl left) (fun x => cG (n - (r + 1)) x + BB n cG al mo r (nd left x) (pl ||| 2 ^ (n - (r + 1)))) (BB n cG al mo r left pl) 63).1) (pl ||| 2 ^ (n - (r + 1)))
      have h2 := h (n - (r + 1)) (fo (elB cG al mo (n - (r + 1)) pl left) (fun x => cG (n - (r + 1)) x + BB n cG al mo r (nd left x) (pl ||| 2 ^ (n - (r + 1)))) (BB n cG al mo r left pl) 63).1
      show cG _ _ + BB n cG al mo r _ _ ≤ _
      omega
/-- fewer THINGS left and more said: no better -/
theorem BB_mono {n : Nat} {cG : Nat → Nat → Nat} {al : Nat → Bool} {mo : Nat → Nat → Nat} (hm : ∀ st a b, a &&& b = a → mo st b = 0 → mo st a = 0) : ∀ r left' left pl pl', left < 64 → left' &&& left = left' → pl &&& pl' = pl → BB n cG al mo r left' pl' ≤ BB n cG al mo r left pl
  | 0, _, _, _, _, _, _, _ => Nat.le_refl _
  | r + 1, left', left, pl, pl', hl, h1, h2 => by
    have ih := BB_mono (n := n) (cG := cG) (al := al) hm r
    have hl' : left' < 64 := Nat.lt_of_le_of_lt (sub_le h1) hl
    rw [BB, BB]
    have sp := fo_sp (elB cG al mo (n - (r + 1)) pl' left') (fun x => cG (n - (r + 1)) x + BB n cG al mo r (nd left' x) (pl' ||| 2 ^ (n - (r + 1)))) (BB n cG al mo r left' pl') 63
    have sq := fo_sp (elB cG al mo (n - (r + 1)) pl left) (fun x => cG (n - (r + 1)) x + BB n cG al mo r (nd left x) (pl ||| 2 ^ (n - (r + 1)))) (BB n cG al mo r left pl) 63
    rcases sp.2.2 with ⟨-, e⟩ | ⟨b1, b2, b3, e, -⟩
    · rw [e]
      exact Nat.le_trans (ih left' left pl pl' hl h1 h2) sq.1
    · rw [e]
      generalize (fo (elB cG al mo (n - (r + 1)) pl' left') (fun x => cG (n - (r + 1)) x + BB n cG al mo r (nd left' x) (pl' ||| 2 ^ (n - (r + 1)))) (BB n cG al mo r left' pl') 63).1 = x at b1 b2 b3
      have el : elB cG al mo (n - (r + 1)) pl left x = true := by
        unfold elB at b3 ⊢
        rw [Bool.and_eq_true, Bool.and_eq_true, decide_eq_true_eq, decide_eq_true_eq, Bool.or_eq_true, decide_eq_true_eq] at b3 ⊢
        exact ⟨sub_tr b3.1 h1, b3.2.1, b3.2.2.imp id (hm _ _ _ h2)⟩
      refine Nat.le_trans ?_ (sq.2.1 x b1 b2 el)
      have := ih (nd left' x) (nd left x) (pl ||| 2 ^ (n - (r + 1))) (pl' ||| 2 ^ (n - (r + 1))) (nd_lt x hl) (nd_sub x hl' hl h1) (sub_or _ h2)
      show cG _ _ + BB n cG al mo r _ _ ≤ cG _ _ + BB n cG al mo r _ _
      omega
theorem BB_nc {n : Nat} {cG : Nat → Nat → Nat} {al : Nat → Bool} {mo : Nat → Nat → Nat} (hm : ∀ st pl, mo st pl = 0) : ∀ r left pl pl', BB n cG al mo r left pl = BB n cG al mo r left pl'
  | 0, _, _, _ => rfl
  | r + 1, left, pl, pl' => by
    have ih := BB_nc (n := n) (cG := cG) (al := al) hm r
    rw [BB, BB, ih left pl pl']
    rw [fo_cg (bv' := fun x => cG (n - (r + 1)) x + BB n cG al mo r (nd left x) (pl' ||| 2 ^ (n - (r + 1)))) (el' := elB cG al mo (n - (r + 1)) pl' left) 63 (fun x _ _ => by unfold elB; rw [hm, hm]) (fun x _ _ _ => by rw [ih (nd left x) (pl ||| 2 ^ (n - (r + 1))) (pl' ||| 2 ^ (n - (r + 1)))])]
/-! small sets, one by one -/
def nx (s f : Nat) : Nat := ((64 + s - f) % 64) &&& f
/-- how many parts of f are below s -/
def rk (f : Nat) : Nat → Nat
  | 0 => 0
  | s + 1 => if s &&& f = s then rk f s + 1 else rk f s
theorem nx_I : ∀ s, s < 64 → ∀ f, f < 64 → (nI s - nI f) &&& nI f = nI (nx s f) := by decide +kernel
def nxB (f s : Nat) : Bool := !(decide (s &&& f = s) && !decide (s = f)) || (decide (s < nx s f) && (decide (nx s f < 64) && (decide (nx s f &&& f = nx s f) && decide (rk f (nx s f) = rk f s + 1))))
theorem nxB_ok : ∀ f, f < 64 → ∀ s, s < 64 → nxB f s = true := by decide +kernel
theorem nx_up {f : Nat} (hf : f < 64) {s : Nat} (hs : s < 64) (h1 : s &&& f = s) (h2 : s ≠ f) : s < nx s f ∧ nx s f < 64 ∧ nx s f &&& f = nx s f ∧ rk f (nx s f) = rk f s + 1 := by
  have := nxB_ok f hf s hs
  unfold nxB at this
  rw [decide_eq_true h1, decide_eq_false h2, Bool.not_false, Bool.and_true, Bool.not_true, Bool.false_or, Bool.and_eq_true, Bool.and_eq_true, Bool.and_eq_true, decide_eq_true_eq, decide_eq_true_eq, decide_eq_true_eq, decide_eq_true_eq] at this
  exact this
theorem rk_mono (f a : Nat) : ∀ d, rk f a ≤ rk f (a + d)
  | 0 => Nat.le_refl _
  | d + 1 => by
    have := rk_mono f a d
    rw [show a + (d + 1) = a + d + 1 by omega, rk]
    split <;> omega
/-- no part between two of ranks side by side -/
theorem rk_btw {f a b x : Nat} (ha : a &&& f = a) (hx : x &&& f = x) (h1 : a < x) (h2 : x < b) (e : rk f b = rk f a + 1) : False := by
  have e1 : rk f (a + 1) = rk f a + 1 := by rw [rk, if_pos ha]
  have e2 : rk f (x + 1) = rk f x + 1 := by rw [rk, if_pos hx]
  have m1 := rk_mono f (a + 1) (x - (a + 1))
  have m2 := rk_mono f (x + 1) (b - (x + 1))
  rw [show a + 1 + (x - (a + 1)) = x by omega] at m1
  rw [show x + 1 + (b - (x + 1)) = b by omega] at m2
  omega
theorem nx_lst {f : Nat} (hf : f < 64) {s : Nat} (hs : s < 64) (h1 : s &&& f = s) (h2 : s ≠ f) {x : Nat} (h3 : x &&& f = x) (h4 : s < x) : nx s f ≤ x := by
  by_cases q : nx s f ≤ x
  · exact q
  · exact (rk_btw h1 h3 h4 (by omega) (nx_up hf hs h1 h2).2.2.2).elim
theorem rk_all : ∀ f, f < 64 → (1 : Int32) <<< (J6_bitCount_0f7a4 (nI f) &&& 31) = nI (rk f f + 1) ∧ rk f f < 64 := by decide +kernel
def dnB (f m : Nat) : Bool := !(decide (m &&& f = m) && !decide (m = 0)) || (decide ((m - 1) &&& f < m) && (decide (((m - 1) &&& f) &&& f = (m - 1) &&& f) && decide (rk f m = rk f ((m - 1) &&& f) + 1)))
theorem dnB_ok : ∀ f, f < 64 → ∀ m, m < 64 → dnB f m = true := by decide +kernel
theorem dn_up {f : Nat} (hf : f < 64) {m : Nat} (hm : m < 64) (h1 : m &&& f = m) (h2 : m ≠ 0) : (m - 1) &&& f < m ∧ ((m - 1) &&& f) &&& f = (m - 1) &&& f ∧ rk f m = rk f ((m - 1) &&& f) + 1 := by
  have := dnB_ok f hf m hm
  unfold dnB at this
  rw [decide_eq_true h1, decide_eq_false h2, Bool.not_false, Bool.and_true, Bool.not_true, Bool.false_or, Bool.and_eq_true, Bool.and_eq_true, decide_eq_true_eq, decide_eq_true_eq, decide_eq_true_eq] at this
  exact this
theorem dn_lst {f : Nat} (hf : f < 64) {m : Nat} (hm : m < 64) (h1 : m &&& f = m) (h2 : m ≠ 0) {x : Nat} (h3 : x &&& f = x) (h4 : x < m) : x ≤ (m - 1) &&& f := by
  obtain ⟨a, b, c⟩ := dn_up hf hm h1 h2
  by_cases q : x ≤ (m - 1) &&& f
  · exact q
  · exact (rk_btw b h3 (by omega) h4 c).elim
/-! nodes: a 1, and behind it a bit for each step gone -/
def plO (st node : Nat) : Nat → Nat
  | 0 => 0
  | j + 1 => if node / 2 ^ (st - 1 - j) % 2 = 1 then plO st node j ||| 2 ^ j else plO st node j
def plN (st node : Nat) : Nat := plO st node st
def plB (st node : Nat) : Bool := !(decide (2 ^ st ≤ node) && decide (node < 2 ^ (st + 1))) || (decide (plN st node < 2 ^ st) && (decide (plN (st + 1) (2 * node) = plN st node) && decide (plN (st + 1) (2 * node + 1) = plN st node ||| 2 ^ st)))
theorem plB_ok : ∀ st, st < 6 → ∀ node, node < 64 → plB st node = true := by decide +kernel
theorem plN_ok {st node : Nat} (hs : st < 6) (hn : node < 64) (h1 : 2 ^ st ≤ node) (h2 : node < 2 ^ (st + 1)) : plN st node < 2 ^ st ∧ plN (st + 1) (2 * node) = plN st node ∧ plN (st + 1) (2 * node + 1) = plN st node ||| 2 ^ st := by
  have := plB_ok st hs node hn
  unfold plB at this
  rw [decide_eq_true h1, decide_eq_true h2, Bool.and_true, Bool.not_true, Bool.false_or, Bool.and_eq_true, Bool.and_eq_true, decide_eq_true_eq, decide_eq_true_eq, decide_eq_true_eq] at this
  exact this
def pbB (st node j : Nat) : Bool := !(decide (j < st)) || decide (((plN st node).testBit j = true) ↔ (node / 2 ^ (st - 1 - j) % 2 = 1))
theorem pbB_ok : ∀ st, st < 6 → ∀ node, node < 64 → ∀ j, j < 6 → pbB st node j = true := by decide +kernel
theorem plN_bit {st node j : Nat} (hs : st < 6) (hn : node < 64) (hj : j < st) : ((plN st node).testBit j = true) ↔ (node / 2 ^ (st - 1 - j) % 2 = 1) := by
  have := pbB_ok st hs node hn j (by omega)
  unfold pbB at this
  rw [decide_eq_true hj, Bool.not_true, Bool.false_or] at this
  exact of_decide_eq_true this
