/-! ===== loops over a counter; numbers ===== -/
def itr {α : Type} (f : Nat → α → α) : Nat → Nat → α → α
  | _, 0, a => a
  | i, d + 1, a => itr f (i + 1) d (f i a)
theorem itr_succ {α : Type} (f : Nat → α → α) : ∀ (d i : Nat) (a : α), itr f i (d + 1) a = f (i + d) (itr f i d a)
  | 0, i, a => rfl
  | d + 1, i, a => by
    show itr f (i + 1) (d + 1) (f i a) = f (i + (d + 1)) (itr f (i + 1) d (f i a))
    rw [itr_succ f d (i + 1) (f i a), show i + 1 + d = i + (d + 1) by omega]
theorem itr_congr {α : Type} {f g : Nat → α → α} : ∀ (d i : Nat) (a : α), (∀ j x, i ≤ j → j < i + d → f j x = g j x) → itr f i d a = itr g i d a
  | 0, _, _, _ => rfl
  | d + 1, i, a, h => by
    show itr f (i + 1) d (f i a) = itr g (i + 1) d (g i a)
    rw [h i a (Nat.le_refl _) (by omega)]
    exact itr_congr d (i + 1) _ (fun j x h1 h2 => h j x (by omega) (by omega))
/-- a loop without a memory of its own: it runs f -/
theorem loopA {α β : Type} {F : Nat → α → Nat → Option β} {f : Nat → α → α} {n : Nat} (hs : ∀ k a i, i < n → F (k + 1) a i = F k (f i a) (i + 1)) : ∀ (d k : Nat) (a : α) (i : Nat), i + d = n → F (k + d) a i = F k (itr f i d a) n
  | 0, k, a, i, h => by
    have e : i = n := h
    subst e
    rfl
  | d + 1, k, a, i, h => by
    show F (k + d + 1) a i = _
    rw [hs (k + d) a i (by omega)]
    exact loopA hs d k (f i a) (i + 1) (by omega)
/-- a loop with an invariant -/
theorem loopP {α β : Type} {F : Nat → α → Nat → Option β} {P : Nat → α → Prop} {n : Nat} (hs : ∀ k a i, i < n → P i a → ∃ a', P (i + 1) a' ∧ F (k + 1) a i = F k a' (i + 1)) : ∀ (d k : Nat) (a : α) (i : Nat), i + d = n → P i a → ∃ a', P n a' ∧ F (k + d) a i = F k a' n
  | 0, k, a, i, h, p => by
    have e : i = n := h
    subst e
    exact ⟨a, p, rfl⟩
  | d + 1, k, a, i, h, p => by
    obtain ⟨a', p', e⟩ := hs (k + d) a i (by omega) p
    obtain ⟨b, q, e2⟩ := loopP hs d k a' (i + 1) (by omega) p'
    exact ⟨b, q, (show F (k + d + 1) a i = _ from e).trans e2⟩
theorem FU_ge (d : Nat) (h : d ≤ 100000) : FU = (100000 - d) + d := by
  unfold FU
  omega
theorem nI_add1 (i : Nat) : nI i + 1 = nI (i + 1) := nI_1 i
theorem n_le {a b : Nat} (ha : a < 2 ^ 31) (hb : b < 2 ^ 31) : (nI a ≤ nI b) = (a ≤ b) := propext (nI_leI ha hb)
theorem n_lt {a b : Nat} (ha : a < 2 ^ 31) (hb : b < 2 ^ 31) : (nI a < nI b) = (a < b) := propext (nI_ltI ha hb)
theorem n_eq {a b : Nat} (ha : a < 2 ^ 31) (hb : b < 2 ^ 31) : (nI a = nI b) = (a = b) := propext (nI_eq ha hb)
/-- a number within bounds that are not below 0 -/
theorem win {x : Int32} {n : Nat} (hn : n < 2 ^ 31) (h0 : ¬ x < 0) (h1 : ¬ nI n < x) : ∃ i, i ≤ n ∧ x = nI i := by
  obtain ⟨j, hj, rfl⟩ := nI_of h0
  rw [n_lt hn hj] at h1
  exact ⟨j, by omega, rfl⟩
