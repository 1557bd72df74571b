/-! sums -/
def S1 (f : Nat → Nat) : Nat → Nat
  | 0 => 0
  | k + 1 => S1 f k + f k
theorem S1_same {f g : Nat → Nat} : ∀ n : Nat, (∀ i : Nat, i < n → f i = g i) → S1 f n = S1 g n
  | 0, _ => rfl
  | n + 1, h => by
    show S1 f n + f n = S1 g n + g n
    rw [S1_same n (fun i hi => h i (by omega)), h n (by omega)]
theorem S1_zero {f : Nat → Nat} : ∀ n : Nat, (∀ i : Nat, i < n → f i = 0) → S1 f n = 0
  | 0, _ => rfl
  | n + 1, h => by
    show S1 f n + f n = 0
    rw [S1_zero n (fun i hi => h i (by omega)), h n (by omega)]
theorem S1_plus (f g : Nat → Nat) : ∀ n : Nat, S1 (fun i => f i + g i) n = S1 f n + S1 g n
  | 0 => rfl
  | n + 1 => by
    show S1 (fun i => f i + g i) n + (f n + g n) = S1 f n + f n + (S1 g n + g n)
    rw [S1_plus f g n]
    omega
theorem S1_swap (F : Nat → Nat → Nat) (n : Nat) : ∀ m : Nat, S1 (fun a => S1 (fun b => F a b) n) m = S1 (fun b => S1 (fun a => F a b) m) n
  | 0 => (S1_zero n (fun _ _ => rfl)).symm
  | m + 1 => by
    show S1 (fun a => S1 (fun b => F a b) n) m + S1 (fun b => F m b) n = S1 (fun b => S1 (fun a => F a b) m + F m b) n
    rw [S1_plus, S1_swap F n m]
theorem S1_part {f : Nat → Nat} (a : Nat) : ∀ n : Nat, a ≤ n → S1 (fun i => if i < a then f i else 0) n = S1 f a
  | 0, h => by
    have : a = 0 := by omega
    subst this
    rfl
  | n + 1, h => by
    show S1 (fun i => if i < a then f i else 0) n + (if n < a then f n else 0) = _
    by_cases q : a ≤ n
    · rw [S1_part a n q, if_neg (by omega), Nat.add_zero]
    · have : a = n + 1 := by omega
      subst this
      rw [if_pos (by omega), S1_same (g := f) n (fun i hi => if_pos (by omega))]
      rfl
/-- only those that ι tells count -/
theorem S1_map (f : Nat → Nat) (ι : Nat → Nat) : ∀ M n : Nat, (∀ i : Nat, i < n → ι i < M) → (∀ i j : Nat, i < j → j < n → ι i < ι j) → (∀ m : Nat, m < M → (∀ i : Nat, i < n → ι i ≠ m) → f m = 0) → S1 f M = S1 (fun i => f (ι i)) n
  | 0, n, h1, _, _ => by
    have : n = 0 := by
      rcases Nat.eq_zero_or_pos n with z | z
      · exact z
      · have := h1 0 z; omega
    subst this
    rfl
  | M + 1, n, h1, h2, h3 => by
    show S1 f M + f M = _
    by_cases q : ∃ i : Nat, i < n ∧ ι i = M
    · obtain ⟨i, hi, him⟩ := q
      have : n = i + 1 := by
        rcases Nat.lt_or_ge (i + 1) n with z | z
        · have y1 := h2 i (i + 1) (by omega) z
          have y2 := h1 (i + 1) z
          omega
        · omega
      subst this
      show _ = S1 (fun j => f (ι j)) i + f (ι i)
      rw [him, S1_map f ι M i (fun j hj => by have := h2 j i hj (by omega); omega) (fun a b ha hb => h2 a b ha (by omega)) (fun m hm hno => h3 m (by omega) (fun j hj => by
        rcases Nat.lt_or_ge j i with z | z
        · exact hno j z
        · have : j = i := by omega
          rw [this, him]; omega))]
    · have nq : ∀ i : Nat, i < n → ι i ≠ M := fun i hi z => q ⟨i, hi, z⟩
      rw [h3 M (by omega) nq, Nat.add_zero, S1_map f ι M n (fun i hi => by have := h1 i hi; have := nq i hi; omega) h2 (fun m hm hno => h3 m (by omega) hno)]
/-- pairs, counted from either side -/
theorem S1_pairs (t : Nat → Nat → Nat) (u : Nat → Nat → Nat) (ι : Nat → Nat) (M n : Nat) (h1 : ∀ i : Nat, i < n → ι i < M) (h2 : ∀ i j : Nat, i < j → j < n → ι i < ι j) (h3 : ∀ m k : Nat, m < M → k < m → ((∀ i : Nat, i < n → ι i ≠ m) ∨ (∀ i : Nat, i < n → ι i ≠ k)) → t m k = 0) (h4 : ∀ a b : Nat, b < a → a < n → t (ι a) (ι b) = u b a) : S1 (fun m => S1 (fun k => t m k) m) M = S1 (fun a => S1 (fun b => if a < b then u a b else 0) n) n := by
  have e1 : S1 (fun m => S1 (fun k => t m k) m) M = S1 (fun m => S1 (fun k => if k < m then t m k else 0) M) M := S1_same M (fun m hm => (S1_part m M (by omega)).symm)
  have e2 : S1 (fun m => S1 (fun k => if k < m then t m k else 0) M) M = S1 (fun a => S1 (fun k => if k < ι a then t (ι a) k else 0) M) n := S1_map (fun m => S1 (fun k => if k < m then t m k else 0) M) ι M n h1 h2 (fun m hm hno => S1_zero M (fun k hk => by
    show (if k < m then t m k else 0) = 0
    by_cases z : k < m
    · rw [if_pos z]; exact h3 m k hm z (Or.inl hno)
    · rw [if_neg z]))
  have e3 : S1 (fun a => S1 (fun k => if k < ι a then t (ι a) k else 0) M) n = S1 (fun a => S1 (fun b => if b < a then u b a else 0) n) n := S1_same n (fun a ha => by
    show S1 (fun k => if k < ι a then t (ι a) k else 0) M = S1 (fun b => if b < a then u b a else 0) n
    rw [S1_map (fun k => if k < ι a then t (ι a) k else 0) ι M n h1 h2 (fun m hm hno => by
      show (if m < ι a then t (ι a) m else 0) = 0
      by_cases z : m < ι a
      · rw [if_pos z]; exact h3 (ι a) m (h1 a ha) z (Or.inr hno)
      · rw [if_neg z])]
    refine S1_same n (fun b hb => ?_)
    show (if ι b < ι a then t (ι a) (ι b) else 0) = _
    by_cases z : b < a
    · rw [if_pos z, if_pos (h2 b a z ha), h4 a b z ha]
    · rw [if_neg z, if_neg (fun y => by
        rcases Nat.lt_or_ge a b with x | x
        · have := h2 a b x hb; omega
        · have : a = b := by omega
          subst this
          omega)])
  rw [e1, e2, e3, S1_swap (fun a b => if b < a then u b a else 0) n n]
theorem SMn_S1 (m : DY) (ι : Nat → Nat) : ∀ n : Nat, SMn m ι n = S1 (fun i => (gi m 535 (ι i)).toNatClampNeg) n
  | 0 => rfl
  | n + 1 => by
    show SMn m ι n + _ = S1 _ n + _
    rw [SMn_S1 m ι n]
