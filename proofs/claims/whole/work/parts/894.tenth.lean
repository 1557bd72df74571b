/-! a tenth: what it leaves -/
def stP (i : Nat) : Prop := (i < 3 ∨ 8 < i) ∧ i < 640 ∧ (i < 16 ∨ 256 ≤ i ∨ (8 ≤ (i - 16) % 20 ∧ (i - 16) % 20 ≤ 13))
theorem lC_le : ∀ p ∈ lC, p.1 ≤ 6 := by decide
theorem RRx_tenth {D E : DY} {g l w r : Nat} {ι : Nat → Nat} {L W n M : Nat} (hG : CVg g l w) (h : RRx D g l w r ι L W n M) (h1 : ∀ x k : Nat, x < 510 → (x < w ∨ w + 11 < x) → gi E x k = gi D x k) (h2 : gi E w 2 = gi E 531 (720 * r + 3) ∧ gi E w 3 = gi E 531 (720 * r + 4) ∧ gi E w 4 = gi E 531 (720 * r + 5) ∧ gi E w 5 = gi E 531 (720 * r + 6) ∧ gi E w 6 = gi E 531 (720 * r + 8) ∧ gi E w 7 = gi E 531 (720 * r + 7)) (h3 : ∀ i : Nat, i < 720 → stP i → gi E 531 (720 * r + i) = gi D 531 (720 * r + i)) (h4 : ∀ i : Nat, i < n → PO E w i 0 L W (720 * r + 16 + 20 * ι i) ∧ ∀ t : Nat, t < 3 → gi E (w + 1) (12 * (t + 1) + i) = gi D (w + 1) (12 * t + i) ∧ gi E (w + 2) (12 * (t + 1) + i) = gi D (w + 2) (12 * t + i)) (h5 : ∀ j : Nat, j < M → ((∀ i : Nat, i < n → ι i ≠ j) → gi E 531 (720 * r + 16 + 20 * j) = -1 ∧ gi E 531 (720 * r + 16 + 20 * j + 4) = -1) ∧ ∀ t : Nat, t < 3 → gi E 531 (720 * r + 16 + 20 * j + (t + 1)) = gi D 531 (720 * r + 16 + 20 * j + t) ∧ gi E 531 (720 * r + 16 + 20 * j + 4 + (t + 1)) = gi D 531 (720 * r + 16 + 20 * j + 4 + t)) (h6 : ∀ i : Nat, i < n → (gi E (w + 3) i = gi E 531 (720 * r + 16 + 20 * ι i + 14) ∧ gi E (w + 4) i = gi E 531 (720 * r + 16 + 20 * ι i + 15) ∧ gi E (w + 5) i = gi E 531 (720 * r + 16 + 20 * ι i + 16) ∧ gi E (w + 6) i = gi E 531 (720 * r + 16 + 20 * ι i + 17)) ∧ ∃ v : Nat, v ≤ 99 ∧ gi E (w + 7) i = iz v ∧ gi E 531 (720 * r + 16 + 20 * ι i + 18) = iz v) (h8 : ∀ x : Nat, x < 15 → gi E (w + 11) (5 * x) = gi E 531 (720 * r + 640 + 5 * x + 3) ∧ gi E (w + 11) (5 * x + 1) = gi E 531 (720 * r + 640 + 5 * x + 2) ∧ gi E (w + 11) (5 * x + 2) = gi E 531 (720 * r + 640 + 5 * x + 4) ∧ gi E (w + 11) (5 * x + 3) = gi E 531 (720 * r + 640 + 5 * x) ∧ gi E (w + 11) (5 * x + 4) = gi E 531 (720 * r + 640 + 5 * x + 1)) (h9 : ∀ i : Nat, gi E (w + 9) i = gi D (w + 9) i) : RRx E g l w r ι L W n M := by
  obtain ⟨d1, d2, d3, d4, d5⟩ := cv_dj hG
  obtain ⟨k1, k2, k3, k4, k5, k6, k7, k8, k9, k10, k11, od, o1, o2, o3⟩ := h
  have c : ∀ x i : Nat, x ≤ 9 → gi E (g + x) i = gi D (g + x) i := fun x i hx => h1 _ _ (by omega) (by omega)
  have c0 : ∀ i : Nat, gi E g i = gi D g i := fun i => c 0 i (by omega)
  have o0 : gi E 531 (720 * r) = gi D 531 (720 * r) := by
    have := h3 0 (by omega) (by unfold stP; omega)
    rw [Nat.add_zero] at this
    exact this
  have cl : ∀ x i : Nat, x ≤ 6 → gi E (l + x) i = gi D (l + x) i := fun x i hx => h1 _ _ (by omega) (by omega)
  have hh : ∀ i : Nat, hsI E g i = hsI D g i := fun i => by
    unfold hsI
    rw [c 7 i (by omega)]
  refine ⟨k1, ?_, ?_, ?_, ?_, ?_, h2, k8, ?_, ?_, h8, od, ?_, ?_, o3⟩
  · rw [c0, o0]; exact k2
  · rw [c0, h3 1 (by omega) (by unfold stP; omega)]; exact k3
  · rw [c0, h3 2 (by omega) (by unfold stP; omega)]; exact k4
  · intro i hi
    have := h3 (256 + i) (by omega) (by unfold stP; omega)
    rw [← Nat.add_assoc] at this
    rw [c 1 i (by omega), this]
    exact k5 i hi
  · refine LR_of k6 ⟨fun f hf => ?_, fun p hp i _ => ?_⟩ (h3 9 (by omega) (by unfold stP; omega)) (fun i hi => ?_)
    · exact cl 0 f (by omega)
    · exact cl p.1 i (lC_le p hp)
    · have := h3 (352 + i) (by omega) (by unfold stP; omega)
      rw [← Nat.add_assoc] at this
      exact this
  · intro m hm ha t ht
    obtain ⟨z1, z2⟩ := h5 m hm
    by_cases z : t = 0
    · subst z
      rw [Nat.add_zero, Nat.add_zero]
      exact z1 ha
    · obtain ⟨t, rfl⟩ : ∃ y, t = y + 1 := ⟨t - 1, by omega⟩
      rw [(z2 t (by omega)).1, (z2 t (by omega)).2]
      exact k9 m hm ha t (by omega)
  · intro i hi
    obtain ⟨m1, m2, m3, m4, m5⟩ := k10 i hi
    have hι := k8.1 i hi
    have q : ∀ x : Nat, 8 ≤ x → x ≤ 13 → gi E 531 (720 * r + 16 + 20 * ι i + x) = gi D 531 (720 * r + 16 + 20 * ι i + x) := fun x _ _ => by
      have := h3 (16 + 20 * ι i + x) (by omega) (by unfold stP; omega)
      rw [← Nat.add_assoc, ← Nat.add_assoc] at this
      exact this
    obtain ⟨y1, y2⟩ := h4 i hi
    refine ⟨fun t ht => ?_, TW_of m2 (fun x h1 h2 => c x i (by omega)) (fun x h1 => by
      have := q (8 + x) (by omega) (by omega)
      rw [← Nat.add_assoc] at this
      exact this), ?_, (h6 i hi).1, (h6 i hi).2⟩
    · by_cases z : t = 0
      · subst z
        exact y1
      · obtain ⟨t, rfl⟩ : ∃ y, t = y + 1 := ⟨t - 1, by omega⟩
        have := m1 t (by omega)
        have z := (h5 (ι i) hι).2 t (by omega)
        unfold PO at this ⊢
        rw [(y2 t (by omega)).1, (y2 t (by omega)).2, z.1, z.2]
        exact this
    · rw [c 9 i (by omega), q 13 (by omega) (by omega)]; exact m3
  · intro p hp
    rw [h9]
    exact o1 p hp
  · intro p q h1 h2
    unfold bef
    rw [hh, hh]
    exact o2 p q h1 h2
theorem wt_same (v : Nat) (h : v ≤ 99) : wtI (iz v) = wtM (iz v) ∧ ∃ x : Nat, x ≤ 99 ∧ wtM (iz v) = iz x := by
  have a : iz (v : Int) + (1 : Int32) = iz ((v + 1 : Nat) : Int) := iz_add v 1
  have l99 : (99 : Int32) = iz 99 := rfl
  unfold wtI wtM
  rw [a, l99]
  by_cases q : v < 99
  · rw [if_neg (show ¬ iz 99 ≤ iz (v : Int) from iz_nle (by omega))]
    by_cases z : v = 98
    · subst z
      exact ⟨rfl, 99, by omega, rfl⟩
    · rw [if_pos (show iz ((v + 1 : Nat) : Int) < iz 99 from iz_lti (by omega))]
      exact ⟨rfl, v + 1, by omega, rfl⟩
  · have : v = 99 := by omega
    subst this
    exact ⟨rfl, 99, by omega, rfl⟩
