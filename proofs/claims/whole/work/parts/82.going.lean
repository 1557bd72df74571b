/-! a tenth, the going: what binds both sides meanwhile -/
/-- places of a row of the reference's that may change as they go -/
def cntP (k : Nat) : Prop := k = 5 ∨ k = 6 ∨ 640 ≤ k ∨ (16 ≤ k ∧ k < 256 ∧ 14 ≤ (k - 16) % 20 ∧ (k - 16) % 20 ≤ 17)
def wtI (v : Int32) : Int32 := if v + 1 < 99 then v + 1 else 99
/-- what stays as it was when the aims were told -/
def GS (D c m : DY) (w r : Nat) : Prop := (∀ x k : Nat, x < 510 → (x < w ∨ w + 11 < x) → gi c x k = gi D x k) ∧ (∀ k : Nat, k ≠ 5 → gi c w k = gi D w k) ∧ (∀ i : Nat, gi c (w + 8) i = gi D (w + 8) i) ∧ (∀ i : Nat, gi c (w + 9) i = gi D (w + 9) i) ∧ (∀ t i : Nat, t < 3 → i < 12 → gi c (w + 1) (12 * (t + 1) + i) = gi D (w + 1) (12 * t + i) ∧ gi c (w + 2) (12 * (t + 1) + i) = gi D (w + 2) (12 * t + i)) ∧ (∀ k : Nat, gi m 534 k = gi D 534 k) ∧ (∀ k : Nat, k < 720 → ¬ cntP k → gi m 531 (720 * r + k) = gi D 531 (720 * r + k)) ∧ gi m 531 (720 * r + 5) = gi D 510 99
/-- one walker meanwhile; p: whether he has gone -/
def GW (D c m : DY) (g w r : Nat) (ι : Nat → Nat) (L W i : Nat) (p : Prop) : Prop := (∃ px py : Int, (gi c (w + 1) i = iz px ∧ gi c (w + 2) i = iz py ∧ gi m 536 (ι i) = iz px ∧ gi m 537 (ι i) = iz py) ∧ (px = -1 ∧ py = -1 ∨ inS L W px py) ∧ (¬ p → px = cx D w 0 i ∧ py = cy D w 0 i) ∧ (p → ((gi m 535 (ι i) = 1 ∧ gi m 534 (ι i) ≠ 0) ↔ (py ≠ -1 ∧ py ≠ cy D w 0 i)))) ∧ (gi c (w + 3) i = gi m 531 (720 * r + 16 + 20 * ι i + 14) ∧ gi c (w + 4) i = gi m 531 (720 * r + 16 + 20 * ι i + 15) ∧ gi c (w + 5) i = gi m 531 (720 * r + 16 + 20 * ι i + 16) ∧ gi c (w + 6) i = gi m 531 (720 * r + 16 + 20 * ι i + 17)) ∧ (gi m 535 (ι i) = 0 ∨ gi m 535 (ι i) = 1) ∧ (¬ p → gi m 535 (ι i) = 0 ∧ gi c (w + 7) i = gi D (w + 7) i) ∧ (p → gi c (w + 7) i = if gi m 535 (ι i) = 1 then 0 else wtI (gi D (w + 7) i))
/-- those who are away -/
def GA (m : DY) (ι : Nat → Nat) (n M : Nat) : Prop := ∀ j : Nat, j < M → (∀ i : Nat, i < n → ι i ≠ j) → gi m 536 j = -1 ∧ gi m 537 j = -1 ∧ gi m 535 j = 0
/-- who arrived, the doors -/
def GDo (c m : DY) (w r : Nat) : Prop := gi c w 5 = gi m 531 (720 * r + 6) ∧ ∀ x : Nat, x < 15 → gi c (w + 11) (5 * x) = gi m 531 (720 * r + 640 + 5 * x + 3) ∧ gi c (w + 11) (5 * x + 1) = gi m 531 (720 * r + 640 + 5 * x + 2) ∧ gi c (w + 11) (5 * x + 2) = gi m 531 (720 * r + 640 + 5 * x + 4) ∧ gi c (w + 11) (5 * x + 3) = gi m 531 (720 * r + 640 + 5 * x) ∧ gi c (w + 11) (5 * x + 4) = gi m 531 (720 * r + 640 + 5 * x + 1)
/-- what one who goes may change -/
def chC (w i : Nat) (c c' : DY) : Prop := (∀ x k : Nat, ¬ (x = w ∧ k = 5) → ¬ ((w + 1 ≤ x ∧ x ≤ w + 7) ∧ k = i) → x ≠ w + 11 → gi c' x k = gi c x k) ∧ ∀ x k : Nat, gl c' x k = gl c x k
def chM (r j : Nat) (m m' : DY) : Prop := (∀ x k : Nat, ¬ ((535 ≤ x ∧ x ≤ 537) ∧ k = j) → ¬ (x = 531 ∧ (k = 720 * r + 6 ∨ (720 * r + 16 + 20 * j + 14 ≤ k ∧ k ≤ 720 * r + 16 + 20 * j + 17) ∨ (720 * r + 640 ≤ k ∧ k < 720 * r + 720))) → gi m' x k = gi m x k) ∧ ∀ x k : Nat, gl m' x k = gl m x k
theorem chC_refl (w i : Nat) (c : DY) : chC w i c c := ⟨fun _ _ _ _ _ => rfl, fun _ _ => rfl⟩
theorem chM_refl (r j : Nat) (m : DY) : chM r j m m := ⟨fun _ _ _ _ => rfl, fun _ _ => rfl⟩
theorem GS_ch {D c m c' m' : DY} {w r i j : Nat} (h : GS D c m w r) (hi : i < 12) (hj : j < 12) (hc : chC w i c c') (hm : chM r j m m') : GS D c' m' w r := by
  obtain ⟨h1, h2, h3, h4, h5, h6, h7, h8⟩ := h
  refine ⟨fun x k a b => ?_, fun k a => ?_, fun k => ?_, fun k => ?_, fun t k a b => ⟨?_, ?_⟩, fun k => ?_, fun k a b => ?_, (hm.1 531 _ (by omega) (by omega)).trans h8⟩
  · rw [hc.1 x k (by omega) (by omega) (by omega)]; exact h1 x k a b
  · rw [hc.1 w k (by omega) (by omega) (by omega)]; exact h2 k a
  · rw [hc.1 _ k (by omega) (by omega) (by omega)]; exact h3 k
  · rw [hc.1 _ k (by omega) (by omega) (by omega)]; exact h4 k
  · rw [hc.1 _ _ (by omega) (by omega) (by omega)]; exact (h5 t k a b).1
  · rw [hc.1 _ _ (by omega) (by omega) (by omega)]; exact (h5 t k a b).2
  · rw [hm.1 _ _ (by omega) (by omega)]; exact h6 k
  · rw [hm.1 531 _ (by omega) (by
      unfold cntP at b
      omega)]
    exact h7 k a b
theorem GW_ch {D c m c' m' : DY} {g w r : Nat} {ι : Nat → Nat} {L W i o n M : Nat} {p : Prop} (hio : o ≠ i) (hι : ι o ≠ ι i) (ho : o < 12) (h1 : ι o < 12) (h2 : ι i < 12) (h : GW D c m g w r ι L W o p) (hc : chC w i c c') (hm : chM r (ι i) m m') : GW D c' m' g w r ι L W o p := by
  obtain ⟨⟨px, py, a1, a2, a3, a4⟩, b, d, e, f⟩ := h
  have c1 : ∀ y : Nat, 1 ≤ y → y ≤ 7 → gi c' (w + y) o = gi c (w + y) o := fun y _ _ => hc.1 _ _ (by omega) (by omega) (by omega)
  have m1 : ∀ y : Nat, 534 ≤ y → y ≤ 537 → gi m' y (ι o) = gi m y (ι o) := fun y _ _ => hm.1 _ _ (by omega) (by omega)
  have m2 : ∀ y : Nat, y < 20 → gi m' 531 (720 * r + 16 + 20 * ι o + y) = gi m 531 (720 * r + 16 + 20 * ι o + y) := fun y _ => hm.1 _ _ (by omega) (by omega)
  refine ⟨⟨px, py, ?_, a2, a3, ?_⟩, ?_, ?_, ?_, ?_⟩
  · rw [c1 1 (by omega) (by omega), c1 2 (by omega) (by omega), m1 536 (by omega) (by omega), m1 537 (by omega) (by omega)]; exact a1
  · rw [m1 535 (by omega) (by omega), m1 534 (by omega) (by omega)]; exact a4
  · rw [c1 3 (by omega) (by omega), c1 4 (by omega) (by omega), c1 5 (by omega) (by omega), c1 6 (by omega) (by omega), m2 14 (by omega), m2 15 (by omega), m2 16 (by omega), m2 17 (by omega)]; exact b
  · rw [m1 535 (by omega) (by omega)]; exact d
  · rw [m1 535 (by omega) (by omega), c1 7 (by omega) (by omega)]; exact e
  · rw [m1 535 (by omega) (by omega), c1 7 (by omega) (by omega)]; exact f
theorem GA_ch {m m' : DY} {r : Nat} {ι : Nat → Nat} {n M i : Nat} (hi : i < n) (h : GA m ι n M) (hm : chM r (ι i) m m') : GA m' ι n M := fun j hj ha => by
  have := ha i hi
  rw [hm.1 536 j (by omega) (by omega), hm.1 537 j (by omega) (by omega), hm.1 535 j (by omega) (by omega)]
  exact h j hj ha
/-- the class's places go one lag on -/
theorem c_shift {g l w : Nat} (N : Nat) (c : DY) (hG : CVg g l w) : ∃ c' : DY, F_X8_move Z0.1 N w c = F_X8_move_36 Z0.1 N N w 0 0 c' ∧ (∀ x k : Nat, ¬ ((x = w + 1 ∨ x = w + 2) ∧ 12 ≤ k ∧ k < 48) → gi c' x k = gi c x k) ∧ (∀ t i : Nat, t < 3 → i < 12 → gi c' (w + 1) (12 * (t + 1) + i) = gi c (w + 1) (12 * t + i) ∧ gi c' (w + 2) (12 * (t + 1) + i) = gi c (w + 2) (12 * t + i)) ∧ ∀ x k : Nat, gl c' x k = gl c x k := by
  refine ⟨cpi (cpi c (w + 1) (w + 1) 0 12 36) (w + 2) (w + 2) 0 12 36, ?_, fun x k h => ?_, fun t i ht hi => ⟨?_, ?_⟩, fun _ _ => rfl⟩
  · rw [F_X8_move_s, if_pos (by decide), bd_eq, if_pos (by decide), bd_eq, cv_w1 hG, cv_w2 hG]
    rfl
  · rw [gi_cpi_if, if_neg (by omega), gi_cpi_if, if_neg (by omega)]
  · rw [gi_cpi_if, if_neg (by omega), gi_cpi_if, if_pos (by omega)]
    congr 1
    omega
  · rw [gi_cpi_if, if_pos (by omega), gi_cpi_if, if_neg (by omega)]
    congr 1
    omega
