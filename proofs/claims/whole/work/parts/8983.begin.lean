/-! a walk begins -/
theorem c_fill5 (S : ST) (N n0 x : Nat) (v : Int32) (d0 : DY) (hn : n0 < 2147483648) : ∀ (q i k : Nat) (d : DY), i + q = n0 → q < k → (∀ y j : Nat, gi d y j = if y = x ∧ j < i then v else gi d0 y j) → (∀ y j : Nat, gl d y j = gl d0 y j) → ∃ e : DY, F_J7_fill_53178_5 S N n0 k x v (iz i) (iz n0) d = some e ∧ (∀ y j : Nat, gi e y j = if y = x ∧ j < n0 then v else gi d0 y j) ∧ ∀ y j : Nat, gl e y j = gl d0 y j := by
  intro q
  induction q with
  | zero =>
    intro i k d hq hk hd hl
    obtain ⟨k, rfl⟩ : ∃ j, k = j + 1 := ⟨k - 1, by omega⟩
    obtain rfl : i = n0 := by omega
    refine ⟨d, ?_, hd, hl⟩
    rw [F_J7_fill_53178_5_s, if_pos (Int32.le_refl _)]
  | succ q ih =>
    intro i k d hq hk hd hl
    obtain ⟨k, rfl⟩ : ∃ j, k = j + 1 := ⟨k - 1, by omega⟩
    obtain ⟨e, u1, u2⟩ := ih (i + 1) k (si d x i v) (by omega) (by omega) (fun y j => by
      rw [gi_si_if, hd]
      by_cases a : y = x ∧ j = i
      · rw [if_pos a, if_pos ⟨a.1, by omega⟩]
      · rw [if_neg a]
        by_cases b : y = x ∧ j < i
        · rw [if_pos b, if_pos ⟨b.1, by omega⟩]
        · rw [if_neg b, if_neg (by omega)]) hl
    refine ⟨e, ?_, u2⟩
    rw [F_J7_fill_53178_5_s, if_neg (show ¬ iz (n0 : Int) ≤ iz (i : Int) from iz_nle (by omega)), if_pos (show ib (iz (i : Int)) n0 from iz_ib (by omega)), bd_eq, tnn _ i rfl (by omega), show iz (i : Int) + (1 : Int32) = iz ((i + 1 : Nat) : Int) from iz_add i 1]
    exact u1
theorem c_fill (S : ST) (N n0 x : Nat) (v : Int32) (d : DY) (hN : n0 < N) (hn : n0 < 2147483648) (ho : Int32.ofNat n0 = iz n0) : ∃ e : DY, F_J7_fill_53178 S N n0 x v d = some e ∧ (∀ y j : Nat, gi e y j = if y = x ∧ j < n0 then v else gi d y j) ∧ ∀ y j : Nat, gl e y j = gl d y j := by
  rw [F_J7_fill_53178_s, ho]
  exact c_fill5 S N n0 x v d hn n0 0 N d (by omega) hN (fun y j => by rw [if_neg (by omega)]) (fun _ _ => rfl)
def lag1 (d : DY) (g w t : Nat) : DY := cpi (cpi d (g + 2) (w + 1) 0 (12 * t) 12) (g + 3) (w + 2) 0 (12 * t) 12
theorem c_b32 {g l w : Nat} (N k t : Nat) (d : DY) (hG : CVg g l w) (ht : t < 4) : F_X8_begin_32 Z0.1 N (k + 1) w (iz t) d = F_X8_begin_32 Z0.1 N k w (iz ((t + 1 : Nat) : Int)) (lag1 d g w t) := by
  rw [F_X8_begin_32_s, cv_r0 hG, cv_g2 hG, cv_g3 hG, cv_w1 hG, cv_w2 hG]
  have : t = 0 ∨ t = 1 ∨ t = 2 ∨ t = 3 := by omega
  rcases this with rfl | rfl | rfl | rfl
  all_goals
    rw [if_neg (by decide), if_pos (by decide), bd_eq, if_pos (by decide), bd_eq]
    rfl
theorem gi_lag (d : DY) (g w t x k : Nat) (hd : g + 3 ≠ w + 1) : gi (lag1 d g w t) x k = if x = w + 2 ∧ 12 * t ≤ k ∧ k < 12 * t + 12 then gi d (g + 3) (k - 12 * t) else if x = w + 1 ∧ 12 * t ≤ k ∧ k < 12 * t + 12 then gi d (g + 2) (k - 12 * t) else gi d x k := by
  unfold lag1
  rw [gi_cpi_if, gi_cpi_if, gi_cpi_if, Nat.zero_add, if_neg (show ¬ (g + 3 = w + 1 ∧ 12 * t ≤ k - 12 * t ∧ k - 12 * t < 12 * t + 12) from fun z => hd z.1)]
/-- what stands in a walk's cells when it begins -/
def BEG (d e : DY) (g w : Nat) (seed : Int32) : Prop := (gi e w 3 = seed ∧ gi e w 2 = 0 ∧ gi e w 4 = 0 ∧ gi e w 5 = 0 ∧ gi e w 6 = 0 ∧ gi e w 7 = 0) ∧ (∀ t i : Nat, t < 4 → i < 12 → gi e (w + 1) (12 * t + i) = gi d (g + 2) i ∧ gi e (w + 2) (12 * t + i) = gi d (g + 3) i) ∧ (∀ i : Nat, i < 12 → gi e (w + 3) i = -1 ∧ gi e (w + 4) i = 0 ∧ gi e (w + 5) i = 0 ∧ gi e (w + 6) i = 0 ∧ gi e (w + 7) i = 0) ∧ (∀ k : Nat, k < 75 → gi e (w + 11) k = 0) ∧ (∀ x k : Nat, (x < w ∨ w + 11 < x) → gi e x k = gi d x k) ∧ ∀ x k : Nat, gl e x k = gl d x k
theorem c_begin {g l w : Nat} (N : Nat) (d : DY) (n : Nat) (seed : Int32) (hN : 100 ≤ N) (hG : CVg g l w) (n12 : n ≤ 12) (g3 : gi d g 3 = iz n) (hp : ∀ o : Nat, o < n → ∃ p : Nat, p ≤ 9 ∧ gi d (g + 7) o = iz p) : ∃ e : DY, F_X8_begin Z0.1 N w seed d = some e ∧ BEG d e g w seed ∧ ORD e g w n := by
  obtain ⟨dj, dj2, _⟩ := cv_dj hG
  obtain ⟨N', rfl⟩ : ∃ y, N = y + 5 := ⟨N - 5, by omega⟩
  obtain ⟨d0, hd0⟩ : ∃ d0 : DY, d0 = si (si (si (si (si (si d w 3 seed) w 2 0) w 4 0) w 5 0) w 6 0) w 7 0 := ⟨_, rfl⟩
  have b0 : ∀ x k : Nat, ¬ x = w → gi d0 x k = gi d x k := fun x k h => by
    rw [hd0, gi_si_if, if_neg (fun z => h z.1), gi_si_if, if_neg (fun z => h z.1), gi_si_if, if_neg (fun z => h z.1), gi_si_if, if_neg (fun z => h z.1), gi_si_if, if_neg (fun z => h z.1), gi_si_if, if_neg (fun z => h z.1)]
  have w0 : gi d0 w 3 = seed ∧ gi d0 w 2 = 0 ∧ gi d0 w 4 = 0 ∧ gi d0 w 5 = 0 ∧ gi d0 w 6 = 0 ∧ gi d0 w 7 = 0 := by
    refine ⟨?_, ?_, ?_, ?_, ?_, ?_⟩ <;> rw [hd0] <;> simp only [gi_si_if] <;> simp
  have gl0 : ∀ x k : Nat, gl d0 x k = gl d x k := fun x k => by rw [hd0]; rfl
  obtain ⟨d4, hd4⟩ : ∃ d4 : DY, d4 = lag1 (lag1 (lag1 (lag1 d0 g w 0) g w 1) g w 2) g w 3 := ⟨_, rfl⟩
  have b4 : ∀ x k : Nat, ¬ (x = w + 1 ∨ x = w + 2) → gi d4 x k = gi d0 x k := fun x k h => by
    rw [hd4, gi_lag _ _ _ _ _ _ (by omega), if_neg (by omega), if_neg (by omega), gi_lag _ _ _ _ _ _ (by omega), if_neg (by omega), if_neg (by omega), gi_lag _ _ _ _ _ _ (by omega), if_neg (by omega), if_neg (by omega), gi_lag _ _ _ _ _ _ (by omega), if_neg (by omega), if_neg (by omega)]
  have lg : ∀ t i : Nat, t < 4 → i < 12 → gi d4 (w + 1) (12 * t + i) = gi d (g + 2) i ∧ gi d4 (w + 2) (12 * t + i) = gi d (g + 3) i := fun t i ht hi => by
    have o : ∀ (d : DY) (t x k : Nat), x = g + 2 ∨ x = g + 3 → gi (lag1 d g w t) x k = gi d x k := fun d t x k h => by
      rw [gi_lag _ _ _ _ _ _ (by omega), if_neg (by omega), if_neg (by omega)]
    have L1 : ∀ (d : DY) (t' : Nat), gi (lag1 d g w t') (w + 1) (12 * t + i) = if t = t' then gi d (g + 2) i else gi d (w + 1) (12 * t + i) := fun d t' => by
      rw [gi_lag _ _ _ _ _ _ (by omega), if_neg (by omega)]
      by_cases z : t = t'
      · rw [if_pos z, if_pos (by omega), show 12 * t + i - 12 * t' = i by omega]
      · rw [if_neg z, if_neg (by omega)]
    have L2 : ∀ (d : DY) (t' : Nat), gi (lag1 d g w t') (w + 2) (12 * t + i) = if t = t' then gi d (g + 3) i else gi d (w + 2) (12 * t + i) := fun d t' => by
      rw [gi_lag _ _ _ _ _ _ (by omega)]
      by_cases z : t = t'
      · rw [if_pos z, if_pos (by omega), show 12 * t + i - 12 * t' = i by omega]
      · rw [if_neg z, if_neg (by omega), if_neg (by omega)]
    have r2 := b0 (g + 2) i (by omega)
    have r3 := b0 (g + 3) i (by omega)
    rw [hd4, L1, L1, L1, L1, L2, L2, L2, L2, o _ _ (g + 2) _ (by omega), o _ _ (g + 2) _ (by omega), o _ _ (g + 2) _ (by omega), o _ _ (g + 3) _ (by omega), o _ _ (g + 3) _ (by omega), o _ _ (g + 3) _ (by omega), r2, r3]
    have : t = 0 ∨ t = 1 ∨ t = 2 ∨ t = 3 := by omega
    rcases this with rfl | rfl | rfl | rfl <;> exact ⟨rfl, rfl⟩
  have gl4 : ∀ x k : Nat, gl d4 x k = gl d x k := fun x k => by rw [hd4]; exact gl0 x k
  obtain ⟨e1, E1, F1, G1⟩ := c_fill Z0.1 (N' + 5) 12 (w + 3) (-1) d4 (by omega) (by omega) rfl
  obtain ⟨e2, E2, F2, G2⟩ := c_fill Z0.1 (N' + 5) 12 (w + 4) 0 e1 (by omega) (by omega) rfl
  obtain ⟨e3, E3, F3, G3⟩ := c_fill Z0.1 (N' + 5) 12 (w + 5) 0 e2 (by omega) (by omega) rfl
  obtain ⟨e4, E4, F4, G4⟩ := c_fill Z0.1 (N' + 5) 12 (w + 6) 0 e3 (by omega) (by omega) rfl
  obtain ⟨e5, E5, F5, G5⟩ := c_fill Z0.1 (N' + 5) 12 (w + 7) 0 e4 (by omega) (by omega) rfl
  obtain ⟨e6, E6, F6, G6⟩ := c_fill Z0.1 (N' + 5) 75 (w + 11) 0 e5 (by omega) (by omega) rfl
  have b6 : ∀ x k : Nat, ¬ (w + 3 ≤ x ∧ x ≤ w + 7) → x ≠ w + 11 → gi e6 x k = gi d4 x k := fun x k h h' => by
    rw [F6, if_neg (by omega), F5, if_neg (by omega), F4, if_neg (by omega), F3, if_neg (by omega), F2, if_neg (by omega), F1, if_neg (by omega)]
  obtain ⟨e, E, O, B, G⟩ := c_sort (N' + 5) e6 n (by omega) hG n12 (by rw [b6 g 3 (by omega) (by omega), b4 g 3 (by omega), b0 g 3 (by omega)]; exact g3) (fun o ho => by
    rw [b6 (g + 7) o (by omega) (by omega), b4 (g + 7) o (by omega), b0 (g + 7) o (by omega)]
    exact hp o ho)
  refine ⟨e, ?_, ⟨?_, fun t i ht hi => ?_, fun i hi => ⟨?_, ?_, ?_, ?_, ?_⟩, fun k hk => ?_, fun x k hx => ?_, fun x k => ?_⟩, O⟩
  · rw [F_X8_begin_s, bd_eq, bd_eq, bd_eq, bd_eq, bd_eq, bd_eq]
    rw [← hd0]
    rw [show F_X8_begin_32 Z0.1 (N' + 5) (N' + 5) w 0 d0 = F_X8_begin_32 Z0.1 (N' + 5) (N' + 4) w (iz ((1 : Nat) : Int)) (lag1 d0 g w 0) from c_b32 (N' + 5) (N' + 4) 0 d0 hG (by omega)]
    rw [c_b32 (N' + 5) (N' + 3) 1 _ hG (by omega), c_b32 (N' + 5) (N' + 2) 2 _ hG (by omega), c_b32 (N' + 5) (N' + 1) 3 _ hG (by omega), ← hd4]
    rw [F_X8_begin_32_s, if_pos (show (4 : Int32) ≤ iz ((3 + 1 : Nat) : Int) by decide), cv_w3 hG, cv_w4 hG, cv_w5 hG, cv_w6 hG, cv_w7 hG, cv_w11 hG]
    exact bnd E1 (bnd E2 (bnd E3 (bnd E4 (bnd E5 (bnd E6 (bnd E rfl))))))
  · have y : ∀ k : Nat, gi e w k = gi d0 w k := fun k => by rw [B w k (by omega), b6 w k (by omega) (by omega), b4 w k (by omega)]
    rw [y, y, y, y, y, y]
    exact w0
  · rw [B _ _ (by omega), b6 _ _ (by omega) (by omega), B _ _ (by omega), b6 _ _ (by omega) (by omega)]
    exact lg t i ht hi
  · rw [B _ _ (by omega), F6, if_neg (by omega), F5, if_neg (by omega), F4, if_neg (by omega), F3, if_neg (by omega), F2, if_neg (by omega), F1, if_pos ⟨rfl, hi⟩]
  · rw [B _ _ (by omega), F6, if_neg (by omega), F5, if_neg (by omega), F4, if_neg (by omega), F3, if_neg (by omega), F2, if_pos ⟨rfl, hi⟩]
  · rw [B _ _ (by omega), F6, if_neg (by omega), F5, if_neg (by omega), F4, if_neg (by omega), F3, if_pos ⟨rfl, hi⟩]
  · rw [B _ _ (by omega), F6, if_neg (by omega), F5, if_neg (by omega), F4, if_pos ⟨rfl, hi⟩]
  · rw [B _ _ (by omega), F6, if_neg (by omega), F5, if_pos ⟨rfl, hi⟩]
  · rw [B _ _ (by omega), F6, if_pos ⟨rfl, hk⟩]
  · rw [B _ _ (by omega), b6 _ _ (by omega) (by omega), b4 _ _ (by omega), b0 _ _ (by omega)]
  · rw [G, G6, G5, G4, G3, G2, G1, gl4]
