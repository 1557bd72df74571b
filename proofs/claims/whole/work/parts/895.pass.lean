/-! a tenth, both sides -/
def frCT (w : Nat) (c c' : DY) : Prop := (∀ x k : Nat, ¬ (x = w ∧ 2 ≤ k ∧ k ≤ 8) → (x ≤ w ∨ w + 11 < x) → gi c' x k = gi c x k) ∧ ∀ x k : Nat, gl c' x k = gl c x k
def frMT (r : Nat) (m m' : DY) : Prop := (∀ x k : Nat, ¬ (x = 510 ∧ (k = 42 ∨ k = 47)) → (x < 532 ∨ 537 < x) → ¬ (x = 531 ∧ 720 * r ≤ k ∧ k < 720 * r + 720 ∧ k ≠ 720 * r + 10) → gi m' x k = gi m x k) ∧ ∀ x k : Nat, gl m' x k = gl m x k
def lstC (c : DY) (g w n : Nat) (s : Int32) : DY := si (si (si c w 6 (gi c w 6 + iz (dCN c g w n : Nat))) w 7 (if s ≤ 0 then gi c w 7 + 1 else 0)) w 2 (gi c w 2 + 1)
def lstM (m : DY) (r : Nat) (s : Int32) : DY := si (si m 531 (720 * r + 7) (if s ≤ 0 then gi m 531 (720 * r + 7) + 1 else 0)) 531 (720 * r + 3) (gi m 531 (720 * r + 3) + 1)
theorem gi_lstC (c : DY) (g w n : Nat) (s : Int32) (x k : Nat) : gi (lstC c g w n s) x k = if x = w ∧ k = 2 then gi c w 2 + 1 else if x = w ∧ k = 7 then (if s ≤ 0 then gi c w 7 + 1 else 0) else if x = w ∧ k = 6 then gi c w 6 + iz (dCN c g w n : Nat) else gi c x k := by
  unfold lstC
  rw [gi_si_if, gi_si_if, gi_si_if]
theorem gi_lstM (m : DY) (r : Nat) (s : Int32) (x k : Nat) : gi (lstM m r s) x k = if x = 531 ∧ k = 720 * r + 3 then gi m 531 (720 * r + 3) + 1 else if x = 531 ∧ k = 720 * r + 7 then (if s ≤ 0 then gi m 531 (720 * r + 7) + 1 else 0) else gi m x k := by
  unfold lstM
  rw [gi_si_if, gi_si_if]
theorem c_last {g l w : Nat} (N k : Nat) (c : DY) (n : Nat) (s : Int32) (hN : 20 ≤ N) (hG : CVg g l w) (n12 : n ≤ 12) (g3 : gi c g 3 = iz n) : F_X8_move_36 Z0.1 N (k + 1) w s (iz n) c = some (s, lstC c g w n s) := by
  rw [F_X8_move_36_s, cv_r0 hG, g3, if_pos (Int32.le_refl _)]
  refine bnd (c_dances N c n hN hG n12 g3) ?_
  show (if s ≤ 0 then F_X8_move_138 Z0.1 N w s w (gi (si c w 6 (gi c w 6 + iz (dCN c g w n : Nat))) w 7 + 1) (si c w 6 (gi c w 6 + iz (dCN c g w n : Nat))) else F_X8_move_138 Z0.1 N w s w 0 (si c w 6 (gi c w 6 + iz (dCN c g w n : Nat)))) = _
  have fin : ∀ v : Int32, F_X8_move_138 Z0.1 N w s w v (si c w 6 (gi c w 6 + iz (dCN c g w n : Nat))) = some (s, si (si (si c w 6 (gi c w 6 + iz (dCN c g w n : Nat))) w 7 v) w 2 (gi c w 2 + 1)) := fun v => by
    rw [F_X8_move_138_s, bd_eq, bd_eq, gi_si_if, if_neg (by omega), gi_si_if, if_neg (by omega)]
  rw [fin, fin, gi_si_if, if_neg (show ¬ (w = w ∧ 7 = 6) by omega)]
  unfold lstC
  by_cases q : s ≤ 0
  · rw [if_pos q, if_pos q]
  · rw [if_neg q, if_neg q]
/-- before the first goes -/
theorem start_both {N : Nat} {cA c2 mA D : DY} {g l w r : Nat} {ι : Nat → Nat} {L W n M : Nat} (hG : CVg g l w) (r14 : r < 14) (hR : RRx D g l w r ι L W n M) (hDc : ∀ x k : Nat, x < 510 → gi D x k = gi cA x k) (hDm : ∀ x k : Nat, 510 ≤ x → ¬ (x = 531 ∧ k = 720 * r + 5) → ¬ (x = 510 ∧ k = 99) → gi D x k = gi mA x k) (hD9 : gi D 510 99 = gi mA 531 (720 * r + 5)) (hNo : NOWS mA r M) (sh2 : ∀ x k : Nat, ¬ ((x = w + 1 ∨ x = w + 2) ∧ 12 ≤ k ∧ k < 48) → gi c2 x k = gi cA x k) (sh3 : ∀ t i : Nat, t < 3 → i < 12 → gi c2 (w + 1) (12 * (t + 1) + i) = gi cA (w + 1) (12 * t + i) ∧ gi c2 (w + 2) (12 * (t + 1) + i) = gi cA (w + 2) (12 * t + i)) : GS D c2 mA w r ∧ (∀ o : Nat, o < n → GW D c2 mA g w r ι L W o (Pr D g ι 9 0 o)) ∧ GA mA ι n M ∧ GDo c2 mA w r ∧ (∀ o : Nat, o < n → ¬ Pr D g ι 9 0 o) ∧ SMn mA ι n = 0 := by
  obtain ⟨_, _, _, _, d5⟩ := cv_dj hG
  have hM := RRx_MV hG r14 hR
  obtain ⟨⟨_, L16, W6, n12, M12⟩, _, _, ⟨hι, hmono⟩, away, mpos, _⟩ := id hM
  have np : ∀ o : Nat, o < n → ¬ Pr D g ι 9 0 o := fun o ho z => by
    have := (RRx_hs hR o ho).2
    unfold Pr at z
    omega
  refine ⟨⟨fun x k hx hw => by rw [sh2 x k (by omega), hDc _ _ hx], fun k _ => by rw [sh2 w k (by omega), hDc _ _ (by omega)], fun i => by rw [sh2 (w + 8) i (by omega), hDc _ _ (by omega)], fun i => by rw [sh2 (w + 9) i (by omega), hDc _ _ (by omega)], fun t i ht hi => ⟨by rw [(sh3 t i ht hi).1, hDc _ _ (by omega)], by rw [(sh3 t i ht hi).2, hDc _ _ (by omega)]⟩, fun k => (hDm _ _ (by omega) (by omega) (by omega)).symm, fun k _ h => (hDm _ _ (by omega) (by unfold cntP at h; omega) (by omega)).symm, hD9.symm⟩, fun o ho => ?_, fun j hj ha => ?_, ⟨?_, fun x hx => ?_⟩, np, ?_⟩
  · obtain ⟨z1, z2, z3⟩ := mpos 0 o (by omega) ho
    obtain ⟨x1, x2, _⟩ := PO_cx ((hR.2.2.2.2.2.2.2.2.2.1 o ho).1 0 (by omega)) L16 W6
    obtain ⟨n1, n2, n3⟩ := hNo (ι o) (hι o ho)
    obtain ⟨_, _, _, _, w3, w4, w5, w6⟩ := RRx_one hR o ho
    rw [Nat.add_zero, hDm _ _ (by omega) (by omega) (by omega)] at z1 z2
    rw [Nat.mul_zero, Nat.zero_add, hDc _ _ (by omega)] at x1 x2
    rw [hDc _ _ (by omega), hDm _ _ (by omega) (by omega) (by omega)] at w3 w4 w5 w6
    refine ⟨⟨cx D w 0 o, cy D w 0 o, ⟨?_, ?_, ?_, ?_⟩, z3, fun _ => ⟨rfl, rfl⟩, fun p => absurd p (np o ho)⟩, ⟨?_, ?_, ?_, ?_⟩, Or.inl n1, fun _ => ⟨n1, ?_⟩, fun p => absurd p (np o ho)⟩
    · rw [sh2 _ _ (by omega)]; exact x1
    · rw [sh2 _ _ (by omega)]; exact x2
    · rw [n2]; exact z1
    · rw [n3]; exact z2
    · rw [sh2 _ _ (by omega)]; exact w3
    · rw [sh2 _ _ (by omega)]; exact w4
    · rw [sh2 _ _ (by omega)]; exact w5
    · rw [sh2 _ _ (by omega)]; exact w6
    · rw [sh2 _ _ (by omega), hDc _ _ (by omega)]
  · obtain ⟨n1, n2, n3⟩ := hNo j hj
    obtain ⟨y1, y2⟩ := away j hj ha 0 (by omega)
    rw [Nat.add_zero, hDm _ _ (by omega) (by omega) (by omega)] at y1 y2
    exact ⟨n2.trans y1, n3.trans y2, n1⟩
  · have := hR.2.2.2.2.2.2.1.2.2.2.1
    rw [hDc _ _ (by omega), hDm _ _ (by omega) (by omega) (by omega)] at this
    rw [sh2 _ _ (by omega)]
    exact this
  · have := hR.2.2.2.2.2.2.2.2.2.2.1 x hx
    obtain ⟨t1, t2, t3, t4, t5⟩ := this
    rw [hDc _ _ (by omega), hDm _ _ (by omega) (by omega) (by omega)] at t1 t2 t3 t4 t5
    rw [sh2 _ _ (by omega), sh2 _ _ (by omega), sh2 _ _ (by omega), sh2 _ _ (by omega), sh2 _ _ (by omega)]
    exact ⟨t1, t2, t3, t4, t5⟩
  · rw [SMn_S1]
    refine S1_zero n (fun i hi => ?_)
    show (gi mA 535 (ι i)).toNatClampNeg = 0
    rw [(hNo (ι i) (hι i hi)).1]
    rfl
