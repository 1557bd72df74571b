/-! how the reference ends a tenth -/
def wtM (v : Int32) : Int32 := if (99 : Int32) ≤ v then v else v + 1
def stp (m : DY) (A t : Nat) : DY := si (si m 531 (A + (t + 1)) (gi m 531 (A + t))) 531 (A + 4 + (t + 1)) (gi m 531 (A + 4 + t))
def fnl (m : DY) (A j : Nat) : DY := si (si (si m 531 A (gi m 536 j)) 531 (A + 4) (gi m 537 j)) 531 (A + 18) (if gi m 535 j = 1 then 0 else wtM (gi m 531 (A + 18)))
theorem m_ends2 (N k A j t : Nat) (m : DY) (hA : A + 20 ≤ 10080) (ht : t < 3) : F_X10_ends_2 Z0.1 N (k + 1) 510 (iz A) (iz j) (iz ((t + 1 : Nat) : Int)) m = F_X10_ends_2 Z0.1 N k 510 (iz A) (iz j) (iz t) (stp m A t) := by
  have a1 : iz (A : Int) + iz ((t + 1 : Nat) : Int) = iz ((A + (t + 1) : Nat) : Int) := iz_add _ _
  have a0 : iz ((A + (t + 1) : Nat) : Int) - (1 : Int32) = iz ((A + t : Nat) : Int) := (iz_sub _ 1).trans (congrArg iz (by omega))
  have b4 : iz (A : Int) + (4 : Int32) = iz ((A + 4 : Nat) : Int) := iz_add _ 4
  have b1 : iz ((A + 4 : Nat) : Int) + iz ((t + 1 : Nat) : Int) = iz ((A + 4 + (t + 1) : Nat) : Int) := iz_add _ _
  have b0 : iz ((A + 4 + (t + 1) : Nat) : Int) - (1 : Int32) = iz ((A + 4 + t : Nat) : Int) := (iz_sub _ 1).trans (congrArg iz (by omega))
  have t1 : iz ((t + 1 : Nat) : Int) + (-1 : Int32) = iz (t : Int) := by
    rw [l_m1, iz_add]
    exact congrArg iz (by omega)
  have np : ¬ iz ((t + 1 : Nat) : Int) ≤ (0 : Int32) := by
    rw [l_0]
    exact iz_nle (by omega)
  rw [F_X10_ends_2_s, if_neg np, b4, a1, b1, a0, b0, t1, if_pos (ibr (A + t) (by omega)), if_pos (ibr (A + (t + 1)) (by omega)), bd_eq, if_pos (ibr (A + 4 + t) (by omega)), if_pos (ibr (A + 4 + (t + 1)) (by omega)), bd_eq, r_510_39, tnn _ (A + t) rfl (by omega), tnn _ (A + (t + 1)) rfl (by omega), tnn _ (A + 4 + t) rfl (by omega), tnn _ (A + 4 + (t + 1)) rfl (by omega), gi_si_if, if_neg (by omega)]
  rfl
theorem m_ends0 (N k A j : Nat) (m : DY) (hA : A + 20 ≤ 10080) (hj : j < 12) : F_X10_ends_2 Z0.1 N (k + 1) 510 (iz A) (iz j) 0 m = some (fnl m A j) := by
  have b4 : iz (A : Int) + (4 : Int32) = iz ((A + 4 : Nat) : Int) := iz_add _ 4
  have b18 : iz (A : Int) + (18 : Int32) = iz ((A + 18 : Nat) : Int) := iz_add _ 18
  have j12 : ib (iz (j : Int)) 12 := iz_ib (by omega)
  have iA := ibr A (by omega)
  have i4 := ibr (A + 4) (by omega)
  have i18 := ibr (A + 18) (by omega)
  rw [F_X10_ends_2_s, if_pos (Int32.le_refl _), b4, b18, if_pos j12, if_pos iA, bd_eq, if_pos j12, if_pos i4, bd_eq, if_pos j12, if_pos i18, if_pos i18, if_pos i18, r_510_39, r_510_48, r_510_49, r_510_44, tnn _ j rfl (by omega), tnn _ A rfl (by omega), tnn _ (A + 4) rfl (by omega), tnn _ (A + 18) rfl (by omega), F_X10_ends_137_s, F_X10_ends_137_s, F_X10_ends_137_s, if_pos i18, if_pos i18, if_pos i18, bd_eq, bd_eq, bd_eq, tnn _ (A + 18) rfl (by omega)]
  have e1 : gi (si m 531 A (gi m 536 j)) 537 j = gi m 537 j := by rw [gi_si_if, if_neg (by omega)]
  have e2 : gi (si (si m 531 A (gi m 536 j)) 531 (A + 4) (gi m 537 j)) 535 j = gi m 535 j := by rw [gi_si_if, if_neg (by omega), gi_si_if, if_neg (by omega)]
  have e3 : gi (si (si m 531 A (gi m 536 j)) 531 (A + 4) (gi m 537 j)) 531 (A + 18) = gi m 531 (A + 18) := by rw [gi_si_if, if_neg (by omega), gi_si_if, if_neg (by omega)]
  rw [e1, e2, e3]
  unfold fnl wtM
  by_cases q1 : gi m 535 j = 1
  · rw [if_pos q1, if_pos q1]
  · rw [if_neg q1, if_neg q1]
    by_cases q2 : (99 : Int32) ≤ gi m 531 (A + 18)
    · rw [if_pos q2, if_pos q2]
    · rw [if_neg q2, if_neg q2]
def endd (m : DY) (A j : Nat) : DY := fnl (stp (stp (stp m A 2) A 1) A 0) A j
theorem m_ends (N A j : Nat) (m : DY) (hN : 20 ≤ N) (hA : A + 20 ≤ 10080) (hj : j < 12) : F_X10_ends Z0.1 N 510 (iz A) (iz j) m = some (endd m A j) := by
  obtain ⟨N', rfl⟩ : ∃ y, N = y + 4 := ⟨N - 4, by omega⟩
  rw [F_X10_ends_s]
  rw [show F_X10_ends_2 Z0.1 (N' + 4) (N' + 4) 510 (iz A) (iz j) 3 m = F_X10_ends_2 Z0.1 (N' + 4) (N' + 3) 510 (iz A) (iz j) (iz ((2 : Nat) : Int)) (stp m A 2) from m_ends2 (N' + 4) (N' + 3) A j 2 m hA (by omega)]
  rw [show F_X10_ends_2 Z0.1 (N' + 4) (N' + 3) 510 (iz A) (iz j) (iz ((2 : Nat) : Int)) (stp m A 2) = F_X10_ends_2 Z0.1 (N' + 4) (N' + 2) 510 (iz A) (iz j) (iz ((1 : Nat) : Int)) (stp (stp m A 2) A 1) from m_ends2 (N' + 4) (N' + 2) A j 1 _ hA (by omega)]
  rw [show F_X10_ends_2 Z0.1 (N' + 4) (N' + 2) 510 (iz A) (iz j) (iz ((1 : Nat) : Int)) (stp (stp m A 2) A 1) = F_X10_ends_2 Z0.1 (N' + 4) (N' + 1) 510 (iz A) (iz j) (iz ((0 : Nat) : Int)) (stp (stp (stp m A 2) A 1) A 0) from m_ends2 (N' + 4) (N' + 1) A j 0 _ hA (by omega)]
  exact m_ends0 (N' + 4) N' A j _ hA hj
theorem gi_stp (m : DY) (A t x k : Nat) : gi (stp m A t) x k = if x = 531 ∧ k = A + 4 + (t + 1) then gi m 531 (A + 4 + t) else if x = 531 ∧ k = A + (t + 1) then gi m 531 (A + t) else gi m x k := by
  unfold stp
  rw [gi_si_if, gi_si_if]
theorem gi_fnl (m : DY) (A j x k : Nat) : gi (fnl m A j) x k = if x = 531 ∧ k = A + 18 then (if gi m 535 j = 1 then 0 else wtM (gi m 531 (A + 18))) else if x = 531 ∧ k = A + 4 then gi m 537 j else if x = 531 ∧ k = A then gi m 536 j else gi m x k := by
  unfold fnl
  rw [gi_si_if, gi_si_if, gi_si_if]
def frE (A : Nat) (m m' : DY) : Prop := (∀ x k : Nat, ¬ (x = 531 ∧ ((A ≤ k ∧ k < A + 8) ∨ k = A + 18)) → gi m' x k = gi m x k) ∧ ∀ x k : Nat, gl m' x k = gl m x k
theorem endd_fr (m : DY) (A j : Nat) : frE A m (endd m A j) := by
  refine ⟨fun x k h => ?_, fun x k => rfl⟩
  unfold endd
  rw [gi_fnl, if_neg (by omega), if_neg (by omega), if_neg (by omega), gi_stp, if_neg (by omega), if_neg (by omega), gi_stp, if_neg (by omega), if_neg (by omega), gi_stp, if_neg (by omega), if_neg (by omega)]
theorem endd_st (m : DY) (A j : Nat) : (gi (endd m A j) 531 A = gi m 536 j ∧ gi (endd m A j) 531 (A + 4) = gi m 537 j) ∧ (∀ t : Nat, t < 3 → gi (endd m A j) 531 (A + (t + 1)) = gi m 531 (A + t) ∧ gi (endd m A j) 531 (A + 4 + (t + 1)) = gi m 531 (A + 4 + t)) ∧ gi (endd m A j) 531 (A + 18) = if gi m 535 j = 1 then 0 else wtM (gi m 531 (A + 18)) := by
  have s : ∀ x k : Nat, ¬ (x = 531 ∧ A < k ∧ k < A + 8) → gi (stp (stp (stp m A 2) A 1) A 0) x k = gi m x k := fun x k h => by
    rw [gi_stp, if_neg (by omega), if_neg (by omega), gi_stp, if_neg (by omega), if_neg (by omega), gi_stp, if_neg (by omega), if_neg (by omega)]
  unfold endd
  refine ⟨⟨?_, ?_⟩, fun t ht => ⟨?_, ?_⟩, ?_⟩
  · rw [gi_fnl, if_neg (by omega), if_neg (by omega), if_pos ⟨rfl, rfl⟩, s 536 j (by omega)]
  · rw [gi_fnl, if_neg (by omega), if_pos ⟨rfl, rfl⟩, s 537 j (by omega)]
  · have : t = 0 ∨ t = 1 ∨ t = 2 := by omega
    rw [gi_fnl, if_neg (by omega), if_neg (by omega), if_neg (by omega)]
    rcases this with rfl | rfl | rfl
    · rw [gi_stp, if_neg (by omega), if_pos ⟨rfl, rfl⟩, gi_stp, if_neg (by omega), if_neg (by omega), gi_stp, if_neg (by omega), if_neg (by omega)]
    · rw [gi_stp, if_neg (by omega), if_neg (by omega), gi_stp, if_neg (by omega), if_pos ⟨rfl, rfl⟩, gi_stp, if_neg (by omega), if_neg (by omega)]
    · rw [gi_stp, if_neg (by omega), if_neg (by omega), gi_stp, if_neg (by omega), if_neg (by omega), gi_stp, if_neg (by omega), if_pos ⟨rfl, rfl⟩]
  · have : t = 0 ∨ t = 1 ∨ t = 2 := by omega
    rw [gi_fnl, if_neg (by omega), if_neg (by omega), if_neg (by omega)]
    rcases this with rfl | rfl | rfl
    · rw [gi_stp, if_pos ⟨rfl, rfl⟩, gi_stp, if_neg (by omega), if_neg (by omega), gi_stp, if_neg (by omega), if_neg (by omega)]
    · rw [gi_stp, if_neg (by omega), if_neg (by omega), gi_stp, if_pos ⟨rfl, rfl⟩, gi_stp, if_neg (by omega), if_neg (by omega)]
    · rw [gi_stp, if_neg (by omega), if_neg (by omega), gi_stp, if_neg (by omega), if_neg (by omega), gi_stp, if_pos ⟨rfl, rfl⟩]
  · rw [gi_fnl, if_pos ⟨rfl, rfl⟩, s 535 j (by omega), s 531 (A + 18) (by omega)]
/-- all have ended; m0: as it was before the first did -/
def ENDD (r k : Nat) (m0 m : DY) : Prop := (∀ x y : Nat, ¬ (x = 531 ∧ 720 * r + 16 ≤ y ∧ y < 720 * r + 16 + 20 * k ∧ ((y - (720 * r + 16)) % 20 < 8 ∨ (y - (720 * r + 16)) % 20 = 18)) → gi m x y = gi m0 x y) ∧ (∀ x y : Nat, gl m x y = gl m0 x y) ∧ ∀ j : Nat, j < k → (gi m 531 (720 * r + 16 + 20 * j) = gi m0 536 j ∧ gi m 531 (720 * r + 16 + 20 * j + 4) = gi m0 537 j) ∧ (∀ t : Nat, t < 3 → gi m 531 (720 * r + 16 + 20 * j + (t + 1)) = gi m0 531 (720 * r + 16 + 20 * j + t) ∧ gi m 531 (720 * r + 16 + 20 * j + 4 + (t + 1)) = gi m0 531 (720 * r + 16 + 20 * j + 4 + t)) ∧ gi m 531 (720 * r + 16 + 20 * j + 18) = if gi m0 535 j = 1 then 0 else wtM (gi m0 531 (720 * r + 16 + 20 * j + 18))
theorem ENDD_s (r k : Nat) (m0 m : DY) (h : ENDD r k m0 m) : ENDD r (k + 1) m0 (endd m (720 * r + 16 + 20 * k) k) := by
  obtain ⟨h1, h2, h3⟩ := h
  have f := endd_fr m (720 * r + 16 + 20 * k) k
  obtain ⟨⟨e1, e2⟩, e3, e4⟩ := endd_st m (720 * r + 16 + 20 * k) k
  refine ⟨fun x y q => ?_, fun x y => (f.2 x y).trans (h2 x y), fun j hj => ?_⟩
  · rw [f.1 x y (by omega)]
    exact h1 x y (by omega)
  · by_cases z : j = k
    · subst z
      refine ⟨⟨e1.trans (h1 536 j (by omega)), e2.trans (h1 537 j (by omega))⟩, fun t ht => ⟨(e3 t ht).1.trans (h1 531 _ (by omega)), (e3 t ht).2.trans (h1 531 _ (by omega))⟩, ?_⟩
      rw [e4, h1 535 j (by omega), h1 531 (720 * r + 16 + 20 * j + 18) (by omega)]
    · obtain ⟨⟨y1, y2⟩, y3, y4⟩ := h3 j (by omega)
      refine ⟨⟨(f.1 _ _ (by omega)).trans y1, (f.1 _ _ (by omega)).trans y2⟩, fun t ht => ⟨(f.1 _ _ (by omega)).trans (y3 t ht).1, (f.1 _ _ (by omega)).trans (y3 t ht).2⟩, (f.1 _ _ (by omega)).trans y4⟩
theorem m_239 (N : Nat) (r M : Nat) (m0 : DY) (x4 : Int32) (hN : 20 ≤ N) (r14 : r < 14) (hM : M ≤ 12) : ∀ (q mi k : Nat) (m : DY), mi + q = M → q < k → ENDD r mi m0 m → ∃ m' : DY, F_X10_step_239 Z0.1 N k 510 (iz r) (iz ((720 * r : Nat) : Int)) (iz M) x4 (iz mi) m = some (x4, si (si m' 531 (720 * r + 7) (if x4 ≤ 0 then gi m' 531 (720 * r + 7) + 1 else 0)) 531 (720 * r + 3) (gi m' 531 (720 * r + 3) + 1)) ∧ ENDD r M m0 m' := by
  intro q
  induction q with
  | zero =>
    intro mi k m hq hk hE
    obtain ⟨k, rfl⟩ : ∃ j, k = j + 1 := ⟨k - 1, by omega⟩
    obtain rfl : mi = M := by omega
    refine ⟨m, ?_, hE⟩
    have b7 : iz ((720 * r : Nat) : Int) + (7 : Int32) = iz ((720 * r + 7 : Nat) : Int) := iz_add _ 7
    have b3 : iz ((720 * r : Nat) : Int) + (3 : Int32) = iz ((720 * r + 3 : Nat) : Int) := iz_add _ 3
    have i7 := ibr (720 * r + 7) (by omega)
    have i3 := ibr (720 * r + 3) (by omega)
    have fin : ∀ v : Int32, F_X10_step_291 Z0.1 N 510 (iz ((720 * r : Nat) : Int)) x4 531 (iz ((720 * r + 7 : Nat) : Int)) v m = some (x4, si (si m 531 (720 * r + 7) v) 531 (720 * r + 3) (gi m 531 (720 * r + 3) + 1)) := fun v => by
      rw [F_X10_step_291_s, if_pos i7, bd_eq, b3, if_pos i3, if_pos i3, bd_eq, r_510_39, tnn _ (720 * r + 7) rfl (by omega), tnn _ (720 * r + 3) rfl (by omega), gi_si_if, if_neg (by omega)]
    have e : gi (si m 531 (720 * r + 7) (if x4 ≤ 0 then gi m 531 (720 * r + 7) + 1 else 0)) 531 (720 * r + 3) = gi m 531 (720 * r + 3) := by rw [gi_si_if, if_neg (by omega)]
    rw [F_X10_step_239_s, if_pos (Int32.le_refl _), b7, if_pos i7, r_510_39, tnn _ (720 * r + 7) rfl (by omega), fin, fin]
    by_cases z : x4 ≤ 0
    · rw [if_pos z, if_pos z]
    · rw [if_neg z, if_neg z]
  | succ q ih =>
    intro mi k m hq hk hE
    obtain ⟨k, rfl⟩ : ∃ j, k = j + 1 := ⟨k - 1, by omega⟩
    obtain ⟨m', u1, u2⟩ := ih (mi + 1) k (endd m (720 * r + 16 + 20 * mi) mi) (by omega) (by omega) (ENDD_s r mi m0 m hE)
    refine ⟨m', ?_, u2⟩
    rw [F_X10_step_239_s, if_neg (show ¬ iz (M : Int) ≤ iz (mi : Int) from iz_nle (by omega)), show iz (mi : Int) + (1 : Int32) = iz ((mi + 1 : Nat) : Int) from iz_add mi 1]
    refine bnd (m_at _ _ r mi m) ?_
    exact bnd (m_ends N (720 * r + 16 + 20 * mi) mi m hN (by omega) (by omega)) u1
