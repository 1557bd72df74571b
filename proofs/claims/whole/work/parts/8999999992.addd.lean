/-! two: a row of PARTS is added -/
def shT (T : Nat → Nat) (dn j : Nat) : Nat := if j = 0 then T 0 else if dn + 1 ≤ j then T (j - dn) else 0
theorem c_addD35 (N d dn tm : Nat) (hd : d < 8) (hdn : dn ≤ 1) (A T : Nat → Nat) : ∀ (q y k : Nat) (c : DY), y + q = 9 → q < k → (∀ j : Nat, y < j → j < 10 → gi c 126 (10 * d + j) = iz (A j : Nat)) → (∀ j : Nat, j < 10 → gi c 126 (10 * d + 10 + j) = iz (T j : Nat)) → ∃ c' : DY, F_X0_addDeeper_35 Z0.1 N k 124 (iz dn) (iz tm) (iz ((10 * d : Nat) : Int)) (iz ((10 * d + 10 : Nat) : Int)) (iz y) c = some c' ∧ (∀ j : Nat, y < j → j < 10 → gi c' 126 (10 * d + j) = iz ((A j + tm * shT T dn j : Nat) : Int)) ∧ (∀ x j : Nat, ¬ (x = 126 ∧ 10 * d + y < j ∧ j < 10 * d + 10) → gi c' x j = gi c x j) ∧ ∀ x j : Nat, gl c' x j = gl c x j := by
  intro q
  induction q with
  | zero =>
    intro y k c hq hk hA hT
    obtain ⟨k, rfl⟩ : ∃ i, k = i + 1 := ⟨k - 1, by omega⟩
    obtain rfl : y = 9 := by omega
    exact ⟨c, by rw [F_X0_addDeeper_35_s, if_pos (by decide)], fun j h1 h2 => by omega, fun _ _ _ => rfl, fun _ _ => rfl⟩
  | succ q ih =>
    intro y k c hq hk hA hT
    obtain ⟨k, rfl⟩ : ∃ i, k = i + 1 := ⟨k - 1, by omega⟩
    have a1 : iz (y : Int) + (1 : Int32) = iz ((y + 1 : Nat) : Int) := iz_add y 1
    have F := F_X0_addDeeper_35_s Z0.1 N k 124 (iz dn) (iz tm) (iz ((10 * d : Nat) : Int)) (iz ((10 * d + 10 : Nat) : Int)) (iz y) c
    rw [if_neg (show ¬ (9 : Int32) ≤ iz (y : Int) from iz_nle (a := 9) (by omega)), if_neg (show ¬ iz (dn : Int) < 0 from iz_nlt (b := 0) (by omega)), a1] at F
    by_cases z : y < dn
    · rw [if_pos (show iz (y : Int) < iz (dn : Int) from iz_lti (by omega))] at F
      obtain ⟨c', e1, e2, e3, e4⟩ := ih (y + 1) k c (by omega) (by omega) (fun j h1 h2 => hA j (by omega) h2) hT
      refine ⟨c', F.trans e1, fun j h1 h2 => ?_, fun x j h => e3 x j (by omega), e4⟩
      by_cases w : j = y + 1
      · rw [e3 126 _ (by omega), hA j h1 h2]
        have : shT T dn j = 0 := by
          unfold shT
          rw [if_neg (by omega), if_neg (by omega)]
        rw [this, Nat.mul_zero, Nat.add_zero]
      · exact e2 j (by omega) h2
    · rw [if_neg (show ¬ iz (y : Int) < iz (dn : Int) from iz_nlt (by omega))] at F
      have b1 : iz ((10 * d : Nat) : Int) + (1 : Int32) + iz (y : Int) = iz ((10 * d + (y + 1) : Nat) : Int) := by
        rw [show iz ((10 * d : Nat) : Int) + (1 : Int32) = iz ((10 * d + 1 : Nat) : Int) from iz_add _ 1, iz_add]
        exact congrArg iz (by omega)
      have b2 : iz ((10 * d + 10 : Nat) : Int) + (1 : Int32) + iz (y : Int) - iz (dn : Int) = iz ((10 * d + 10 + (y + 1 - dn) : Nat) : Int) := by
        rw [show iz ((10 * d + 10 : Nat) : Int) + (1 : Int32) = iz ((10 * d + 10 + 1 : Nat) : Int) from iz_add _ 1, iz_add, iz_sub]
        exact congrArg iz (by omega)
      rw [b1, b2, if_pos (show ib (iz ((10 * d + (y + 1) : Nat) : Int)) 90 from iz_ib (by omega)), if_pos (show ib (iz ((10 * d + 10 + (y + 1 - dn) : Nat) : Int)) 90 from iz_ib (by omega)), if_pos (show ib (iz ((10 * d + (y + 1) : Nat) : Int)) 90 from iz_ib (by omega)), bd_eq, r_124_3, tnn _ (10 * d + (y + 1)) rfl (by omega), tnn _ (10 * d + 10 + (y + 1 - dn)) rfl (by omega), hA (y + 1) (by omega) (by omega), hT (y + 1 - dn) (by omega)] at F
      have ev : iz (A (y + 1) : Nat) + iz (tm : Int) * iz (T (y + 1 - dn) : Nat) = iz ((A (y + 1) + tm * shT T dn (y + 1) : Nat) : Int) := by
        have : shT T dn (y + 1) = T (y + 1 - dn) := by
          unfold shT
          rw [if_neg (by omega), if_pos (by omega)]
        rw [this, iz_mul, iz_add]
        exact congrArg iz (by rw [Int.natCast_add, Int.natCast_mul])
      rw [ev] at F
      obtain ⟨c', e1, e2, e3, e4⟩ := ih (y + 1) k (si c 126 (10 * d + (y + 1)) (iz ((A (y + 1) + tm * shT T dn (y + 1) : Nat) : Int))) (by omega) (by omega) (fun j h1 h2 => by rw [gi_si_if, if_neg (by omega)]; exact hA j (by omega) h2) (fun j hj => by rw [gi_si_if, if_neg (by omega)]; exact hT j hj)
      refine ⟨c', F.trans e1, fun j h1 h2 => ?_, fun x j h => ?_, fun x j => e4 x j⟩
      · by_cases w : j = y + 1
        · rw [e3 126 _ (by omega), gi_si_if, if_pos ⟨rfl, by omega⟩, w]
        · exact e2 j (by omega) h2
      · rw [e3 x j (by omega), gi_si_if, if_neg (by omega)]
theorem c_addD (N d dn tm : Nat) (hN : 20 ≤ N) (c : DY) (hd : d < 8) (hdn : dn ≤ 1) (A T : Nat → Nat) (hA : ∀ j : Nat, j < 10 → gi c 126 (10 * d + j) = iz (A j : Nat)) (hT : ∀ j : Nat, j < 10 → gi c 126 (10 * d + 10 + j) = iz (T j : Nat)) : ∃ c' : DY, F_X0_addDeeper Z0.1 N 124 (iz d) (iz dn) (iz tm) c = some c' ∧ (∀ j : Nat, j < 10 → gi c' 126 (10 * d + j) = iz ((A j + tm * shT T dn j : Nat) : Int)) ∧ (∀ x j : Nat, ¬ (x = 126 ∧ 10 * d ≤ j ∧ j < 10 * d + 10) → gi c' x j = gi c x j) ∧ ∀ x j : Nat, gl c' x j = gl c x j := by
  have e10 : iz (d : Int) * (10 : Int32) = iz ((10 * d : Nat) : Int) := (iz_mul d 10).trans (congrArg iz (by omega))
  have e20 : iz ((10 * d : Nat) : Int) + (10 : Int32) = iz ((10 * d + 10 : Nat) : Int) := iz_add _ 10
  have hA0 := hA 0 (by omega)
  have hT0 := hT 0 (by omega)
  rw [Nat.add_zero] at hA0 hT0
  have ev : iz (A 0 : Nat) + iz (tm : Int) * iz (T 0 : Nat) = iz ((A 0 + tm * shT T dn 0 : Nat) : Int) := by
    have : shT T dn 0 = T 0 := if_pos rfl
    rw [this, iz_mul, iz_add]
    exact congrArg iz (by rw [Int.natCast_add, Int.natCast_mul])
  obtain ⟨c', e1, e2, e3, e4⟩ := c_addD35 N d dn tm hd hdn A T 9 0 N (si c 126 (10 * d) (iz ((A 0 + tm * shT T dn 0 : Nat) : Int))) (by omega) (by omega) (fun j h1 h2 => by rw [gi_si_if, if_neg (by omega)]; exact hA j h2) (fun j hj => by rw [gi_si_if, if_neg (by omega)]; exact hT j hj)
  refine ⟨c', ?_, fun j hj => ?_, fun x j h => ?_, fun x j => e4 x j⟩
  · rw [F_X0_addDeeper_s, e10, e20, if_pos (show ib (iz ((10 * d : Nat) : Int)) 90 from iz_ib (by omega)), if_pos (show ib (iz ((10 * d + 10 : Nat) : Int)) 90 from iz_ib (by omega)), if_pos (show ib (iz ((10 * d : Nat) : Int)) 90 from iz_ib (by omega)), bd_eq, r_124_3, tnn _ (10 * d) rfl (by omega), tnn _ (10 * d + 10) rfl (by omega), hA0, hT0, ev]
    exact e1
  · by_cases z : j = 0
    · rw [z, Nat.add_zero, e3 126 _ (by omega), gi_si_if, if_pos ⟨rfl, rfl⟩]
    · exact e2 j (by omega) hj
  · rw [e3 x j (by omega), gi_si_if, if_neg (by omega)]
/-- a copy of a walk is as good -/
theorem SR_copy {c e m : DY} {w w' r L W : Nat} (h : SR c m w r L W) (hG' : CVg 95 105 w') (hw' : 111 < w') (hb : blk wF wC w w' c e) (hg : ∀ x k : Nat, 95 ≤ x → x ≤ 111 → gi e x k = gi c x k) : SR e m w' r L W := by
  obtain ⟨hG, hw, r14, hR, h45, hA⟩ := h
  obtain ⟨_, _, _, _, d5⟩ := cv_dj hG
  obtain ⟨_, _, _, _, d5'⟩ := cv_dj hG'
  have f : ∀ x : Nat, x < 8 → 2 ≤ x → gi e w' x = gi c w x := fun x h1 h2 => hb.1 x (wF_in x h1 h2)
  have hp9 : ∀ p ∈ pC, p.1 ≤ 9 := by decide
  have hp6 : ∀ p ∈ lC, p.1 ≤ 6 := by decide
  have hwb : ∀ p ∈ wH, p.1 ≤ 11 := by decide
  refine ⟨hG', hw', r14, ?_, h45, ?_⟩
  · refine RRx_gen hR ⟨fun y hy => ?_, fun p hp k hk => ?_⟩ ⟨fun y hy => ?_, fun p hp k hk => ?_⟩ ⟨fun y hy => ?_, fun p hp k hk => ?_⟩ (fun i hi _ h5 => ?_) ?_ ?_
    · rw [mix_c _ _ _ _ (by omega), mix_c _ _ _ _ (by omega)]; exact hg 95 y (by omega) (by omega)
    · have := hp9 p hp
      rw [mix_c _ _ _ _ (by omega), mix_c _ _ _ _ (by omega)]; exact hg _ k (by omega) (by omega)
    · rw [mix_c _ _ _ _ (by omega), mix_c _ _ _ _ (by omega)]; exact hg 105 y (by omega) (by omega)
    · have := hp6 p hp
      rw [mix_c _ _ _ _ (by omega), mix_c _ _ _ _ (by omega)]; exact hg _ k (by omega) (by omega)
    · rw [mix_c _ _ _ _ (by omega), mix_c _ _ _ _ (by omega)]; exact hb.1 y (wG_sub y hy)
    · have := hwb p hp
      rw [mix_c _ _ _ _ (by omega), mix_c _ _ _ _ (by omega)]; exact hb.2 p (wH_sub p hp) k hk
    · rw [mix_m _ _ _ _ (by omega), mix_m _ _ _ _ (by omega), gi_si_if, if_neg (by omega), gi_si_if, if_neg (by omega)]
    · have := hR.2.2.2.2.2.2.1.2.1
      rw [mix_c _ _ _ _ (by omega), mix_m _ _ _ _ (by omega), gi_si_if, if_neg (by omega)] at this
      rw [mix_c _ _ _ _ (by omega), mix_m _ _ _ _ (by omega), gi_si_if, if_neg (by omega), f 3 (by omega) (by omega)]
      exact this
    · rw [mix_c _ _ _ _ (by omega), mix_m _ _ _ _ (by omega), gi_si_if, if_pos ⟨rfl, rfl⟩]
  · rw [f 5 (by omega) (by omega), hA]
    refine congrArg (fun z : Nat => iz (z : Int)) (AWn_two (fun i hi => ?_)).symm
    exact hb.2 (1, 48) (wC_48 1 (by omega) (by omega)) i (by omega)
theorem KQ_copy {c e : DY} {w w' : Nat} (hb : blk wF wC w w' c e) (hg : ∀ x k : Nat, 95 ≤ x → x ≤ 111 → gi e x k = gi c x k) : KQ 4 c e w w' := by
  refine ⟨hg, hb.1 2 (wF_in 2 (by omega) (by omega)), fun t i ht hi => ⟨hb.2 (1, 48) (wC_48 1 (by omega) (by omega)) _ (by omega), hb.2 (2, 48) (wC_48 2 (by omega) (by omega)) _ (by omega)⟩, fun p hp => hb.2 (9, 12) (wC_12 9 (by omega) (by omega)) p (by omega), Or.inl (fun i hi => hb.2 (7, 12) (wC_12 7 (by omega) (by omega)) i (by omega))⟩
